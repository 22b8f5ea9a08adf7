def Q_after (m : mR) (c : Nat → Option am_C) (N : Nat) (B : Int) : ag_Re af_T → Prop := fun R => ∃ (y7 : Int) (y8 : Int) (y9 : Int) (y10 : Int) (y11 : Int) (y12 : Int) (y28 : Int) (y69 : Int) (y70 : Int) (y71 : Int) (y72 : Int) (y75 : Int) (F65 : Int → Int) (F66 : Int → Int) (F67 : Int → Int) (F68 : Int → Int), (0 ≤ y7 ∧ y7 ≤ 330) ∧ (0 ≤ y8 ∧ y8 ≤ 4000) ∧ (0 ≤ y9 ∧ y9 ≤ 4000) ∧ (0 ≤ y10 ∧ y10 ≤ 8) ∧ ((-1) ≤ y11 ∧ y11 ≤ 4000) ∧ ((-9223372036854775808) ≤ y12 ∧ y12 ≤ 9223372036854775807) ∧ (0 ≤ y28 ∧ y28 ≤ 800) ∧ (0 ≤ y69 ∧ y69 ≤ 1024) ∧ (0 ≤ y70 ∧ y70 ≤ 4000) ∧ (0 ≤ y71 ∧ y71 ≤ 1) ∧ ((-9223372036854775808) ≤ y72 ∧ y72 ≤ 9223372036854775807) ∧ (0 ≤ y75 ∧ y75 ≤ 3) ∧ (∀ j, 0 ≤ F65 j ∧ F65 j ≤ 408) ∧ (∀ j, 0 ≤ F66 j ∧ F66 j ≤ 64) ∧ (∀ j, 0 ≤ F67 j ∧ F67 j ≤ 191) ∧ (∀ j, (-9223372036854775808) ≤ F68 j ∧ F68 j ≤ 9223372036854775807) ∧ (y10 = 0 → (m.1 10) = 0) ∧ (LxP y7 y8 y9 (m.1 6) y10) ∧ (y10 = 0 → ((y75 = 1 ∧ (m.1 8) + 1 ≤ y8) ∨ (y75 = 2 ∧ y8 = (m.1 8))) ∧ (y69 ≤ 64) ∧ ((m.1 28) ≤ y28) ∧ (XS F65 F67 (m.2 76) (m.2 78) (m.2 79) (m.2 80) B y28 (m.1 73) (m.1 74) 1) ∧ (agr (m.2 65) F65 (m.1 28))) ∧ R = (.inl (none), (mhp (mO m [(7, y7), (8, y8), (9, y9), (10, y10), (11, y11), (12, y12), (28, y28), (69, y69), (70, y70), (71, y71), (72, y72), (75, y75)] [(65, F65), (66, F66), (67, F67), (68, F68)]) c, N), 0, 0)
set_option maxHeartbeats 8000000 in
theorem c_after (w : wX) (m : mR) (c : Nat → Option am_C) (N D : Nat) (hD : 7 ≤ D) (hT : Ty m) (B : Int) (hLx0 : LxP (m.1 7) (m.1 8) (m.1 9) (m.1 6) (m.1 10)) (hf0 : m.1 10 = 0) (hC : (XS (m.2 65) (m.2 67) (m.2 76) (m.2 78) (m.2 79) (m.2 80) B (m.1 28) (m.1 73) (m.1 74) 1) ∧ ((m.1 75) = 1) ∧ ((m.1 69) ≤ 64)) : TC w D 255 [.ref 189] (mhp m c, N) (Q_after m c N B) := by
  obtain ⟨D, rfl⟩ : ∃ k, D = k + 1 := ⟨D - 1, by omega⟩
  have hLx := hLx0
  have f7 : 0 ≤ m.1 7 ∧ m.1 7 ≤ 330 := hT.1 7
  have f8 : 0 ≤ m.1 8 ∧ m.1 8 ≤ 4000 := hT.1 8
  have f9 : 0 ≤ m.1 9 ∧ m.1 9 ≤ 4000 := hT.1 9
  have f10 : 0 ≤ m.1 10 ∧ m.1 10 ≤ 8 := hT.1 10
  have f11 : (-1) ≤ m.1 11 ∧ m.1 11 ≤ 4000 := hT.1 11
  have f12 : (-9223372036854775808) ≤ m.1 12 ∧ m.1 12 ≤ 9223372036854775807 := hT.1 12
  have f28 : 0 ≤ m.1 28 ∧ m.1 28 ≤ 800 := hT.1 28
  have f69 : 0 ≤ m.1 69 ∧ m.1 69 ≤ 1024 := hT.1 69
  have f70 : 0 ≤ m.1 70 ∧ m.1 70 ≤ 4000 := hT.1 70
  have f71 : 0 ≤ m.1 71 ∧ m.1 71 ≤ 1 := hT.1 71
  have f72 : (-9223372036854775808) ≤ m.1 72 ∧ m.1 72 ≤ 9223372036854775807 := hT.1 72
  have f75 : 0 ≤ m.1 75 ∧ m.1 75 ≤ 3 := hT.1 75
  have f74 : 0 ≤ m.1 74 ∧ m.1 74 ≤ 24 := hT.1 74
  have f73 : 0 ≤ m.1 73 ∧ m.1 73 ≤ 60 := hT.1 73
  have f6 : 0 ≤ m.1 6 ∧ m.1 6 ≤ 4000 := hT.1 6
  refine Tc_of rfl ?_
  show TT w D pm_255 (0, [(0, .ref 189)], [], (mhp m c, N), 0, 0) (Q_after m c N B)
  rw [show (mhp m c, N) = (mhp (mO m [(7, (m.1 7)), (8, (m.1 8)), (9, (m.1 9)), (10, (m.1 10)), (11, (m.1 11)), (12, (m.1 12)), (28, (m.1 28)), (69, (m.1 69)), (70, (m.1 70)), (71, (m.1 71)), (72, (m.1 72)), (75, (m.1 75))] [(65, (m.2 65)), (66, (m.2 66)), (67, (m.2 67)), (68, (m.2 68))]) c, N) from congrArg (fun M => (mhp M c, N)) (mO_pad m [7, 8, 9, 10, 11, 12, 28, 69, 70, 71, 72, 75] [65, 66, 67, 68])]
  obtain ⟨hXS, c1, c2⟩ := hC
  have hEX := hXS.1.1
  have hl0 : 0 ≤ lh (m.2 79) (m.2 80) (m.1 73) := lh_0 (hT.2.1 79) _ _
  have hXE := hXS
  have hAgC := agr_r (m.2 65) (m.1 28)
  have J207_118 : ∀ (v106 : Int) (y107 : Int) (y108 : Int) (y109 : Int) (y110 : Int) (y111 : Int) (y112 : Int) (y113 : Int) (F114 : Int → Int) (F115 : Int → Int) (F116 : Int → Int) (F117 : Int → Int), (R32 v106) → (0 ≤ y107 ∧ y107 ≤ 330) → (0 ≤ y108 ∧ y108 ≤ 4000) → (0 ≤ y109 ∧ y109 ≤ 4000) → (0 ≤ y110 ∧ y110 ≤ 8) → ((-1) ≤ y111 ∧ y111 ≤ 4000) → ((-9223372036854775808) ≤ y112 ∧ y112 ≤ 9223372036854775807) → (0 ≤ y113 ∧ y113 ≤ 800) → (∀ j, 0 ≤ F114 j ∧ F114 j ≤ 408) → (∀ j, 0 ≤ F115 j ∧ F115 j ≤ 64) → (∀ j, 0 ≤ F116 j ∧ F116 j ≤ 191) → (∀ j, (-9223372036854775808) ≤ F117 j ∧ F117 j ≤ 9223372036854775807) → (1 ≤ y110) → (y110 ≤ 8) → TT w D pm_255 (207, [(0, .ref 189), (1, .int (i32 v106))], [], (mhp (mO m [(7, y107), (8, y108), (9, y109), (10, y110), (11, y111), (12, y112), (28, y113), (69, (m.1 69)), (70, (m.1 70)), (71, (m.1 71)), (72, (m.1 72)), (75, (m.1 75))] [(65, F114), (66, F115), (67, F116), (68, F117)]) c, N), 0, 0) (Q_after m c N B) := by
    intro v106 y107 y108 y109 y110 y111 y112 y113 F114 F115 F116 F117 q119 q120 q121 q122 q123 q124 q125 q126 q127 q128 q129 q130 i131 i132
    obtain ⟨q119a, q119b⟩ := id q119
    refine T_ld 208 (.ref 189) rfl (fun _ => rfl) ?_
    refine T_ld 209 (.int (i32 v106)) rfl (fun _ => rfl) ?_
    refine T_gf 213 (.int (i32 (m.1 70))) rfl rfl rfl rfl rfl rfl ?_
    refine T_call 216 250 [.ref 189, .int (i32 v106), .int (i32 (m.1 70))] [] rfl (fun _ => rfl) rfl (c_unit w (mO m [(7, y107), (8, y108), (9, y109), (10, y110), (11, y111), (12, y112), (28, y113), (69, (m.1 69)), (70, (m.1 70)), (71, (m.1 71)), (72, (m.1 72)), (75, (m.1 75))] [(65, F114), (66, F115), (67, F116), (68, F117)]) c N D (by omega) (Ty_mO hT rfl rfl ⟨q120, q121, q122, q123, q124, q125, q126, f69, f70, f71, f72, f75, trivial⟩ ⟨q127, q128, q129, q130, trivial⟩) v106 (m.1 70) (r32 (by omega) (by omega)) (r32 (by omega) (by omega)) (show 0 ≤ v106 ∧ v106 ≤ 1024 by omega) (show 0 ≤ (m.1 70) ∧ (m.1 70) ≤ 4000 by omega)) (fun r134 k135 => ?_)
    obtain ⟨y136, y138, y140, y142, g137, g139, g141, g143, h144, rfl⟩ := k135
    refine ⟨_, _, rfl, ?_⟩
    refine T_nf (st' := []) (l' := [(7, y107), (8, y108), (9, y109), (10, y110), (11, y111), (12, y112), (28, y113), (69, y136), (70, y138), (71, y140), (72, y142), (75, (m.1 75))]) (a' := [(65, F114), (66, F115), (67, F116), (68, F117)]) rfl rfl rfl rfl rfl ?_
    replace h144 : y136 = v106 := h144
    refine T_goto 224 rfl (fun _ => rfl) ?_
    refine T_ret rfl (fun _ => rfl) ?_
    exact ⟨y107, y108, y109, y110, y111, y112, y113, y136, y138, y140, y142, (m.1 75), F114, F115, F116, F117, q120, q121, q122, q123, q124, q125, q126, g137, g139, g141, g143, f75, q127, q128, q129, q130, (by omega), (by first | (first | exact hLx | (intro h9; exfalso; omega)) | (exfalso; omega)), (fun h => absurd h (by omega)), rfl⟩
  have J196_152 : ∀ (s145 : Int) (y146 : Int) (y147 : Int) (y148 : Int) (y149 : Int) (y150 : Int) (y151 : Int), (R32 s145) → (0 ≤ y146 ∧ y146 ≤ 330) → (0 ≤ y147 ∧ y147 ≤ 4000) → (0 ≤ y148 ∧ y148 ≤ 4000) → (0 ≤ y149 ∧ y149 ≤ 8) → ((-1) ≤ y150 ∧ y150 ≤ 4000) → ((-9223372036854775808) ≤ y151 ∧ y151 ≤ 9223372036854775807) → (1 ≤ y149) → (y149 ≤ 8) → TT w D pm_255 (196, [(0, .ref 189)], [.int (i32 s145)], (mhp (mO m [(7, y146), (8, y147), (9, y148), (10, y149), (11, y150), (12, y151), (28, (m.1 28)), (69, (m.1 69)), (70, (m.1 70)), (71, (m.1 71)), (72, (m.1 72)), (75, (m.1 75))] [(65, (m.2 65)), (66, (m.2 66)), (67, (m.2 67)), (68, (m.2 68))]) c, N), 0, 0) (Q_after m c N B) := by
    intro s145 y146 y147 y148 y149 y150 y151 q153 q154 q155 q156 q157 q158 q159 i160 i161
    obtain ⟨q153a, q153b⟩ := id q153
    refine T_sto 197 [(1, .int (i32 s145)), (0, .ref 189)] rfl (fun _ => rfl) ?_
    refine T_ld 198 (.ref 189) rfl (fun _ => rfl) ?_
    refine T_ld 201 (.int (i32 406)) rfl (fun _ => rfl) ?_
    refine T_ld 202 (.int (i32 s145)) rfl (fun _ => rfl) ?_
    refine T_ld 203 (.int (i32 0)) rfl (fun _ => rfl) ?_
    refine T_ld 204 (.long (i64 0)) rfl (fun _ => rfl) ?_
    refine T_call 207 248 [.ref 189, .int (i32 406), .int (i32 s145), .int (i32 0), .long (i64 0)] [] rfl (fun _ => rfl) rfl (c_node w (mO m [(7, y146), (8, y147), (9, y148), (10, y149), (11, y150), (12, y151), (28, (m.1 28)), (69, (m.1 69)), (70, (m.1 70)), (71, (m.1 71)), (72, (m.1 72)), (75, (m.1 75))] [(65, (m.2 65)), (66, (m.2 66)), (67, (m.2 67)), (68, (m.2 68))]) c N D (by omega) (Ty_mO hT rfl rfl ⟨q154, q155, q156, q157, q158, q159, f28, f69, f70, f71, f72, f75, trivial⟩ ⟨(hT.2.1 65), (hT.2.1 66), (hT.2.1 67), (hT.2.1 68), trivial⟩) 406 s145 0 0 ($B) (1 + lh (m.2 79) (m.2 80) (m.1 73)) ⟨by decide, by decide⟩ (r32 (by omega) (by omega)) ⟨by decide, by decide⟩ ⟨by decide, by decide⟩ (fun h => absurd h (by omega))) (fun r163 k164 => ?_)
    obtain ⟨y165, y167, y169, F171, F173, F175, F177, g166, g168, g170, G172, G174, G176, G178, h179, c180, rfl⟩ := k164
    refine ⟨_, _, rfl, ?_⟩
    refine T_nf (st' := []) (l' := [(7, y146), (8, y147), (9, y148), (10, y165), (11, y167), (12, y151), (28, y169), (69, (m.1 69)), (70, (m.1 70)), (71, (m.1 71)), (72, (m.1 72)), (75, (m.1 75))]) (a' := [(65, F171), (66, F173), (67, F175), (68, F177)]) rfl rfl rfl rfl rfl ?_
    replace h179 : y165 = 0 → y149 = 0 := h179
    have hf181 : 1 ≤ y165 := by omega
    clear c180
    clear h179
    clear q157 q158 i160 i161
    refine Tm_lv (a := [(0, .ref 189), (1, .int (i32 s145))]) rfl rfl ⟨rfl, rfl, trivial⟩ ?_
    exact J207_118 s145 y146 y147 y148 y165 y167 y151 y169 F171 F173 F175 F177 (r32 (by omega) (by omega)) q154 q155 q156 g166 g168 q159 g170 G172 G174 G176 G178 (by omega) (by omega)
  have J159_196 : ∀ (v182 : Int) (v183 : Int) (v184 : Int) (y185 : Int) (y186 : Int) (y187 : Int) (y188 : Int) (y189 : Int) (y190 : Int) (y191 : Int) (F192 : Int → Int) (F193 : Int → Int) (F194 : Int → Int) (F195 : Int → Int), (R32 v182) → (R64 v183) → (R64 v184) → (0 ≤ y185 ∧ y185 ≤ 330) → (0 ≤ y186 ∧ y186 ≤ 4000) → (0 ≤ y187 ∧ y187 ≤ 4000) → (0 ≤ y188 ∧ y188 ≤ 8) → ((-1) ≤ y189 ∧ y189 ≤ 4000) → ((-9223372036854775808) ≤ y190 ∧ y190 ≤ 9223372036854775807) → (0 ≤ y191 ∧ y191 ≤ 800) → (∀ j, 0 ≤ F192 j ∧ F192 j ≤ 408) → (∀ j, 0 ≤ F193 j ∧ F193 j ≤ 64) → (∀ j, 0 ≤ F194 j ∧ F194 j ≤ 191) → (∀ j, (-9223372036854775808) ≤ F195 j ∧ F195 j ≤ 9223372036854775807) → (0 ≤ v182) → (v182 ≤ 4000) → (1 ≤ y188) → (y188 ≤ 8) → TT w D pm_255 (159, [(0, .ref 189), (1, .int (i32 v182)), (2, .long (i64 v183)), (4, .long (i64 v184)), (6, .int (i32 (m.1 70)))], [], (mhp (mO m [(7, y185), (8, y186), (9, y187), (10, y188), (11, y189), (12, y190), (28, y191), (69, (m.1 69)), (70, (m.1 70)), (71, (m.1 71)), (72, (m.1 72)), (75, (m.1 75))] [(65, F192), (66, F193), (67, F194), (68, F195)]) c, N), 0, 0) (Q_after m c N B) := by
    intro v182 v183 v184 y185 y186 y187 y188 y189 y190 y191 F192 F193 F194 F195 q197 q198 q199 q200 q201 q202 q203 q204 q205 q206 q207 q208 q209 q210 i211 i212 i213 i214
    obtain ⟨q197a, q197b⟩ := id q197
    obtain ⟨q198a, q198b⟩ := id q198
    obtain ⟨q199a, q199b⟩ := id q199
    refine T_ld 160 (.ref 189) rfl (fun _ => rfl) ?_
    refine T_ld 161 (.long (i64 v183)) rfl (fun _ => rfl) ?_
    refine T_ld 163 (.long (i64 v184)) rfl (fun _ => rfl) ?_
    refine T_lsub 164 rfl rfl ?_
    refine T_l2i 165 rfl rfl ?_
    refine T_ld 166 (.int (i32 1)) rfl (fun _ => rfl) ?_
    refine T_iadd 167 rfl rfl ?_
    refine T_ld 169 (.int (i32 (m.1 70))) rfl (fun _ => rfl) ?_
    refine T_call 172 250 [.ref 189, .int (i32 ((v183 - v184) + 1)), .int (i32 (m.1 70))] [] rfl (fun _ => rfl) rfl (c_unit w (mO m [(7, y185), (8, y186), (9, y187), (10, y188), (11, y189), (12, y190), (28, y191), (69, (m.1 69)), (70, (m.1 70)), (71, (m.1 71)), (72, (m.1 72)), (75, (m.1 75))] [(65, F192), (66, F193), (67, F194), (68, F195)]) c N D (by omega) (Ty_mO hT rfl rfl ⟨q200, q201, q202, q203, q204, q205, q206, f69, f70, f71, f72, f75, trivial⟩ ⟨q207, q208, q209, q210, trivial⟩) ((v183 - v184) + 1) (m.1 70) (r32 (by omega) (by omega)) (r32 (by omega) (by omega)) (show 0 ≤ ((v183 - v184) + 1) ∧ ((v183 - v184) + 1) ≤ 1024 by omega) (show 0 ≤ (m.1 70) ∧ (m.1 70) ≤ 4000 by omega)) (fun r216 k217 => ?_)
    obtain ⟨y218, y220, y222, y224, g219, g221, g223, g225, h226, rfl⟩ := k217
    refine ⟨_, _, rfl, ?_⟩
    refine T_nf (st' := []) (l' := [(7, y185), (8, y186), (9, y187), (10, y188), (11, y189), (12, y190), (28, y191), (69, y218), (70, y220), (71, y222), (72, y224), (75, (m.1 75))]) (a' := [(65, F192), (66, F193), (67, F194), (68, F195)]) rfl rfl rfl rfl rfl ?_
    replace h226 : y218 = ((v183 - v184) + 1) := h226
    refine T_goto 224 rfl (fun _ => rfl) ?_
    refine T_ret rfl (fun _ => rfl) ?_
    exact ⟨y185, y186, y187, y188, y189, y190, y191, y218, y220, y222, y224, (m.1 75), F192, F193, F194, F195, q200, q201, q202, q203, q204, q205, q206, g219, g221, g223, g225, f75, q207, q208, q209, q210, (by omega), (by first | (first | exact hLx | (intro h9; exfalso; omega)) | (exfalso; omega)), (fun h => absurd h (by omega)), rfl⟩
  have J127_236 : ∀ (v227 : Int) (v228 : Int) (v229 : Int) (y230 : Int) (y231 : Int) (y232 : Int) (y233 : Int) (y234 : Int) (y235 : Int), (R32 v227) → (R64 v228) → (R64 v229) → (0 ≤ y230 ∧ y230 ≤ 330) → (0 ≤ y231 ∧ y231 ≤ 4000) → (0 ≤ y232 ∧ y232 ≤ 4000) → (0 ≤ y233 ∧ y233 ≤ 8) → ((-1) ≤ y234 ∧ y234 ≤ 4000) → ((-9223372036854775808) ≤ y235 ∧ y235 ≤ 9223372036854775807) → (0 ≤ v227) → (v227 ≤ 4000) → (1 ≤ y233) → (y233 ≤ 8) → TT w D pm_255 (127, [(0, .ref 189), (1, .int (i32 v227)), (2, .long (i64 v228)), (4, .long (i64 v229))], [], (mhp (mO m [(7, y230), (8, y231), (9, y232), (10, y233), (11, y234), (12, y235), (28, (m.1 28)), (69, (m.1 69)), (70, (m.1 70)), (71, (m.1 71)), (72, (m.1 72)), (75, (m.1 75))] [(65, (m.2 65)), (66, (m.2 66)), (67, (m.2 67)), (68, (m.2 68))]) c, N), 0, 0) (Q_after m c N B) := by
    intro v227 v228 v229 y230 y231 y232 y233 y234 y235 q237 q238 q239 q240 q241 q242 q243 q244 q245 i246 i247 i248 i249
    obtain ⟨q237a, q237b⟩ := id q237
    obtain ⟨q238a, q238b⟩ := id q238
    obtain ⟨q239a, q239b⟩ := id q239
    refine T_gf 131 (.int (i32 y233)) rfl rfl rfl rfl rfl rfl ?_
    refine T_if 135 134 rfl rfl rfl (r32 (by omega) (by omega)) (fun (h251 : y233 ≤ 0) => by exfalso; omega) (fun (h251 : ¬ (y233 ≤ 0)) => ?_)
    refine T_ret rfl (fun _ => rfl) ?_
    exact ⟨y230, y231, y232, y233, y234, y235, (m.1 28), (m.1 69), (m.1 70), (m.1 71), (m.1 72), (m.1 75), (m.2 65), (m.2 66), (m.2 67), (m.2 68), q240, q241, q242, q243, q244, q245, f28, f69, f70, f71, f72, f75, (hT.2.1 65), (hT.2.1 66), (hT.2.1 67), (hT.2.1 68), (by omega), (by first | (first | exact hLx | (intro h9; exfalso; omega)) | (exfalso; omega)), (fun h => absurd h (by omega)), rfl⟩
  have J121_261 : ∀ (v252 : Int) (v253 : Int) (v254 : Int) (y255 : Int) (y256 : Int) (y257 : Int) (y258 : Int) (y259 : Int) (y260 : Int), (R32 v252) → (R64 v253) → (R64 v254) → (0 ≤ y255 ∧ y255 ≤ 330) → (0 ≤ y256 ∧ y256 ≤ 4000) → (0 ≤ y257 ∧ y257 ≤ 4000) → (0 ≤ y258 ∧ y258 ≤ 8) → ((-1) ≤ y259 ∧ y259 ≤ 4000) → ((-9223372036854775808) ≤ y260 ∧ y260 ≤ 9223372036854775807) → (0 ≤ v252) → (v252 ≤ 4000) → (1 ≤ y258) → (y258 ≤ 8) → TT w D pm_255 (121, [(0, .ref 189), (1, .int (i32 v252)), (2, .long (i64 v253)), (4, .long (i64 v254))], [], (mhp (mO m [(7, y255), (8, y256), (9, y257), (10, y258), (11, y259), (12, y260), (28, (m.1 28)), (69, (m.1 69)), (70, (m.1 70)), (71, (m.1 71)), (72, (m.1 72)), (75, (m.1 75))] [(65, (m.2 65)), (66, (m.2 66)), (67, (m.2 67)), (68, (m.2 68))]) c, N), 0, 0) (Q_after m c N B) := by
    intro v252 v253 v254 y255 y256 y257 y258 y259 y260 q262 q263 q264 q265 q266 q267 q268 q269 q270 i271 i272 i273 i274
    obtain ⟨q262a, q262b⟩ := id q262
    obtain ⟨q263a, q263b⟩ := id q263
    obtain ⟨q264a, q264b⟩ := id q264
    refine T_ld 122 (.ref 189) rfl (fun _ => rfl) ?_
    refine T_ld 124 (.int (i32 93)) rfl (fun _ => rfl) ?_
    refine T_call 127 232 [.ref 189, .int (i32 93)] [] rfl (fun _ => rfl) rfl (c_need w (mO m [(7, y255), (8, y256), (9, y257), (10, y258), (11, y259), (12, y260), (28, (m.1 28)), (69, (m.1 69)), (70, (m.1 70)), (71, (m.1 71)), (72, (m.1 72)), (75, (m.1 75))] [(65, (m.2 65)), (66, (m.2 66)), (67, (m.2 67)), (68, (m.2 68))]) c N D (by omega) (Ty_mO hT rfl rfl ⟨q265, q266, q267, q268, q269, q270, f28, f69, f70, f71, f72, f75, trivial⟩ ⟨(hT.2.1 65), (hT.2.1 66), (hT.2.1 67), (hT.2.1 68), trivial⟩) 93 ⟨by decide, by decide⟩ (show 1 ≤ 93 by omega) (show LxP y255 y256 y257 (m.1 6) y258 by first | exact hLx | (intro h9; exfalso; omega) | (intro h9; have h8 := hLx (by omega); omega))) (fun r276 k277 => ?_)
    obtain ⟨y278, y280, y282, y284, y286, y288, g279, g281, g283, g285, g287, g289, h290, h291, h292, h293, rfl⟩ := k277
    refine ⟨_, _, rfl, ?_⟩
    refine T_nf (st' := []) (l' := [(7, y278), (8, y280), (9, y282), (10, y284), (11, y286), (12, y288), (28, (m.1 28)), (69, (m.1 69)), (70, (m.1 70)), (71, (m.1 71)), (72, (m.1 72)), (75, (m.1 75))]) (a' := [(65, (m.2 65)), (66, (m.2 66)), (67, (m.2 67)), (68, (m.2 68))]) rfl rfl rfl rfl rfl ?_
    replace h290 : LxP y278 y280 y282 (m.1 6) y284 := h290
    replace h291 : y284 = 0 → y258 = 0 ∧ y255 = 93 := h291
    replace h292 : y256 ≤ y280 := h292
    replace h293 : y284 = 0 → y256 + y257 ≤ y280 := h293
    have hf294 : 1 ≤ y284 := by omega
    clear h291
    clear h293
    have hLx := h290
    clear q265 q266 q267 q268 q269 q270 i273 i274 h292
    exact J127_236 v252 v253 v254 y278 y280 y282 y284 y286 y288 (r32 (by omega) (by omega)) (r64 (by omega) (by omega)) (r64 (by omega) (by omega)) g279 g281 g283 g285 g287 g289 (by omega) (by omega) (by omega) (by omega)
  have J74_304 : ∀ (v295 : Int) (v296 : Int) (v297 : Int) (y298 : Int) (y299 : Int) (y300 : Int) (y301 : Int) (y302 : Int) (y303 : Int), (R32 v295) → (R64 v296) → (R64 v297) → (0 ≤ y298 ∧ y298 ≤ 330) → (0 ≤ y299 ∧ y299 ≤ 4000) → (0 ≤ y300 ∧ y300 ≤ 4000) → (0 ≤ y301 ∧ y301 ≤ 8) → ((-1) ≤ y302 ∧ y302 ≤ 4000) → ((-9223372036854775808) ≤ y303 ∧ y303 ≤ 9223372036854775807) → (0 ≤ v295) → (v295 ≤ 4000) → (1 ≤ y301) → (y301 ≤ 8) → TT w D pm_255 (74, [(0, .ref 189), (1, .int (i32 v295)), (2, .long (i64 v296)), (4, .long (i64 v297))], [], (mhp (mO m [(7, y298), (8, y299), (9, y300), (10, y301), (11, y302), (12, y303), (28, (m.1 28)), (69, (m.1 69)), (70, (m.1 70)), (71, (m.1 71)), (72, (m.1 72)), (75, (m.1 75))] [(65, (m.2 65)), (66, (m.2 66)), (67, (m.2 67)), (68, (m.2 68))]) c, N), 0, 0) (Q_after m c N B) := by
    intro v295 v296 v297 y298 y299 y300 y301 y302 y303 q305 q306 q307 q308 q309 q310 q311 q312 q313 i314 i315 i316 i317
    obtain ⟨q305a, q305b⟩ := id q305
    obtain ⟨q306a, q306b⟩ := id q306
    obtain ⟨q307a, q307b⟩ := id q307
    refine T_gf 78 (.int (i32 y301)) rfl rfl rfl rfl rfl rfl ?_
    refine T_if 121 81 rfl rfl rfl (r32 (by omega) (by omega)) (fun (h319 : y301 ≠ 0) => ?_) (fun (h319 : ¬ (y301 ≠ 0)) => by exfalso; omega)
    refine T_ld 122 (.ref 189) rfl (fun _ => rfl) ?_
    refine T_ld 124 (.int (i32 93)) rfl (fun _ => rfl) ?_
    refine T_call 127 232 [.ref 189, .int (i32 93)] [] rfl (fun _ => rfl) rfl (c_need w (mO m [(7, y298), (8, y299), (9, y300), (10, y301), (11, y302), (12, y303), (28, (m.1 28)), (69, (m.1 69)), (70, (m.1 70)), (71, (m.1 71)), (72, (m.1 72)), (75, (m.1 75))] [(65, (m.2 65)), (66, (m.2 66)), (67, (m.2 67)), (68, (m.2 68))]) c N D (by omega) (Ty_mO hT rfl rfl ⟨q308, q309, q310, q311, q312, q313, f28, f69, f70, f71, f72, f75, trivial⟩ ⟨(hT.2.1 65), (hT.2.1 66), (hT.2.1 67), (hT.2.1 68), trivial⟩) 93 ⟨by decide, by decide⟩ (show 1 ≤ 93 by omega) (show LxP y298 y299 y300 (m.1 6) y301 by first | exact hLx | (intro h9; exfalso; omega) | (intro h9; have h8 := hLx (by omega); omega))) (fun r320 k321 => ?_)
    obtain ⟨y322, y324, y326, y328, y330, y332, g323, g325, g327, g329, g331, g333, h334, h335, h336, h337, rfl⟩ := k321
    refine ⟨_, _, rfl, ?_⟩
    refine T_nf (st' := []) (l' := [(7, y322), (8, y324), (9, y326), (10, y328), (11, y330), (12, y332), (28, (m.1 28)), (69, (m.1 69)), (70, (m.1 70)), (71, (m.1 71)), (72, (m.1 72)), (75, (m.1 75))]) (a' := [(65, (m.2 65)), (66, (m.2 66)), (67, (m.2 67)), (68, (m.2 68))]) rfl rfl rfl rfl rfl ?_
    replace h334 : LxP y322 y324 y326 (m.1 6) y328 := h334
    replace h335 : y328 = 0 → y301 = 0 ∧ y298 = 93 := h335
    replace h336 : y299 ≤ y324 := h336
    replace h337 : y328 = 0 → y299 + y300 ≤ y324 := h337
    have hf338 : 1 ≤ y328 := by omega
    clear h335
    clear h337
    have hLx := h334
    clear q308 q309 q310 q311 q312 q313 i316 i317 h319 h336
    exact J127_236 v295 v296 v297 y322 y324 y326 y328 y330 y332 (r32 (by omega) (by omega)) (r64 (by omega) (by omega)) (r64 (by omega) (by omega)) g323 g325 g327 g329 g331 g333 (by omega) (by omega) (by omega) (by omega)
  have J45_347 : ∀ (v339 : Int) (v340 : Int) (y341 : Int) (y342 : Int) (y343 : Int) (y344 : Int) (y345 : Int) (y346 : Int), (R32 v339) → (R64 v340) → (0 ≤ y341 ∧ y341 ≤ 330) → (0 ≤ y342 ∧ y342 ≤ 4000) → (0 ≤ y343 ∧ y343 ≤ 4000) → (0 ≤ y344 ∧ y344 ≤ 8) → ((-1) ≤ y345 ∧ y345 ≤ 4000) → ((-9223372036854775808) ≤ y346 ∧ y346 ≤ 9223372036854775807) → (0 ≤ v339) → (v339 ≤ 4000) → (1 ≤ y344) → (y344 ≤ 8) → TT w D pm_255 (45, [(0, .ref 189), (1, .int (i32 v339)), (2, .long (i64 v340))], [], (mhp (mO m [(7, y341), (8, y342), (9, y343), (10, y344), (11, y345), (12, y346), (28, (m.1 28)), (69, (m.1 69)), (70, (m.1 70)), (71, (m.1 71)), (72, (m.1 72)), (75, (m.1 75))] [(65, (m.2 65)), (66, (m.2 66)), (67, (m.2 67)), (68, (m.2 68))]) c, N), 0, 0) (Q_after m c N B) := by
    intro v339 v340 y341 y342 y343 y344 y345 y346 q348 q349 q350 q351 q352 q353 q354 q355 i356 i357 i358 i359
    obtain ⟨q348a, q348b⟩ := id q348
    obtain ⟨q349a, q349b⟩ := id q349
    refine T_gf 49 (.int (i32 y344)) rfl rfl rfl rfl rfl rfl ?_
    refine T_if 64 52 rfl rfl rfl (r32 (by omega) (by omega)) (fun (h361 : y344 ≠ 0) => ?_) (fun (h361 : ¬ (y344 ≠ 0)) => by exfalso; omega)
    refine T_gf 68 (.long (i64 y346)) rfl rfl rfl rfl rfl rfl ?_
    refine T_sto 70 [(4, .long (i64 y346)), (0, .ref 189), (1, .int (i32 v339)), (2, .long (i64 v340))] rfl (fun _ => rfl) ?_
    refine T_ld 71 (.ref 189) rfl (fun _ => rfl) ?_
    refine T_call 74 212 [.ref 189] [] rfl (fun _ => rfl) rfl (c_next w (mO m [(7, y341), (8, y342), (9, y343), (10, y344), (11, y345), (12, y346), (28, (m.1 28)), (69, (m.1 69)), (70, (m.1 70)), (71, (m.1 71)), (72, (m.1 72)), (75, (m.1 75))] [(65, (m.2 65)), (66, (m.2 66)), (67, (m.2 67)), (68, (m.2 68))]) c N D (by omega) (Ty_mO hT rfl rfl ⟨q350, q351, q352, q353, q354, q355, f28, f69, f70, f71, f72, f75, trivial⟩ ⟨(hT.2.1 65), (hT.2.1 66), (hT.2.1 67), (hT.2.1 68), trivial⟩) (show y344 = 0 → y342 + y343 ≤ (m.1 6) by first | omega | (intro h9; have h8 := hLx h9; omega))) (fun r362 k363 => ?_)
    obtain ⟨y364, y366, y368, y370, y372, y374, g365, g367, g369, g371, g373, g375, h376, h377, h378, h379, rfl⟩ := k363
    refine ⟨_, _, rfl, ?_⟩
    refine T_nf (st' := []) (l' := [(7, y364), (8, y366), (9, y368), (10, y370), (11, y372), (12, y374), (28, (m.1 28)), (69, (m.1 69)), (70, (m.1 70)), (71, (m.1 71)), (72, (m.1 72)), (75, (m.1 75))]) (a' := [(65, (m.2 65)), (66, (m.2 66)), (67, (m.2 67)), (68, (m.2 68))]) rfl rfl rfl rfl rfl ?_
    replace h376 : LxP y364 y366 y368 (m.1 6) y370 := h376
    replace h377 : y370 = 0 → y344 = 0 := h377
    replace h378 : y342 ≤ y366 := h378
    replace h379 : y370 = 0 → y342 + y343 ≤ y366 := h379
    have hf380 : 1 ≤ y370 := by omega
    clear h377
    clear h379
    have hLx := h376
    clear q350 q351 q352 q353 q354 i358 i359 h361 h378
    refine Tm_lv (a := [(0, .ref 189), (1, .int (i32 v339)), (2, .long (i64 v340)), (4, .long (i64 y346))]) rfl rfl ⟨rfl, rfl, rfl, rfl, trivial⟩ ?_
    exact J74_304 v339 v340 y346 y364 y366 y368 y370 y372 y374 (r32 (by omega) (by omega)) (r64 (by omega) (by omega)) (r64 (by omega) (by omega)) g365 g367 g369 g371 g373 g375 (by omega) (by omega) (by omega) (by omega)
  have J39_389 : ∀ (v381 : Int) (v382 : Int) (y383 : Int) (y384 : Int) (y385 : Int) (y386 : Int) (y387 : Int) (y388 : Int), (R32 v381) → (R64 v382) → (0 ≤ y383 ∧ y383 ≤ 330) → (0 ≤ y384 ∧ y384 ≤ 4000) → (0 ≤ y385 ∧ y385 ≤ 4000) → (0 ≤ y386 ∧ y386 ≤ 8) → ((-1) ≤ y387 ∧ y387 ≤ 4000) → ((-9223372036854775808) ≤ y388 ∧ y388 ≤ 9223372036854775807) → (0 ≤ v381) → (v381 ≤ 4000) → (1 ≤ y386) → (y386 ≤ 8) → TT w D pm_255 (39, [(0, .ref 189), (1, .int (i32 v381)), (2, .long (i64 v382))], [], (mhp (mO m [(7, y383), (8, y384), (9, y385), (10, y386), (11, y387), (12, y388), (28, (m.1 28)), (69, (m.1 69)), (70, (m.1 70)), (71, (m.1 71)), (72, (m.1 72)), (75, (m.1 75))] [(65, (m.2 65)), (66, (m.2 66)), (67, (m.2 67)), (68, (m.2 68))]) c, N), 0, 0) (Q_after m c N B) := by
    intro v381 v382 y383 y384 y385 y386 y387 y388 q390 q391 q392 q393 q394 q395 q396 q397 i398 i399 i400 i401
    obtain ⟨q390a, q390b⟩ := id q390
    obtain ⟨q391a, q391b⟩ := id q391
    refine T_ld 40 (.ref 189) rfl (fun _ => rfl) ?_
    refine T_ld 42 (.int (i32 58)) rfl (fun _ => rfl) ?_
    refine T_call 45 232 [.ref 189, .int (i32 58)] [] rfl (fun _ => rfl) rfl (c_need w (mO m [(7, y383), (8, y384), (9, y385), (10, y386), (11, y387), (12, y388), (28, (m.1 28)), (69, (m.1 69)), (70, (m.1 70)), (71, (m.1 71)), (72, (m.1 72)), (75, (m.1 75))] [(65, (m.2 65)), (66, (m.2 66)), (67, (m.2 67)), (68, (m.2 68))]) c N D (by omega) (Ty_mO hT rfl rfl ⟨q392, q393, q394, q395, q396, q397, f28, f69, f70, f71, f72, f75, trivial⟩ ⟨(hT.2.1 65), (hT.2.1 66), (hT.2.1 67), (hT.2.1 68), trivial⟩) 58 ⟨by decide, by decide⟩ (show 1 ≤ 58 by omega) (show LxP y383 y384 y385 (m.1 6) y386 by first | exact hLx | (intro h9; exfalso; omega) | (intro h9; have h8 := hLx (by omega); omega))) (fun r403 k404 => ?_)
    obtain ⟨y405, y407, y409, y411, y413, y415, g406, g408, g410, g412, g414, g416, h417, h418, h419, h420, rfl⟩ := k404
    refine ⟨_, _, rfl, ?_⟩
    refine T_nf (st' := []) (l' := [(7, y405), (8, y407), (9, y409), (10, y411), (11, y413), (12, y415), (28, (m.1 28)), (69, (m.1 69)), (70, (m.1 70)), (71, (m.1 71)), (72, (m.1 72)), (75, (m.1 75))]) (a' := [(65, (m.2 65)), (66, (m.2 66)), (67, (m.2 67)), (68, (m.2 68))]) rfl rfl rfl rfl rfl ?_
    replace h417 : LxP y405 y407 y409 (m.1 6) y411 := h417
    replace h418 : y411 = 0 → y386 = 0 ∧ y383 = 58 := h418
    replace h419 : y384 ≤ y407 := h419
    replace h420 : y411 = 0 → y384 + y385 ≤ y407 := h420
    have hf421 : 1 ≤ y411 := by omega
    clear h418
    clear h420
    have hLx := h417
    clear q392 q393 q394 q395 q396 q397 i400 i401 h419
    exact J45_347 v381 v382 y405 y407 y409 y411 y413 y415 (r32 (by omega) (by omega)) (r64 (by omega) (by omega)) g406 g408 g410 g412 g414 g416 (by omega) (by omega) (by omega) (by omega)
  have J30_429 : ∀ (v422 : Int) (y423 : Int) (y424 : Int) (y425 : Int) (y426 : Int) (y427 : Int) (y428 : Int), (R32 v422) → (0 ≤ y423 ∧ y423 ≤ 330) → (0 ≤ y424 ∧ y424 ≤ 4000) → (0 ≤ y425 ∧ y425 ≤ 4000) → (0 ≤ y426 ∧ y426 ≤ 8) → ((-1) ≤ y427 ∧ y427 ≤ 4000) → ((-9223372036854775808) ≤ y428 ∧ y428 ≤ 9223372036854775807) → (0 ≤ v422) → (v422 ≤ 4000) → (1 ≤ y426) → (y426 ≤ 8) → TT w D pm_255 (30, [(0, .ref 189), (1, .int (i32 v422))], [], (mhp (mO m [(7, y423), (8, y424), (9, y425), (10, y426), (11, y427), (12, y428), (28, (m.1 28)), (69, (m.1 69)), (70, (m.1 70)), (71, (m.1 71)), (72, (m.1 72)), (75, (m.1 75))] [(65, (m.2 65)), (66, (m.2 66)), (67, (m.2 67)), (68, (m.2 68))]) c, N), 0, 0) (Q_after m c N B) := by
    intro v422 y423 y424 y425 y426 y427 y428 q430 q431 q432 q433 q434 q435 q436 i437 i438 i439 i440
    obtain ⟨q430a, q430b⟩ := id q430
    refine T_gf 34 (.long (i64 y428)) rfl rfl rfl rfl rfl rfl ?_
    refine T_sto 35 [(2, .long (i64 y428)), (0, .ref 189), (1, .int (i32 v422))] rfl (fun _ => rfl) ?_
    refine T_ld 36 (.ref 189) rfl (fun _ => rfl) ?_
    refine T_call 39 212 [.ref 189] [] rfl (fun _ => rfl) rfl (c_next w (mO m [(7, y423), (8, y424), (9, y425), (10, y426), (11, y427), (12, y428), (28, (m.1 28)), (69, (m.1 69)), (70, (m.1 70)), (71, (m.1 71)), (72, (m.1 72)), (75, (m.1 75))] [(65, (m.2 65)), (66, (m.2 66)), (67, (m.2 67)), (68, (m.2 68))]) c N D (by omega) (Ty_mO hT rfl rfl ⟨q431, q432, q433, q434, q435, q436, f28, f69, f70, f71, f72, f75, trivial⟩ ⟨(hT.2.1 65), (hT.2.1 66), (hT.2.1 67), (hT.2.1 68), trivial⟩) (show y426 = 0 → y424 + y425 ≤ (m.1 6) by first | omega | (intro h9; have h8 := hLx h9; omega))) (fun r442 k443 => ?_)
    obtain ⟨y444, y446, y448, y450, y452, y454, g445, g447, g449, g451, g453, g455, h456, h457, h458, h459, rfl⟩ := k443
    refine ⟨_, _, rfl, ?_⟩
    refine T_nf (st' := []) (l' := [(7, y444), (8, y446), (9, y448), (10, y450), (11, y452), (12, y454), (28, (m.1 28)), (69, (m.1 69)), (70, (m.1 70)), (71, (m.1 71)), (72, (m.1 72)), (75, (m.1 75))]) (a' := [(65, (m.2 65)), (66, (m.2 66)), (67, (m.2 67)), (68, (m.2 68))]) rfl rfl rfl rfl rfl ?_
    replace h456 : LxP y444 y446 y448 (m.1 6) y450 := h456
    replace h457 : y450 = 0 → y426 = 0 := h457
    replace h458 : y424 ≤ y446 := h458
    replace h459 : y450 = 0 → y424 + y425 ≤ y446 := h459
    have hf460 : 1 ≤ y450 := by omega
    clear h457
    clear h459
    have hLx := h456
    clear q431 q432 q433 q434 q435 i439 i440 h458
    refine Tm_lv (a := [(0, .ref 189), (1, .int (i32 v422)), (2, .long (i64 y428))]) rfl rfl ⟨rfl, rfl, rfl, trivial⟩ ?_
    exact J39_389 v422 y428 y444 y446 y448 y450 y452 y454 (r32 (by omega) (by omega)) (r64 (by omega) (by omega)) g445 g447 g449 g451 g453 g455 (by omega) (by omega) (by omega) (by omega)
  refine T_gf 4 (.int (i32 (m.1 7))) rfl rfl rfl rfl rfl rfl ?_
  refine T_ld 6 (.int (i32 91)) rfl (fun _ => rfl) ?_
  refine T_icmp 175 9 rfl rfl rfl (r32 (by omega) (by omega)) ⟨by decide, by decide⟩ (fun (h461 : (m.1 7) ≠ 91) => ?_) (fun (h461 : ¬ ((m.1 7) ≠ 91)) => ?_)
  · skip
    refine T_gf 179 (.int (i32 (m.1 7))) rfl rfl rfl rfl rfl rfl ?_
    refine T_ld 182 (.int (i32 330)) rfl (fun _ => rfl) ?_
    refine T_icmp 219 185 rfl rfl rfl (r32 (by omega) (by omega)) ⟨by decide, by decide⟩ (fun (h462 : (m.1 7) ≠ 330) => ?_) (fun (h462 : ¬ ((m.1 7) ≠ 330)) => ?_)
    · skip
      refine T_ld 220 (.ref 189) rfl (fun _ => rfl) ?_
      refine T_ld 221 (.int (i32 2)) rfl (fun _ => rfl) ?_
      refine T_pf (l' := [(7, (m.1 7)), (8, (m.1 8)), (9, (m.1 9)), (10, (m.1 10)), (11, (m.1 11)), (12, (m.1 12)), (28, (m.1 28)), (69, (m.1 69)), (70, (m.1 70)), (71, (m.1 71)), (72, (m.1 72)), (75, 2)]) 224 2 rfl rfl rfl rfl rfl rfl ?_
      refine T_ret rfl (fun _ => rfl) ?_
      exact ⟨(m.1 7), (m.1 8), (m.1 9), (m.1 10), (m.1 11), (m.1 12), (m.1 28), (m.1 69), (m.1 70), (m.1 71), (m.1 72), 2, (m.2 65), (m.2 66), (m.2 67), (m.2 68), f7, f8, f9, f10, f11, f12, f28, f69, f70, f71, f72, ⟨by omega, by omega⟩, (hT.2.1 65), (hT.2.1 66), (hT.2.1 67), (hT.2.1 68), (by omega), (by first | (first | exact hLx | (intro h9; exfalso; omega)) | (exfalso; omega)), (fun _ => ⟨(by omega), (by omega), (by omega), (by first | (exact hXE) | (exfalso; omega)), (by first | (exact hAgC) | (exfalso; omega))⟩), rfl⟩
    · skip
      refine T_ld 186 (.ref 189) rfl (fun _ => rfl) ?_
      refine T_call 189 212 [.ref 189] [] rfl (fun _ => rfl) rfl (c_next w (mO m [(7, (m.1 7)), (8, (m.1 8)), (9, (m.1 9)), (10, (m.1 10)), (11, (m.1 11)), (12, (m.1 12)), (28, (m.1 28)), (69, (m.1 69)), (70, (m.1 70)), (71, (m.1 71)), (72, (m.1 72)), (75, (m.1 75))] [(65, (m.2 65)), (66, (m.2 66)), (67, (m.2 67)), (68, (m.2 68))]) c N D (by omega) (Ty_mO hT rfl rfl ⟨f7, f8, f9, f10, f11, f12, f28, f69, f70, f71, f72, f75, trivial⟩ ⟨(hT.2.1 65), (hT.2.1 66), (hT.2.1 67), (hT.2.1 68), trivial⟩) (show (m.1 10) = 0 → (m.1 8) + (m.1 9) ≤ (m.1 6) by first | omega | (intro h9; have h8 := hLx h9; omega))) (fun r463 k464 => ?_)
      obtain ⟨y465, y467, y469, y471, y473, y475, g466, g468, g470, g472, g474, g476, h477, h478, h479, h480, rfl⟩ := k464
      refine ⟨_, _, rfl, ?_⟩
      refine T_nf (st' := []) (l' := [(7, y465), (8, y467), (9, y469), (10, y471), (11, y473), (12, y475), (28, (m.1 28)), (69, (m.1 69)), (70, (m.1 70)), (71, (m.1 71)), (72, (m.1 72)), (75, (m.1 75))]) (a' := [(65, (m.2 65)), (66, (m.2 66)), (67, (m.2 67)), (68, (m.2 68))]) rfl rfl rfl rfl rfl ?_
      by_cases hf481 : y471 = 0
      · skip
        subst hf481
        replace h477 : LxP y465 y467 y469 (m.1 6) 0 := h477
        have hLx := h477
        replace h478 : (m.1 10) = 0 := h478 rfl
        replace h479 : (m.1 8) ≤ y467 := h479
        replace h480 : (m.1 8) + (m.1 9) ≤ y467 := h480 rfl
        have u482 : (m.1 8) ≤ y467 := by omega
        have hAgC : agr (m.2 65) (m.2 65) (m.1 28) := by first | exact agr_r _ _ | exact hAgC | exact agr_t hAgC hAg (by omega)
        clear g472
        refine T_ld 190 (.ref 189) rfl (fun _ => rfl) ?_
        refine T_ld 191 (.int (i32 1)) rfl (fun _ => rfl) ?_
        refine T_ld 193 (.int (i32 64)) rfl (fun _ => rfl) ?_
        refine T_call 196 234 [.ref 189, .int (i32 1), .int (i32 64)] [] rfl (fun _ => rfl) rfl (c_number w (mO m [(7, y465), (8, y467), (9, y469), (10, 0), (11, y473), (12, y475), (28, (m.1 28)), (69, (m.1 69)), (70, (m.1 70)), (71, (m.1 71)), (72, (m.1 72)), (75, (m.1 75))] [(65, (m.2 65)), (66, (m.2 66)), (67, (m.2 67)), (68, (m.2 68))]) c N D (by omega) (Ty_mO hT rfl rfl ⟨g466, g468, g470, ⟨(by omega : (0 : Int) ≤ 0), (by omega : (0 : Int) ≤ 8)⟩, g474, g476, f28, f69, f70, f71, f72, f75, trivial⟩ ⟨(hT.2.1 65), (hT.2.1 66), (hT.2.1 67), (hT.2.1 68), trivial⟩) 1 64 ⟨by decide, by decide⟩ ⟨by decide, by decide⟩ (show LxP y465 y467 y469 (m.1 6) 0 by first | exact hLx | (intro h9; exfalso; omega) | (intro h9; have h8 := hLx (by omega); omega)) (show 1 ≤ 64 by omega)) (fun r483 k484 => ?_)
        obtain ⟨y485, y487, y489, y491, y493, y495, nu, g486, g488, g490, g492, g494, g496, g497, h498, h499, h500, h501, h502, h503, rfl⟩ := k484
        refine ⟨_, _, rfl, ?_⟩
        refine T_nf (st' := [.int (i32 nu)]) (l' := [(7, y485), (8, y487), (9, y489), (10, y491), (11, y493), (12, y495), (28, (m.1 28)), (69, (m.1 69)), (70, (m.1 70)), (71, (m.1 71)), (72, (m.1 72)), (75, (m.1 75))]) (a' := [(65, (m.2 65)), (66, (m.2 66)), (67, (m.2 67)), (68, (m.2 68))]) rfl rfl rfl rfl rfl ?_
        obtain ⟨g497a, g497b⟩ := g497
        by_cases hf504 : y491 = 0
        · skip
          subst hf504
          replace h498 : LxP y485 y487 y489 (m.1 6) 0 := h498
          have hLx := h498
          replace h499 : y467 ≤ y487 := h499
          replace h500 : 0 = 0 ∧ y467 + y469 ≤ y487 := h500 rfl
          replace h501 : y465 = 2 := h501 rfl
          replace h502 : 1 ≤ nu ∧ nu ≤ 64 := h502
          replace h503 : nu = y475 := h503 rfl
          have u505 : (m.1 8) ≤ y487 := by omega
          have hAgC : agr (m.2 65) (m.2 65) (m.1 28) := by first | exact agr_r _ _ | exact hAgC | exact agr_t hAgC hAg (by omega)
          clear g466 g468 g470 g474 g476 h477 h479 h480 u482 g492 h499 h500 h501 h503
          refine T_sto 197 [(1, .int (i32 nu)), (0, .ref 189)] rfl (fun _ => rfl) ?_
          have hAr : ar 406 ≤ 1 + lh (m.2 79) (m.2 80) (m.1 73) := by rw [show ar 406 = 1 from rfl]; omega
          have hCk : CNk 406 0 := by refine ⟨?_, ?_, ?_, ?_⟩ <;> omega
          refine T_ld 198 (.ref 189) rfl (fun _ => rfl) ?_
          refine T_ld 201 (.int (i32 406)) rfl (fun _ => rfl) ?_
          refine T_ld 202 (.int (i32 nu)) rfl (fun _ => rfl) ?_
          refine T_ld 203 (.int (i32 0)) rfl (fun _ => rfl) ?_
          refine T_ld 204 (.long (i64 0)) rfl (fun _ => rfl) ?_
          refine T_call 207 248 [.ref 189, .int (i32 406), .int (i32 nu), .int (i32 0), .long (i64 0)] [] rfl (fun _ => rfl) rfl (c_node w (mO m [(7, y485), (8, y487), (9, y489), (10, 0), (11, y493), (12, y495), (28, (m.1 28)), (69, (m.1 69)), (70, (m.1 70)), (71, (m.1 71)), (72, (m.1 72)), (75, (m.1 75))] [(65, (m.2 65)), (66, (m.2 66)), (67, (m.2 67)), (68, (m.2 68))]) c N D (by omega) (Ty_mO hT rfl rfl ⟨g486, g488, g490, ⟨(by omega : (0 : Int) ≤ 0), (by omega : (0 : Int) ≤ 8)⟩, g494, g496, f28, f69, f70, f71, f72, f75, trivial⟩ ⟨(hT.2.1 65), (hT.2.1 66), (hT.2.1 67), (hT.2.1 68), trivial⟩) 406 nu 0 0 ($B) (1 + lh (m.2 79) (m.2 80) (m.1 73)) ⟨by decide, by decide⟩ (r32 (by omega) (by omega)) ⟨by decide, by decide⟩ ⟨by decide, by decide⟩ (fun _ => ⟨(show 0 ≤ 406 ∧ 406 ≤ 408 by first | omega | decide), (show 0 ≤ nu ∧ nu ≤ 64 by first | omega | decide), (show 0 ≤ 0 ∧ 0 ≤ 191 by first | omega | decide), (show CNk 406 0 by first | exact hCk | (refine ⟨?_, ?_, ?_, ?_⟩ <;> omega)), (show ar 406 ≤ (1 + lh (m.2 79) (m.2 80) (m.1 73)) by first | exact hAr | omega), (show EX (m.2 65) (m.2 67) ($B) (m.1 28) (1 + lh (m.2 79) (m.2 80) (m.1 73)) by first | exact hEX | assumption)⟩)) (fun r506 k507 => ?_)
          obtain ⟨y508, y510, y512, F514, F516, F518, F520, g509, g511, g513, G515, G517, G519, G521, h522, c523, rfl⟩ := k507
          refine ⟨_, _, rfl, ?_⟩
          refine T_nf (st' := []) (l' := [(7, y485), (8, y487), (9, y489), (10, y508), (11, y510), (12, y495), (28, y512), (69, (m.1 69)), (70, (m.1 70)), (71, (m.1 71)), (72, (m.1 72)), (75, (m.1 75))]) (a' := [(65, F514), (66, F516), (67, F518), (68, F520)]) rfl rfl rfl rfl rfl ?_
          by_cases hf524 : y508 = 0
          · skip
            subst hf524
            replace h522 : 0 = 0 := h522 rfl
            obtain ⟨c525, c526, c527⟩ := c523 rfl
            replace c525 : y512 = (m.1 28) + 1 := c525
            replace c526 : EX F514 F518 ($B) y512 ((1 + lh (m.2 79) (m.2 80) (m.1 73)) + 1 - ar 406) := c526
            have hEX := c526
            replace c527 : agr (m.2 65) F514 (m.1 28) := c527
            have hAg := c527
            have u528 : (m.1 8) ≤ y487 := by omega
            have hAgC : agr (m.2 65) F514 (m.1 28) := by first | exact agr_r _ _ | exact hAgC | exact agr_t hAgC hAg (by omega)
            clear g494 g509
            refine T_ld 208 (.ref 189) rfl (fun _ => rfl) ?_
            refine T_ld 209 (.int (i32 nu)) rfl (fun _ => rfl) ?_
            refine T_gf 213 (.int (i32 (m.1 70))) rfl rfl rfl rfl rfl rfl ?_
            refine T_call 216 250 [.ref 189, .int (i32 nu), .int (i32 (m.1 70))] [] rfl (fun _ => rfl) rfl (c_unit w (mO m [(7, y485), (8, y487), (9, y489), (10, 0), (11, y510), (12, y495), (28, y512), (69, (m.1 69)), (70, (m.1 70)), (71, (m.1 71)), (72, (m.1 72)), (75, (m.1 75))] [(65, F514), (66, F516), (67, F518), (68, F520)]) c N D (by omega) (Ty_mO hT rfl rfl ⟨g486, g488, g490, ⟨(by omega : (0 : Int) ≤ 0), (by omega : (0 : Int) ≤ 8)⟩, g511, g496, g513, f69, f70, f71, f72, f75, trivial⟩ ⟨G515, G517, G519, G521, trivial⟩) nu (m.1 70) (r32 (by omega) (by omega)) (r32 (by omega) (by omega)) (show 0 ≤ nu ∧ nu ≤ 1024 by omega) (show 0 ≤ (m.1 70) ∧ (m.1 70) ≤ 4000 by omega)) (fun r529 k530 => ?_)
            obtain ⟨y531, y533, y535, y537, g532, g534, g536, g538, h539, rfl⟩ := k530
            refine ⟨_, _, rfl, ?_⟩
            refine T_nf (st' := []) (l' := [(7, y485), (8, y487), (9, y489), (10, 0), (11, y510), (12, y495), (28, y512), (69, y531), (70, y533), (71, y535), (72, y537), (75, (m.1 75))]) (a' := [(65, F514), (66, F516), (67, F518), (68, F520)]) rfl rfl rfl rfl rfl ?_
            replace h539 : y531 = nu := h539
            have u540 : (m.1 8) ≤ y487 := by omega
            have hAgC : agr (m.2 65) F514 (m.1 28) := by first | exact agr_r _ _ | exact hAgC | exact agr_t hAgC hAg (by omega)
            have hXE : XS F514 F518 (m.2 76) (m.2 78) (m.2 79) (m.2 80) $B y512 (m.1 73) (m.1 74) 1 := XS_of hXS hEX (by rw [show ar 406 = 1 from rfl]; omega)
            refine T_goto 224 rfl (fun _ => rfl) ?_
            refine T_ret rfl (fun _ => rfl) ?_
            exact ⟨y485, y487, y489, 0, y510, y495, y512, y531, y533, y535, y537, (m.1 75), F514, F516, F518, F520, g486, g488, g490, ⟨by omega, by omega⟩, g511, g496, g513, g532, g534, g536, g538, f75, G515, G517, G519, G521, (by omega), (by first | (first | exact hLx | (intro h9; exfalso; omega)) | (exfalso; omega)), (fun _ => ⟨(by omega), (by omega), (by omega), (by first | (exact hXE) | (exfalso; omega)), (by first | (exact hAgC) | (exfalso; omega))⟩), rfl⟩
          · skip
            clear c523
            clear h522
            have hf541 : 1 ≤ y508 := by omega
            clear g494
            refine Tm_lv (a := [(0, .ref 189), (1, .int (i32 nu))]) rfl rfl ⟨rfl, rfl, trivial⟩ ?_
            exact J207_118 nu y485 y487 y489 y508 y510 y495 y512 F514 F516 F518 F520 (r32 (by omega) (by omega)) g486 g488 g490 g509 g511 g496 g513 G515 G517 G519 G521 (by omega) (by omega)
        · skip
          replace h498 : LxP y485 y487 y489 (m.1 6) y491 := h498
          have hLx := h498
          replace h499 : y467 ≤ y487 := h499
          clear h500
          clear h501
          replace h502 : 1 ≤ nu ∧ nu ≤ 64 := h502
          clear h503
          have hf542 : 1 ≤ y491 := by omega
          clear g466 g468 g470 g474 g476 h477 h479 h480 u482 h499
          exact J196_152 nu y485 y487 y489 y491 y493 y495 (r32 (by omega) (by omega)) g486 g488 g490 g492 g494 g496 (by omega) (by omega)
      · skip
        replace h477 : LxP y465 y467 y469 (m.1 6) y471 := h477
        have hLx := h477
        clear h478
        replace h479 : (m.1 8) ≤ y467 := h479
        clear h480
        have hf543 : 1 ≤ y471 := by omega
        refine T_ld 190 (.ref 189) rfl (fun _ => rfl) ?_
        refine T_ld 191 (.int (i32 1)) rfl (fun _ => rfl) ?_
        refine T_ld 193 (.int (i32 64)) rfl (fun _ => rfl) ?_
        refine T_call 196 234 [.ref 189, .int (i32 1), .int (i32 64)] [] rfl (fun _ => rfl) rfl (c_number w (mO m [(7, y465), (8, y467), (9, y469), (10, y471), (11, y473), (12, y475), (28, (m.1 28)), (69, (m.1 69)), (70, (m.1 70)), (71, (m.1 71)), (72, (m.1 72)), (75, (m.1 75))] [(65, (m.2 65)), (66, (m.2 66)), (67, (m.2 67)), (68, (m.2 68))]) c N D (by omega) (Ty_mO hT rfl rfl ⟨g466, g468, g470, g472, g474, g476, f28, f69, f70, f71, f72, f75, trivial⟩ ⟨(hT.2.1 65), (hT.2.1 66), (hT.2.1 67), (hT.2.1 68), trivial⟩) 1 64 ⟨by decide, by decide⟩ ⟨by decide, by decide⟩ (show LxP y465 y467 y469 (m.1 6) y471 by first | exact hLx | (intro h9; exfalso; omega) | (intro h9; have h8 := hLx (by omega); omega)) (show 1 ≤ 64 by omega)) (fun r544 k545 => ?_)
        obtain ⟨y546, y548, y550, y552, y554, y556, nu, g547, g549, g551, g553, g555, g557, g558, h559, h560, h561, h562, h563, h564, rfl⟩ := k545
        refine ⟨_, _, rfl, ?_⟩
        refine T_nf (st' := [.int (i32 nu)]) (l' := [(7, y546), (8, y548), (9, y550), (10, y552), (11, y554), (12, y556), (28, (m.1 28)), (69, (m.1 69)), (70, (m.1 70)), (71, (m.1 71)), (72, (m.1 72)), (75, (m.1 75))]) (a' := [(65, (m.2 65)), (66, (m.2 66)), (67, (m.2 67)), (68, (m.2 68))]) rfl rfl rfl rfl rfl ?_
        obtain ⟨g558a, g558b⟩ := g558
        replace h559 : LxP y546 y548 y550 (m.1 6) y552 := h559
        replace h560 : y467 ≤ y548 := h560
        replace h561 : y552 = 0 → y471 = 0 ∧ y467 + y469 ≤ y548 := h561
        replace h562 : y552 = 0 → y465 = 2 := h562
        replace h563 : 1 ≤ nu ∧ nu ≤ 64 := h563
        replace h564 : y552 = 0 → nu = y475 := h564
        have hf565 : 1 ≤ y552 := by omega
        clear h561
        clear h562
        clear h564
        have hLx := h559
        clear g466 g468 g470 g472 g474 g476 h477 h479 hf543 h560
        exact J196_152 nu y546 y548 y550 y552 y554 y556 (r32 (by omega) (by omega)) g547 g549 g551 g553 g555 g557 (by omega) (by omega)
  · skip
    refine T_ld 10 (.ref 189) rfl (fun _ => rfl) ?_
    refine T_call 13 212 [.ref 189] [] rfl (fun _ => rfl) rfl (c_next w (mO m [(7, (m.1 7)), (8, (m.1 8)), (9, (m.1 9)), (10, (m.1 10)), (11, (m.1 11)), (12, (m.1 12)), (28, (m.1 28)), (69, (m.1 69)), (70, (m.1 70)), (71, (m.1 71)), (72, (m.1 72)), (75, (m.1 75))] [(65, (m.2 65)), (66, (m.2 66)), (67, (m.2 67)), (68, (m.2 68))]) c N D (by omega) (Ty_mO hT rfl rfl ⟨f7, f8, f9, f10, f11, f12, f28, f69, f70, f71, f72, f75, trivial⟩ ⟨(hT.2.1 65), (hT.2.1 66), (hT.2.1 67), (hT.2.1 68), trivial⟩) (show (m.1 10) = 0 → (m.1 8) + (m.1 9) ≤ (m.1 6) by first | omega | (intro h9; have h8 := hLx h9; omega))) (fun r566 k567 => ?_)
    obtain ⟨y568, y570, y572, y574, y576, y578, g569, g571, g573, g575, g577, g579, h580, h581, h582, h583, rfl⟩ := k567
    refine ⟨_, _, rfl, ?_⟩
    refine T_nf (st' := []) (l' := [(7, y568), (8, y570), (9, y572), (10, y574), (11, y576), (12, y578), (28, (m.1 28)), (69, (m.1 69)), (70, (m.1 70)), (71, (m.1 71)), (72, (m.1 72)), (75, (m.1 75))]) (a' := [(65, (m.2 65)), (66, (m.2 66)), (67, (m.2 67)), (68, (m.2 68))]) rfl rfl rfl rfl rfl ?_
    by_cases hf584 : y574 = 0
    · skip
      subst hf584
      replace h580 : LxP y568 y570 y572 (m.1 6) 0 := h580
      have hLx := h580
      replace h581 : (m.1 10) = 0 := h581 rfl
      replace h582 : (m.1 8) ≤ y570 := h582
      replace h583 : (m.1 8) + (m.1 9) ≤ y570 := h583 rfl
      have u585 : (m.1 8) ≤ y570 := by omega
      have hAgC : agr (m.2 65) (m.2 65) (m.1 28) := by first | exact agr_r _ _ | exact hAgC | exact agr_t hAgC hAg (by omega)
      clear g575
      refine T_gf 17 (.int (i32 y570)) rfl rfl rfl rfl rfl rfl ?_
      refine T_sto 18 [(1, .int (i32 y570)), (0, .ref 189)] rfl (fun _ => rfl) ?_
      refine T_gf 22 (.int (i32 y568)) rfl rfl rfl rfl rfl rfl ?_
      refine T_ld 23 (.int (i32 2)) rfl (fun _ => rfl) ?_
      refine T_icmp 30 26 rfl rfl rfl (r32 (by omega) (by omega)) ⟨by decide, by decide⟩ (fun (h586 : y568 = 2) => ?_) (fun (h586 : ¬ (y568 = 2)) => ?_)
      · skip
        refine T_gf 34 (.long (i64 y578)) rfl rfl rfl rfl rfl rfl ?_
        refine T_sto 35 [(2, .long (i64 y578)), (1, .int (i32 y570)), (0, .ref 189)] rfl (fun _ => rfl) ?_
        refine T_ld 36 (.ref 189) rfl (fun _ => rfl) ?_
        refine T_call 39 212 [.ref 189] [] rfl (fun _ => rfl) rfl (c_next w (mO m [(7, y568), (8, y570), (9, y572), (10, 0), (11, y576), (12, y578), (28, (m.1 28)), (69, (m.1 69)), (70, (m.1 70)), (71, (m.1 71)), (72, (m.1 72)), (75, (m.1 75))] [(65, (m.2 65)), (66, (m.2 66)), (67, (m.2 67)), (68, (m.2 68))]) c N D (by omega) (Ty_mO hT rfl rfl ⟨g569, g571, g573, ⟨(by omega : (0 : Int) ≤ 0), (by omega : (0 : Int) ≤ 8)⟩, g577, g579, f28, f69, f70, f71, f72, f75, trivial⟩ ⟨(hT.2.1 65), (hT.2.1 66), (hT.2.1 67), (hT.2.1 68), trivial⟩) (show 0 = 0 → y570 + y572 ≤ (m.1 6) by first | omega | (intro h9; have h8 := hLx h9; omega))) (fun r587 k588 => ?_)
        obtain ⟨y589, y591, y593, y595, y597, y599, g590, g592, g594, g596, g598, g600, h601, h602, h603, h604, rfl⟩ := k588
        refine ⟨_, _, rfl, ?_⟩
        refine T_nf (st' := []) (l' := [(7, y589), (8, y591), (9, y593), (10, y595), (11, y597), (12, y599), (28, (m.1 28)), (69, (m.1 69)), (70, (m.1 70)), (71, (m.1 71)), (72, (m.1 72)), (75, (m.1 75))]) (a' := [(65, (m.2 65)), (66, (m.2 66)), (67, (m.2 67)), (68, (m.2 68))]) rfl rfl rfl rfl rfl ?_
        by_cases hf605 : y595 = 0
        · skip
          subst hf605
          replace h601 : LxP y589 y591 y593 (m.1 6) 0 := h601
          have hLx := h601
          replace h602 : 0 = 0 := h602 rfl
          replace h603 : y570 ≤ y591 := h603
          replace h604 : y570 + y572 ≤ y591 := h604 rfl
          have u606 : (m.1 8) ≤ y591 := by omega
          have hAgC : agr (m.2 65) (m.2 65) (m.1 28) := by first | exact agr_r _ _ | exact hAgC | exact agr_t hAgC hAg (by omega)
          clear g569 g573 g577 h580 h586 g596 h604
          refine T_ld 40 (.ref 189) rfl (fun _ => rfl) ?_
          refine T_ld 42 (.int (i32 58)) rfl (fun _ => rfl) ?_
          refine T_call 45 232 [.ref 189, .int (i32 58)] [] rfl (fun _ => rfl) rfl (c_need w (mO m [(7, y589), (8, y591), (9, y593), (10, 0), (11, y597), (12, y599), (28, (m.1 28)), (69, (m.1 69)), (70, (m.1 70)), (71, (m.1 71)), (72, (m.1 72)), (75, (m.1 75))] [(65, (m.2 65)), (66, (m.2 66)), (67, (m.2 67)), (68, (m.2 68))]) c N D (by omega) (Ty_mO hT rfl rfl ⟨g590, g592, g594, ⟨(by omega : (0 : Int) ≤ 0), (by omega : (0 : Int) ≤ 8)⟩, g598, g600, f28, f69, f70, f71, f72, f75, trivial⟩ ⟨(hT.2.1 65), (hT.2.1 66), (hT.2.1 67), (hT.2.1 68), trivial⟩) 58 ⟨by decide, by decide⟩ (show 1 ≤ 58 by omega) (show LxP y589 y591 y593 (m.1 6) 0 by first | exact hLx | (intro h9; exfalso; omega) | (intro h9; have h8 := hLx (by omega); omega))) (fun r607 k608 => ?_)
          obtain ⟨y609, y611, y613, y615, y617, y619, g610, g612, g614, g616, g618, g620, h621, h622, h623, h624, rfl⟩ := k608
          refine ⟨_, _, rfl, ?_⟩
          refine T_nf (st' := []) (l' := [(7, y609), (8, y611), (9, y613), (10, y615), (11, y617), (12, y619), (28, (m.1 28)), (69, (m.1 69)), (70, (m.1 70)), (71, (m.1 71)), (72, (m.1 72)), (75, (m.1 75))]) (a' := [(65, (m.2 65)), (66, (m.2 66)), (67, (m.2 67)), (68, (m.2 68))]) rfl rfl rfl rfl rfl ?_
          by_cases hf625 : y615 = 0
          · skip
            subst hf625
            replace h621 : LxP y609 y611 y613 (m.1 6) 0 := h621
            have hLx := h621
            replace h622 : 0 = 0 ∧ y589 = 58 := h622 rfl
            replace h623 : y591 ≤ y611 := h623
            replace h624 : y591 + y593 ≤ y611 := h624 rfl
            have u626 : (m.1 8) ≤ y611 := by omega
            have hAgC : agr (m.2 65) (m.2 65) (m.1 28) := by first | exact agr_r _ _ | exact hAgC | exact agr_t hAgC hAg (by omega)
            clear g590 g592 g594 g598 g600 h601 h603 u606 g616 h622 h623 h624
            refine T_gf 49 (.int (i32 0)) rfl rfl rfl rfl rfl rfl ?_
            refine T_if 64 52 rfl rfl rfl ⟨by decide, by decide⟩ (fun h627 => absurd (show (0 : Int) ≠ 0 from h627) (by decide)) (fun _ => ?_)
            refine T_gf 56 (.int (i32 y609)) rfl rfl rfl rfl rfl rfl ?_
            refine T_ld 57 (.int (i32 2)) rfl (fun _ => rfl) ?_
            refine T_icmp 64 60 rfl rfl rfl (r32 (by omega) (by omega)) ⟨by decide, by decide⟩ (fun (h628 : y609 = 2) => ?_) (fun (h628 : ¬ (y609 = 2)) => ?_)
            · skip
              refine T_gf 68 (.long (i64 y619)) rfl rfl rfl rfl rfl rfl ?_
              refine T_sto 70 [(4, .long (i64 y619)), (2, .long (i64 y578)), (1, .int (i32 y570)), (0, .ref 189)] rfl (fun _ => rfl) ?_
              refine T_ld 71 (.ref 189) rfl (fun _ => rfl) ?_
              refine T_call 74 212 [.ref 189] [] rfl (fun _ => rfl) rfl (c_next w (mO m [(7, y609), (8, y611), (9, y613), (10, 0), (11, y617), (12, y619), (28, (m.1 28)), (69, (m.1 69)), (70, (m.1 70)), (71, (m.1 71)), (72, (m.1 72)), (75, (m.1 75))] [(65, (m.2 65)), (66, (m.2 66)), (67, (m.2 67)), (68, (m.2 68))]) c N D (by omega) (Ty_mO hT rfl rfl ⟨g610, g612, g614, ⟨(by omega : (0 : Int) ≤ 0), (by omega : (0 : Int) ≤ 8)⟩, g618, g620, f28, f69, f70, f71, f72, f75, trivial⟩ ⟨(hT.2.1 65), (hT.2.1 66), (hT.2.1 67), (hT.2.1 68), trivial⟩) (show 0 = 0 → y611 + y613 ≤ (m.1 6) by first | omega | (intro h9; have h8 := hLx h9; omega))) (fun r629 k630 => ?_)
              obtain ⟨y631, y633, y635, y637, y639, y641, g632, g634, g636, g638, g640, g642, h643, h644, h645, h646, rfl⟩ := k630
              refine ⟨_, _, rfl, ?_⟩
              refine T_nf (st' := []) (l' := [(7, y631), (8, y633), (9, y635), (10, y637), (11, y639), (12, y641), (28, (m.1 28)), (69, (m.1 69)), (70, (m.1 70)), (71, (m.1 71)), (72, (m.1 72)), (75, (m.1 75))]) (a' := [(65, (m.2 65)), (66, (m.2 66)), (67, (m.2 67)), (68, (m.2 68))]) rfl rfl rfl rfl rfl ?_
              by_cases hf647 : y637 = 0
              · skip
                subst hf647
                replace h643 : LxP y631 y633 y635 (m.1 6) 0 := h643
                have hLx := h643
                replace h644 : 0 = 0 := h644 rfl
                replace h645 : y611 ≤ y633 := h645
                replace h646 : y611 + y613 ≤ y633 := h646 rfl
                have u648 : (m.1 8) ≤ y633 := by omega
                have hAgC : agr (m.2 65) (m.2 65) (m.1 28) := by first | exact agr_r _ _ | exact hAgC | exact agr_t hAgC hAg (by omega)
                clear g610 g612 g614 g618 h621 u626 h628 g638 h645 h646
                refine T_gf 78 (.int (i32 0)) rfl rfl rfl rfl rfl rfl ?_
                refine T_if 121 81 rfl rfl rfl ⟨by decide, by decide⟩ (fun h649 => absurd (show (0 : Int) ≠ 0 from h649) (by decide)) (fun _ => ?_)
                refine T_ld 82 (.ref 189) rfl (fun _ => rfl) ?_
                refine T_ld 83 (.long (i64 y578)) rfl (fun _ => rfl) ?_
                refine T_ld 84 (.long (i64 0)) rfl (fun _ => rfl) ?_
                refine T_lcmp 85 rfl rfl (r64 (by omega) (by omega)) ⟨by decide, by decide⟩ (fun z650 h651 => ?_)
                obtain ⟨h651a, h651b, h651c, h651d, h651e⟩ := h651
                refine T_if 116 88 rfl rfl rfl (r32 (by omega) (by omega)) (fun (h652 : z650 < 0) => ?_) (fun (h652 : ¬ (z650 < 0)) => ?_)
                · skip
                  refine T_ld 117 (.int (i32 0)) rfl (fun _ => rfl) ?_
                  refine T_ld 118 (.int (i32 y570)) rfl (fun _ => rfl) ?_
                  refine T_call 121 256 [.ref 189, .int (i32 0), .int (i32 y570)] [] rfl (fun _ => rfl) rfl (c_want w (mO m [(7, y631), (8, y633), (9, y635), (10, 0), (11, y639), (12, y641), (28, (m.1 28)), (69, (m.1 69)), (70, (m.1 70)), (71, (m.1 71)), (72, (m.1 72)), (75, (m.1 75))] [(65, (m.2 65)), (66, (m.2 66)), (67, (m.2 67)), (68, (m.2 68))]) c N D (by omega) (Ty_mO hT rfl rfl ⟨g632, g634, g636, ⟨(by omega : (0 : Int) ≤ 0), (by omega : (0 : Int) ≤ 8)⟩, g640, g642, f28, f69, f70, f71, f72, f75, trivial⟩ ⟨(hT.2.1 65), (hT.2.1 66), (hT.2.1 67), (hT.2.1 68), trivial⟩) 0 y570 ⟨by decide, by decide⟩ (r32 (by omega) (by omega)) (show 0 ≤ y570 ∧ y570 ≤ 4000 by omega) (fun _ => trivial)) (fun r653 k654 => ?_)
                  obtain ⟨y655, y657, g656, g658, h659, c660, rfl⟩ := k654
                  refine ⟨_, _, rfl, ?_⟩
                  refine T_nf (st' := []) (l' := [(7, y631), (8, y633), (9, y635), (10, y655), (11, y657), (12, y641), (28, (m.1 28)), (69, (m.1 69)), (70, (m.1 70)), (71, (m.1 71)), (72, (m.1 72)), (75, (m.1 75))]) (a' := [(65, (m.2 65)), (66, (m.2 66)), (67, (m.2 67)), (68, (m.2 68))]) rfl rfl rfl rfl rfl ?_
                  by_cases hf661 : y655 = 0
                  · skip
                    subst hf661
                    replace h659 : 0 = 0 := h659 rfl
                    have c662 := c660 rfl
                    replace c662 : 0 ≠ 0 := c662
                    have u663 : (m.1 8) ≤ y633 := by omega
                    have hAgC : agr (m.2 65) (m.2 65) (m.1 28) := by first | exact agr_r _ _ | exact hAgC | exact agr_t hAgC hAg (by omega)
                    clear g640 h651a h651b h651c h651d h651e h652 g656
                    refine T_ld 122 (.ref 189) rfl (fun _ => rfl) ?_
                    refine T_ld 124 (.int (i32 93)) rfl (fun _ => rfl) ?_
                    refine T_call 127 232 [.ref 189, .int (i32 93)] [] rfl (fun _ => rfl) rfl (c_need w (mO m [(7, y631), (8, y633), (9, y635), (10, 0), (11, y657), (12, y641), (28, (m.1 28)), (69, (m.1 69)), (70, (m.1 70)), (71, (m.1 71)), (72, (m.1 72)), (75, (m.1 75))] [(65, (m.2 65)), (66, (m.2 66)), (67, (m.2 67)), (68, (m.2 68))]) c N D (by omega) (Ty_mO hT rfl rfl ⟨g632, g634, g636, ⟨(by omega : (0 : Int) ≤ 0), (by omega : (0 : Int) ≤ 8)⟩, g658, g642, f28, f69, f70, f71, f72, f75, trivial⟩ ⟨(hT.2.1 65), (hT.2.1 66), (hT.2.1 67), (hT.2.1 68), trivial⟩) 93 ⟨by decide, by decide⟩ (show 1 ≤ 93 by omega) (show LxP y631 y633 y635 (m.1 6) 0 by first | exact hLx | (intro h9; exfalso; omega) | (intro h9; have h8 := hLx (by omega); omega))) (fun r664 k665 => ?_)
                    obtain ⟨y666, y668, y670, y672, y674, y676, g667, g669, g671, g673, g675, g677, h678, h679, h680, h681, rfl⟩ := k665
                    refine ⟨_, _, rfl, ?_⟩
                    refine T_nf (st' := []) (l' := [(7, y666), (8, y668), (9, y670), (10, y672), (11, y674), (12, y676), (28, (m.1 28)), (69, (m.1 69)), (70, (m.1 70)), (71, (m.1 71)), (72, (m.1 72)), (75, (m.1 75))]) (a' := [(65, (m.2 65)), (66, (m.2 66)), (67, (m.2 67)), (68, (m.2 68))]) rfl rfl rfl rfl rfl ?_
                    by_cases hf682 : y672 = 0
                    · skip
                      subst hf682
                      replace h678 : LxP y666 y668 y670 (m.1 6) 0 := h678
                      have hLx := h678
                      replace h679 : 0 = 0 ∧ y631 = 93 := h679 rfl
                      replace h680 : y633 ≤ y668 := h680
                      replace h681 : y633 + y635 ≤ y668 := h681 rfl
                      have u683 : (m.1 8) ≤ y668 := by omega
                      have hAgC : agr (m.2 65) (m.2 65) (m.1 28) := by first | exact agr_r _ _ | exact hAgC | exact agr_t hAgC hAg (by omega)
                      clear g632 g634 g636 g642 h643 u648 g658 u663 g673 h679 h680 h681
                      refine T_gf 131 (.int (i32 0)) rfl rfl rfl rfl rfl rfl ?_
                      refine T_if 135 134 rfl rfl rfl ⟨by decide, by decide⟩ (fun _ => ?_) (fun h684 => absurd (show (0 : Int) ≤ 0 by decide) h684)
                      refine T_gf 139 (.int (i32 (m.1 70))) rfl rfl rfl rfl rfl rfl ?_
                      refine T_sto 141 [(6, .int (i32 (m.1 70))), (4, .long (i64 y619)), (2, .long (i64 y578)), (1, .int (i32 y570)), (0, .ref 189)] rfl (fun _ => rfl) ?_
                      have hAr : ar 405 ≤ 1 + lh (m.2 79) (m.2 80) (m.1 73) := by rw [show ar 405 = 1 from rfl]; omega
                      have hCk : CNk 405 y619 := by refine ⟨?_, ?_, ?_, ?_⟩ <;> omega
                      refine T_ld 142 (.ref 189) rfl (fun _ => rfl) ?_
                      refine T_ld 145 (.int (i32 405)) rfl (fun _ => rfl) ?_
                      refine T_ld 146 (.long (i64 y578)) rfl (fun _ => rfl) ?_
                      refine T_ld 148 (.long (i64 y619)) rfl (fun _ => rfl) ?_
                      refine T_lsub 149 rfl rfl ?_
                      refine T_l2i 150 rfl rfl ?_
                      refine T_ld 151 (.int (i32 1)) rfl (fun _ => rfl) ?_
                      refine T_iadd 152 rfl rfl ?_
                      refine T_ld 154 (.long (i64 y619)) rfl (fun _ => rfl) ?_
                      refine T_l2i 155 rfl rfl ?_
                      refine T_ld 156 (.long (i64 0)) rfl (fun _ => rfl) ?_
                      refine T_call 159 248 [.ref 189, .int (i32 405), .int (i32 ((y578 - y619) + 1)), .int (i32 y619), .long (i64 0)] [] rfl (fun _ => rfl) rfl (c_node w (mO m [(7, y666), (8, y668), (9, y670), (10, 0), (11, y674), (12, y676), (28, (m.1 28)), (69, (m.1 69)), (70, (m.1 70)), (71, (m.1 71)), (72, (m.1 72)), (75, (m.1 75))] [(65, (m.2 65)), (66, (m.2 66)), (67, (m.2 67)), (68, (m.2 68))]) c N D (by omega) (Ty_mO hT rfl rfl ⟨g667, g669, g671, ⟨(by omega : (0 : Int) ≤ 0), (by omega : (0 : Int) ≤ 8)⟩, g675, g677, f28, f69, f70, f71, f72, f75, trivial⟩ ⟨(hT.2.1 65), (hT.2.1 66), (hT.2.1 67), (hT.2.1 68), trivial⟩) 405 ((y578 - y619) + 1) y619 0 ($B) (1 + lh (m.2 79) (m.2 80) (m.1 73)) ⟨by decide, by decide⟩ (r32 (by omega) (by omega)) (r32 (by omega) (by omega)) ⟨by decide, by decide⟩ (fun _ => ⟨(show 0 ≤ 405 ∧ 405 ≤ 408 by first | omega | decide), (show 0 ≤ ((y578 - y619) + 1) ∧ ((y578 - y619) + 1) ≤ 64 by first | omega | decide), (show 0 ≤ y619 ∧ y619 ≤ 191 by first | omega | decide), (show CNk 405 y619 by first | exact hCk | (refine ⟨?_, ?_, ?_, ?_⟩ <;> omega)), (show ar 405 ≤ (1 + lh (m.2 79) (m.2 80) (m.1 73)) by first | exact hAr | omega), (show EX (m.2 65) (m.2 67) ($B) (m.1 28) (1 + lh (m.2 79) (m.2 80) (m.1 73)) by first | exact hEX | assumption)⟩)) (fun r685 k686 => ?_)
                      obtain ⟨y687, y689, y691, F693, F695, F697, F699, g688, g690, g692, G694, G696, G698, G700, h701, c702, rfl⟩ := k686
                      refine ⟨_, _, rfl, ?_⟩
                      refine T_nf (st' := []) (l' := [(7, y666), (8, y668), (9, y670), (10, y687), (11, y689), (12, y676), (28, y691), (69, (m.1 69)), (70, (m.1 70)), (71, (m.1 71)), (72, (m.1 72)), (75, (m.1 75))]) (a' := [(65, F693), (66, F695), (67, F697), (68, F699)]) rfl rfl rfl rfl rfl ?_
                      by_cases hf703 : y687 = 0
                      · skip
                        subst hf703
                        replace h701 : 0 = 0 := h701 rfl
                        obtain ⟨c704, c705, c706⟩ := c702 rfl
                        replace c704 : y691 = (m.1 28) + 1 := c704
                        replace c705 : EX F693 F697 ($B) y691 ((1 + lh (m.2 79) (m.2 80) (m.1 73)) + 1 - ar 405) := c705
                        have hEX := c705
                        replace c706 : agr (m.2 65) F693 (m.1 28) := c706
                        have hAg := c706
                        have u707 : (m.1 8) ≤ y668 := by omega
                        have hAgC : agr (m.2 65) F693 (m.1 28) := by first | exact agr_r _ _ | exact hAgC | exact agr_t hAgC hAg (by omega)
                        clear g675 g688
                        refine T_ld 160 (.ref 189) rfl (fun _ => rfl) ?_
                        refine T_ld 161 (.long (i64 y578)) rfl (fun _ => rfl) ?_
                        refine T_ld 163 (.long (i64 y619)) rfl (fun _ => rfl) ?_
                        refine T_lsub 164 rfl rfl ?_
                        refine T_l2i 165 rfl rfl ?_
                        refine T_ld 166 (.int (i32 1)) rfl (fun _ => rfl) ?_
                        refine T_iadd 167 rfl rfl ?_
                        refine T_ld 169 (.int (i32 (m.1 70))) rfl (fun _ => rfl) ?_
                        refine T_call 172 250 [.ref 189, .int (i32 ((y578 - y619) + 1)), .int (i32 (m.1 70))] [] rfl (fun _ => rfl) rfl (c_unit w (mO m [(7, y666), (8, y668), (9, y670), (10, 0), (11, y689), (12, y676), (28, y691), (69, (m.1 69)), (70, (m.1 70)), (71, (m.1 71)), (72, (m.1 72)), (75, (m.1 75))] [(65, F693), (66, F695), (67, F697), (68, F699)]) c N D (by omega) (Ty_mO hT rfl rfl ⟨g667, g669, g671, ⟨(by omega : (0 : Int) ≤ 0), (by omega : (0 : Int) ≤ 8)⟩, g690, g677, g692, f69, f70, f71, f72, f75, trivial⟩ ⟨G694, G696, G698, G700, trivial⟩) ((y578 - y619) + 1) (m.1 70) (r32 (by omega) (by omega)) (r32 (by omega) (by omega)) (show 0 ≤ ((y578 - y619) + 1) ∧ ((y578 - y619) + 1) ≤ 1024 by omega) (show 0 ≤ (m.1 70) ∧ (m.1 70) ≤ 4000 by omega)) (fun r708 k709 => ?_)
                        obtain ⟨y710, y712, y714, y716, g711, g713, g715, g717, h718, rfl⟩ := k709
                        refine ⟨_, _, rfl, ?_⟩
                        refine T_nf (st' := []) (l' := [(7, y666), (8, y668), (9, y670), (10, 0), (11, y689), (12, y676), (28, y691), (69, y710), (70, y712), (71, y714), (72, y716), (75, (m.1 75))]) (a' := [(65, F693), (66, F695), (67, F697), (68, F699)]) rfl rfl rfl rfl rfl ?_
                        replace h718 : y710 = ((y578 - y619) + 1) := h718
                        have u719 : (m.1 8) ≤ y668 := by omega
                        have hAgC : agr (m.2 65) F693 (m.1 28) := by first | exact agr_r _ _ | exact hAgC | exact agr_t hAgC hAg (by omega)
                        have hXE : XS F693 F697 (m.2 76) (m.2 78) (m.2 79) (m.2 80) $B y691 (m.1 73) (m.1 74) 1 := XS_of hXS hEX (by rw [show ar 405 = 1 from rfl]; omega)
                        refine T_goto 224 rfl (fun _ => rfl) ?_
                        refine T_ret rfl (fun _ => rfl) ?_
                        exact ⟨y666, y668, y670, 0, y689, y676, y691, y710, y712, y714, y716, (m.1 75), F693, F695, F697, F699, g667, g669, g671, ⟨by omega, by omega⟩, g690, g677, g692, g711, g713, g715, g717, f75, G694, G696, G698, G700, (by omega), (by first | (first | exact hLx | (intro h9; exfalso; omega)) | (exfalso; omega)), (fun _ => ⟨(by omega), (by omega), (by omega), (by first | (exact hXE) | (exfalso; omega)), (by first | (exact hAgC) | (exfalso; omega))⟩), rfl⟩
                      · skip
                        clear c702
                        clear h701
                        have hf720 : 1 ≤ y687 := by omega
                        clear g675
                        refine Tm_lv (a := [(0, .ref 189), (1, .int (i32 y570)), (2, .long (i64 y578)), (4, .long (i64 y619)), (6, .int (i32 (m.1 70)))]) rfl rfl ⟨rfl, rfl, rfl, rfl, rfl, trivial⟩ ?_
                        exact J159_196 y570 y578 y619 y666 y668 y670 y687 y689 y676 y691 F693 F695 F697 F699 (r32 (by omega) (by omega)) (r64 (by omega) (by omega)) (r64 (by omega) (by omega)) g667 g669 g671 g688 g690 g677 g692 G694 G696 G698 G700 (by omega) (by omega) (by omega) (by omega)
                    · skip
                      replace h678 : LxP y666 y668 y670 (m.1 6) y672 := h678
                      have hLx := h678
                      clear h679
                      replace h680 : y633 ≤ y668 := h680
                      clear h681
                      have hf721 : 1 ≤ y672 := by omega
                      clear g632 g634 g636 g642 h643 u648 g658 u663 h680
                      refine Tm_lv (a := [(0, .ref 189), (1, .int (i32 y570)), (2, .long (i64 y578)), (4, .long (i64 y619))]) rfl rfl ⟨rfl, rfl, rfl, rfl, trivial⟩ ?_
                      exact J127_236 y570 y578 y619 y666 y668 y670 y672 y674 y676 (r32 (by omega) (by omega)) (r64 (by omega) (by omega)) (r64 (by omega) (by omega)) g667 g669 g671 g673 g675 g677 (by omega) (by omega) (by omega) (by omega)
                  · skip
                    clear c660
                    clear h659
                    have hf722 : 1 ≤ y655 := by omega
                    clear g640 h651a h651b h651c h651d h651e h652
                    refine Tm_lv (a := [(0, .ref 189), (1, .int (i32 y570)), (2, .long (i64 y578)), (4, .long (i64 y619))]) rfl rfl ⟨rfl, rfl, rfl, rfl, trivial⟩ ?_
                    exact J121_261 y570 y578 y619 y631 y633 y635 y655 y657 y641 (r32 (by omega) (by omega)) (r64 (by omega) (by omega)) (r64 (by omega) (by omega)) g632 g634 g636 g656 g658 g642 (by omega) (by omega) (by omega) (by omega)
                · skip
                  refine T_ld 90 (.long (i64 y619)) rfl (fun _ => rfl) ?_
                  refine T_ld 91 (.long (i64 0)) rfl (fun _ => rfl) ?_
                  refine T_lcmp 92 rfl rfl (r64 (by omega) (by omega)) ⟨by decide, by decide⟩ (fun z723 h724 => ?_)
                  obtain ⟨h724a, h724b, h724c, h724d, h724e⟩ := h724
                  refine T_if 116 95 rfl rfl rfl (r32 (by omega) (by omega)) (fun (h725 : z723 < 0) => ?_) (fun (h725 : ¬ (z723 < 0)) => ?_)
                  · skip
                    refine T_ld 117 (.int (i32 0)) rfl (fun _ => rfl) ?_
                    refine T_ld 118 (.int (i32 y570)) rfl (fun _ => rfl) ?_
                    refine T_call 121 256 [.ref 189, .int (i32 0), .int (i32 y570)] [] rfl (fun _ => rfl) rfl (c_want w (mO m [(7, y631), (8, y633), (9, y635), (10, 0), (11, y639), (12, y641), (28, (m.1 28)), (69, (m.1 69)), (70, (m.1 70)), (71, (m.1 71)), (72, (m.1 72)), (75, (m.1 75))] [(65, (m.2 65)), (66, (m.2 66)), (67, (m.2 67)), (68, (m.2 68))]) c N D (by omega) (Ty_mO hT rfl rfl ⟨g632, g634, g636, ⟨(by omega : (0 : Int) ≤ 0), (by omega : (0 : Int) ≤ 8)⟩, g640, g642, f28, f69, f70, f71, f72, f75, trivial⟩ ⟨(hT.2.1 65), (hT.2.1 66), (hT.2.1 67), (hT.2.1 68), trivial⟩) 0 y570 ⟨by decide, by decide⟩ (r32 (by omega) (by omega)) (show 0 ≤ y570 ∧ y570 ≤ 4000 by omega) (fun _ => trivial)) (fun r726 k727 => ?_)
                    obtain ⟨y728, y730, g729, g731, h732, c733, rfl⟩ := k727
                    refine ⟨_, _, rfl, ?_⟩
                    refine T_nf (st' := []) (l' := [(7, y631), (8, y633), (9, y635), (10, y728), (11, y730), (12, y641), (28, (m.1 28)), (69, (m.1 69)), (70, (m.1 70)), (71, (m.1 71)), (72, (m.1 72)), (75, (m.1 75))]) (a' := [(65, (m.2 65)), (66, (m.2 66)), (67, (m.2 67)), (68, (m.2 68))]) rfl rfl rfl rfl rfl ?_
                    by_cases hf734 : y728 = 0
                    · skip
                      subst hf734
                      replace h732 : 0 = 0 := h732 rfl
                      have c735 := c733 rfl
                      replace c735 : 0 ≠ 0 := c735
                      have u736 : (m.1 8) ≤ y633 := by omega
                      have hAgC : agr (m.2 65) (m.2 65) (m.1 28) := by first | exact agr_r _ _ | exact hAgC | exact agr_t hAgC hAg (by omega)
                      clear g640 h651a h651b h651c h651d h651e h652 h724a h724b h724c h724d h724e h725 g729
                      refine T_ld 122 (.ref 189) rfl (fun _ => rfl) ?_
                      refine T_ld 124 (.int (i32 93)) rfl (fun _ => rfl) ?_
                      refine T_call 127 232 [.ref 189, .int (i32 93)] [] rfl (fun _ => rfl) rfl (c_need w (mO m [(7, y631), (8, y633), (9, y635), (10, 0), (11, y730), (12, y641), (28, (m.1 28)), (69, (m.1 69)), (70, (m.1 70)), (71, (m.1 71)), (72, (m.1 72)), (75, (m.1 75))] [(65, (m.2 65)), (66, (m.2 66)), (67, (m.2 67)), (68, (m.2 68))]) c N D (by omega) (Ty_mO hT rfl rfl ⟨g632, g634, g636, ⟨(by omega : (0 : Int) ≤ 0), (by omega : (0 : Int) ≤ 8)⟩, g731, g642, f28, f69, f70, f71, f72, f75, trivial⟩ ⟨(hT.2.1 65), (hT.2.1 66), (hT.2.1 67), (hT.2.1 68), trivial⟩) 93 ⟨by decide, by decide⟩ (show 1 ≤ 93 by omega) (show LxP y631 y633 y635 (m.1 6) 0 by first | exact hLx | (intro h9; exfalso; omega) | (intro h9; have h8 := hLx (by omega); omega))) (fun r737 k738 => ?_)
                      obtain ⟨y739, y741, y743, y745, y747, y749, g740, g742, g744, g746, g748, g750, h751, h752, h753, h754, rfl⟩ := k738
                      refine ⟨_, _, rfl, ?_⟩
                      refine T_nf (st' := []) (l' := [(7, y739), (8, y741), (9, y743), (10, y745), (11, y747), (12, y749), (28, (m.1 28)), (69, (m.1 69)), (70, (m.1 70)), (71, (m.1 71)), (72, (m.1 72)), (75, (m.1 75))]) (a' := [(65, (m.2 65)), (66, (m.2 66)), (67, (m.2 67)), (68, (m.2 68))]) rfl rfl rfl rfl rfl ?_
                      by_cases hf755 : y745 = 0
                      · skip
                        subst hf755
                        replace h751 : LxP y739 y741 y743 (m.1 6) 0 := h751
                        have hLx := h751
                        replace h752 : 0 = 0 ∧ y631 = 93 := h752 rfl
                        replace h753 : y633 ≤ y741 := h753
                        replace h754 : y633 + y635 ≤ y741 := h754 rfl
                        have u756 : (m.1 8) ≤ y741 := by omega
                        have hAgC : agr (m.2 65) (m.2 65) (m.1 28) := by first | exact agr_r _ _ | exact hAgC | exact agr_t hAgC hAg (by omega)
                        clear g632 g634 g636 g642 h643 u648 g731 u736 g746 h752 h753 h754
                        refine T_gf 131 (.int (i32 0)) rfl rfl rfl rfl rfl rfl ?_
                        refine T_if 135 134 rfl rfl rfl ⟨by decide, by decide⟩ (fun _ => ?_) (fun h757 => absurd (show (0 : Int) ≤ 0 by decide) h757)
                        refine T_gf 139 (.int (i32 (m.1 70))) rfl rfl rfl rfl rfl rfl ?_
                        refine T_sto 141 [(6, .int (i32 (m.1 70))), (4, .long (i64 y619)), (2, .long (i64 y578)), (1, .int (i32 y570)), (0, .ref 189)] rfl (fun _ => rfl) ?_
                        have hAr : ar 405 ≤ 1 + lh (m.2 79) (m.2 80) (m.1 73) := by rw [show ar 405 = 1 from rfl]; omega
                        have hCk : CNk 405 y619 := by refine ⟨?_, ?_, ?_, ?_⟩ <;> omega
                        refine T_ld 142 (.ref 189) rfl (fun _ => rfl) ?_
                        refine T_ld 145 (.int (i32 405)) rfl (fun _ => rfl) ?_
                        refine T_ld 146 (.long (i64 y578)) rfl (fun _ => rfl) ?_
                        refine T_ld 148 (.long (i64 y619)) rfl (fun _ => rfl) ?_
                        refine T_lsub 149 rfl rfl ?_
                        refine T_l2i 150 rfl rfl ?_
                        refine T_ld 151 (.int (i32 1)) rfl (fun _ => rfl) ?_
                        refine T_iadd 152 rfl rfl ?_
                        refine T_ld 154 (.long (i64 y619)) rfl (fun _ => rfl) ?_
                        refine T_l2i 155 rfl rfl ?_
                        refine T_ld 156 (.long (i64 0)) rfl (fun _ => rfl) ?_
                        refine T_call 159 248 [.ref 189, .int (i32 405), .int (i32 ((y578 - y619) + 1)), .int (i32 y619), .long (i64 0)] [] rfl (fun _ => rfl) rfl (c_node w (mO m [(7, y739), (8, y741), (9, y743), (10, 0), (11, y747), (12, y749), (28, (m.1 28)), (69, (m.1 69)), (70, (m.1 70)), (71, (m.1 71)), (72, (m.1 72)), (75, (m.1 75))] [(65, (m.2 65)), (66, (m.2 66)), (67, (m.2 67)), (68, (m.2 68))]) c N D (by omega) (Ty_mO hT rfl rfl ⟨g740, g742, g744, ⟨(by omega : (0 : Int) ≤ 0), (by omega : (0 : Int) ≤ 8)⟩, g748, g750, f28, f69, f70, f71, f72, f75, trivial⟩ ⟨(hT.2.1 65), (hT.2.1 66), (hT.2.1 67), (hT.2.1 68), trivial⟩) 405 ((y578 - y619) + 1) y619 0 ($B) (1 + lh (m.2 79) (m.2 80) (m.1 73)) ⟨by decide, by decide⟩ (r32 (by omega) (by omega)) (r32 (by omega) (by omega)) ⟨by decide, by decide⟩ (fun _ => ⟨(show 0 ≤ 405 ∧ 405 ≤ 408 by first | omega | decide), (show 0 ≤ ((y578 - y619) + 1) ∧ ((y578 - y619) + 1) ≤ 64 by first | omega | decide), (show 0 ≤ y619 ∧ y619 ≤ 191 by first | omega | decide), (show CNk 405 y619 by first | exact hCk | (refine ⟨?_, ?_, ?_, ?_⟩ <;> omega)), (show ar 405 ≤ (1 + lh (m.2 79) (m.2 80) (m.1 73)) by first | exact hAr | omega), (show EX (m.2 65) (m.2 67) ($B) (m.1 28) (1 + lh (m.2 79) (m.2 80) (m.1 73)) by first | exact hEX | assumption)⟩)) (fun r758 k759 => ?_)
                        obtain ⟨y760, y762, y764, F766, F768, F770, F772, g761, g763, g765, G767, G769, G771, G773, h774, c775, rfl⟩ := k759
                        refine ⟨_, _, rfl, ?_⟩
                        refine T_nf (st' := []) (l' := [(7, y739), (8, y741), (9, y743), (10, y760), (11, y762), (12, y749), (28, y764), (69, (m.1 69)), (70, (m.1 70)), (71, (m.1 71)), (72, (m.1 72)), (75, (m.1 75))]) (a' := [(65, F766), (66, F768), (67, F770), (68, F772)]) rfl rfl rfl rfl rfl ?_
                        by_cases hf776 : y760 = 0
                        · skip
                          subst hf776
                          replace h774 : 0 = 0 := h774 rfl
                          obtain ⟨c777, c778, c779⟩ := c775 rfl
                          replace c777 : y764 = (m.1 28) + 1 := c777
                          replace c778 : EX F766 F770 ($B) y764 ((1 + lh (m.2 79) (m.2 80) (m.1 73)) + 1 - ar 405) := c778
                          have hEX := c778
                          replace c779 : agr (m.2 65) F766 (m.1 28) := c779
                          have hAg := c779
                          have u780 : (m.1 8) ≤ y741 := by omega
                          have hAgC : agr (m.2 65) F766 (m.1 28) := by first | exact agr_r _ _ | exact hAgC | exact agr_t hAgC hAg (by omega)
                          clear g748 g761
                          refine T_ld 160 (.ref 189) rfl (fun _ => rfl) ?_
                          refine T_ld 161 (.long (i64 y578)) rfl (fun _ => rfl) ?_
                          refine T_ld 163 (.long (i64 y619)) rfl (fun _ => rfl) ?_
                          refine T_lsub 164 rfl rfl ?_
                          refine T_l2i 165 rfl rfl ?_
                          refine T_ld 166 (.int (i32 1)) rfl (fun _ => rfl) ?_
                          refine T_iadd 167 rfl rfl ?_
                          refine T_ld 169 (.int (i32 (m.1 70))) rfl (fun _ => rfl) ?_
                          refine T_call 172 250 [.ref 189, .int (i32 ((y578 - y619) + 1)), .int (i32 (m.1 70))] [] rfl (fun _ => rfl) rfl (c_unit w (mO m [(7, y739), (8, y741), (9, y743), (10, 0), (11, y762), (12, y749), (28, y764), (69, (m.1 69)), (70, (m.1 70)), (71, (m.1 71)), (72, (m.1 72)), (75, (m.1 75))] [(65, F766), (66, F768), (67, F770), (68, F772)]) c N D (by omega) (Ty_mO hT rfl rfl ⟨g740, g742, g744, ⟨(by omega : (0 : Int) ≤ 0), (by omega : (0 : Int) ≤ 8)⟩, g763, g750, g765, f69, f70, f71, f72, f75, trivial⟩ ⟨G767, G769, G771, G773, trivial⟩) ((y578 - y619) + 1) (m.1 70) (r32 (by omega) (by omega)) (r32 (by omega) (by omega)) (show 0 ≤ ((y578 - y619) + 1) ∧ ((y578 - y619) + 1) ≤ 1024 by omega) (show 0 ≤ (m.1 70) ∧ (m.1 70) ≤ 4000 by omega)) (fun r781 k782 => ?_)
                          obtain ⟨y783, y785, y787, y789, g784, g786, g788, g790, h791, rfl⟩ := k782
                          refine ⟨_, _, rfl, ?_⟩
                          refine T_nf (st' := []) (l' := [(7, y739), (8, y741), (9, y743), (10, 0), (11, y762), (12, y749), (28, y764), (69, y783), (70, y785), (71, y787), (72, y789), (75, (m.1 75))]) (a' := [(65, F766), (66, F768), (67, F770), (68, F772)]) rfl rfl rfl rfl rfl ?_
                          replace h791 : y783 = ((y578 - y619) + 1) := h791
                          have u792 : (m.1 8) ≤ y741 := by omega
                          have hAgC : agr (m.2 65) F766 (m.1 28) := by first | exact agr_r _ _ | exact hAgC | exact agr_t hAgC hAg (by omega)
                          have hXE : XS F766 F770 (m.2 76) (m.2 78) (m.2 79) (m.2 80) $B y764 (m.1 73) (m.1 74) 1 := XS_of hXS hEX (by rw [show ar 405 = 1 from rfl]; omega)
                          refine T_goto 224 rfl (fun _ => rfl) ?_
                          refine T_ret rfl (fun _ => rfl) ?_
                          exact ⟨y739, y741, y743, 0, y762, y749, y764, y783, y785, y787, y789, (m.1 75), F766, F768, F770, F772, g740, g742, g744, ⟨by omega, by omega⟩, g763, g750, g765, g784, g786, g788, g790, f75, G767, G769, G771, G773, (by omega), (by first | (first | exact hLx | (intro h9; exfalso; omega)) | (exfalso; omega)), (fun _ => ⟨(by omega), (by omega), (by omega), (by first | (exact hXE) | (exfalso; omega)), (by first | (exact hAgC) | (exfalso; omega))⟩), rfl⟩
                        · skip
                          clear c775
                          clear h774
                          have hf793 : 1 ≤ y760 := by omega
                          clear g748
                          refine Tm_lv (a := [(0, .ref 189), (1, .int (i32 y570)), (2, .long (i64 y578)), (4, .long (i64 y619)), (6, .int (i32 (m.1 70)))]) rfl rfl ⟨rfl, rfl, rfl, rfl, rfl, trivial⟩ ?_
                          exact J159_196 y570 y578 y619 y739 y741 y743 y760 y762 y749 y764 F766 F768 F770 F772 (r32 (by omega) (by omega)) (r64 (by omega) (by omega)) (r64 (by omega) (by omega)) g740 g742 g744 g761 g763 g750 g765 G767 G769 G771 G773 (by omega) (by omega) (by omega) (by omega)
                      · skip
                        replace h751 : LxP y739 y741 y743 (m.1 6) y745 := h751
                        have hLx := h751
                        clear h752
                        replace h753 : y633 ≤ y741 := h753
                        clear h754
                        have hf794 : 1 ≤ y745 := by omega
                        clear g632 g634 g636 g642 h643 u648 g731 u736 h753
                        refine Tm_lv (a := [(0, .ref 189), (1, .int (i32 y570)), (2, .long (i64 y578)), (4, .long (i64 y619))]) rfl rfl ⟨rfl, rfl, rfl, rfl, trivial⟩ ?_
                        exact J127_236 y570 y578 y619 y739 y741 y743 y745 y747 y749 (r32 (by omega) (by omega)) (r64 (by omega) (by omega)) (r64 (by omega) (by omega)) g740 g742 g744 g746 g748 g750 (by omega) (by omega) (by omega) (by omega)
                    · skip
                      clear c733
                      clear h732
                      have hf795 : 1 ≤ y728 := by omega
                      clear g640 h651a h651b h651c h651d h651e h652 h724a h724b h724c h724d h724e h725
                      refine Tm_lv (a := [(0, .ref 189), (1, .int (i32 y570)), (2, .long (i64 y578)), (4, .long (i64 y619))]) rfl rfl ⟨rfl, rfl, rfl, rfl, trivial⟩ ?_
                      exact J121_261 y570 y578 y619 y631 y633 y635 y728 y730 y641 (r32 (by omega) (by omega)) (r64 (by omega) (by omega)) (r64 (by omega) (by omega)) g632 g634 g636 g729 g731 g642 (by omega) (by omega) (by omega) (by omega)
                  · skip
                    refine T_ld 97 (.long (i64 y619)) rfl (fun _ => rfl) ?_
                    refine T_ld 98 (.long (i64 y578)) rfl (fun _ => rfl) ?_
                    refine T_lcmp 99 rfl rfl (r64 (by omega) (by omega)) (r64 (by omega) (by omega)) (fun z796 h797 => ?_)
                    obtain ⟨h797a, h797b, h797c, h797d, h797e⟩ := h797
                    refine T_if 116 102 rfl rfl rfl (r32 (by omega) (by omega)) (fun (h798 : (0 : Int) < z796) => ?_) (fun (h798 : ¬ ((0 : Int) < z796)) => ?_)
                    · skip
                      refine T_ld 117 (.int (i32 0)) rfl (fun _ => rfl) ?_
                      refine T_ld 118 (.int (i32 y570)) rfl (fun _ => rfl) ?_
                      refine T_call 121 256 [.ref 189, .int (i32 0), .int (i32 y570)] [] rfl (fun _ => rfl) rfl (c_want w (mO m [(7, y631), (8, y633), (9, y635), (10, 0), (11, y639), (12, y641), (28, (m.1 28)), (69, (m.1 69)), (70, (m.1 70)), (71, (m.1 71)), (72, (m.1 72)), (75, (m.1 75))] [(65, (m.2 65)), (66, (m.2 66)), (67, (m.2 67)), (68, (m.2 68))]) c N D (by omega) (Ty_mO hT rfl rfl ⟨g632, g634, g636, ⟨(by omega : (0 : Int) ≤ 0), (by omega : (0 : Int) ≤ 8)⟩, g640, g642, f28, f69, f70, f71, f72, f75, trivial⟩ ⟨(hT.2.1 65), (hT.2.1 66), (hT.2.1 67), (hT.2.1 68), trivial⟩) 0 y570 ⟨by decide, by decide⟩ (r32 (by omega) (by omega)) (show 0 ≤ y570 ∧ y570 ≤ 4000 by omega) (fun _ => trivial)) (fun r799 k800 => ?_)
                      obtain ⟨y801, y803, g802, g804, h805, c806, rfl⟩ := k800
                      refine ⟨_, _, rfl, ?_⟩
                      refine T_nf (st' := []) (l' := [(7, y631), (8, y633), (9, y635), (10, y801), (11, y803), (12, y641), (28, (m.1 28)), (69, (m.1 69)), (70, (m.1 70)), (71, (m.1 71)), (72, (m.1 72)), (75, (m.1 75))]) (a' := [(65, (m.2 65)), (66, (m.2 66)), (67, (m.2 67)), (68, (m.2 68))]) rfl rfl rfl rfl rfl ?_
                      by_cases hf807 : y801 = 0
                      · skip
                        subst hf807
                        replace h805 : 0 = 0 := h805 rfl
                        have c808 := c806 rfl
                        replace c808 : 0 ≠ 0 := c808
                        have u809 : (m.1 8) ≤ y633 := by omega
                        have hAgC : agr (m.2 65) (m.2 65) (m.1 28) := by first | exact agr_r _ _ | exact hAgC | exact agr_t hAgC hAg (by omega)
                        clear g640 h651a h651b h651c h651d h651e h652 h724a h724b h724c h724d h724e h725 h797a h797b h797c h797d h797e h798 g802
                        refine T_ld 122 (.ref 189) rfl (fun _ => rfl) ?_
                        refine T_ld 124 (.int (i32 93)) rfl (fun _ => rfl) ?_
                        refine T_call 127 232 [.ref 189, .int (i32 93)] [] rfl (fun _ => rfl) rfl (c_need w (mO m [(7, y631), (8, y633), (9, y635), (10, 0), (11, y803), (12, y641), (28, (m.1 28)), (69, (m.1 69)), (70, (m.1 70)), (71, (m.1 71)), (72, (m.1 72)), (75, (m.1 75))] [(65, (m.2 65)), (66, (m.2 66)), (67, (m.2 67)), (68, (m.2 68))]) c N D (by omega) (Ty_mO hT rfl rfl ⟨g632, g634, g636, ⟨(by omega : (0 : Int) ≤ 0), (by omega : (0 : Int) ≤ 8)⟩, g804, g642, f28, f69, f70, f71, f72, f75, trivial⟩ ⟨(hT.2.1 65), (hT.2.1 66), (hT.2.1 67), (hT.2.1 68), trivial⟩) 93 ⟨by decide, by decide⟩ (show 1 ≤ 93 by omega) (show LxP y631 y633 y635 (m.1 6) 0 by first | exact hLx | (intro h9; exfalso; omega) | (intro h9; have h8 := hLx (by omega); omega))) (fun r810 k811 => ?_)
                        obtain ⟨y812, y814, y816, y818, y820, y822, g813, g815, g817, g819, g821, g823, h824, h825, h826, h827, rfl⟩ := k811
                        refine ⟨_, _, rfl, ?_⟩
                        refine T_nf (st' := []) (l' := [(7, y812), (8, y814), (9, y816), (10, y818), (11, y820), (12, y822), (28, (m.1 28)), (69, (m.1 69)), (70, (m.1 70)), (71, (m.1 71)), (72, (m.1 72)), (75, (m.1 75))]) (a' := [(65, (m.2 65)), (66, (m.2 66)), (67, (m.2 67)), (68, (m.2 68))]) rfl rfl rfl rfl rfl ?_
                        by_cases hf828 : y818 = 0
                        · skip
                          subst hf828
                          replace h824 : LxP y812 y814 y816 (m.1 6) 0 := h824
                          have hLx := h824
                          replace h825 : 0 = 0 ∧ y631 = 93 := h825 rfl
                          replace h826 : y633 ≤ y814 := h826
                          replace h827 : y633 + y635 ≤ y814 := h827 rfl
                          have u829 : (m.1 8) ≤ y814 := by omega
                          have hAgC : agr (m.2 65) (m.2 65) (m.1 28) := by first | exact agr_r _ _ | exact hAgC | exact agr_t hAgC hAg (by omega)
                          clear g632 g634 g636 g642 h643 u648 g804 u809 g819 h825 h826 h827
                          refine T_gf 131 (.int (i32 0)) rfl rfl rfl rfl rfl rfl ?_
                          refine T_if 135 134 rfl rfl rfl ⟨by decide, by decide⟩ (fun _ => ?_) (fun h830 => absurd (show (0 : Int) ≤ 0 by decide) h830)
                          refine T_gf 139 (.int (i32 (m.1 70))) rfl rfl rfl rfl rfl rfl ?_
                          refine T_sto 141 [(6, .int (i32 (m.1 70))), (4, .long (i64 y619)), (2, .long (i64 y578)), (1, .int (i32 y570)), (0, .ref 189)] rfl (fun _ => rfl) ?_
                          have hAr : ar 405 ≤ 1 + lh (m.2 79) (m.2 80) (m.1 73) := by rw [show ar 405 = 1 from rfl]; omega
                          have hCk : CNk 405 y619 := by refine ⟨?_, ?_, ?_, ?_⟩ <;> omega
                          refine T_ld 142 (.ref 189) rfl (fun _ => rfl) ?_
                          refine T_ld 145 (.int (i32 405)) rfl (fun _ => rfl) ?_
                          refine T_ld 146 (.long (i64 y578)) rfl (fun _ => rfl) ?_
                          refine T_ld 148 (.long (i64 y619)) rfl (fun _ => rfl) ?_
                          refine T_lsub 149 rfl rfl ?_
                          refine T_l2i 150 rfl rfl ?_
                          refine T_ld 151 (.int (i32 1)) rfl (fun _ => rfl) ?_
                          refine T_iadd 152 rfl rfl ?_
                          refine T_ld 154 (.long (i64 y619)) rfl (fun _ => rfl) ?_
                          refine T_l2i 155 rfl rfl ?_
                          refine T_ld 156 (.long (i64 0)) rfl (fun _ => rfl) ?_
                          refine T_call 159 248 [.ref 189, .int (i32 405), .int (i32 ((y578 - y619) + 1)), .int (i32 y619), .long (i64 0)] [] rfl (fun _ => rfl) rfl (c_node w (mO m [(7, y812), (8, y814), (9, y816), (10, 0), (11, y820), (12, y822), (28, (m.1 28)), (69, (m.1 69)), (70, (m.1 70)), (71, (m.1 71)), (72, (m.1 72)), (75, (m.1 75))] [(65, (m.2 65)), (66, (m.2 66)), (67, (m.2 67)), (68, (m.2 68))]) c N D (by omega) (Ty_mO hT rfl rfl ⟨g813, g815, g817, ⟨(by omega : (0 : Int) ≤ 0), (by omega : (0 : Int) ≤ 8)⟩, g821, g823, f28, f69, f70, f71, f72, f75, trivial⟩ ⟨(hT.2.1 65), (hT.2.1 66), (hT.2.1 67), (hT.2.1 68), trivial⟩) 405 ((y578 - y619) + 1) y619 0 ($B) (1 + lh (m.2 79) (m.2 80) (m.1 73)) ⟨by decide, by decide⟩ (r32 (by omega) (by omega)) (r32 (by omega) (by omega)) ⟨by decide, by decide⟩ (fun _ => ⟨(show 0 ≤ 405 ∧ 405 ≤ 408 by first | omega | decide), (show 0 ≤ ((y578 - y619) + 1) ∧ ((y578 - y619) + 1) ≤ 64 by first | omega | decide), (show 0 ≤ y619 ∧ y619 ≤ 191 by first | omega | decide), (show CNk 405 y619 by first | exact hCk | (refine ⟨?_, ?_, ?_, ?_⟩ <;> omega)), (show ar 405 ≤ (1 + lh (m.2 79) (m.2 80) (m.1 73)) by first | exact hAr | omega), (show EX (m.2 65) (m.2 67) ($B) (m.1 28) (1 + lh (m.2 79) (m.2 80) (m.1 73)) by first | exact hEX | assumption)⟩)) (fun r831 k832 => ?_)
                          obtain ⟨y833, y835, y837, F839, F841, F843, F845, g834, g836, g838, G840, G842, G844, G846, h847, c848, rfl⟩ := k832
                          refine ⟨_, _, rfl, ?_⟩
                          refine T_nf (st' := []) (l' := [(7, y812), (8, y814), (9, y816), (10, y833), (11, y835), (12, y822), (28, y837), (69, (m.1 69)), (70, (m.1 70)), (71, (m.1 71)), (72, (m.1 72)), (75, (m.1 75))]) (a' := [(65, F839), (66, F841), (67, F843), (68, F845)]) rfl rfl rfl rfl rfl ?_
                          by_cases hf849 : y833 = 0
                          · skip
                            subst hf849
                            replace h847 : 0 = 0 := h847 rfl
                            obtain ⟨c850, c851, c852⟩ := c848 rfl
                            replace c850 : y837 = (m.1 28) + 1 := c850
                            replace c851 : EX F839 F843 ($B) y837 ((1 + lh (m.2 79) (m.2 80) (m.1 73)) + 1 - ar 405) := c851
                            have hEX := c851
                            replace c852 : agr (m.2 65) F839 (m.1 28) := c852
                            have hAg := c852
                            have u853 : (m.1 8) ≤ y814 := by omega
                            have hAgC : agr (m.2 65) F839 (m.1 28) := by first | exact agr_r _ _ | exact hAgC | exact agr_t hAgC hAg (by omega)
                            clear g821 g834
                            refine T_ld 160 (.ref 189) rfl (fun _ => rfl) ?_
                            refine T_ld 161 (.long (i64 y578)) rfl (fun _ => rfl) ?_
                            refine T_ld 163 (.long (i64 y619)) rfl (fun _ => rfl) ?_
                            refine T_lsub 164 rfl rfl ?_
                            refine T_l2i 165 rfl rfl ?_
                            refine T_ld 166 (.int (i32 1)) rfl (fun _ => rfl) ?_
                            refine T_iadd 167 rfl rfl ?_
                            refine T_ld 169 (.int (i32 (m.1 70))) rfl (fun _ => rfl) ?_
                            refine T_call 172 250 [.ref 189, .int (i32 ((y578 - y619) + 1)), .int (i32 (m.1 70))] [] rfl (fun _ => rfl) rfl (c_unit w (mO m [(7, y812), (8, y814), (9, y816), (10, 0), (11, y835), (12, y822), (28, y837), (69, (m.1 69)), (70, (m.1 70)), (71, (m.1 71)), (72, (m.1 72)), (75, (m.1 75))] [(65, F839), (66, F841), (67, F843), (68, F845)]) c N D (by omega) (Ty_mO hT rfl rfl ⟨g813, g815, g817, ⟨(by omega : (0 : Int) ≤ 0), (by omega : (0 : Int) ≤ 8)⟩, g836, g823, g838, f69, f70, f71, f72, f75, trivial⟩ ⟨G840, G842, G844, G846, trivial⟩) ((y578 - y619) + 1) (m.1 70) (r32 (by omega) (by omega)) (r32 (by omega) (by omega)) (show 0 ≤ ((y578 - y619) + 1) ∧ ((y578 - y619) + 1) ≤ 1024 by omega) (show 0 ≤ (m.1 70) ∧ (m.1 70) ≤ 4000 by omega)) (fun r854 k855 => ?_)
                            obtain ⟨y856, y858, y860, y862, g857, g859, g861, g863, h864, rfl⟩ := k855
                            refine ⟨_, _, rfl, ?_⟩
                            refine T_nf (st' := []) (l' := [(7, y812), (8, y814), (9, y816), (10, 0), (11, y835), (12, y822), (28, y837), (69, y856), (70, y858), (71, y860), (72, y862), (75, (m.1 75))]) (a' := [(65, F839), (66, F841), (67, F843), (68, F845)]) rfl rfl rfl rfl rfl ?_
                            replace h864 : y856 = ((y578 - y619) + 1) := h864
                            have u865 : (m.1 8) ≤ y814 := by omega
                            have hAgC : agr (m.2 65) F839 (m.1 28) := by first | exact agr_r _ _ | exact hAgC | exact agr_t hAgC hAg (by omega)
                            have hXE : XS F839 F843 (m.2 76) (m.2 78) (m.2 79) (m.2 80) $B y837 (m.1 73) (m.1 74) 1 := XS_of hXS hEX (by rw [show ar 405 = 1 from rfl]; omega)
                            refine T_goto 224 rfl (fun _ => rfl) ?_
                            refine T_ret rfl (fun _ => rfl) ?_
                            exact ⟨y812, y814, y816, 0, y835, y822, y837, y856, y858, y860, y862, (m.1 75), F839, F841, F843, F845, g813, g815, g817, ⟨by omega, by omega⟩, g836, g823, g838, g857, g859, g861, g863, f75, G840, G842, G844, G846, (by omega), (by first | (first | exact hLx | (intro h9; exfalso; omega)) | (exfalso; omega)), (fun _ => ⟨(by omega), (by omega), (by omega), (by first | (exact hXE) | (exfalso; omega)), (by first | (exact hAgC) | (exfalso; omega))⟩), rfl⟩
                          · skip
                            clear c848
                            clear h847
                            have hf866 : 1 ≤ y833 := by omega
                            clear g821
                            refine Tm_lv (a := [(0, .ref 189), (1, .int (i32 y570)), (2, .long (i64 y578)), (4, .long (i64 y619)), (6, .int (i32 (m.1 70)))]) rfl rfl ⟨rfl, rfl, rfl, rfl, rfl, trivial⟩ ?_
                            exact J159_196 y570 y578 y619 y812 y814 y816 y833 y835 y822 y837 F839 F841 F843 F845 (r32 (by omega) (by omega)) (r64 (by omega) (by omega)) (r64 (by omega) (by omega)) g813 g815 g817 g834 g836 g823 g838 G840 G842 G844 G846 (by omega) (by omega) (by omega) (by omega)
                        · skip
                          replace h824 : LxP y812 y814 y816 (m.1 6) y818 := h824
                          have hLx := h824
                          clear h825
                          replace h826 : y633 ≤ y814 := h826
                          clear h827
                          have hf867 : 1 ≤ y818 := by omega
                          clear g632 g634 g636 g642 h643 u648 g804 u809 h826
                          refine Tm_lv (a := [(0, .ref 189), (1, .int (i32 y570)), (2, .long (i64 y578)), (4, .long (i64 y619))]) rfl rfl ⟨rfl, rfl, rfl, rfl, trivial⟩ ?_
                          exact J127_236 y570 y578 y619 y812 y814 y816 y818 y820 y822 (r32 (by omega) (by omega)) (r64 (by omega) (by omega)) (r64 (by omega) (by omega)) g813 g815 g817 g819 g821 g823 (by omega) (by omega) (by omega) (by omega)
                      · skip
                        clear c806
                        clear h805
                        have hf868 : 1 ≤ y801 := by omega
                        clear g640 h651a h651b h651c h651d h651e h652 h724a h724b h724c h724d h724e h725 h797a h797b h797c h797d h797e h798
                        refine Tm_lv (a := [(0, .ref 189), (1, .int (i32 y570)), (2, .long (i64 y578)), (4, .long (i64 y619))]) rfl rfl ⟨rfl, rfl, rfl, rfl, trivial⟩ ?_
                        exact J121_261 y570 y578 y619 y631 y633 y635 y801 y803 y641 (r32 (by omega) (by omega)) (r64 (by omega) (by omega)) (r64 (by omega) (by omega)) g632 g634 g636 g802 g804 g642 (by omega) (by omega) (by omega) (by omega)
                    · skip
                      refine T_ld 103 (.long (i64 y578)) rfl (fun _ => rfl) ?_
                      refine T_gf 107 (.int (i32 (m.1 69))) rfl rfl rfl rfl rfl rfl ?_
                      refine T_i2l 108 rfl rfl (r32 (by omega) (by omega)) ?_
                      refine T_lcmp 109 rfl rfl (r64 (by omega) (by omega)) (r64 (by omega) (by omega)) (fun z869 h870 => ?_)
                      obtain ⟨h870a, h870b, h870c, h870d, h870e⟩ := h870
                      refine T_if 116 112 rfl rfl rfl (r32 (by omega) (by omega)) (fun (h871 : (0 : Int) ≤ z869) => ?_) (fun (h871 : ¬ ((0 : Int) ≤ z869)) => ?_)
                      · skip
                        refine T_ld 117 (.int (i32 0)) rfl (fun _ => rfl) ?_
                        refine T_ld 118 (.int (i32 y570)) rfl (fun _ => rfl) ?_
                        refine T_call 121 256 [.ref 189, .int (i32 0), .int (i32 y570)] [] rfl (fun _ => rfl) rfl (c_want w (mO m [(7, y631), (8, y633), (9, y635), (10, 0), (11, y639), (12, y641), (28, (m.1 28)), (69, (m.1 69)), (70, (m.1 70)), (71, (m.1 71)), (72, (m.1 72)), (75, (m.1 75))] [(65, (m.2 65)), (66, (m.2 66)), (67, (m.2 67)), (68, (m.2 68))]) c N D (by omega) (Ty_mO hT rfl rfl ⟨g632, g634, g636, ⟨(by omega : (0 : Int) ≤ 0), (by omega : (0 : Int) ≤ 8)⟩, g640, g642, f28, f69, f70, f71, f72, f75, trivial⟩ ⟨(hT.2.1 65), (hT.2.1 66), (hT.2.1 67), (hT.2.1 68), trivial⟩) 0 y570 ⟨by decide, by decide⟩ (r32 (by omega) (by omega)) (show 0 ≤ y570 ∧ y570 ≤ 4000 by omega) (fun _ => trivial)) (fun r872 k873 => ?_)
                        obtain ⟨y874, y876, g875, g877, h878, c879, rfl⟩ := k873
                        refine ⟨_, _, rfl, ?_⟩
                        refine T_nf (st' := []) (l' := [(7, y631), (8, y633), (9, y635), (10, y874), (11, y876), (12, y641), (28, (m.1 28)), (69, (m.1 69)), (70, (m.1 70)), (71, (m.1 71)), (72, (m.1 72)), (75, (m.1 75))]) (a' := [(65, (m.2 65)), (66, (m.2 66)), (67, (m.2 67)), (68, (m.2 68))]) rfl rfl rfl rfl rfl ?_
                        by_cases hf880 : y874 = 0
                        · skip
                          subst hf880
                          replace h878 : 0 = 0 := h878 rfl
                          have c881 := c879 rfl
                          replace c881 : 0 ≠ 0 := c881
                          have u882 : (m.1 8) ≤ y633 := by omega
                          have hAgC : agr (m.2 65) (m.2 65) (m.1 28) := by first | exact agr_r _ _ | exact hAgC | exact agr_t hAgC hAg (by omega)
                          clear g640 h651a h651b h651c h651d h651e h652 h724a h724b h724c h724d h724e h725 h797a h797b h797c h797d h797e h798 h870a h870b h870c h870d h870e h871 g875
                          refine T_ld 122 (.ref 189) rfl (fun _ => rfl) ?_
                          refine T_ld 124 (.int (i32 93)) rfl (fun _ => rfl) ?_
                          refine T_call 127 232 [.ref 189, .int (i32 93)] [] rfl (fun _ => rfl) rfl (c_need w (mO m [(7, y631), (8, y633), (9, y635), (10, 0), (11, y876), (12, y641), (28, (m.1 28)), (69, (m.1 69)), (70, (m.1 70)), (71, (m.1 71)), (72, (m.1 72)), (75, (m.1 75))] [(65, (m.2 65)), (66, (m.2 66)), (67, (m.2 67)), (68, (m.2 68))]) c N D (by omega) (Ty_mO hT rfl rfl ⟨g632, g634, g636, ⟨(by omega : (0 : Int) ≤ 0), (by omega : (0 : Int) ≤ 8)⟩, g877, g642, f28, f69, f70, f71, f72, f75, trivial⟩ ⟨(hT.2.1 65), (hT.2.1 66), (hT.2.1 67), (hT.2.1 68), trivial⟩) 93 ⟨by decide, by decide⟩ (show 1 ≤ 93 by omega) (show LxP y631 y633 y635 (m.1 6) 0 by first | exact hLx | (intro h9; exfalso; omega) | (intro h9; have h8 := hLx (by omega); omega))) (fun r883 k884 => ?_)
                          obtain ⟨y885, y887, y889, y891, y893, y895, g886, g888, g890, g892, g894, g896, h897, h898, h899, h900, rfl⟩ := k884
                          refine ⟨_, _, rfl, ?_⟩
                          refine T_nf (st' := []) (l' := [(7, y885), (8, y887), (9, y889), (10, y891), (11, y893), (12, y895), (28, (m.1 28)), (69, (m.1 69)), (70, (m.1 70)), (71, (m.1 71)), (72, (m.1 72)), (75, (m.1 75))]) (a' := [(65, (m.2 65)), (66, (m.2 66)), (67, (m.2 67)), (68, (m.2 68))]) rfl rfl rfl rfl rfl ?_
                          by_cases hf901 : y891 = 0
                          · skip
                            subst hf901
                            replace h897 : LxP y885 y887 y889 (m.1 6) 0 := h897
                            have hLx := h897
                            replace h898 : 0 = 0 ∧ y631 = 93 := h898 rfl
                            replace h899 : y633 ≤ y887 := h899
                            replace h900 : y633 + y635 ≤ y887 := h900 rfl
                            have u902 : (m.1 8) ≤ y887 := by omega
                            have hAgC : agr (m.2 65) (m.2 65) (m.1 28) := by first | exact agr_r _ _ | exact hAgC | exact agr_t hAgC hAg (by omega)
                            clear g632 g634 g636 g642 h643 u648 g877 u882 g892 h898 h899 h900
                            refine T_gf 131 (.int (i32 0)) rfl rfl rfl rfl rfl rfl ?_
                            refine T_if 135 134 rfl rfl rfl ⟨by decide, by decide⟩ (fun _ => ?_) (fun h903 => absurd (show (0 : Int) ≤ 0 by decide) h903)
                            refine T_gf 139 (.int (i32 (m.1 70))) rfl rfl rfl rfl rfl rfl ?_
                            refine T_sto 141 [(6, .int (i32 (m.1 70))), (4, .long (i64 y619)), (2, .long (i64 y578)), (1, .int (i32 y570)), (0, .ref 189)] rfl (fun _ => rfl) ?_
                            have hAr : ar 405 ≤ 1 + lh (m.2 79) (m.2 80) (m.1 73) := by rw [show ar 405 = 1 from rfl]; omega
                            have hCk : CNk 405 y619 := by refine ⟨?_, ?_, ?_, ?_⟩ <;> omega
                            refine T_ld 142 (.ref 189) rfl (fun _ => rfl) ?_
                            refine T_ld 145 (.int (i32 405)) rfl (fun _ => rfl) ?_
                            refine T_ld 146 (.long (i64 y578)) rfl (fun _ => rfl) ?_
                            refine T_ld 148 (.long (i64 y619)) rfl (fun _ => rfl) ?_
                            refine T_lsub 149 rfl rfl ?_
                            refine T_l2i 150 rfl rfl ?_
                            refine T_ld 151 (.int (i32 1)) rfl (fun _ => rfl) ?_
                            refine T_iadd 152 rfl rfl ?_
                            refine T_ld 154 (.long (i64 y619)) rfl (fun _ => rfl) ?_
                            refine T_l2i 155 rfl rfl ?_
                            refine T_ld 156 (.long (i64 0)) rfl (fun _ => rfl) ?_
                            refine T_call 159 248 [.ref 189, .int (i32 405), .int (i32 ((y578 - y619) + 1)), .int (i32 y619), .long (i64 0)] [] rfl (fun _ => rfl) rfl (c_node w (mO m [(7, y885), (8, y887), (9, y889), (10, 0), (11, y893), (12, y895), (28, (m.1 28)), (69, (m.1 69)), (70, (m.1 70)), (71, (m.1 71)), (72, (m.1 72)), (75, (m.1 75))] [(65, (m.2 65)), (66, (m.2 66)), (67, (m.2 67)), (68, (m.2 68))]) c N D (by omega) (Ty_mO hT rfl rfl ⟨g886, g888, g890, ⟨(by omega : (0 : Int) ≤ 0), (by omega : (0 : Int) ≤ 8)⟩, g894, g896, f28, f69, f70, f71, f72, f75, trivial⟩ ⟨(hT.2.1 65), (hT.2.1 66), (hT.2.1 67), (hT.2.1 68), trivial⟩) 405 ((y578 - y619) + 1) y619 0 ($B) (1 + lh (m.2 79) (m.2 80) (m.1 73)) ⟨by decide, by decide⟩ (r32 (by omega) (by omega)) (r32 (by omega) (by omega)) ⟨by decide, by decide⟩ (fun _ => ⟨(show 0 ≤ 405 ∧ 405 ≤ 408 by first | omega | decide), (show 0 ≤ ((y578 - y619) + 1) ∧ ((y578 - y619) + 1) ≤ 64 by first | omega | decide), (show 0 ≤ y619 ∧ y619 ≤ 191 by first | omega | decide), (show CNk 405 y619 by first | exact hCk | (refine ⟨?_, ?_, ?_, ?_⟩ <;> omega)), (show ar 405 ≤ (1 + lh (m.2 79) (m.2 80) (m.1 73)) by first | exact hAr | omega), (show EX (m.2 65) (m.2 67) ($B) (m.1 28) (1 + lh (m.2 79) (m.2 80) (m.1 73)) by first | exact hEX | assumption)⟩)) (fun r904 k905 => ?_)
                            obtain ⟨y906, y908, y910, F912, F914, F916, F918, g907, g909, g911, G913, G915, G917, G919, h920, c921, rfl⟩ := k905
                            refine ⟨_, _, rfl, ?_⟩
                            refine T_nf (st' := []) (l' := [(7, y885), (8, y887), (9, y889), (10, y906), (11, y908), (12, y895), (28, y910), (69, (m.1 69)), (70, (m.1 70)), (71, (m.1 71)), (72, (m.1 72)), (75, (m.1 75))]) (a' := [(65, F912), (66, F914), (67, F916), (68, F918)]) rfl rfl rfl rfl rfl ?_
                            by_cases hf922 : y906 = 0
                            · skip
                              subst hf922
                              replace h920 : 0 = 0 := h920 rfl
                              obtain ⟨c923, c924, c925⟩ := c921 rfl
                              replace c923 : y910 = (m.1 28) + 1 := c923
                              replace c924 : EX F912 F916 ($B) y910 ((1 + lh (m.2 79) (m.2 80) (m.1 73)) + 1 - ar 405) := c924
                              have hEX := c924
                              replace c925 : agr (m.2 65) F912 (m.1 28) := c925
                              have hAg := c925
                              have u926 : (m.1 8) ≤ y887 := by omega
                              have hAgC : agr (m.2 65) F912 (m.1 28) := by first | exact agr_r _ _ | exact hAgC | exact agr_t hAgC hAg (by omega)
                              clear g894 g907
                              refine T_ld 160 (.ref 189) rfl (fun _ => rfl) ?_
                              refine T_ld 161 (.long (i64 y578)) rfl (fun _ => rfl) ?_
                              refine T_ld 163 (.long (i64 y619)) rfl (fun _ => rfl) ?_
                              refine T_lsub 164 rfl rfl ?_
                              refine T_l2i 165 rfl rfl ?_
                              refine T_ld 166 (.int (i32 1)) rfl (fun _ => rfl) ?_
                              refine T_iadd 167 rfl rfl ?_
                              refine T_ld 169 (.int (i32 (m.1 70))) rfl (fun _ => rfl) ?_
                              refine T_call 172 250 [.ref 189, .int (i32 ((y578 - y619) + 1)), .int (i32 (m.1 70))] [] rfl (fun _ => rfl) rfl (c_unit w (mO m [(7, y885), (8, y887), (9, y889), (10, 0), (11, y908), (12, y895), (28, y910), (69, (m.1 69)), (70, (m.1 70)), (71, (m.1 71)), (72, (m.1 72)), (75, (m.1 75))] [(65, F912), (66, F914), (67, F916), (68, F918)]) c N D (by omega) (Ty_mO hT rfl rfl ⟨g886, g888, g890, ⟨(by omega : (0 : Int) ≤ 0), (by omega : (0 : Int) ≤ 8)⟩, g909, g896, g911, f69, f70, f71, f72, f75, trivial⟩ ⟨G913, G915, G917, G919, trivial⟩) ((y578 - y619) + 1) (m.1 70) (r32 (by omega) (by omega)) (r32 (by omega) (by omega)) (show 0 ≤ ((y578 - y619) + 1) ∧ ((y578 - y619) + 1) ≤ 1024 by omega) (show 0 ≤ (m.1 70) ∧ (m.1 70) ≤ 4000 by omega)) (fun r927 k928 => ?_)
                              obtain ⟨y929, y931, y933, y935, g930, g932, g934, g936, h937, rfl⟩ := k928
                              refine ⟨_, _, rfl, ?_⟩
                              refine T_nf (st' := []) (l' := [(7, y885), (8, y887), (9, y889), (10, 0), (11, y908), (12, y895), (28, y910), (69, y929), (70, y931), (71, y933), (72, y935), (75, (m.1 75))]) (a' := [(65, F912), (66, F914), (67, F916), (68, F918)]) rfl rfl rfl rfl rfl ?_
                              replace h937 : y929 = ((y578 - y619) + 1) := h937
                              have u938 : (m.1 8) ≤ y887 := by omega
                              have hAgC : agr (m.2 65) F912 (m.1 28) := by first | exact agr_r _ _ | exact hAgC | exact agr_t hAgC hAg (by omega)
                              have hXE : XS F912 F916 (m.2 76) (m.2 78) (m.2 79) (m.2 80) $B y910 (m.1 73) (m.1 74) 1 := XS_of hXS hEX (by rw [show ar 405 = 1 from rfl]; omega)
                              refine T_goto 224 rfl (fun _ => rfl) ?_
                              refine T_ret rfl (fun _ => rfl) ?_
                              exact ⟨y885, y887, y889, 0, y908, y895, y910, y929, y931, y933, y935, (m.1 75), F912, F914, F916, F918, g886, g888, g890, ⟨by omega, by omega⟩, g909, g896, g911, g930, g932, g934, g936, f75, G913, G915, G917, G919, (by omega), (by first | (first | exact hLx | (intro h9; exfalso; omega)) | (exfalso; omega)), (fun _ => ⟨(by omega), (by omega), (by omega), (by first | (exact hXE) | (exfalso; omega)), (by first | (exact hAgC) | (exfalso; omega))⟩), rfl⟩
                            · skip
                              clear c921
                              clear h920
                              have hf939 : 1 ≤ y906 := by omega
                              clear g894
                              refine Tm_lv (a := [(0, .ref 189), (1, .int (i32 y570)), (2, .long (i64 y578)), (4, .long (i64 y619)), (6, .int (i32 (m.1 70)))]) rfl rfl ⟨rfl, rfl, rfl, rfl, rfl, trivial⟩ ?_
                              exact J159_196 y570 y578 y619 y885 y887 y889 y906 y908 y895 y910 F912 F914 F916 F918 (r32 (by omega) (by omega)) (r64 (by omega) (by omega)) (r64 (by omega) (by omega)) g886 g888 g890 g907 g909 g896 g911 G913 G915 G917 G919 (by omega) (by omega) (by omega) (by omega)
                          · skip
                            replace h897 : LxP y885 y887 y889 (m.1 6) y891 := h897
                            have hLx := h897
                            clear h898
                            replace h899 : y633 ≤ y887 := h899
                            clear h900
                            have hf940 : 1 ≤ y891 := by omega
                            clear g632 g634 g636 g642 h643 u648 g877 u882 h899
                            refine Tm_lv (a := [(0, .ref 189), (1, .int (i32 y570)), (2, .long (i64 y578)), (4, .long (i64 y619))]) rfl rfl ⟨rfl, rfl, rfl, rfl, trivial⟩ ?_
                            exact J127_236 y570 y578 y619 y885 y887 y889 y891 y893 y895 (r32 (by omega) (by omega)) (r64 (by omega) (by omega)) (r64 (by omega) (by omega)) g886 g888 g890 g892 g894 g896 (by omega) (by omega) (by omega) (by omega)
                        · skip
                          clear c879
                          clear h878
                          have hf941 : 1 ≤ y874 := by omega
                          clear g640 h651a h651b h651c h651d h651e h652 h724a h724b h724c h724d h724e h725 h797a h797b h797c h797d h797e h798 h870a h870b h870c h870d h870e h871
                          refine Tm_lv (a := [(0, .ref 189), (1, .int (i32 y570)), (2, .long (i64 y578)), (4, .long (i64 y619))]) rfl rfl ⟨rfl, rfl, rfl, rfl, trivial⟩ ?_
                          exact J121_261 y570 y578 y619 y631 y633 y635 y874 y876 y641 (r32 (by omega) (by omega)) (r64 (by omega) (by omega)) (r64 (by omega) (by omega)) g632 g634 g636 g875 g877 g642 (by omega) (by omega) (by omega) (by omega)
                      · skip
                        refine T_ld 113 (.int (i32 1)) rfl (fun _ => rfl) ?_
                        refine T_goto 117 rfl (fun _ => rfl) ?_
                        refine T_ld 118 (.int (i32 y570)) rfl (fun _ => rfl) ?_
                        refine T_call 121 256 [.ref 189, .int (i32 1), .int (i32 y570)] [] rfl (fun _ => rfl) rfl (c_want w (mO m [(7, y631), (8, y633), (9, y635), (10, 0), (11, y639), (12, y641), (28, (m.1 28)), (69, (m.1 69)), (70, (m.1 70)), (71, (m.1 71)), (72, (m.1 72)), (75, (m.1 75))] [(65, (m.2 65)), (66, (m.2 66)), (67, (m.2 67)), (68, (m.2 68))]) c N D (by omega) (Ty_mO hT rfl rfl ⟨g632, g634, g636, ⟨(by omega : (0 : Int) ≤ 0), (by omega : (0 : Int) ≤ 8)⟩, g640, g642, f28, f69, f70, f71, f72, f75, trivial⟩ ⟨(hT.2.1 65), (hT.2.1 66), (hT.2.1 67), (hT.2.1 68), trivial⟩) 1 y570 ⟨by decide, by decide⟩ (r32 (by omega) (by omega)) (show 0 ≤ y570 ∧ y570 ≤ 4000 by omega) (fun _ => trivial)) (fun r942 k943 => ?_)
                        obtain ⟨y944, y946, g945, g947, h948, c949, rfl⟩ := k943
                        refine ⟨_, _, rfl, ?_⟩
                        refine T_nf (st' := []) (l' := [(7, y631), (8, y633), (9, y635), (10, y944), (11, y946), (12, y641), (28, (m.1 28)), (69, (m.1 69)), (70, (m.1 70)), (71, (m.1 71)), (72, (m.1 72)), (75, (m.1 75))]) (a' := [(65, (m.2 65)), (66, (m.2 66)), (67, (m.2 67)), (68, (m.2 68))]) rfl rfl rfl rfl rfl ?_
                        by_cases hf950 : y944 = 0
                        · skip
                          subst hf950
                          replace h948 : 0 = 0 := h948 rfl
                          have c951 := c949 rfl
                          replace c951 : 1 ≠ 0 := c951
                          have u952 : (m.1 8) ≤ y633 := by omega
                          have hAgC : agr (m.2 65) (m.2 65) (m.1 28) := by first | exact agr_r _ _ | exact hAgC | exact agr_t hAgC hAg (by omega)
                          clear g640 h651a h651b h651c h651d h651e h652 h724a h724b h724c h724d h724e h725 h797a h797b h797c h797d h797e h798 h870a h870b h870c h870d h870e h871 g945
                          refine T_ld 122 (.ref 189) rfl (fun _ => rfl) ?_
                          refine T_ld 124 (.int (i32 93)) rfl (fun _ => rfl) ?_
                          refine T_call 127 232 [.ref 189, .int (i32 93)] [] rfl (fun _ => rfl) rfl (c_need w (mO m [(7, y631), (8, y633), (9, y635), (10, 0), (11, y946), (12, y641), (28, (m.1 28)), (69, (m.1 69)), (70, (m.1 70)), (71, (m.1 71)), (72, (m.1 72)), (75, (m.1 75))] [(65, (m.2 65)), (66, (m.2 66)), (67, (m.2 67)), (68, (m.2 68))]) c N D (by omega) (Ty_mO hT rfl rfl ⟨g632, g634, g636, ⟨(by omega : (0 : Int) ≤ 0), (by omega : (0 : Int) ≤ 8)⟩, g947, g642, f28, f69, f70, f71, f72, f75, trivial⟩ ⟨(hT.2.1 65), (hT.2.1 66), (hT.2.1 67), (hT.2.1 68), trivial⟩) 93 ⟨by decide, by decide⟩ (show 1 ≤ 93 by omega) (show LxP y631 y633 y635 (m.1 6) 0 by first | exact hLx | (intro h9; exfalso; omega) | (intro h9; have h8 := hLx (by omega); omega))) (fun r953 k954 => ?_)
                          obtain ⟨y955, y957, y959, y961, y963, y965, g956, g958, g960, g962, g964, g966, h967, h968, h969, h970, rfl⟩ := k954
                          refine ⟨_, _, rfl, ?_⟩
                          refine T_nf (st' := []) (l' := [(7, y955), (8, y957), (9, y959), (10, y961), (11, y963), (12, y965), (28, (m.1 28)), (69, (m.1 69)), (70, (m.1 70)), (71, (m.1 71)), (72, (m.1 72)), (75, (m.1 75))]) (a' := [(65, (m.2 65)), (66, (m.2 66)), (67, (m.2 67)), (68, (m.2 68))]) rfl rfl rfl rfl rfl ?_
                          by_cases hf971 : y961 = 0
                          · skip
                            subst hf971
                            replace h967 : LxP y955 y957 y959 (m.1 6) 0 := h967
                            have hLx := h967
                            replace h968 : 0 = 0 ∧ y631 = 93 := h968 rfl
                            replace h969 : y633 ≤ y957 := h969
                            replace h970 : y633 + y635 ≤ y957 := h970 rfl
                            have u972 : (m.1 8) ≤ y957 := by omega
                            have hAgC : agr (m.2 65) (m.2 65) (m.1 28) := by first | exact agr_r _ _ | exact hAgC | exact agr_t hAgC hAg (by omega)
                            clear g632 g634 g636 g642 h643 u648 g947 u952 g962 h968 h969 h970
                            refine T_gf 131 (.int (i32 0)) rfl rfl rfl rfl rfl rfl ?_
                            refine T_if 135 134 rfl rfl rfl ⟨by decide, by decide⟩ (fun _ => ?_) (fun h973 => absurd (show (0 : Int) ≤ 0 by decide) h973)
                            refine T_gf 139 (.int (i32 (m.1 70))) rfl rfl rfl rfl rfl rfl ?_
                            refine T_sto 141 [(6, .int (i32 (m.1 70))), (4, .long (i64 y619)), (2, .long (i64 y578)), (1, .int (i32 y570)), (0, .ref 189)] rfl (fun _ => rfl) ?_
                            have hAr : ar 405 ≤ 1 + lh (m.2 79) (m.2 80) (m.1 73) := by rw [show ar 405 = 1 from rfl]; omega
                            have hCk : CNk 405 y619 := by refine ⟨?_, ?_, ?_, ?_⟩ <;> omega
                            refine T_ld 142 (.ref 189) rfl (fun _ => rfl) ?_
                            refine T_ld 145 (.int (i32 405)) rfl (fun _ => rfl) ?_
                            refine T_ld 146 (.long (i64 y578)) rfl (fun _ => rfl) ?_
                            refine T_ld 148 (.long (i64 y619)) rfl (fun _ => rfl) ?_
                            refine T_lsub 149 rfl rfl ?_
                            refine T_l2i 150 rfl rfl ?_
                            refine T_ld 151 (.int (i32 1)) rfl (fun _ => rfl) ?_
                            refine T_iadd 152 rfl rfl ?_
                            refine T_ld 154 (.long (i64 y619)) rfl (fun _ => rfl) ?_
                            refine T_l2i 155 rfl rfl ?_
                            refine T_ld 156 (.long (i64 0)) rfl (fun _ => rfl) ?_
                            refine T_call 159 248 [.ref 189, .int (i32 405), .int (i32 ((y578 - y619) + 1)), .int (i32 y619), .long (i64 0)] [] rfl (fun _ => rfl) rfl (c_node w (mO m [(7, y955), (8, y957), (9, y959), (10, 0), (11, y963), (12, y965), (28, (m.1 28)), (69, (m.1 69)), (70, (m.1 70)), (71, (m.1 71)), (72, (m.1 72)), (75, (m.1 75))] [(65, (m.2 65)), (66, (m.2 66)), (67, (m.2 67)), (68, (m.2 68))]) c N D (by omega) (Ty_mO hT rfl rfl ⟨g956, g958, g960, ⟨(by omega : (0 : Int) ≤ 0), (by omega : (0 : Int) ≤ 8)⟩, g964, g966, f28, f69, f70, f71, f72, f75, trivial⟩ ⟨(hT.2.1 65), (hT.2.1 66), (hT.2.1 67), (hT.2.1 68), trivial⟩) 405 ((y578 - y619) + 1) y619 0 ($B) (1 + lh (m.2 79) (m.2 80) (m.1 73)) ⟨by decide, by decide⟩ (r32 (by omega) (by omega)) (r32 (by omega) (by omega)) ⟨by decide, by decide⟩ (fun _ => ⟨(show 0 ≤ 405 ∧ 405 ≤ 408 by first | omega | decide), (show 0 ≤ ((y578 - y619) + 1) ∧ ((y578 - y619) + 1) ≤ 64 by first | omega | decide), (show 0 ≤ y619 ∧ y619 ≤ 191 by first | omega | decide), (show CNk 405 y619 by first | exact hCk | (refine ⟨?_, ?_, ?_, ?_⟩ <;> omega)), (show ar 405 ≤ (1 + lh (m.2 79) (m.2 80) (m.1 73)) by first | exact hAr | omega), (show EX (m.2 65) (m.2 67) ($B) (m.1 28) (1 + lh (m.2 79) (m.2 80) (m.1 73)) by first | exact hEX | assumption)⟩)) (fun r974 k975 => ?_)
                            obtain ⟨y976, y978, y980, F982, F984, F986, F988, g977, g979, g981, G983, G985, G987, G989, h990, c991, rfl⟩ := k975
                            refine ⟨_, _, rfl, ?_⟩
                            refine T_nf (st' := []) (l' := [(7, y955), (8, y957), (9, y959), (10, y976), (11, y978), (12, y965), (28, y980), (69, (m.1 69)), (70, (m.1 70)), (71, (m.1 71)), (72, (m.1 72)), (75, (m.1 75))]) (a' := [(65, F982), (66, F984), (67, F986), (68, F988)]) rfl rfl rfl rfl rfl ?_
                            by_cases hf992 : y976 = 0
                            · skip
                              subst hf992
                              replace h990 : 0 = 0 := h990 rfl
                              obtain ⟨c993, c994, c995⟩ := c991 rfl
                              replace c993 : y980 = (m.1 28) + 1 := c993
                              replace c994 : EX F982 F986 ($B) y980 ((1 + lh (m.2 79) (m.2 80) (m.1 73)) + 1 - ar 405) := c994
                              have hEX := c994
                              replace c995 : agr (m.2 65) F982 (m.1 28) := c995
                              have hAg := c995
                              have u996 : (m.1 8) ≤ y957 := by omega
                              have hAgC : agr (m.2 65) F982 (m.1 28) := by first | exact agr_r _ _ | exact hAgC | exact agr_t hAgC hAg (by omega)
                              clear g964 g977
                              refine T_ld 160 (.ref 189) rfl (fun _ => rfl) ?_
                              refine T_ld 161 (.long (i64 y578)) rfl (fun _ => rfl) ?_
                              refine T_ld 163 (.long (i64 y619)) rfl (fun _ => rfl) ?_
                              refine T_lsub 164 rfl rfl ?_
                              refine T_l2i 165 rfl rfl ?_
                              refine T_ld 166 (.int (i32 1)) rfl (fun _ => rfl) ?_
                              refine T_iadd 167 rfl rfl ?_
                              refine T_ld 169 (.int (i32 (m.1 70))) rfl (fun _ => rfl) ?_
                              refine T_call 172 250 [.ref 189, .int (i32 ((y578 - y619) + 1)), .int (i32 (m.1 70))] [] rfl (fun _ => rfl) rfl (c_unit w (mO m [(7, y955), (8, y957), (9, y959), (10, 0), (11, y978), (12, y965), (28, y980), (69, (m.1 69)), (70, (m.1 70)), (71, (m.1 71)), (72, (m.1 72)), (75, (m.1 75))] [(65, F982), (66, F984), (67, F986), (68, F988)]) c N D (by omega) (Ty_mO hT rfl rfl ⟨g956, g958, g960, ⟨(by omega : (0 : Int) ≤ 0), (by omega : (0 : Int) ≤ 8)⟩, g979, g966, g981, f69, f70, f71, f72, f75, trivial⟩ ⟨G983, G985, G987, G989, trivial⟩) ((y578 - y619) + 1) (m.1 70) (r32 (by omega) (by omega)) (r32 (by omega) (by omega)) (show 0 ≤ ((y578 - y619) + 1) ∧ ((y578 - y619) + 1) ≤ 1024 by omega) (show 0 ≤ (m.1 70) ∧ (m.1 70) ≤ 4000 by omega)) (fun r997 k998 => ?_)
                              obtain ⟨y999, y1001, y1003, y1005, g1000, g1002, g1004, g1006, h1007, rfl⟩ := k998
                              refine ⟨_, _, rfl, ?_⟩
                              refine T_nf (st' := []) (l' := [(7, y955), (8, y957), (9, y959), (10, 0), (11, y978), (12, y965), (28, y980), (69, y999), (70, y1001), (71, y1003), (72, y1005), (75, (m.1 75))]) (a' := [(65, F982), (66, F984), (67, F986), (68, F988)]) rfl rfl rfl rfl rfl ?_
                              replace h1007 : y999 = ((y578 - y619) + 1) := h1007
                              have u1008 : (m.1 8) ≤ y957 := by omega
                              have hAgC : agr (m.2 65) F982 (m.1 28) := by first | exact agr_r _ _ | exact hAgC | exact agr_t hAgC hAg (by omega)
                              have hXE : XS F982 F986 (m.2 76) (m.2 78) (m.2 79) (m.2 80) $B y980 (m.1 73) (m.1 74) 1 := XS_of hXS hEX (by rw [show ar 405 = 1 from rfl]; omega)
                              refine T_goto 224 rfl (fun _ => rfl) ?_
                              refine T_ret rfl (fun _ => rfl) ?_
                              exact ⟨y955, y957, y959, 0, y978, y965, y980, y999, y1001, y1003, y1005, (m.1 75), F982, F984, F986, F988, g956, g958, g960, ⟨by omega, by omega⟩, g979, g966, g981, g1000, g1002, g1004, g1006, f75, G983, G985, G987, G989, (by omega), (by first | (first | exact hLx | (intro h9; exfalso; omega)) | (exfalso; omega)), (fun _ => ⟨(by omega), (by omega), (by omega), (by first | (exact hXE) | (exfalso; omega)), (by first | (exact hAgC) | (exfalso; omega))⟩), rfl⟩
                            · skip
                              clear c991
                              clear h990
                              have hf1009 : 1 ≤ y976 := by omega
                              clear g964
                              refine Tm_lv (a := [(0, .ref 189), (1, .int (i32 y570)), (2, .long (i64 y578)), (4, .long (i64 y619)), (6, .int (i32 (m.1 70)))]) rfl rfl ⟨rfl, rfl, rfl, rfl, rfl, trivial⟩ ?_
                              exact J159_196 y570 y578 y619 y955 y957 y959 y976 y978 y965 y980 F982 F984 F986 F988 (r32 (by omega) (by omega)) (r64 (by omega) (by omega)) (r64 (by omega) (by omega)) g956 g958 g960 g977 g979 g966 g981 G983 G985 G987 G989 (by omega) (by omega) (by omega) (by omega)
                          · skip
                            replace h967 : LxP y955 y957 y959 (m.1 6) y961 := h967
                            have hLx := h967
                            clear h968
                            replace h969 : y633 ≤ y957 := h969
                            clear h970
                            have hf1010 : 1 ≤ y961 := by omega
                            clear g632 g634 g636 g642 h643 u648 g947 u952 h969
                            refine Tm_lv (a := [(0, .ref 189), (1, .int (i32 y570)), (2, .long (i64 y578)), (4, .long (i64 y619))]) rfl rfl ⟨rfl, rfl, rfl, rfl, trivial⟩ ?_
                            exact J127_236 y570 y578 y619 y955 y957 y959 y961 y963 y965 (r32 (by omega) (by omega)) (r64 (by omega) (by omega)) (r64 (by omega) (by omega)) g956 g958 g960 g962 g964 g966 (by omega) (by omega) (by omega) (by omega)
                        · skip
                          clear c949
                          clear h948
                          have hf1011 : 1 ≤ y944 := by omega
                          clear g640 h651a h651b h651c h651d h651e h652 h724a h724b h724c h724d h724e h725 h797a h797b h797c h797d h797e h798 h870a h870b h870c h870d h870e h871
                          refine Tm_lv (a := [(0, .ref 189), (1, .int (i32 y570)), (2, .long (i64 y578)), (4, .long (i64 y619))]) rfl rfl ⟨rfl, rfl, rfl, rfl, trivial⟩ ?_
                          exact J121_261 y570 y578 y619 y631 y633 y635 y944 y946 y641 (r32 (by omega) (by omega)) (r64 (by omega) (by omega)) (r64 (by omega) (by omega)) g632 g634 g636 g945 g947 g642 (by omega) (by omega) (by omega) (by omega)
              · skip
                replace h643 : LxP y631 y633 y635 (m.1 6) y637 := h643
                have hLx := h643
                clear h644
                replace h645 : y611 ≤ y633 := h645
                clear h646
                have hf1012 : 1 ≤ y637 := by omega
                clear g610 g612 g614 g618 h621 u626 h628 h645
                refine Tm_lv (a := [(0, .ref 189), (1, .int (i32 y570)), (2, .long (i64 y578)), (4, .long (i64 y619))]) rfl rfl ⟨rfl, rfl, rfl, rfl, trivial⟩ ?_
                exact J74_304 y570 y578 y619 y631 y633 y635 y637 y639 y641 (r32 (by omega) (by omega)) (r64 (by omega) (by omega)) (r64 (by omega) (by omega)) g632 g634 g636 g638 g640 g642 (by omega) (by omega) (by omega) (by omega)
            · skip
              refine T_ld 61 (.ref 189) rfl (fun _ => rfl) ?_
              refine T_call 64 226 [.ref 189] [] rfl (fun _ => rfl) rfl (c_bad w (mO m [(7, y609), (8, y611), (9, y613), (10, 0), (11, y617), (12, y619), (28, (m.1 28)), (69, (m.1 69)), (70, (m.1 70)), (71, (m.1 71)), (72, (m.1 72)), (75, (m.1 75))] [(65, (m.2 65)), (66, (m.2 66)), (67, (m.2 67)), (68, (m.2 68))]) c N D (by omega) (Ty_mO hT rfl rfl ⟨g610, g612, g614, ⟨(by omega : (0 : Int) ≤ 0), (by omega : (0 : Int) ≤ 8)⟩, g618, g620, f28, f69, f70, f71, f72, f75, trivial⟩ ⟨(hT.2.1 65), (hT.2.1 66), (hT.2.1 67), (hT.2.1 68), trivial⟩) ) (fun r1013 k1014 => ?_)
              obtain ⟨y1015, y1017, g1016, g1018, h1019, rfl⟩ := k1014
              refine ⟨_, _, rfl, ?_⟩
              refine T_nf (st' := []) (l' := [(7, y609), (8, y611), (9, y613), (10, y1015), (11, y1017), (12, y619), (28, (m.1 28)), (69, (m.1 69)), (70, (m.1 70)), (71, (m.1 71)), (72, (m.1 72)), (75, (m.1 75))]) (a' := [(65, (m.2 65)), (66, (m.2 66)), (67, (m.2 67)), (68, (m.2 68))]) rfl rfl rfl rfl rfl ?_
              replace h1019 : (0 < 0 → y1015 = 0 ∧ y1017 = y617) ∧ (0 ≤ 0 → y1015 = 1 ∧ y1017 = y611) := h1019
              have hf1020 : 1 ≤ y1015 := by omega
              clear g618 h1019
              refine T_gf 68 (.long (i64 y619)) rfl rfl rfl rfl rfl rfl ?_
              refine T_sto 70 [(4, .long (i64 y619)), (2, .long (i64 y578)), (1, .int (i32 y570)), (0, .ref 189)] rfl (fun _ => rfl) ?_
              refine T_ld 71 (.ref 189) rfl (fun _ => rfl) ?_
              refine T_call 74 212 [.ref 189] [] rfl (fun _ => rfl) rfl (c_next w (mO m [(7, y609), (8, y611), (9, y613), (10, y1015), (11, y1017), (12, y619), (28, (m.1 28)), (69, (m.1 69)), (70, (m.1 70)), (71, (m.1 71)), (72, (m.1 72)), (75, (m.1 75))] [(65, (m.2 65)), (66, (m.2 66)), (67, (m.2 67)), (68, (m.2 68))]) c N D (by omega) (Ty_mO hT rfl rfl ⟨g610, g612, g614, g1016, g1018, g620, f28, f69, f70, f71, f72, f75, trivial⟩ ⟨(hT.2.1 65), (hT.2.1 66), (hT.2.1 67), (hT.2.1 68), trivial⟩) (show y1015 = 0 → y611 + y613 ≤ (m.1 6) by first | omega | (intro h9; have h8 := hLx h9; omega))) (fun r1021 k1022 => ?_)
              obtain ⟨y1023, y1025, y1027, y1029, y1031, y1033, g1024, g1026, g1028, g1030, g1032, g1034, h1035, h1036, h1037, h1038, rfl⟩ := k1022
              refine ⟨_, _, rfl, ?_⟩
              refine T_nf (st' := []) (l' := [(7, y1023), (8, y1025), (9, y1027), (10, y1029), (11, y1031), (12, y1033), (28, (m.1 28)), (69, (m.1 69)), (70, (m.1 70)), (71, (m.1 71)), (72, (m.1 72)), (75, (m.1 75))]) (a' := [(65, (m.2 65)), (66, (m.2 66)), (67, (m.2 67)), (68, (m.2 68))]) rfl rfl rfl rfl rfl ?_
              replace h1035 : LxP y1023 y1025 y1027 (m.1 6) y1029 := h1035
              replace h1036 : y1029 = 0 → y1015 = 0 := h1036
              replace h1037 : y611 ≤ y1025 := h1037
              replace h1038 : y1029 = 0 → y611 + y613 ≤ y1025 := h1038
              have hf1039 : 1 ≤ y1029 := by omega
              clear h1036
              clear h1038
              have hLx := h1035
              clear g610 g612 g614 h621 u626 h628 g1016 g1018 hf1020 h1037
              refine Tm_lv (a := [(0, .ref 189), (1, .int (i32 y570)), (2, .long (i64 y578)), (4, .long (i64 y619))]) rfl rfl ⟨rfl, rfl, rfl, rfl, trivial⟩ ?_
              exact J74_304 y570 y578 y619 y1023 y1025 y1027 y1029 y1031 y1033 (r32 (by omega) (by omega)) (r64 (by omega) (by omega)) (r64 (by omega) (by omega)) g1024 g1026 g1028 g1030 g1032 g1034 (by omega) (by omega) (by omega) (by omega)
          · skip
            replace h621 : LxP y609 y611 y613 (m.1 6) y615 := h621
            have hLx := h621
            clear h622
            replace h623 : y591 ≤ y611 := h623
            clear h624
            have hf1040 : 1 ≤ y615 := by omega
            clear g590 g592 g594 g598 g600 h601 h603 u606 h623
            refine Tm_lv (a := [(0, .ref 189), (1, .int (i32 y570)), (2, .long (i64 y578))]) rfl rfl ⟨rfl, rfl, rfl, trivial⟩ ?_
            exact J45_347 y570 y578 y609 y611 y613 y615 y617 y619 (r32 (by omega) (by omega)) (r64 (by omega) (by omega)) g610 g612 g614 g616 g618 g620 (by omega) (by omega) (by omega) (by omega)
        · skip
          replace h601 : LxP y589 y591 y593 (m.1 6) y595 := h601
          have hLx := h601
          clear h602
          replace h603 : y570 ≤ y591 := h603
          clear h604
          have hf1041 : 1 ≤ y595 := by omega
          clear g569 g573 g577 h580 h586
          refine Tm_lv (a := [(0, .ref 189), (1, .int (i32 y570)), (2, .long (i64 y578))]) rfl rfl ⟨rfl, rfl, rfl, trivial⟩ ?_
          exact J39_389 y570 y578 y589 y591 y593 y595 y597 y599 (r32 (by omega) (by omega)) (r64 (by omega) (by omega)) g590 g592 g594 g596 g598 g600 (by omega) (by omega) (by omega) (by omega)
      · skip
        refine T_ld 27 (.ref 189) rfl (fun _ => rfl) ?_
        refine T_call 30 226 [.ref 189] [] rfl (fun _ => rfl) rfl (c_bad w (mO m [(7, y568), (8, y570), (9, y572), (10, 0), (11, y576), (12, y578), (28, (m.1 28)), (69, (m.1 69)), (70, (m.1 70)), (71, (m.1 71)), (72, (m.1 72)), (75, (m.1 75))] [(65, (m.2 65)), (66, (m.2 66)), (67, (m.2 67)), (68, (m.2 68))]) c N D (by omega) (Ty_mO hT rfl rfl ⟨g569, g571, g573, ⟨(by omega : (0 : Int) ≤ 0), (by omega : (0 : Int) ≤ 8)⟩, g577, g579, f28, f69, f70, f71, f72, f75, trivial⟩ ⟨(hT.2.1 65), (hT.2.1 66), (hT.2.1 67), (hT.2.1 68), trivial⟩) ) (fun r1042 k1043 => ?_)
        obtain ⟨y1044, y1046, g1045, g1047, h1048, rfl⟩ := k1043
        refine ⟨_, _, rfl, ?_⟩
        refine T_nf (st' := []) (l' := [(7, y568), (8, y570), (9, y572), (10, y1044), (11, y1046), (12, y578), (28, (m.1 28)), (69, (m.1 69)), (70, (m.1 70)), (71, (m.1 71)), (72, (m.1 72)), (75, (m.1 75))]) (a' := [(65, (m.2 65)), (66, (m.2 66)), (67, (m.2 67)), (68, (m.2 68))]) rfl rfl rfl rfl rfl ?_
        replace h1048 : (0 < 0 → y1044 = 0 ∧ y1046 = y576) ∧ (0 ≤ 0 → y1044 = 1 ∧ y1046 = y570) := h1048
        have hf1049 : 1 ≤ y1044 := by omega
        clear g577 h1048
        refine Tm_lv (a := [(0, .ref 189), (1, .int (i32 y570))]) rfl rfl ⟨rfl, rfl, trivial⟩ ?_
        exact J30_429 y570 y568 y570 y572 y1044 y1046 y578 (r32 (by omega) (by omega)) g569 g571 g573 g1045 g1047 g579 (by omega) (by omega) (by omega) (by omega)
    · skip
      replace h580 : LxP y568 y570 y572 (m.1 6) y574 := h580
      have hLx := h580
      clear h581
      replace h582 : (m.1 8) ≤ y570 := h582
      clear h583
      have hf1050 : 1 ≤ y574 := by omega
      refine T_gf 17 (.int (i32 y570)) rfl rfl rfl rfl rfl rfl ?_
      refine T_sto 18 [(1, .int (i32 y570)), (0, .ref 189)] rfl (fun _ => rfl) ?_
      refine T_gf 22 (.int (i32 y568)) rfl rfl rfl rfl rfl rfl ?_
      refine T_ld 23 (.int (i32 2)) rfl (fun _ => rfl) ?_
      refine T_icmp 30 26 rfl rfl rfl (r32 (by omega) (by omega)) ⟨by decide, by decide⟩ (fun (h1051 : y568 = 2) => ?_) (fun (h1051 : ¬ (y568 = 2)) => ?_)
      · skip
        refine T_gf 34 (.long (i64 y578)) rfl rfl rfl rfl rfl rfl ?_
        refine T_sto 35 [(2, .long (i64 y578)), (1, .int (i32 y570)), (0, .ref 189)] rfl (fun _ => rfl) ?_
        refine T_ld 36 (.ref 189) rfl (fun _ => rfl) ?_
        refine T_call 39 212 [.ref 189] [] rfl (fun _ => rfl) rfl (c_next w (mO m [(7, y568), (8, y570), (9, y572), (10, y574), (11, y576), (12, y578), (28, (m.1 28)), (69, (m.1 69)), (70, (m.1 70)), (71, (m.1 71)), (72, (m.1 72)), (75, (m.1 75))] [(65, (m.2 65)), (66, (m.2 66)), (67, (m.2 67)), (68, (m.2 68))]) c N D (by omega) (Ty_mO hT rfl rfl ⟨g569, g571, g573, g575, g577, g579, f28, f69, f70, f71, f72, f75, trivial⟩ ⟨(hT.2.1 65), (hT.2.1 66), (hT.2.1 67), (hT.2.1 68), trivial⟩) (show y574 = 0 → y570 + y572 ≤ (m.1 6) by first | omega | (intro h9; have h8 := hLx h9; omega))) (fun r1052 k1053 => ?_)
        obtain ⟨y1054, y1056, y1058, y1060, y1062, y1064, g1055, g1057, g1059, g1061, g1063, g1065, h1066, h1067, h1068, h1069, rfl⟩ := k1053
        refine ⟨_, _, rfl, ?_⟩
        refine T_nf (st' := []) (l' := [(7, y1054), (8, y1056), (9, y1058), (10, y1060), (11, y1062), (12, y1064), (28, (m.1 28)), (69, (m.1 69)), (70, (m.1 70)), (71, (m.1 71)), (72, (m.1 72)), (75, (m.1 75))]) (a' := [(65, (m.2 65)), (66, (m.2 66)), (67, (m.2 67)), (68, (m.2 68))]) rfl rfl rfl rfl rfl ?_
        replace h1066 : LxP y1054 y1056 y1058 (m.1 6) y1060 := h1066
        replace h1067 : y1060 = 0 → y574 = 0 := h1067
        replace h1068 : y570 ≤ y1056 := h1068
        replace h1069 : y1060 = 0 → y570 + y572 ≤ y1056 := h1069
        have hf1070 : 1 ≤ y1060 := by omega
        clear h1067
        clear h1069
        have hLx := h1066
        clear g569 g573 g575 g577 h580 hf1050 h1051
        refine Tm_lv (a := [(0, .ref 189), (1, .int (i32 y570)), (2, .long (i64 y578))]) rfl rfl ⟨rfl, rfl, rfl, trivial⟩ ?_
        exact J39_389 y570 y578 y1054 y1056 y1058 y1060 y1062 y1064 (r32 (by omega) (by omega)) (r64 (by omega) (by omega)) g1055 g1057 g1059 g1061 g1063 g1065 (by omega) (by omega) (by omega) (by omega)
      · skip
        refine T_ld 27 (.ref 189) rfl (fun _ => rfl) ?_
        refine T_call 30 226 [.ref 189] [] rfl (fun _ => rfl) rfl (c_bad w (mO m [(7, y568), (8, y570), (9, y572), (10, y574), (11, y576), (12, y578), (28, (m.1 28)), (69, (m.1 69)), (70, (m.1 70)), (71, (m.1 71)), (72, (m.1 72)), (75, (m.1 75))] [(65, (m.2 65)), (66, (m.2 66)), (67, (m.2 67)), (68, (m.2 68))]) c N D (by omega) (Ty_mO hT rfl rfl ⟨g569, g571, g573, g575, g577, g579, f28, f69, f70, f71, f72, f75, trivial⟩ ⟨(hT.2.1 65), (hT.2.1 66), (hT.2.1 67), (hT.2.1 68), trivial⟩) ) (fun r1071 k1072 => ?_)
        obtain ⟨y1073, y1075, g1074, g1076, h1077, rfl⟩ := k1072
        refine ⟨_, _, rfl, ?_⟩
        refine T_nf (st' := []) (l' := [(7, y568), (8, y570), (9, y572), (10, y1073), (11, y1075), (12, y578), (28, (m.1 28)), (69, (m.1 69)), (70, (m.1 70)), (71, (m.1 71)), (72, (m.1 72)), (75, (m.1 75))]) (a' := [(65, (m.2 65)), (66, (m.2 66)), (67, (m.2 67)), (68, (m.2 68))]) rfl rfl rfl rfl rfl ?_
        replace h1077 : (0 < y574 → y1073 = y574 ∧ y1075 = y576) ∧ (y574 ≤ 0 → y1073 = 1 ∧ y1075 = y570) := h1077
        have hf1078 : 1 ≤ y1073 := by omega
        clear g575 g577 h580 hf1050 h1077
        refine Tm_lv (a := [(0, .ref 189), (1, .int (i32 y570))]) rfl rfl ⟨rfl, rfl, trivial⟩ ?_
        exact J30_429 y570 y568 y570 y572 y1073 y1075 y578 (r32 (by omega) (by omega)) g569 g571 g573 g1074 g1076 g579 (by omega) (by omega) (by omega) (by omega)
def Q_level (m : mR) (c : Nat → Option am_C) (N : Nat) (x : Int) : ag_Re af_T → Prop := fun R => ∃ (r : Int), ((-1) ≤ r ∧ r ≤ 8) ∧ (0 ≤ r → 4 ≤ x ∧ x ≤ 124) ∧ R = (.inl (some (.int (i32 r))), (mhp (mO m [] []) c, N), 0, 0)
set_option maxHeartbeats 8000000 in
theorem c_level (w : wX) (m : mR) (c : Nat → Option am_C) (N D : Nat) (hD : 1 ≤ D) (hT : Ty m) (x : Int) (qx : R32 x) : TC w D 259 [.int (i32 x)] (mhp m c, N) (Q_level m c N x) := by
  obtain ⟨D, rfl⟩ : ∃ k, D = k + 1 := ⟨D - 1, by omega⟩
  obtain ⟨qxa, qxb⟩ := id qx
  refine Tc_of rfl ?_
  show TT w D pm_259 (0, [(0, .int (i32 x))], [], (mhp m c, N), 0, 0) (Q_level m c N x)
  rw [show (mhp m c, N) = (mhp (mO m [] []) c, N) from rfl]
  refine T_ld 1 (.int (i32 x)) rfl (fun _ => rfl) ?_
  have T144_1 : TT w D pm_259 (144, [(0, .int (i32 x))], [], (mhp (mO m [] []) c, N), 0, 0) (Q_level m c N x) := by
    refine T_ld 145 (.int (i32 2)) rfl (fun _ => rfl) ?_
    refine T_ret rfl (fun _ => rfl) ?_
    exact ⟨2, ⟨by omega, by omega⟩, (by omega), rfl⟩
  have T152_2 : TT w D pm_259 (152, [(0, .int (i32 x))], [], (mhp (mO m [] []) c, N), 0, 0) (Q_level m c N x) := by
    refine T_ld 154 (.int (i32 6)) rfl (fun _ => rfl) ?_
    refine T_ret rfl (fun _ => rfl) ?_
    exact ⟨6, ⟨by omega, by omega⟩, (by omega), rfl⟩
  have T155_3 : TT w D pm_259 (155, [(0, .int (i32 x))], [], (mhp (mO m [] []) c, N), 0, 0) (Q_level m c N x) := by
    refine T_ld 157 (.int (i32 7)) rfl (fun _ => rfl) ?_
    refine T_ret rfl (fun _ => rfl) ?_
    exact ⟨7, ⟨by omega, by omega⟩, (by omega), rfl⟩
  by_cases h4 : x = 4
  · skip
    refine T_cast 4 h4 ?_
    refine T_pop 144 rfl (fun _ => rfl) ?_
    exact T144_1
  by_cases h5 : x = 5
  · skip
    refine T_cast 5 h5 ?_
    refine T_pop 144 rfl (fun _ => rfl) ?_
    exact T144_1
  by_cases h6 : x = 6
  · skip
    refine T_cast 6 h6 ?_
    refine T_pop 144 rfl (fun _ => rfl) ?_
    exact T144_1
  by_cases h7 : x = 7
  · skip
    refine T_cast 7 h7 ?_
    refine T_pop 144 rfl (fun _ => rfl) ?_
    exact T144_1
  by_cases h8 : x = 8
  · skip
    refine T_cast 8 h8 ?_
    refine T_pop 158 rfl (fun _ => rfl) ?_
    refine T_ld 160 (.int (i32 8)) rfl (fun _ => rfl) ?_
    refine T_ret rfl (fun _ => rfl) ?_
    exact ⟨8, ⟨by omega, by omega⟩, (by omega), rfl⟩
  by_cases h9 : x = 9
  · skip
    refine T_cast 9 h9 ?_
    refine T_pop 142 rfl (fun _ => rfl) ?_
    refine T_ld 143 (.int (i32 1)) rfl (fun _ => rfl) ?_
    refine T_ret rfl (fun _ => rfl) ?_
    exact ⟨1, ⟨by omega, by omega⟩, (by omega), rfl⟩
  by_cases h10 : x = 10
  · skip
    refine T_cast 10 h10 ?_
    refine T_pop 140 rfl (fun _ => rfl) ?_
    refine T_ld 141 (.int (i32 0)) rfl (fun _ => rfl) ?_
    refine T_ret rfl (fun _ => rfl) ?_
    exact ⟨0, ⟨by omega, by omega⟩, (by omega), rfl⟩
  by_cases h11 : x = 11
  · skip
    refine T_cast 11 h11 ?_
    refine T_pop 152 rfl (fun _ => rfl) ?_
    exact T152_2
  by_cases h12 : x = 12
  · skip
    refine T_cast 12 h12 ?_
    refine T_pop 152 rfl (fun _ => rfl) ?_
    exact T152_2
  by_cases h13 : x = 38
  · skip
    refine T_cast 38 h13 ?_
    refine T_pop 150 rfl (fun _ => rfl) ?_
    refine T_ld 151 (.int (i32 5)) rfl (fun _ => rfl) ?_
    refine T_ret rfl (fun _ => rfl) ?_
    exact ⟨5, ⟨by omega, by omega⟩, (by omega), rfl⟩
  by_cases h14 : x = 43
  · skip
    refine T_cast 43 h14 ?_
    refine T_pop 155 rfl (fun _ => rfl) ?_
    exact T155_3
  by_cases h15 : x = 45
  · skip
    refine T_cast 45 h15 ?_
    refine T_pop 155 rfl (fun _ => rfl) ?_
    exact T155_3
  by_cases h16 : x = 60
  · skip
    refine T_cast 60 h16 ?_
    refine T_pop 144 rfl (fun _ => rfl) ?_
    exact T144_1
  by_cases h17 : x = 62
  · skip
    refine T_cast 62 h17 ?_
    refine T_pop 144 rfl (fun _ => rfl) ?_
    exact T144_1
  by_cases h18 : x = 94
  · skip
    refine T_cast 94 h18 ?_
    refine T_pop 148 rfl (fun _ => rfl) ?_
    refine T_ld 149 (.int (i32 4)) rfl (fun _ => rfl) ?_
    refine T_ret rfl (fun _ => rfl) ?_
    exact ⟨4, ⟨by omega, by omega⟩, (by omega), rfl⟩
  by_cases h19 : x = 124
  · skip
    refine T_cast 124 h19 ?_
    refine T_pop 146 rfl (fun _ => rfl) ?_
    refine T_ld 147 (.int (i32 3)) rfl (fun _ => rfl) ?_
    refine T_ret rfl (fun _ => rfl) ?_
    exact ⟨3, ⟨by omega, by omega⟩, (by omega), rfl⟩
  refine T_lkd 161 rfl rfl (r32 (by omega) (by omega)) (by simp [Op.lookupswitch.offset, h4, h5, h6, h7, h8, h9, h10, h11, h12, h13, h14, h15, h16, h17, h18, h19]) ?_
  refine T_ld 162 (.int (i32 (-1))) rfl (fun _ => rfl) ?_
  refine T_ret rfl (fun _ => rfl) ?_
  exact ⟨(-1), ⟨by omega, by omega⟩, (by omega), rfl⟩
def Q_join (m : mR) (c : Nat → Option am_C) (N : Nat) (w : Int) (B : Int) : ag_Re af_T → Prop := fun R => ∃ (y10 : Int) (y11 : Int) (y28 : Int) (y69 : Int) (y70 : Int) (y71 : Int) (y72 : Int) (F65 : Int → Int) (F66 : Int → Int) (F67 : Int → Int) (F68 : Int → Int) (F80 : Int → Int), (0 ≤ y10 ∧ y10 ≤ 8) ∧ ((-1) ≤ y11 ∧ y11 ≤ 4000) ∧ (0 ≤ y28 ∧ y28 ≤ 800) ∧ (0 ≤ y69 ∧ y69 ≤ 1024) ∧ (0 ≤ y70 ∧ y70 ≤ 4000) ∧ (0 ≤ y71 ∧ y71 ≤ 1) ∧ ((-9223372036854775808) ≤ y72 ∧ y72 ≤ 9223372036854775807) ∧ (∀ j, 0 ≤ F65 j ∧ F65 j ≤ 408) ∧ (∀ j, 0 ≤ F66 j ∧ F66 j ≤ 64) ∧ (∀ j, 0 ≤ F67 j ∧ F67 j ≤ 191) ∧ (∀ j, (-9223372036854775808) ≤ F68 j ∧ F68 j ≤ 9223372036854775807) ∧ (∀ j, (-1) ≤ F80 j ∧ F80 j ≤ 330) ∧ (y10 = 0 → (m.1 10) = 0) ∧ (y69 ≤ (m.1 69) + 64) ∧ (y10 = 0 → (y69 ≤ 64) ∧ (y28 = (m.1 28) + 1) ∧ (XS F65 F67 (m.2 76) (m.2 78) (m.2 79) F80 B y28 (m.1 73) (m.1 74) 1) ∧ (agr (m.2 65) F65 (m.1 28)) ∧ (F80 = upI (m.2 80) w (-1))) ∧ R = (.inl (none), (mhp (mO m [(10, y10), (11, y11), (28, y28), (69, y69), (70, y70), (71, y71), (72, y72)] [(65, F65), (66, F66), (67, F67), (68, F68), (80, F80)]) c, N), 0, 0)
set_option maxHeartbeats 8000000 in
theorem c_join (w : wX) (m : mR) (c : Nat → Option am_C) (N D : Nat) (hD : 4 ≤ D) (hT : Ty m) (w : Int) (B : Int) (qw : R32 w) (p0 : 0 ≤ w ∧ w ≤ 539) (p1 : (m.1 69) ≤ 900) (hC : m.1 10 = 0 → (XS (m.2 65) (m.2 67) (m.2 76) (m.2 78) (m.2 79) (m.2 80) B (m.1 28) (m.1 73) (m.1 74) 1) ∧ ((m.1 69) ≤ 64) ∧ (1 ≤ (m.1 73)) ∧ (9 * ((m.1 73) - 1) ≤ w ∧ w < 9 * (m.1 73)) ∧ (0 ≤ (m.2 80) w)) : TC w D 260 [.ref 189, .int (i32 w)] (mhp m c, N) (Q_join m c N w B) := by
  obtain ⟨D, rfl⟩ : ∃ k, D = k + 1 := ⟨D - 1, by omega⟩
  obtain ⟨qwa, qwb⟩ := id qw
  have f10 : 0 ≤ m.1 10 ∧ m.1 10 ≤ 8 := hT.1 10
  have f11 : (-1) ≤ m.1 11 ∧ m.1 11 ≤ 4000 := hT.1 11
  have f28 : 0 ≤ m.1 28 ∧ m.1 28 ≤ 800 := hT.1 28
  have f69 : 0 ≤ m.1 69 ∧ m.1 69 ≤ 1024 := hT.1 69
  have f70 : 0 ≤ m.1 70 ∧ m.1 70 ≤ 4000 := hT.1 70
  have f71 : 0 ≤ m.1 71 ∧ m.1 71 ≤ 1 := hT.1 71
  have f72 : (-9223372036854775808) ≤ m.1 72 ∧ m.1 72 ≤ 9223372036854775807 := hT.1 72
  have f74 : 0 ≤ m.1 74 ∧ m.1 74 ≤ 24 := hT.1 74
  have f73 : 0 ≤ m.1 73 ∧ m.1 73 ≤ 60 := hT.1 73
  refine Tc_of rfl ?_
  show TT w D pm_260 (0, [(0, .ref 189), (1, .int (i32 w))], [], (mhp m c, N), 0, 0) (Q_join m c N w B)
  rw [show (mhp m c, N) = (mhp (mO m [(10, (m.1 10)), (11, (m.1 11)), (28, (m.1 28)), (69, (m.1 69)), (70, (m.1 70)), (71, (m.1 71)), (72, (m.1 72))] [(65, (m.2 65)), (66, (m.2 66)), (67, (m.2 67)), (68, (m.2 68)), (80, (m.2 80))]) c, N) from congrArg (fun M => (mhp M c, N)) (mO_pad m [10, 11, 28, 69, 70, 71, 72] [65, 66, 67, 68, 80])]
  by_cases hf0 : m.1 10 = 0
  · skip
    obtain ⟨hXS, c1, c2, c3, c4⟩ := hC hf0
    have hEX := hXS.1.1
    have hl1 := lh_ws (st := (m.2 79)) (ws := (m.2 80)) (hi := (m.1 73)) (i := w) (by omega) (by omega) (by omega) (by omega)
    have hl0 : 0 ≤ lh (m.2 79) (upI (m.2 80) w (-1)) (m.1 73) := lh_0 (hT.2.1 79) _ _
    have ha2 := ar_2 (s := (m.2 80) w) (by have := hT.2.1 80 w; have e : (m.2 80) w ≤ 330 := this.2; omega)
    have J278_36 : ∀ (v27 : Int) (y28 : Int) (y29 : Int) (y30 : Int) (F31 : Int → Int) (F32 : Int → Int) (F33 : Int → Int) (F34 : Int → Int) (F35 : Int → Int), (R32 v27) → (0 ≤ y28 ∧ y28 ≤ 8) → ((-1) ≤ y29 ∧ y29 ≤ 4000) → (0 ≤ y30 ∧ y30 ≤ 800) → (∀ j, 0 ≤ F31 j ∧ F31 j ≤ 408) → (∀ j, 0 ≤ F32 j ∧ F32 j ≤ 64) → (∀ j, 0 ≤ F33 j ∧ F33 j ≤ 191) → (∀ j, (-9223372036854775808) ≤ F34 j ∧ F34 j ≤ 9223372036854775807) → (∀ j, (-1) ≤ F35 j ∧ F35 j ≤ 330) → (1 ≤ y28) → (y28 ≤ 8) → TT w D pm_260 (278, [(0, .ref 189), (1, .int (i32 w)), (2, .int (i32 v27)), (3, .int (i32 ((m.2 82) w))), (4, .int (i32 ((m.2 80) w))), (5, .int (i32 (m.1 69)))], [], (mhp (mO m [(10, y28), (11, y29), (28, y30), (69, (m.1 69)), (70, (m.1 70)), (71, (m.1 71)), (72, (m.1 72))] [(65, F31), (66, F32), (67, F33), (68, F34), (80, F35)]) c, N), 0, 0) (Q_join m c N w B) := by
      intro v27 y28 y29 y30 F31 F32 F33 F34 F35 q37 q38 q39 q40 q41 q42 q43 q44 q45 i46 i47
      obtain ⟨q37a, q37b⟩ := id q37
      refine T_ld 279 (.ref 189) rfl (fun _ => rfl) ?_
      refine T_ld 280 (.int (i32 v27)) rfl (fun _ => rfl) ?_
      refine T_ld 281 (.int (i32 ((m.2 82) w))) rfl (fun _ => rfl) ?_
      refine T_call 284 250 [.ref 189, .int (i32 v27), .int (i32 ((m.2 82) w))] [] rfl (fun _ => rfl) rfl (c_unit w (mO m [(10, y28), (11, y29), (28, y30), (69, (m.1 69)), (70, (m.1 70)), (71, (m.1 71)), (72, (m.1 72))] [(65, F31), (66, F32), (67, F33), (68, F34), (80, F35)]) c N D (by omega) (Ty_mO hT rfl rfl ⟨q38, q39, q40, f69, f70, f71, f72, trivial⟩ ⟨q41, q42, q43, q44, q45, trivial⟩) v27 ((m.2 82) w) (r32 (by omega) (by omega)) (r32 (by omega) (by omega)) (show 0 ≤ v27 ∧ v27 ≤ 1024 by omega) (show 0 ≤ ((m.2 82) w) ∧ ((m.2 82) w) ≤ 4000 by omega)) (fun r49 k50 => ?_)
      obtain ⟨y51, y53, y55, y57, g52, g54, g56, g58, h59, rfl⟩ := k50
      refine ⟨_, _, rfl, ?_⟩
      refine T_nf (st' := []) (l' := [(10, y28), (11, y29), (28, y30), (69, y51), (70, y53), (71, y55), (72, y57)]) (a' := [(65, F31), (66, F32), (67, F33), (68, F34), (80, F35)]) rfl rfl rfl rfl rfl ?_
      replace h59 : y51 = v27 := h59
      refine T_ret rfl (fun _ => rfl) ?_
      exact ⟨y28, y29, y30, y51, y53, y55, y57, F31, F32, F33, F34, F35, q38, q39, q40, g52, g54, g56, g58, q41, q42, q43, q44, q45, (by omega), (by omega), (fun h => absurd h (by omega)), rfl⟩
    have J197_62 : ∀ (y60 : Int) (y61 : Int), (0 ≤ y60 ∧ y60 ≤ 8) → ((-1) ≤ y61 ∧ y61 ≤ 4000) → (1 ≤ y60) → (y60 ≤ 8) → TT w D pm_260 (197, [(0, .ref 189), (1, .int (i32 w)), (2, .int (i32 ((m.2 81) w))), (3, .int (i32 ((m.2 82) w))), (4, .int (i32 ((m.2 80) w))), (5, .int (i32 (m.1 69)))], [], (mhp (mO m [(10, y60), (11, y61), (28, (m.1 28)), (69, (m.1 69)), (70, (m.1 70)), (71, (m.1 71)), (72, (m.1 72))] [(65, (m.2 65)), (66, (m.2 66)), (67, (m.2 67)), (68, (m.2 68)), (80, (m.2 80))]) c, N), 0, 0) (Q_join m c N w B) := by
      intro y60 y61 q63 q64 i65 i66
      refine T_ld 198 (.int (i32 ((m.2 81) w))) rfl (fun _ => rfl) ?_
      refine T_gf 202 (.int (i32 (m.1 69))) rfl rfl rfl rfl rfl rfl ?_
      refine T_iadd 203 rfl rfl ?_
      refine T_sto 204 [(2, .int (i32 (((m.2 81) w) + (m.1 69)))), (0, .ref 189), (1, .int (i32 w)), (3, .int (i32 ((m.2 82) w))), (4, .int (i32 ((m.2 80) w))), (5, .int (i32 (m.1 69)))] rfl (fun _ => rfl) ?_
      refine T_goto 261 rfl (fun _ => rfl) ?_
      refine T_gf 265 (.ref 242) rfl rfl rfl rfl rfl rfl ?_
      refine T_ld 266 (.int (i32 w)) rfl (fun _ => rfl) ?_
      refine T_ld 267 (.int (i32 (-1))) rfl (fun _ => rfl) ?_
      have G68 : ∀ j, (-1) ≤ (upI (m.2 80) w (-1)) j ∧ (upI (m.2 80) w (-1)) j ≤ 330 := upI_rg (hT.2.1 80) ⟨by omega, by omega⟩
      refine T_iast (a' := [(65, (m.2 65)), (66, (m.2 66)), (67, (m.2 67)), (68, (m.2 68)), (80, upI (m.2 80) w (-1))]) 268 80 (m.2 80) rfl rfl rfl (by omega) (show w < (540 : Int) by omega) rfl rfl ?_
      refine T_ld 269 (.ref 189) rfl (fun _ => rfl) ?_
      refine T_ld 271 (.int (i32 ((m.2 80) w))) rfl (fun _ => rfl) ?_
      refine T_ld 272 (.int (i32 (((m.2 81) w) + (m.1 69)))) rfl (fun _ => rfl) ?_
      refine T_ld 274 (.int (i32 (m.1 69))) rfl (fun _ => rfl) ?_
      refine T_ld 275 (.long (i64 0)) rfl (fun _ => rfl) ?_
      refine T_call 278 248 [.ref 189, .int (i32 ((m.2 80) w)), .int (i32 (((m.2 81) w) + (m.1 69))), .int (i32 (m.1 69)), .long (i64 0)] [] rfl (fun _ => rfl) rfl (c_node w (mO m [(10, y60), (11, y61), (28, (m.1 28)), (69, (m.1 69)), (70, (m.1 70)), (71, (m.1 71)), (72, (m.1 72))] [(65, (m.2 65)), (66, (m.2 66)), (67, (m.2 67)), (68, (m.2 68)), (80, upI (m.2 80) w (-1))]) c N D (by omega) (Ty_mO hT rfl rfl ⟨q63, q64, f28, f69, f70, f71, f72, trivial⟩ ⟨(hT.2.1 65), (hT.2.1 66), (hT.2.1 67), (hT.2.1 68), G68, trivial⟩) ((m.2 80) w) (((m.2 81) w) + (m.1 69)) (m.1 69) 0 ($B) (1 + lh (m.2 79) (m.2 80) (m.1 73)) (r32 (by omega) (by omega)) (r32 (by omega) (by omega)) (r32 (by omega) (by omega)) ⟨by decide, by decide⟩ (fun h => absurd h (by omega))) (fun r69 k70 => ?_)
      obtain ⟨y71, y73, y75, F77, F79, F81, F83, g72, g74, g76, G78, G80, G82, G84, h85, c86, rfl⟩ := k70
      refine ⟨_, _, rfl, ?_⟩
      refine T_nf (st' := []) (l' := [(10, y71), (11, y73), (28, y75), (69, (m.1 69)), (70, (m.1 70)), (71, (m.1 71)), (72, (m.1 72))]) (a' := [(65, F77), (66, F79), (67, F81), (68, F83), (80, upI (m.2 80) w (-1))]) rfl rfl rfl rfl rfl ?_
      replace h85 : y71 = 0 → y60 = 0 := h85
      have hf87 : 1 ≤ y71 := by omega
      clear c86
      clear h85
      clear q63 q64 i65 i66
      refine Tm_lv (a := [(0, .ref 189), (1, .int (i32 w)), (2, .int (i32 (((m.2 81) w) + (m.1 69)))), (3, .int (i32 ((m.2 82) w))), (4, .int (i32 ((m.2 80) w))), (5, .int (i32 (m.1 69)))]) rfl rfl ⟨rfl, rfl, rfl, rfl, rfl, rfl, trivial⟩ ?_
      exact J278_36 (((m.2 81) w) + (m.1 69)) y71 y73 y75 F77 F79 F81 F83 (upI (m.2 80) w (-1)) (r32 (by omega) (by omega)) g72 g74 g76 G78 G80 G82 G84 G68 (by omega) (by omega)
    have J173_90 : ∀ (y88 : Int) (y89 : Int), (0 ≤ y88 ∧ y88 ≤ 8) → ((-1) ≤ y89 ∧ y89 ≤ 4000) → (1 ≤ y88) → (y88 ≤ 8) → TT w D pm_260 (173, [(0, .ref 189), (1, .int (i32 w)), (2, .int (i32 ((m.2 81) w))), (3, .int (i32 ((m.2 82) w))), (4, .int (i32 ((m.2 80) w))), (5, .int (i32 (m.1 69)))], [], (mhp (mO m [(10, y88), (11, y89), (28, (m.1 28)), (69, (m.1 69)), (70, (m.1 70)), (71, (m.1 71)), (72, (m.1 72))] [(65, (m.2 65)), (66, (m.2 66)), (67, (m.2 67)), (68, (m.2 68)), (80, (m.2 80))]) c, N), 0, 0) (Q_join m c N w B) := by
      intro y88 y89 q91 q92 i93 i94
      refine T_ld 174 (.ref 189) rfl (fun _ => rfl) ?_
      refine T_ld 175 (.int (i32 ((m.2 81) w))) rfl (fun _ => rfl) ?_
      refine T_gf 179 (.int (i32 (m.1 69))) rfl rfl rfl rfl rfl rfl ?_
      refine T_iadd 180 rfl rfl ?_
      refine T_ld 182 (.int (i32 64)) rfl (fun _ => rfl) ?_
      refine T_icmp 189 185 rfl rfl rfl (r32 (by omega) (by omega)) ⟨by decide, by decide⟩ (fun (h96 : (64 : Int) < ((m.2 81) w) + (m.1 69)) => ?_) (fun (h96 : ¬ ((64 : Int) < ((m.2 81) w) + (m.1 69))) => ?_)
      · skip
        refine T_ld 190 (.int (i32 0)) rfl (fun _ => rfl) ?_
        refine T_gf 194 (.int (i32 (m.1 70))) rfl rfl rfl rfl rfl rfl ?_
        refine T_call 197 256 [.ref 189, .int (i32 0), .int (i32 (m.1 70))] [] rfl (fun _ => rfl) rfl (c_want w (mO m [(10, y88), (11, y89), (28, (m.1 28)), (69, (m.1 69)), (70, (m.1 70)), (71, (m.1 71)), (72, (m.1 72))] [(65, (m.2 65)), (66, (m.2 66)), (67, (m.2 67)), (68, (m.2 68)), (80, (m.2 80))]) c N D (by omega) (Ty_mO hT rfl rfl ⟨q91, q92, f28, f69, f70, f71, f72, trivial⟩ ⟨(hT.2.1 65), (hT.2.1 66), (hT.2.1 67), (hT.2.1 68), (hT.2.1 80), trivial⟩) 0 (m.1 70) ⟨by decide, by decide⟩ (r32 (by omega) (by omega)) (show 0 ≤ (m.1 70) ∧ (m.1 70) ≤ 4000 by omega) (fun h => absurd h (by omega))) (fun r97 k98 => ?_)
        obtain ⟨y99, y101, g100, g102, h103, c104, rfl⟩ := k98
        refine ⟨_, _, rfl, ?_⟩
        refine T_nf (st' := []) (l' := [(10, y99), (11, y101), (28, (m.1 28)), (69, (m.1 69)), (70, (m.1 70)), (71, (m.1 71)), (72, (m.1 72))]) (a' := [(65, (m.2 65)), (66, (m.2 66)), (67, (m.2 67)), (68, (m.2 68)), (80, (m.2 80))]) rfl rfl rfl rfl rfl ?_
        replace h103 : y99 = 0 → y88 = 0 := h103
        have hf105 : 1 ≤ y99 := by omega
        clear c104
        clear h103
        clear q91 q92 i93 i94
        exact J197_62 y99 y101 g100 g102 (by omega) (by omega)
      · skip
        refine T_ld 186 (.int (i32 1)) rfl (fun _ => rfl) ?_
        refine T_goto 190 rfl (fun _ => rfl) ?_
        refine T_gf 194 (.int (i32 (m.1 70))) rfl rfl rfl rfl rfl rfl ?_
        refine T_call 197 256 [.ref 189, .int (i32 1), .int (i32 (m.1 70))] [] rfl (fun _ => rfl) rfl (c_want w (mO m [(10, y88), (11, y89), (28, (m.1 28)), (69, (m.1 69)), (70, (m.1 70)), (71, (m.1 71)), (72, (m.1 72))] [(65, (m.2 65)), (66, (m.2 66)), (67, (m.2 67)), (68, (m.2 68)), (80, (m.2 80))]) c N D (by omega) (Ty_mO hT rfl rfl ⟨q91, q92, f28, f69, f70, f71, f72, trivial⟩ ⟨(hT.2.1 65), (hT.2.1 66), (hT.2.1 67), (hT.2.1 68), (hT.2.1 80), trivial⟩) 1 (m.1 70) ⟨by decide, by decide⟩ (r32 (by omega) (by omega)) (show 0 ≤ (m.1 70) ∧ (m.1 70) ≤ 4000 by omega) (fun h => absurd h (by omega))) (fun r106 k107 => ?_)
        obtain ⟨y108, y110, g109, g111, h112, c113, rfl⟩ := k107
        refine ⟨_, _, rfl, ?_⟩
        refine T_nf (st' := []) (l' := [(10, y108), (11, y110), (28, (m.1 28)), (69, (m.1 69)), (70, (m.1 70)), (71, (m.1 71)), (72, (m.1 72))]) (a' := [(65, (m.2 65)), (66, (m.2 66)), (67, (m.2 67)), (68, (m.2 68)), (80, (m.2 80))]) rfl rfl rfl rfl rfl ?_
        replace h112 : y108 = 0 → y88 = 0 := h112
        have hf114 : 1 ≤ y108 := by omega
        clear c113
        clear h112
        clear q91 q92 i93 i94
        exact J197_62 y108 y110 g109 g111 (by omega) (by omega)
    have J153_117 : ∀ (y115 : Int) (y116 : Int), (0 ≤ y115 ∧ y115 ≤ 8) → ((-1) ≤ y116 ∧ y116 ≤ 4000) → (1 ≤ y115) → (y115 ≤ 8) → TT w D pm_260 (153, [(0, .ref 189), (1, .int (i32 w)), (2, .int (i32 ((m.2 81) w))), (3, .int (i32 ((m.2 82) w))), (4, .int (i32 ((m.2 80) w))), (5, .int (i32 (m.1 69)))], [], (mhp (mO m [(10, y115), (11, y116), (28, (m.1 28)), (69, (m.1 69)), (70, (m.1 70)), (71, (m.1 71)), (72, (m.1 72))] [(65, (m.2 65)), (66, (m.2 66)), (67, (m.2 67)), (68, (m.2 68)), (80, (m.2 80))]) c, N), 0, 0) (Q_join m c N w B) := by
      intro y115 y116 q118 q119 i120 i121
      refine T_ld 154 (.ref 189) rfl (fun _ => rfl) ?_
      refine T_gf 158 (.int (i32 (m.1 71))) rfl rfl rfl rfl rfl rfl ?_
      refine T_if 165 161 rfl rfl rfl (r32 (by omega) (by omega)) (fun (h123 : (m.1 71) ≠ 0) => ?_) (fun (h123 : ¬ ((m.1 71) ≠ 0)) => ?_)
      · skip
        refine T_ld 166 (.int (i32 0)) rfl (fun _ => rfl) ?_
        refine T_gf 170 (.int (i32 (m.1 70))) rfl rfl rfl rfl rfl rfl ?_
        refine T_call 173 256 [.ref 189, .int (i32 0), .int (i32 (m.1 70))] [] rfl (fun _ => rfl) rfl (c_want w (mO m [(10, y115), (11, y116), (28, (m.1 28)), (69, (m.1 69)), (70, (m.1 70)), (71, (m.1 71)), (72, (m.1 72))] [(65, (m.2 65)), (66, (m.2 66)), (67, (m.2 67)), (68, (m.2 68)), (80, (m.2 80))]) c N D (by omega) (Ty_mO hT rfl rfl ⟨q118, q119, f28, f69, f70, f71, f72, trivial⟩ ⟨(hT.2.1 65), (hT.2.1 66), (hT.2.1 67), (hT.2.1 68), (hT.2.1 80), trivial⟩) 0 (m.1 70) ⟨by decide, by decide⟩ (r32 (by omega) (by omega)) (show 0 ≤ (m.1 70) ∧ (m.1 70) ≤ 4000 by omega) (fun h => absurd h (by omega))) (fun r124 k125 => ?_)
        obtain ⟨y126, y128, g127, g129, h130, c131, rfl⟩ := k125
        refine ⟨_, _, rfl, ?_⟩
        refine T_nf (st' := []) (l' := [(10, y126), (11, y128), (28, (m.1 28)), (69, (m.1 69)), (70, (m.1 70)), (71, (m.1 71)), (72, (m.1 72))]) (a' := [(65, (m.2 65)), (66, (m.2 66)), (67, (m.2 67)), (68, (m.2 68)), (80, (m.2 80))]) rfl rfl rfl rfl rfl ?_
        replace h130 : y126 = 0 → y115 = 0 := h130
        have hf132 : 1 ≤ y126 := by omega
        clear c131
        clear h130
        clear q118 q119 i120 i121
        exact J173_90 y126 y128 g127 g129 (by omega) (by omega)
      · skip
        refine T_ld 162 (.int (i32 1)) rfl (fun _ => rfl) ?_
        refine T_goto 166 rfl (fun _ => rfl) ?_
        refine T_gf 170 (.int (i32 (m.1 70))) rfl rfl rfl rfl rfl rfl ?_
        refine T_call 173 256 [.ref 189, .int (i32 1), .int (i32 (m.1 70))] [] rfl (fun _ => rfl) rfl (c_want w (mO m [(10, y115), (11, y116), (28, (m.1 28)), (69, (m.1 69)), (70, (m.1 70)), (71, (m.1 71)), (72, (m.1 72))] [(65, (m.2 65)), (66, (m.2 66)), (67, (m.2 67)), (68, (m.2 68)), (80, (m.2 80))]) c N D (by omega) (Ty_mO hT rfl rfl ⟨q118, q119, f28, f69, f70, f71, f72, trivial⟩ ⟨(hT.2.1 65), (hT.2.1 66), (hT.2.1 67), (hT.2.1 68), (hT.2.1 80), trivial⟩) 1 (m.1 70) ⟨by decide, by decide⟩ (r32 (by omega) (by omega)) (show 0 ≤ (m.1 70) ∧ (m.1 70) ≤ 4000 by omega) (fun h => absurd h (by omega))) (fun r133 k134 => ?_)
        obtain ⟨y135, y137, g136, g138, h139, c140, rfl⟩ := k134
        refine ⟨_, _, rfl, ?_⟩
        refine T_nf (st' := []) (l' := [(10, y135), (11, y137), (28, (m.1 28)), (69, (m.1 69)), (70, (m.1 70)), (71, (m.1 71)), (72, (m.1 72))]) (a' := [(65, (m.2 65)), (66, (m.2 66)), (67, (m.2 67)), (68, (m.2 68)), (80, (m.2 80))]) rfl rfl rfl rfl rfl ?_
        replace h139 : y135 = 0 → y115 = 0 := h139
        have hf141 : 1 ≤ y135 := by omega
        clear c140
        clear h139
        clear q118 q119 i120 i121
        exact J173_90 y135 y137 g136 g138 (by omega) (by omega)
    have J126_144 : ∀ (y142 : Int) (y143 : Int), (0 ≤ y142 ∧ y142 ≤ 8) → ((-1) ≤ y143 ∧ y143 ≤ 4000) → (1 ≤ y142) → (y142 ≤ 8) → TT w D pm_260 (126, [(0, .ref 189), (1, .int (i32 w)), (2, .int (i32 ((m.2 81) w))), (3, .int (i32 ((m.2 82) w))), (4, .int (i32 ((m.2 80) w))), (5, .int (i32 (m.1 69)))], [], (mhp (mO m [(10, y142), (11, y143), (28, (m.1 28)), (69, (m.1 69)), (70, (m.1 70)), (71, (m.1 71)), (72, (m.1 72))] [(65, (m.2 65)), (66, (m.2 66)), (67, (m.2 67)), (68, (m.2 68)), (80, (m.2 80))]) c, N), 0, 0) (Q_join m c N w B) := by
      intro y142 y143 q145 q146 i147 i148
      refine T_ld 127 (.int (i32 1)) rfl (fun _ => rfl) ?_
      refine T_sto 128 [(2, .int (i32 1)), (0, .ref 189), (1, .int (i32 w)), (3, .int (i32 ((m.2 82) w))), (4, .int (i32 ((m.2 80) w))), (5, .int (i32 (m.1 69)))] rfl (fun _ => rfl) ?_
      refine T_goto 261 rfl (fun _ => rfl) ?_
      refine T_gf 265 (.ref 242) rfl rfl rfl rfl rfl rfl ?_
      refine T_ld 266 (.int (i32 w)) rfl (fun _ => rfl) ?_
      refine T_ld 267 (.int (i32 (-1))) rfl (fun _ => rfl) ?_
      have G150 : ∀ j, (-1) ≤ (upI (m.2 80) w (-1)) j ∧ (upI (m.2 80) w (-1)) j ≤ 330 := upI_rg (hT.2.1 80) ⟨by omega, by omega⟩
      refine T_iast (a' := [(65, (m.2 65)), (66, (m.2 66)), (67, (m.2 67)), (68, (m.2 68)), (80, upI (m.2 80) w (-1))]) 268 80 (m.2 80) rfl rfl rfl (by omega) (show w < (540 : Int) by omega) rfl rfl ?_
      refine T_ld 269 (.ref 189) rfl (fun _ => rfl) ?_
      refine T_ld 271 (.int (i32 ((m.2 80) w))) rfl (fun _ => rfl) ?_
      refine T_ld 272 (.int (i32 1)) rfl (fun _ => rfl) ?_
      refine T_ld 274 (.int (i32 (m.1 69))) rfl (fun _ => rfl) ?_
      refine T_ld 275 (.long (i64 0)) rfl (fun _ => rfl) ?_
      refine T_call 278 248 [.ref 189, .int (i32 ((m.2 80) w)), .int (i32 1), .int (i32 (m.1 69)), .long (i64 0)] [] rfl (fun _ => rfl) rfl (c_node w (mO m [(10, y142), (11, y143), (28, (m.1 28)), (69, (m.1 69)), (70, (m.1 70)), (71, (m.1 71)), (72, (m.1 72))] [(65, (m.2 65)), (66, (m.2 66)), (67, (m.2 67)), (68, (m.2 68)), (80, upI (m.2 80) w (-1))]) c N D (by omega) (Ty_mO hT rfl rfl ⟨q145, q146, f28, f69, f70, f71, f72, trivial⟩ ⟨(hT.2.1 65), (hT.2.1 66), (hT.2.1 67), (hT.2.1 68), G150, trivial⟩) ((m.2 80) w) 1 (m.1 69) 0 ($B) (1 + lh (m.2 79) (m.2 80) (m.1 73)) (r32 (by omega) (by omega)) ⟨by decide, by decide⟩ (r32 (by omega) (by omega)) ⟨by decide, by decide⟩ (fun h => absurd h (by omega))) (fun r151 k152 => ?_)
      obtain ⟨y153, y155, y157, F159, F161, F163, F165, g154, g156, g158, G160, G162, G164, G166, h167, c168, rfl⟩ := k152
      refine ⟨_, _, rfl, ?_⟩
      refine T_nf (st' := []) (l' := [(10, y153), (11, y155), (28, y157), (69, (m.1 69)), (70, (m.1 70)), (71, (m.1 71)), (72, (m.1 72))]) (a' := [(65, F159), (66, F161), (67, F163), (68, F165), (80, upI (m.2 80) w (-1))]) rfl rfl rfl rfl rfl ?_
      replace h167 : y153 = 0 → y142 = 0 := h167
      have hf169 : 1 ≤ y153 := by omega
      clear c168
      clear h167
      clear q145 q146 i147 i148
      refine Tm_lv (a := [(0, .ref 189), (1, .int (i32 w)), (2, .int (i32 1)), (3, .int (i32 ((m.2 82) w))), (4, .int (i32 ((m.2 80) w))), (5, .int (i32 (m.1 69)))]) rfl rfl ⟨rfl, rfl, rfl, rfl, rfl, rfl, trivial⟩ ?_
      exact J278_36 1 y153 y155 y157 F159 F161 F163 F165 (upI (m.2 80) w (-1)) ⟨by decide, by decide⟩ g154 g156 g158 G160 G162 G164 G166 G150 (by omega) (by omega)
    refine T_gf 4 (.ref 243) rfl rfl rfl rfl rfl rfl ?_
    refine T_ld 5 (.int (i32 w)) rfl (fun _ => rfl) ?_
    refine T_iald 6 81 (m.2 81) rfl rfl rfl (by omega) (show w < (540 : Int) by omega) rfl ?_
    have e170 : 0 ≤ m.2 81 w ∧ m.2 81 w ≤ 64 := hT.2.1 81 w
    refine T_sto 7 [(2, .int (i32 ((m.2 81) w))), (0, .ref 189), (1, .int (i32 w))] rfl (fun _ => rfl) ?_
    refine T_gf 11 (.ref 244) rfl rfl rfl rfl rfl rfl ?_
    refine T_ld 12 (.int (i32 w)) rfl (fun _ => rfl) ?_
    refine T_iald 13 82 (m.2 82) rfl rfl rfl (by omega) (show w < (540 : Int) by omega) rfl ?_
    have e171 : 0 ≤ m.2 82 w ∧ m.2 82 w ≤ 4000 := hT.2.1 82 w
    refine T_sto 14 [(3, .int (i32 ((m.2 82) w))), (2, .int (i32 ((m.2 81) w))), (0, .ref 189), (1, .int (i32 w))] rfl (fun _ => rfl) ?_
    refine T_gf 18 (.ref 242) rfl rfl rfl rfl rfl rfl ?_
    refine T_ld 19 (.int (i32 w)) rfl (fun _ => rfl) ?_
    refine T_iald 20 80 (m.2 80) rfl rfl rfl (by omega) (show w < (540 : Int) by omega) rfl ?_
    have e172 : (-1) ≤ (m.2 80) w ∧ (m.2 80) w ≤ 330 := (hT.2.1 80) w
    refine T_sto 22 [(4, .int (i32 ((m.2 80) w))), (3, .int (i32 ((m.2 82) w))), (2, .int (i32 ((m.2 81) w))), (0, .ref 189), (1, .int (i32 w))] rfl (fun _ => rfl) ?_
    refine T_gf 26 (.int (i32 (m.1 69))) rfl rfl rfl rfl rfl rfl ?_
    refine T_sto 28 [(5, .int (i32 (m.1 69))), (4, .int (i32 ((m.2 80) w))), (3, .int (i32 ((m.2 82) w))), (2, .int (i32 ((m.2 81) w))), (0, .ref 189), (1, .int (i32 w))] rfl (fun _ => rfl) ?_
    refine T_gf 32 (.ref 242) rfl rfl rfl rfl rfl rfl ?_
    refine T_ld 33 (.int (i32 w)) rfl (fun _ => rfl) ?_
    refine T_iald 34 80 (m.2 80) rfl rfl rfl (by omega) (show w < (540 : Int) by omega) rfl ?_
    have e173 : (-1) ≤ (m.2 80) w ∧ (m.2 80) w ≤ 330 := (hT.2.1 80) w
    refine T_call 37 259 [.int (i32 ((m.2 80) w))] [] rfl (fun _ => rfl) rfl (c_level w (mO m [(10, (m.1 10)), (11, (m.1 11)), (28, (m.1 28)), (69, (m.1 69)), (70, (m.1 70)), (71, (m.1 71)), (72, (m.1 72))] [(65, (m.2 65)), (66, (m.2 66)), (67, (m.2 67)), (68, (m.2 68)), (80, (m.2 80))]) c N D (by omega) (Ty_mO hT rfl rfl ⟨f10, f11, f28, f69, f70, f71, f72, trivial⟩ ⟨(hT.2.1 65), (hT.2.1 66), (hT.2.1 67), (hT.2.1 68), (hT.2.1 80), trivial⟩) ((m.2 80) w) (r32 (by omega) (by omega))) (fun r174 k175 => ?_)
    obtain ⟨x176, g177, h178, rfl⟩ := k175
    refine ⟨_, _, rfl, ?_⟩
    refine T_nf (st' := [.int (i32 x176)]) (l' := [(10, (m.1 10)), (11, (m.1 11)), (28, (m.1 28)), (69, (m.1 69)), (70, (m.1 70)), (71, (m.1 71)), (72, (m.1 72))]) (a' := [(65, (m.2 65)), (66, (m.2 66)), (67, (m.2 67)), (68, (m.2 68)), (80, (m.2 80))]) rfl rfl rfl rfl rfl ?_
    obtain ⟨g177a, g177b⟩ := g177
    replace h178 : 0 ≤ x176 → 4 ≤ ((m.2 80) w) ∧ ((m.2 80) w) ≤ 124 := h178
    have J261_182 : ∀ (v179 : Int) (y180 : Int) (y181 : Int), (R32 v179) → (0 ≤ y180 ∧ y180 ≤ 8) → ((-1) ≤ y181 ∧ y181 ≤ 4000) → (0 ≤ v179 ∧ v179 ≤ (m.1 69) + 64) → (y180 = 0 → (v179 ≤ 64)) → TT w D pm_260 (261, [(0, .ref 189), (1, .int (i32 w)), (2, .int (i32 v179)), (3, .int (i32 ((m.2 82) w))), (4, .int (i32 ((m.2 80) w))), (5, .int (i32 (m.1 69)))], [.int (i32 x176)], (mhp (mO m [(10, y180), (11, y181), (28, (m.1 28)), (69, (m.1 69)), (70, (m.1 70)), (71, (m.1 71)), (72, (m.1 72))] [(65, (m.2 65)), (66, (m.2 66)), (67, (m.2 67)), (68, (m.2 68)), (80, (m.2 80))]) c, N), 0, 0) (Q_join m c N w B) := by
      intro v179 y180 y181 q183 q184 q185 i186 c187
      obtain ⟨q183a, q183b⟩ := id q183
      by_cases hf188 : y180 = 0
      · skip
        subst hf188
        have c189 := c187 rfl
        refine T_gf 265 (.ref 242) rfl rfl rfl rfl rfl rfl ?_
        refine T_ld 266 (.int (i32 w)) rfl (fun _ => rfl) ?_
        refine T_ld 267 (.int (i32 (-1))) rfl (fun _ => rfl) ?_
        have G190 : ∀ j, (-1) ≤ (upI (m.2 80) w (-1)) j ∧ (upI (m.2 80) w (-1)) j ≤ 330 := upI_rg (hT.2.1 80) ⟨by omega, by omega⟩
        refine T_iast (a' := [(65, (m.2 65)), (66, (m.2 66)), (67, (m.2 67)), (68, (m.2 68)), (80, upI (m.2 80) w (-1))]) 268 80 (m.2 80) rfl rfl rfl (by omega) (show w < (540 : Int) by omega) rfl rfl ?_
        have hAr : ar ((m.2 80) w) ≤ 1 + lh (m.2 79) (m.2 80) (m.1 73) := by omega
        have hCk : CNk ((m.2 80) w) (m.1 69) := by refine ⟨?_, ?_, ?_, ?_⟩ <;> omega
        refine T_ld 269 (.ref 189) rfl (fun _ => rfl) ?_
        refine T_ld 271 (.int (i32 ((m.2 80) w))) rfl (fun _ => rfl) ?_
        refine T_ld 272 (.int (i32 v179)) rfl (fun _ => rfl) ?_
        refine T_ld 274 (.int (i32 (m.1 69))) rfl (fun _ => rfl) ?_
        refine T_ld 275 (.long (i64 0)) rfl (fun _ => rfl) ?_
        refine T_call 278 248 [.ref 189, .int (i32 ((m.2 80) w)), .int (i32 v179), .int (i32 (m.1 69)), .long (i64 0)] [.int (i32 x176)] rfl (fun _ => rfl) rfl (c_node w (mO m [(10, 0), (11, y181), (28, (m.1 28)), (69, (m.1 69)), (70, (m.1 70)), (71, (m.1 71)), (72, (m.1 72))] [(65, (m.2 65)), (66, (m.2 66)), (67, (m.2 67)), (68, (m.2 68)), (80, upI (m.2 80) w (-1))]) c N D (by omega) (Ty_mO hT rfl rfl ⟨⟨(by omega : (0 : Int) ≤ 0), (by omega : (0 : Int) ≤ 8)⟩, q185, f28, f69, f70, f71, f72, trivial⟩ ⟨(hT.2.1 65), (hT.2.1 66), (hT.2.1 67), (hT.2.1 68), G190, trivial⟩) ((m.2 80) w) v179 (m.1 69) 0 ($B) (1 + lh (m.2 79) (m.2 80) (m.1 73)) (r32 (by omega) (by omega)) (r32 (by omega) (by omega)) (r32 (by omega) (by omega)) ⟨by decide, by decide⟩ (fun _ => ⟨(show 0 ≤ ((m.2 80) w) ∧ ((m.2 80) w) ≤ 408 by first | omega | decide), (show 0 ≤ v179 ∧ v179 ≤ 64 by first | omega | decide), (show 0 ≤ (m.1 69) ∧ (m.1 69) ≤ 191 by first | omega | decide), (show CNk ((m.2 80) w) (m.1 69) by first | exact hCk | (refine ⟨?_, ?_, ?_, ?_⟩ <;> omega)), (show ar ((m.2 80) w) ≤ (1 + lh (m.2 79) (m.2 80) (m.1 73)) by first | exact hAr | omega), (show EX (m.2 65) (m.2 67) ($B) (m.1 28) (1 + lh (m.2 79) (m.2 80) (m.1 73)) by first | exact hEX | assumption)⟩)) (fun r191 k192 => ?_)
        obtain ⟨y193, y195, y197, F199, F201, F203, F205, g194, g196, g198, G200, G202, G204, G206, h207, c208, rfl⟩ := k192
        refine ⟨_, _, rfl, ?_⟩
        refine T_nf (st' := [.int (i32 x176)]) (l' := [(10, y193), (11, y195), (28, y197), (69, (m.1 69)), (70, (m.1 70)), (71, (m.1 71)), (72, (m.1 72))]) (a' := [(65, F199), (66, F201), (67, F203), (68, F205), (80, upI (m.2 80) w (-1))]) rfl rfl rfl rfl rfl ?_
        by_cases hf209 : y193 = 0
        · skip
          subst hf209
          replace h207 : 0 = 0 := h207 rfl
          obtain ⟨c210, c211, c212⟩ := c208 rfl
          replace c210 : y197 = (m.1 28) + 1 := c210
          replace c211 : EX F199 F203 ($B) y197 ((1 + lh (m.2 79) (m.2 80) (m.1 73)) + 1 - ar ((m.2 80) w)) := c211
          have hEX := c211
          replace c212 : agr (m.2 65) F199 (m.1 28) := c212
          have hAg := c212
          clear q184 q185 g194
          have hXE : XS F199 F203 (m.2 76) (m.2 78) (m.2 79) (upI (m.2 80) w (-1)) $B y197 (m.1 73) (m.1 74) 1 := XS_of (XS_ws (x := -1) (U' := 1) hXS (by omega) (by omega) (by omega) (by rw [if_neg (by omega)]; have := cn1_0 (m.2 80) w; omega)) hEX (by omega)
          refine T_ld 279 (.ref 189) rfl (fun _ => rfl) ?_
          refine T_ld 280 (.int (i32 v179)) rfl (fun _ => rfl) ?_
          refine T_ld 281 (.int (i32 ((m.2 82) w))) rfl (fun _ => rfl) ?_
          refine T_call 284 250 [.ref 189, .int (i32 v179), .int (i32 ((m.2 82) w))] [.int (i32 x176)] rfl (fun _ => rfl) rfl (c_unit w (mO m [(10, 0), (11, y195), (28, y197), (69, (m.1 69)), (70, (m.1 70)), (71, (m.1 71)), (72, (m.1 72))] [(65, F199), (66, F201), (67, F203), (68, F205), (80, upI (m.2 80) w (-1))]) c N D (by omega) (Ty_mO hT rfl rfl ⟨⟨(by omega : (0 : Int) ≤ 0), (by omega : (0 : Int) ≤ 8)⟩, g196, g198, f69, f70, f71, f72, trivial⟩ ⟨G200, G202, G204, G206, G190, trivial⟩) v179 ((m.2 82) w) (r32 (by omega) (by omega)) (r32 (by omega) (by omega)) (show 0 ≤ v179 ∧ v179 ≤ 1024 by omega) (show 0 ≤ ((m.2 82) w) ∧ ((m.2 82) w) ≤ 4000 by omega)) (fun r213 k214 => ?_)
          obtain ⟨y215, y217, y219, y221, g216, g218, g220, g222, h223, rfl⟩ := k214
          refine ⟨_, _, rfl, ?_⟩
          refine T_nf (st' := [.int (i32 x176)]) (l' := [(10, 0), (11, y195), (28, y197), (69, y215), (70, y217), (71, y219), (72, y221)]) (a' := [(65, F199), (66, F201), (67, F203), (68, F205), (80, upI (m.2 80) w (-1))]) rfl rfl rfl rfl rfl ?_
          replace h223 : y215 = v179 := h223
          refine T_ret rfl (fun _ => rfl) ?_
          exact ⟨0, y195, y197, y215, y217, y219, y221, F199, F201, F203, F205, upI (m.2 80) w (-1), ⟨by omega, by omega⟩, g196, g198, g216, g218, g220, g222, G200, G202, G204, G206, G190, (by omega), (by omega), (fun _ => ⟨(by omega), (by omega), (by first | (exact hXE) | (exfalso; omega)), (by first | (exact hAg) | (exfalso; omega)), (by rfl)⟩), rfl⟩
        · skip
          clear c208
          clear h207
          have hf224 : 1 ≤ y193 := by omega
          clear q184 q185
          exact J278_36 v179 y193 y195 y197 F199 F201 F203 F205 (upI (m.2 80) w (-1)) (r32 (by omega) (by omega)) g194 g196 g198 G200 G202 G204 G206 G190 (by omega) (by omega)
      · skip
        clear c187
        have hf225 : 1 ≤ y180 := by omega
        refine T_gf 265 (.ref 242) rfl rfl rfl rfl rfl rfl ?_
        refine T_ld 266 (.int (i32 w)) rfl (fun _ => rfl) ?_
        refine T_ld 267 (.int (i32 (-1))) rfl (fun _ => rfl) ?_
        have G226 : ∀ j, (-1) ≤ (upI (m.2 80) w (-1)) j ∧ (upI (m.2 80) w (-1)) j ≤ 330 := upI_rg (hT.2.1 80) ⟨by omega, by omega⟩
        refine T_iast (a' := [(65, (m.2 65)), (66, (m.2 66)), (67, (m.2 67)), (68, (m.2 68)), (80, upI (m.2 80) w (-1))]) 268 80 (m.2 80) rfl rfl rfl (by omega) (show w < (540 : Int) by omega) rfl rfl ?_
        refine T_ld 269 (.ref 189) rfl (fun _ => rfl) ?_
        refine T_ld 271 (.int (i32 ((m.2 80) w))) rfl (fun _ => rfl) ?_
        refine T_ld 272 (.int (i32 v179)) rfl (fun _ => rfl) ?_
        refine T_ld 274 (.int (i32 (m.1 69))) rfl (fun _ => rfl) ?_
        refine T_ld 275 (.long (i64 0)) rfl (fun _ => rfl) ?_
        refine T_call 278 248 [.ref 189, .int (i32 ((m.2 80) w)), .int (i32 v179), .int (i32 (m.1 69)), .long (i64 0)] [.int (i32 x176)] rfl (fun _ => rfl) rfl (c_node w (mO m [(10, y180), (11, y181), (28, (m.1 28)), (69, (m.1 69)), (70, (m.1 70)), (71, (m.1 71)), (72, (m.1 72))] [(65, (m.2 65)), (66, (m.2 66)), (67, (m.2 67)), (68, (m.2 68)), (80, upI (m.2 80) w (-1))]) c N D (by omega) (Ty_mO hT rfl rfl ⟨q184, q185, f28, f69, f70, f71, f72, trivial⟩ ⟨(hT.2.1 65), (hT.2.1 66), (hT.2.1 67), (hT.2.1 68), G226, trivial⟩) ((m.2 80) w) v179 (m.1 69) 0 ($B) (1 + lh (m.2 79) (m.2 80) (m.1 73)) (r32 (by omega) (by omega)) (r32 (by omega) (by omega)) (r32 (by omega) (by omega)) ⟨by decide, by decide⟩ (fun h => absurd h (by omega))) (fun r227 k228 => ?_)
        obtain ⟨y229, y231, y233, F235, F237, F239, F241, g230, g232, g234, G236, G238, G240, G242, h243, c244, rfl⟩ := k228
        refine ⟨_, _, rfl, ?_⟩
        refine T_nf (st' := [.int (i32 x176)]) (l' := [(10, y229), (11, y231), (28, y233), (69, (m.1 69)), (70, (m.1 70)), (71, (m.1 71)), (72, (m.1 72))]) (a' := [(65, F235), (66, F237), (67, F239), (68, F241), (80, upI (m.2 80) w (-1))]) rfl rfl rfl rfl rfl ?_
        replace h243 : y229 = 0 → y180 = 0 := h243
        have hf245 : 1 ≤ y229 := by omega
        clear c244
        clear h243
        clear q184 q185 hf225
        exact J278_36 v179 y229 y231 y233 F235 F237 F239 F241 (upI (m.2 80) w (-1)) (r32 (by omega) (by omega)) g230 g232 g234 G236 G238 G240 G242 G226 (by omega) (by omega)
    have T88_246 : TT w D pm_260 (88, [(5, .int (i32 (m.1 69))), (4, .int (i32 ((m.2 80) w))), (3, .int (i32 ((m.2 82) w))), (2, .int (i32 ((m.2 81) w))), (0, .ref 189), (1, .int (i32 w))], [], (mhp (mO m [(10, (m.1 10)), (11, (m.1 11)), (28, (m.1 28)), (69, (m.1 69)), (70, (m.1 70)), (71, (m.1 71)), (72, (m.1 72))] [(65, (m.2 65)), (66, (m.2 66)), (67, (m.2 67)), (68, (m.2 68)), (80, (m.2 80))]) c, N), 0, 0) (Q_join m c N w B) := by
      refine T_ld 89 (.ref 189) rfl (fun _ => rfl) ?_
      refine T_ld 90 (.int (i32 ((m.2 81) w))) rfl (fun _ => rfl) ?_
      refine T_gf 94 (.ref 245) rfl rfl rfl rfl rfl rfl ?_
      refine T_ld 95 (.int (i32 w)) rfl (fun _ => rfl) ?_
      refine T_bald 96 83 (m.2 83) rfl rfl rfl (by omega) (show w < (540 : Int) by omega) rfl ?_
      have e247 : 0 ≤ m.2 83 w ∧ m.2 83 w ≤ 1 := hT.2.1 83 w
      refine T_gf 100 (.ref 246) rfl rfl rfl rfl rfl rfl ?_
      refine T_ld 101 (.int (i32 w)) rfl (fun _ => rfl) ?_
      refine T_lald 102 84 (m.2 84) rfl rfl rfl (by omega) (show w < (540 : Int) by omega) rfl ?_
      have e248 : (-9223372036854775808) ≤ m.2 84 w ∧ m.2 84 w ≤ 9223372036854775807 := hT.2.1 84 w
      refine T_ld 103 (.int (i32 ((m.2 82) w))) rfl (fun _ => rfl) ?_
      refine T_call 106 258 [.ref 189, .int (i32 ((m.2 81) w)), .int (i32 ((m.2 83) w)), .long (i64 ((m.2 84) w)), .int (i32 ((m.2 82) w))] [] rfl (fun _ => rfl) rfl (c_wantBit w (mO m [(10, (m.1 10)), (11, (m.1 11)), (28, (m.1 28)), (69, (m.1 69)), (70, (m.1 70)), (71, (m.1 71)), (72, (m.1 72))] [(65, (m.2 65)), (66, (m.2 66)), (67, (m.2 67)), (68, (m.2 68)), (80, (m.2 80))]) c N D (by omega) (Ty_mO hT rfl rfl ⟨f10, f11, f28, f69, f70, f71, f72, trivial⟩ ⟨(hT.2.1 65), (hT.2.1 66), (hT.2.1 67), (hT.2.1 68), (hT.2.1 80), trivial⟩) ((m.2 81) w) ((m.2 83) w) ((m.2 84) w) ((m.2 82) w) (r32 (by omega) (by omega)) (r32 (by omega) (by omega)) (r64 (by omega) (by omega)) (r32 (by omega) (by omega)) (show 0 ≤ ((m.2 82) w) ∧ ((m.2 82) w) ≤ 4000 by omega) (fun _ => trivial)) (fun r249 k250 => ?_)
      obtain ⟨y251, y253, g252, g254, h255, c256, rfl⟩ := k250
      refine ⟨_, _, rfl, ?_⟩
      refine T_nf (st' := []) (l' := [(10, y251), (11, y253), (28, (m.1 28)), (69, (m.1 69)), (70, (m.1 70)), (71, (m.1 71)), (72, (m.1 72))]) (a' := [(65, (m.2 65)), (66, (m.2 66)), (67, (m.2 67)), (68, (m.2 68)), (80, (m.2 80))]) rfl rfl rfl rfl rfl ?_
      by_cases hf257 : y251 = 0
      · skip
        subst hf257
        replace h255 : (m.1 10) = 0 := h255 rfl
        clear c256
        clear g177a g177b h178 g252
        refine T_ld 107 (.ref 189) rfl (fun _ => rfl) ?_
        refine T_gf 111 (.int (i32 (m.1 69))) rfl rfl rfl rfl rfl rfl ?_
        refine T_gf 115 (.int (i32 (m.1 71))) rfl rfl rfl rfl rfl rfl ?_
        refine T_gf 119 (.long (i64 (m.1 72))) rfl rfl rfl rfl rfl rfl ?_
        refine T_gf 123 (.int (i32 (m.1 70))) rfl rfl rfl rfl rfl rfl ?_
        refine T_call 126 258 [.ref 189, .int (i32 (m.1 69)), .int (i32 (m.1 71)), .long (i64 (m.1 72)), .int (i32 (m.1 70))] [] rfl (fun _ => rfl) rfl (c_wantBit w (mO m [(10, 0), (11, y253), (28, (m.1 28)), (69, (m.1 69)), (70, (m.1 70)), (71, (m.1 71)), (72, (m.1 72))] [(65, (m.2 65)), (66, (m.2 66)), (67, (m.2 67)), (68, (m.2 68)), (80, (m.2 80))]) c N D (by omega) (Ty_mO hT rfl rfl ⟨⟨(by omega : (0 : Int) ≤ 0), (by omega : (0 : Int) ≤ 8)⟩, g254, f28, f69, f70, f71, f72, trivial⟩ ⟨(hT.2.1 65), (hT.2.1 66), (hT.2.1 67), (hT.2.1 68), (hT.2.1 80), trivial⟩) (m.1 69) (m.1 71) (m.1 72) (m.1 70) (r32 (by omega) (by omega)) (r32 (by omega) (by omega)) (r64 (by omega) (by omega)) (r32 (by omega) (by omega)) (show 0 ≤ (m.1 70) ∧ (m.1 70) ≤ 4000 by omega) (fun _ => trivial)) (fun r258 k259 => ?_)
        obtain ⟨y260, y262, g261, g263, h264, c265, rfl⟩ := k259
        refine ⟨_, _, rfl, ?_⟩
        refine T_nf (st' := []) (l' := [(10, y260), (11, y262), (28, (m.1 28)), (69, (m.1 69)), (70, (m.1 70)), (71, (m.1 71)), (72, (m.1 72))]) (a' := [(65, (m.2 65)), (66, (m.2 66)), (67, (m.2 67)), (68, (m.2 68)), (80, (m.2 80))]) rfl rfl rfl rfl rfl ?_
        by_cases hf266 : y260 = 0
        · skip
          subst hf266
          replace h264 : 0 = 0 := h264 rfl
          clear c265
          clear g254 g261
          refine T_ld 127 (.int (i32 1)) rfl (fun _ => rfl) ?_
          refine T_sto 128 [(2, .int (i32 1)), (5, .int (i32 (m.1 69))), (4, .int (i32 ((m.2 80) w))), (3, .int (i32 ((m.2 82) w))), (0, .ref 189), (1, .int (i32 w))] rfl (fun _ => rfl) ?_
          refine T_goto 261 rfl (fun _ => rfl) ?_
          refine Tm_lv (a := [(0, .ref 189), (1, .int (i32 w)), (2, .int (i32 1)), (3, .int (i32 ((m.2 82) w))), (4, .int (i32 ((m.2 80) w))), (5, .int (i32 (m.1 69)))]) rfl rfl ⟨rfl, rfl, rfl, rfl, rfl, rfl, trivial⟩ ?_
          exact J261_182 1 0 y262 ⟨by decide, by decide⟩ ⟨by omega, by omega⟩ g263 (by omega) (fun _ => (by omega))
        · skip
          clear c265
          clear h264
          have hf267 : 1 ≤ y260 := by omega
          clear g254
          refine Tm_lv (a := [(0, .ref 189), (1, .int (i32 w)), (2, .int (i32 ((m.2 81) w))), (3, .int (i32 ((m.2 82) w))), (4, .int (i32 ((m.2 80) w))), (5, .int (i32 (m.1 69)))]) rfl rfl ⟨rfl, rfl, rfl, rfl, rfl, rfl, trivial⟩ ?_
          exact J126_144 y260 y262 g261 g263 (by omega) (by omega)
      · skip
        clear c256
        clear h255
        have hf268 : 1 ≤ y251 := by omega
        clear g177a g177b h178
        refine T_ld 107 (.ref 189) rfl (fun _ => rfl) ?_
        refine T_gf 111 (.int (i32 (m.1 69))) rfl rfl rfl rfl rfl rfl ?_
        refine T_gf 115 (.int (i32 (m.1 71))) rfl rfl rfl rfl rfl rfl ?_
        refine T_gf 119 (.long (i64 (m.1 72))) rfl rfl rfl rfl rfl rfl ?_
        refine T_gf 123 (.int (i32 (m.1 70))) rfl rfl rfl rfl rfl rfl ?_
        refine T_call 126 258 [.ref 189, .int (i32 (m.1 69)), .int (i32 (m.1 71)), .long (i64 (m.1 72)), .int (i32 (m.1 70))] [] rfl (fun _ => rfl) rfl (c_wantBit w (mO m [(10, y251), (11, y253), (28, (m.1 28)), (69, (m.1 69)), (70, (m.1 70)), (71, (m.1 71)), (72, (m.1 72))] [(65, (m.2 65)), (66, (m.2 66)), (67, (m.2 67)), (68, (m.2 68)), (80, (m.2 80))]) c N D (by omega) (Ty_mO hT rfl rfl ⟨g252, g254, f28, f69, f70, f71, f72, trivial⟩ ⟨(hT.2.1 65), (hT.2.1 66), (hT.2.1 67), (hT.2.1 68), (hT.2.1 80), trivial⟩) (m.1 69) (m.1 71) (m.1 72) (m.1 70) (r32 (by omega) (by omega)) (r32 (by omega) (by omega)) (r64 (by omega) (by omega)) (r32 (by omega) (by omega)) (show 0 ≤ (m.1 70) ∧ (m.1 70) ≤ 4000 by omega) (fun h => absurd h (by omega))) (fun r269 k270 => ?_)
        obtain ⟨y271, y273, g272, g274, h275, c276, rfl⟩ := k270
        refine ⟨_, _, rfl, ?_⟩
        refine T_nf (st' := []) (l' := [(10, y271), (11, y273), (28, (m.1 28)), (69, (m.1 69)), (70, (m.1 70)), (71, (m.1 71)), (72, (m.1 72))]) (a' := [(65, (m.2 65)), (66, (m.2 66)), (67, (m.2 67)), (68, (m.2 68)), (80, (m.2 80))]) rfl rfl rfl rfl rfl ?_
        replace h275 : y271 = 0 → y251 = 0 := h275
        have hf277 : 1 ≤ y271 := by omega
        clear c276
        clear h275
        clear g252 g254 hf268
        refine Tm_lv (a := [(0, .ref 189), (1, .int (i32 w)), (2, .int (i32 ((m.2 81) w))), (3, .int (i32 ((m.2 82) w))), (4, .int (i32 ((m.2 80) w))), (5, .int (i32 (m.1 69)))]) rfl rfl ⟨rfl, rfl, rfl, rfl, rfl, rfl, trivial⟩ ?_
        exact J126_144 y271 y273 g272 g274 (by omega) (by omega)
    have T207_278 : TT w D pm_260 (207, [(5, .int (i32 (m.1 69))), (4, .int (i32 ((m.2 80) w))), (3, .int (i32 ((m.2 82) w))), (2, .int (i32 ((m.2 81) w))), (0, .ref 189), (1, .int (i32 w))], [], (mhp (mO m [(10, (m.1 10)), (11, (m.1 11)), (28, (m.1 28)), (69, (m.1 69)), (70, (m.1 70)), (71, (m.1 71)), (72, (m.1 72))] [(65, (m.2 65)), (66, (m.2 66)), (67, (m.2 67)), (68, (m.2 68)), (80, (m.2 80))]) c, N), 0, 0) (Q_join m c N w B) := by
      refine T_ld 208 (.ref 189) rfl (fun _ => rfl) ?_
      refine T_ld 209 (.int (i32 ((m.2 81) w))) rfl (fun _ => rfl) ?_
      refine T_gf 213 (.ref 245) rfl rfl rfl rfl rfl rfl ?_
      refine T_ld 214 (.int (i32 w)) rfl (fun _ => rfl) ?_
      refine T_bald 215 83 (m.2 83) rfl rfl rfl (by omega) (show w < (540 : Int) by omega) rfl ?_
      have e279 : 0 ≤ m.2 83 w ∧ m.2 83 w ≤ 1 := hT.2.1 83 w
      refine T_gf 219 (.ref 246) rfl rfl rfl rfl rfl rfl ?_
      refine T_ld 220 (.int (i32 w)) rfl (fun _ => rfl) ?_
      refine T_lald 221 84 (m.2 84) rfl rfl rfl (by omega) (show w < (540 : Int) by omega) rfl ?_
      have e280 : (-9223372036854775808) ≤ m.2 84 w ∧ m.2 84 w ≤ 9223372036854775807 := hT.2.1 84 w
      refine T_ld 222 (.int (i32 ((m.2 82) w))) rfl (fun _ => rfl) ?_
      refine T_gf 226 (.int (i32 (m.1 69))) rfl rfl rfl rfl rfl rfl ?_
      refine T_gf 230 (.int (i32 (m.1 71))) rfl rfl rfl rfl rfl rfl ?_
      refine T_gf 234 (.long (i64 (m.1 72))) rfl rfl rfl rfl rfl rfl ?_
      refine T_gf 238 (.int (i32 (m.1 70))) rfl rfl rfl rfl rfl rfl ?_
      refine T_call 241 261 [.ref 189, .int (i32 ((m.2 81) w)), .int (i32 ((m.2 83) w)), .long (i64 ((m.2 84) w)), .int (i32 ((m.2 82) w)), .int (i32 (m.1 69)), .int (i32 (m.1 71)), .long (i64 (m.1 72)), .int (i32 (m.1 70))] [] rfl (fun _ => rfl) rfl (c_common w (mO m [(10, (m.1 10)), (11, (m.1 11)), (28, (m.1 28)), (69, (m.1 69)), (70, (m.1 70)), (71, (m.1 71)), (72, (m.1 72))] [(65, (m.2 65)), (66, (m.2 66)), (67, (m.2 67)), (68, (m.2 68)), (80, (m.2 80))]) c N D (by omega) (Ty_mO hT rfl rfl ⟨f10, f11, f28, f69, f70, f71, f72, trivial⟩ ⟨(hT.2.1 65), (hT.2.1 66), (hT.2.1 67), (hT.2.1 68), (hT.2.1 80), trivial⟩) ((m.2 81) w) ((m.2 83) w) ((m.2 84) w) ((m.2 82) w) (m.1 69) (m.1 71) (m.1 72) (m.1 70) (r32 (by omega) (by omega)) (r32 (by omega) (by omega)) (r64 (by omega) (by omega)) (r32 (by omega) (by omega)) (r32 (by omega) (by omega)) (r32 (by omega) (by omega)) (r64 (by omega) (by omega)) (r32 (by omega) (by omega)) (show 0 ≤ ((m.2 82) w) ∧ ((m.2 82) w) ≤ 4000 by omega) (show 0 ≤ (m.1 70) ∧ (m.1 70) ≤ 4000 by omega) (show 0 ≤ ((m.2 81) w) ∧ ((m.2 81) w) ≤ 1024 by omega) (show 0 ≤ (m.1 69) ∧ (m.1 69) ≤ 1024 by omega) (fun _ => trivial)) (fun r281 k282 => ?_)
      obtain ⟨y283, y285, x287, g284, g286, g288, h289, h290, c291, rfl⟩ := k282
      refine ⟨_, _, rfl, ?_⟩
      refine T_nf (st' := [.int (i32 x287)]) (l' := [(10, y283), (11, y285), (28, (m.1 28)), (69, (m.1 69)), (70, (m.1 70)), (71, (m.1 71)), (72, (m.1 72))]) (a' := [(65, (m.2 65)), (66, (m.2 66)), (67, (m.2 67)), (68, (m.2 68)), (80, (m.2 80))]) rfl rfl rfl rfl rfl ?_
      obtain ⟨g288a, g288b⟩ := g288
      by_cases hf292 : y283 = 0
      · skip
        subst hf292
        replace h289 : (m.1 10) = 0 := h289 rfl
        replace h290 : x287 = 64 ∨ x287 = ((m.2 81) w) ∨ x287 = (m.1 69) := h290
        clear c291
        clear g177a g177b h178 g284
        refine T_sto 242 [(2, .int (i32 x287)), (5, .int (i32 (m.1 69))), (4, .int (i32 ((m.2 80) w))), (3, .int (i32 ((m.2 82) w))), (0, .ref 189), (1, .int (i32 w))] rfl (fun _ => rfl) ?_
        refine T_gf 246 (.ref 242) rfl rfl rfl rfl rfl rfl ?_
        refine T_ld 247 (.int (i32 w)) rfl (fun _ => rfl) ?_
        refine T_iald 248 80 (m.2 80) rfl rfl rfl (by omega) (show w < (540 : Int) by omega) rfl ?_
        have e293 : (-1) ≤ (m.2 80) w ∧ (m.2 80) w ≤ 330 := (hT.2.1 80) w
        refine T_call 251 259 [.int (i32 ((m.2 80) w))] [] rfl (fun _ => rfl) rfl (c_level w (mO m [(10, 0), (11, y285), (28, (m.1 28)), (69, (m.1 69)), (70, (m.1 70)), (71, (m.1 71)), (72, (m.1 72))] [(65, (m.2 65)), (66, (m.2 66)), (67, (m.2 67)), (68, (m.2 68)), (80, (m.2 80))]) c N D (by omega) (Ty_mO hT rfl rfl ⟨⟨(by omega : (0 : Int) ≤ 0), (by omega : (0 : Int) ≤ 8)⟩, g286, f28, f69, f70, f71, f72, trivial⟩ ⟨(hT.2.1 65), (hT.2.1 66), (hT.2.1 67), (hT.2.1 68), (hT.2.1 80), trivial⟩) ((m.2 80) w) (r32 (by omega) (by omega))) (fun r294 k295 => ?_)
        obtain ⟨x296, g297, h298, rfl⟩ := k295
        refine ⟨_, _, rfl, ?_⟩
        refine T_nf (st' := [.int (i32 x296)]) (l' := [(10, 0), (11, y285), (28, (m.1 28)), (69, (m.1 69)), (70, (m.1 70)), (71, (m.1 71)), (72, (m.1 72))]) (a' := [(65, (m.2 65)), (66, (m.2 66)), (67, (m.2 67)), (68, (m.2 68)), (80, (m.2 80))]) rfl rfl rfl rfl rfl ?_
        obtain ⟨g297a, g297b⟩ := g297
        replace h298 : 0 ≤ x296 → 4 ≤ ((m.2 80) w) ∧ ((m.2 80) w) ≤ 124 := h298
        refine T_ld 252 (.int (i32 2)) rfl (fun _ => rfl) ?_
        refine T_icmp 259 255 rfl rfl rfl (r32 (by omega) (by omega)) ⟨by decide, by decide⟩ (fun (h299 : x296 ≠ 2) => ?_) (fun (h299 : ¬ (x296 ≠ 2)) => ?_)
        · skip
          refine T_ld 260 (.int (i32 x287)) rfl (fun _ => rfl) ?_
          refine T_sto 261 [(2, .int (i32 x287)), (5, .int (i32 (m.1 69))), (4, .int (i32 ((m.2 80) w))), (3, .int (i32 ((m.2 82) w))), (0, .ref 189), (1, .int (i32 w))] rfl (fun _ => rfl) ?_
          refine Tm_lv (a := [(0, .ref 189), (1, .int (i32 w)), (2, .int (i32 x287)), (3, .int (i32 ((m.2 82) w))), (4, .int (i32 ((m.2 80) w))), (5, .int (i32 (m.1 69)))]) rfl rfl ⟨rfl, rfl, rfl, rfl, rfl, rfl, trivial⟩ ?_
          exact J261_182 x287 0 y285 (r32 (by omega) (by omega)) ⟨by omega, by omega⟩ g286 (by omega) (fun _ => (by omega))
        · skip
          refine T_ld 256 (.int (i32 1)) rfl (fun _ => rfl) ?_
          refine T_goto 260 rfl (fun _ => rfl) ?_
          refine T_sto 261 [(2, .int (i32 1)), (5, .int (i32 (m.1 69))), (4, .int (i32 ((m.2 80) w))), (3, .int (i32 ((m.2 82) w))), (0, .ref 189), (1, .int (i32 w))] rfl (fun _ => rfl) ?_
          refine Tm_lv (a := [(0, .ref 189), (1, .int (i32 w)), (2, .int (i32 1)), (3, .int (i32 ((m.2 82) w))), (4, .int (i32 ((m.2 80) w))), (5, .int (i32 (m.1 69)))]) rfl rfl ⟨rfl, rfl, rfl, rfl, rfl, rfl, trivial⟩ ?_
          exact J261_182 1 0 y285 ⟨by decide, by decide⟩ ⟨by omega, by omega⟩ g286 (by omega) (fun _ => (by omega))
      · skip
        clear c291
        clear h289
        replace h290 : x287 = 64 ∨ x287 = ((m.2 81) w) ∨ x287 = (m.1 69) := h290
        have hf300 : 1 ≤ y283 := by omega
        clear g177a g177b h178
        refine T_sto 242 [(2, .int (i32 x287)), (5, .int (i32 (m.1 69))), (4, .int (i32 ((m.2 80) w))), (3, .int (i32 ((m.2 82) w))), (0, .ref 189), (1, .int (i32 w))] rfl (fun _ => rfl) ?_
        refine T_gf 246 (.ref 242) rfl rfl rfl rfl rfl rfl ?_
        refine T_ld 247 (.int (i32 w)) rfl (fun _ => rfl) ?_
        refine T_iald 248 80 (m.2 80) rfl rfl rfl (by omega) (show w < (540 : Int) by omega) rfl ?_
        have e301 : (-1) ≤ (m.2 80) w ∧ (m.2 80) w ≤ 330 := (hT.2.1 80) w
        refine T_call 251 259 [.int (i32 ((m.2 80) w))] [] rfl (fun _ => rfl) rfl (c_level w (mO m [(10, y283), (11, y285), (28, (m.1 28)), (69, (m.1 69)), (70, (m.1 70)), (71, (m.1 71)), (72, (m.1 72))] [(65, (m.2 65)), (66, (m.2 66)), (67, (m.2 67)), (68, (m.2 68)), (80, (m.2 80))]) c N D (by omega) (Ty_mO hT rfl rfl ⟨g284, g286, f28, f69, f70, f71, f72, trivial⟩ ⟨(hT.2.1 65), (hT.2.1 66), (hT.2.1 67), (hT.2.1 68), (hT.2.1 80), trivial⟩) ((m.2 80) w) (r32 (by omega) (by omega))) (fun r302 k303 => ?_)
        obtain ⟨x304, g305, h306, rfl⟩ := k303
        refine ⟨_, _, rfl, ?_⟩
        refine T_nf (st' := [.int (i32 x304)]) (l' := [(10, y283), (11, y285), (28, (m.1 28)), (69, (m.1 69)), (70, (m.1 70)), (71, (m.1 71)), (72, (m.1 72))]) (a' := [(65, (m.2 65)), (66, (m.2 66)), (67, (m.2 67)), (68, (m.2 68)), (80, (m.2 80))]) rfl rfl rfl rfl rfl ?_
        obtain ⟨g305a, g305b⟩ := g305
        replace h306 : 0 ≤ x304 → 4 ≤ ((m.2 80) w) ∧ ((m.2 80) w) ≤ 124 := h306
        refine T_ld 252 (.int (i32 2)) rfl (fun _ => rfl) ?_
        refine T_icmp 259 255 rfl rfl rfl (r32 (by omega) (by omega)) ⟨by decide, by decide⟩ (fun (h307 : x304 ≠ 2) => ?_) (fun (h307 : ¬ (x304 ≠ 2)) => ?_)
        · skip
          refine T_ld 260 (.int (i32 x287)) rfl (fun _ => rfl) ?_
          refine T_sto 261 [(2, .int (i32 x287)), (5, .int (i32 (m.1 69))), (4, .int (i32 ((m.2 80) w))), (3, .int (i32 ((m.2 82) w))), (0, .ref 189), (1, .int (i32 w))] rfl (fun _ => rfl) ?_
          refine Tm_lv (a := [(0, .ref 189), (1, .int (i32 w)), (2, .int (i32 x287)), (3, .int (i32 ((m.2 82) w))), (4, .int (i32 ((m.2 80) w))), (5, .int (i32 (m.1 69)))]) rfl rfl ⟨rfl, rfl, rfl, rfl, rfl, rfl, trivial⟩ ?_
          exact J261_182 x287 y283 y285 (r32 (by omega) (by omega)) g284 g286 (by omega) (fun h => absurd h (by omega))
        · skip
          refine T_ld 256 (.int (i32 1)) rfl (fun _ => rfl) ?_
          refine T_goto 260 rfl (fun _ => rfl) ?_
          refine T_sto 261 [(2, .int (i32 1)), (5, .int (i32 (m.1 69))), (4, .int (i32 ((m.2 80) w))), (3, .int (i32 ((m.2 82) w))), (0, .ref 189), (1, .int (i32 w))] rfl (fun _ => rfl) ?_
          refine Tm_lv (a := [(0, .ref 189), (1, .int (i32 w)), (2, .int (i32 1)), (3, .int (i32 ((m.2 82) w))), (4, .int (i32 ((m.2 80) w))), (5, .int (i32 (m.1 69)))]) rfl rfl ⟨rfl, rfl, rfl, rfl, rfl, rfl, trivial⟩ ?_
          exact J261_182 1 y283 y285 ⟨by decide, by decide⟩ g284 g286 (by omega) (fun h => absurd h (by omega))
    by_cases h308 : x176 = 0
    · skip
      refine T_cast 0 h308 ?_
      refine T_pop 88 rfl (fun _ => rfl) ?_
      exact T88_246
    by_cases h309 : x176 = 1
    · skip
      refine T_cast 1 h309 ?_
      refine T_pop 88 rfl (fun _ => rfl) ?_
      exact T88_246
    by_cases h310 : x176 = 6
    · skip
      refine T_cast 6 h310 ?_
      refine T_pop 131 rfl (fun _ => rfl) ?_
      refine T_goto 261 rfl (fun _ => rfl) ?_
      refine Tm_lv (a := [(0, .ref 189), (1, .int (i32 w)), (2, .int (i32 ((m.2 81) w))), (3, .int (i32 ((m.2 82) w))), (4, .int (i32 ((m.2 80) w))), (5, .int (i32 (m.1 69)))]) rfl rfl ⟨rfl, rfl, rfl, rfl, rfl, rfl, trivial⟩ ?_
      exact J261_182 ((m.2 81) w) (m.1 10) (m.1 11) (r32 (by omega) (by omega)) f10 f11 (by omega) (fun _ => (by omega))
    by_cases h311 : x176 = 8
    · skip
      refine T_cast 8 h311 ?_
      refine T_pop 134 rfl (fun _ => rfl) ?_
      refine T_ld 135 (.ref 189) rfl (fun _ => rfl) ?_
      refine T_gf 139 (.ref 245) rfl rfl rfl rfl rfl rfl ?_
      refine T_ld 140 (.int (i32 w)) rfl (fun _ => rfl) ?_
      refine T_bald 141 83 (m.2 83) rfl rfl rfl (by omega) (show w < (540 : Int) by omega) rfl ?_
      have e312 : 0 ≤ m.2 83 w ∧ m.2 83 w ≤ 1 := hT.2.1 83 w
      refine T_if 148 144 rfl rfl rfl (r32 (by omega) (by omega)) (fun (h313 : (m.2 83) w ≠ 0) => ?_) (fun (h313 : ¬ ((m.2 83) w ≠ 0)) => ?_)
      · skip
        refine T_ld 149 (.int (i32 0)) rfl (fun _ => rfl) ?_
        refine T_ld 150 (.int (i32 ((m.2 82) w))) rfl (fun _ => rfl) ?_
        refine T_call 153 256 [.ref 189, .int (i32 0), .int (i32 ((m.2 82) w))] [] rfl (fun _ => rfl) rfl (c_want w (mO m [(10, (m.1 10)), (11, (m.1 11)), (28, (m.1 28)), (69, (m.1 69)), (70, (m.1 70)), (71, (m.1 71)), (72, (m.1 72))] [(65, (m.2 65)), (66, (m.2 66)), (67, (m.2 67)), (68, (m.2 68)), (80, (m.2 80))]) c N D (by omega) (Ty_mO hT rfl rfl ⟨f10, f11, f28, f69, f70, f71, f72, trivial⟩ ⟨(hT.2.1 65), (hT.2.1 66), (hT.2.1 67), (hT.2.1 68), (hT.2.1 80), trivial⟩) 0 ((m.2 82) w) ⟨by decide, by decide⟩ (r32 (by omega) (by omega)) (show 0 ≤ ((m.2 82) w) ∧ ((m.2 82) w) ≤ 4000 by omega) (fun _ => trivial)) (fun r314 k315 => ?_)
        obtain ⟨y316, y318, g317, g319, h320, c321, rfl⟩ := k315
        refine ⟨_, _, rfl, ?_⟩
        refine T_nf (st' := []) (l' := [(10, y316), (11, y318), (28, (m.1 28)), (69, (m.1 69)), (70, (m.1 70)), (71, (m.1 71)), (72, (m.1 72))]) (a' := [(65, (m.2 65)), (66, (m.2 66)), (67, (m.2 67)), (68, (m.2 68)), (80, (m.2 80))]) rfl rfl rfl rfl rfl ?_
        by_cases hf322 : y316 = 0
        · skip
          subst hf322
          replace h320 : (m.1 10) = 0 := h320 rfl
          have c323 := c321 rfl
          replace c323 : 0 ≠ 0 := c323
          clear g177a g177b h178 g317
          refine T_ld 154 (.ref 189) rfl (fun _ => rfl) ?_
          refine T_gf 158 (.int (i32 (m.1 71))) rfl rfl rfl rfl rfl rfl ?_
          refine T_if 165 161 rfl rfl rfl (r32 (by omega) (by omega)) (fun (h324 : (m.1 71) ≠ 0) => ?_) (fun (h324 : ¬ ((m.1 71) ≠ 0)) => ?_)
          · skip
            refine T_ld 166 (.int (i32 0)) rfl (fun _ => rfl) ?_
            refine T_gf 170 (.int (i32 (m.1 70))) rfl rfl rfl rfl rfl rfl ?_
            refine T_call 173 256 [.ref 189, .int (i32 0), .int (i32 (m.1 70))] [] rfl (fun _ => rfl) rfl (c_want w (mO m [(10, 0), (11, y318), (28, (m.1 28)), (69, (m.1 69)), (70, (m.1 70)), (71, (m.1 71)), (72, (m.1 72))] [(65, (m.2 65)), (66, (m.2 66)), (67, (m.2 67)), (68, (m.2 68)), (80, (m.2 80))]) c N D (by omega) (Ty_mO hT rfl rfl ⟨⟨(by omega : (0 : Int) ≤ 0), (by omega : (0 : Int) ≤ 8)⟩, g319, f28, f69, f70, f71, f72, trivial⟩ ⟨(hT.2.1 65), (hT.2.1 66), (hT.2.1 67), (hT.2.1 68), (hT.2.1 80), trivial⟩) 0 (m.1 70) ⟨by decide, by decide⟩ (r32 (by omega) (by omega)) (show 0 ≤ (m.1 70) ∧ (m.1 70) ≤ 4000 by omega) (fun _ => trivial)) (fun r325 k326 => ?_)
            obtain ⟨y327, y329, g328, g330, h331, c332, rfl⟩ := k326
            refine ⟨_, _, rfl, ?_⟩
            refine T_nf (st' := []) (l' := [(10, y327), (11, y329), (28, (m.1 28)), (69, (m.1 69)), (70, (m.1 70)), (71, (m.1 71)), (72, (m.1 72))]) (a' := [(65, (m.2 65)), (66, (m.2 66)), (67, (m.2 67)), (68, (m.2 68)), (80, (m.2 80))]) rfl rfl rfl rfl rfl ?_
            by_cases hf333 : y327 = 0
            · skip
              subst hf333
              replace h331 : 0 = 0 := h331 rfl
              have c334 := c332 rfl
              replace c334 : 0 ≠ 0 := c334
              clear g319 g328
              refine T_ld 174 (.ref 189) rfl (fun _ => rfl) ?_
              refine T_ld 175 (.int (i32 ((m.2 81) w))) rfl (fun _ => rfl) ?_
              refine T_gf 179 (.int (i32 (m.1 69))) rfl rfl rfl rfl rfl rfl ?_
              refine T_iadd 180 rfl rfl ?_
              refine T_ld 182 (.int (i32 64)) rfl (fun _ => rfl) ?_
              refine T_icmp 189 185 rfl rfl rfl (r32 (by omega) (by omega)) ⟨by decide, by decide⟩ (fun (h335 : (64 : Int) < ((m.2 81) w) + (m.1 69)) => ?_) (fun (h335 : ¬ ((64 : Int) < ((m.2 81) w) + (m.1 69))) => ?_)
              · skip
                refine T_ld 190 (.int (i32 0)) rfl (fun _ => rfl) ?_
                refine T_gf 194 (.int (i32 (m.1 70))) rfl rfl rfl rfl rfl rfl ?_
                refine T_call 197 256 [.ref 189, .int (i32 0), .int (i32 (m.1 70))] [] rfl (fun _ => rfl) rfl (c_want w (mO m [(10, 0), (11, y329), (28, (m.1 28)), (69, (m.1 69)), (70, (m.1 70)), (71, (m.1 71)), (72, (m.1 72))] [(65, (m.2 65)), (66, (m.2 66)), (67, (m.2 67)), (68, (m.2 68)), (80, (m.2 80))]) c N D (by omega) (Ty_mO hT rfl rfl ⟨⟨(by omega : (0 : Int) ≤ 0), (by omega : (0 : Int) ≤ 8)⟩, g330, f28, f69, f70, f71, f72, trivial⟩ ⟨(hT.2.1 65), (hT.2.1 66), (hT.2.1 67), (hT.2.1 68), (hT.2.1 80), trivial⟩) 0 (m.1 70) ⟨by decide, by decide⟩ (r32 (by omega) (by omega)) (show 0 ≤ (m.1 70) ∧ (m.1 70) ≤ 4000 by omega) (fun _ => trivial)) (fun r336 k337 => ?_)
                obtain ⟨y338, y340, g339, g341, h342, c343, rfl⟩ := k337
                refine ⟨_, _, rfl, ?_⟩
                refine T_nf (st' := []) (l' := [(10, y338), (11, y340), (28, (m.1 28)), (69, (m.1 69)), (70, (m.1 70)), (71, (m.1 71)), (72, (m.1 72))]) (a' := [(65, (m.2 65)), (66, (m.2 66)), (67, (m.2 67)), (68, (m.2 68)), (80, (m.2 80))]) rfl rfl rfl rfl rfl ?_
                by_cases hf344 : y338 = 0
                · skip
                  subst hf344
                  replace h342 : 0 = 0 := h342 rfl
                  have c345 := c343 rfl
                  replace c345 : 0 ≠ 0 := c345
                  clear g330 g339
                  refine T_ld 198 (.int (i32 ((m.2 81) w))) rfl (fun _ => rfl) ?_
                  refine T_gf 202 (.int (i32 (m.1 69))) rfl rfl rfl rfl rfl rfl ?_
                  refine T_iadd 203 rfl rfl ?_
                  refine T_sto 204 [(2, .int (i32 (((m.2 81) w) + (m.1 69)))), (5, .int (i32 (m.1 69))), (4, .int (i32 ((m.2 80) w))), (3, .int (i32 ((m.2 82) w))), (0, .ref 189), (1, .int (i32 w))] rfl (fun _ => rfl) ?_
                  refine T_goto 261 rfl (fun _ => rfl) ?_
                  refine Tm_lv (a := [(0, .ref 189), (1, .int (i32 w)), (2, .int (i32 (((m.2 81) w) + (m.1 69)))), (3, .int (i32 ((m.2 82) w))), (4, .int (i32 ((m.2 80) w))), (5, .int (i32 (m.1 69)))]) rfl rfl ⟨rfl, rfl, rfl, rfl, rfl, rfl, trivial⟩ ?_
                  exact J261_182 (((m.2 81) w) + (m.1 69)) 0 y340 (r32 (by omega) (by omega)) ⟨by omega, by omega⟩ g341 (by omega) (fun _ => (by omega))
                · skip
                  clear c343
                  clear h342
                  have hf346 : 1 ≤ y338 := by omega
                  clear g330
                  refine Tm_lv (a := [(0, .ref 189), (1, .int (i32 w)), (2, .int (i32 ((m.2 81) w))), (3, .int (i32 ((m.2 82) w))), (4, .int (i32 ((m.2 80) w))), (5, .int (i32 (m.1 69)))]) rfl rfl ⟨rfl, rfl, rfl, rfl, rfl, rfl, trivial⟩ ?_
                  exact J197_62 y338 y340 g339 g341 (by omega) (by omega)
              · skip
                refine T_ld 186 (.int (i32 1)) rfl (fun _ => rfl) ?_
                refine T_goto 190 rfl (fun _ => rfl) ?_
                refine T_gf 194 (.int (i32 (m.1 70))) rfl rfl rfl rfl rfl rfl ?_
                refine T_call 197 256 [.ref 189, .int (i32 1), .int (i32 (m.1 70))] [] rfl (fun _ => rfl) rfl (c_want w (mO m [(10, 0), (11, y329), (28, (m.1 28)), (69, (m.1 69)), (70, (m.1 70)), (71, (m.1 71)), (72, (m.1 72))] [(65, (m.2 65)), (66, (m.2 66)), (67, (m.2 67)), (68, (m.2 68)), (80, (m.2 80))]) c N D (by omega) (Ty_mO hT rfl rfl ⟨⟨(by omega : (0 : Int) ≤ 0), (by omega : (0 : Int) ≤ 8)⟩, g330, f28, f69, f70, f71, f72, trivial⟩ ⟨(hT.2.1 65), (hT.2.1 66), (hT.2.1 67), (hT.2.1 68), (hT.2.1 80), trivial⟩) 1 (m.1 70) ⟨by decide, by decide⟩ (r32 (by omega) (by omega)) (show 0 ≤ (m.1 70) ∧ (m.1 70) ≤ 4000 by omega) (fun _ => trivial)) (fun r347 k348 => ?_)
                obtain ⟨y349, y351, g350, g352, h353, c354, rfl⟩ := k348
                refine ⟨_, _, rfl, ?_⟩
                refine T_nf (st' := []) (l' := [(10, y349), (11, y351), (28, (m.1 28)), (69, (m.1 69)), (70, (m.1 70)), (71, (m.1 71)), (72, (m.1 72))]) (a' := [(65, (m.2 65)), (66, (m.2 66)), (67, (m.2 67)), (68, (m.2 68)), (80, (m.2 80))]) rfl rfl rfl rfl rfl ?_
                by_cases hf355 : y349 = 0
                · skip
                  subst hf355
                  replace h353 : 0 = 0 := h353 rfl
                  have c356 := c354 rfl
                  replace c356 : 1 ≠ 0 := c356
                  clear g330 g350
                  refine T_ld 198 (.int (i32 ((m.2 81) w))) rfl (fun _ => rfl) ?_
                  refine T_gf 202 (.int (i32 (m.1 69))) rfl rfl rfl rfl rfl rfl ?_
                  refine T_iadd 203 rfl rfl ?_
                  refine T_sto 204 [(2, .int (i32 (((m.2 81) w) + (m.1 69)))), (5, .int (i32 (m.1 69))), (4, .int (i32 ((m.2 80) w))), (3, .int (i32 ((m.2 82) w))), (0, .ref 189), (1, .int (i32 w))] rfl (fun _ => rfl) ?_
                  refine T_goto 261 rfl (fun _ => rfl) ?_
                  refine Tm_lv (a := [(0, .ref 189), (1, .int (i32 w)), (2, .int (i32 (((m.2 81) w) + (m.1 69)))), (3, .int (i32 ((m.2 82) w))), (4, .int (i32 ((m.2 80) w))), (5, .int (i32 (m.1 69)))]) rfl rfl ⟨rfl, rfl, rfl, rfl, rfl, rfl, trivial⟩ ?_
                  exact J261_182 (((m.2 81) w) + (m.1 69)) 0 y351 (r32 (by omega) (by omega)) ⟨by omega, by omega⟩ g352 (by omega) (fun _ => (by omega))
                · skip
                  clear c354
                  clear h353
                  have hf357 : 1 ≤ y349 := by omega
                  clear g330
                  refine Tm_lv (a := [(0, .ref 189), (1, .int (i32 w)), (2, .int (i32 ((m.2 81) w))), (3, .int (i32 ((m.2 82) w))), (4, .int (i32 ((m.2 80) w))), (5, .int (i32 (m.1 69)))]) rfl rfl ⟨rfl, rfl, rfl, rfl, rfl, rfl, trivial⟩ ?_
                  exact J197_62 y349 y351 g350 g352 (by omega) (by omega)
            · skip
              clear c332
              clear h331
              have hf358 : 1 ≤ y327 := by omega
              clear g319
              refine Tm_lv (a := [(0, .ref 189), (1, .int (i32 w)), (2, .int (i32 ((m.2 81) w))), (3, .int (i32 ((m.2 82) w))), (4, .int (i32 ((m.2 80) w))), (5, .int (i32 (m.1 69)))]) rfl rfl ⟨rfl, rfl, rfl, rfl, rfl, rfl, trivial⟩ ?_
              exact J173_90 y327 y329 g328 g330 (by omega) (by omega)
          · skip
            refine T_ld 162 (.int (i32 1)) rfl (fun _ => rfl) ?_
            refine T_goto 166 rfl (fun _ => rfl) ?_
            refine T_gf 170 (.int (i32 (m.1 70))) rfl rfl rfl rfl rfl rfl ?_
            refine T_call 173 256 [.ref 189, .int (i32 1), .int (i32 (m.1 70))] [] rfl (fun _ => rfl) rfl (c_want w (mO m [(10, 0), (11, y318), (28, (m.1 28)), (69, (m.1 69)), (70, (m.1 70)), (71, (m.1 71)), (72, (m.1 72))] [(65, (m.2 65)), (66, (m.2 66)), (67, (m.2 67)), (68, (m.2 68)), (80, (m.2 80))]) c N D (by omega) (Ty_mO hT rfl rfl ⟨⟨(by omega : (0 : Int) ≤ 0), (by omega : (0 : Int) ≤ 8)⟩, g319, f28, f69, f70, f71, f72, trivial⟩ ⟨(hT.2.1 65), (hT.2.1 66), (hT.2.1 67), (hT.2.1 68), (hT.2.1 80), trivial⟩) 1 (m.1 70) ⟨by decide, by decide⟩ (r32 (by omega) (by omega)) (show 0 ≤ (m.1 70) ∧ (m.1 70) ≤ 4000 by omega) (fun _ => trivial)) (fun r359 k360 => ?_)
            obtain ⟨y361, y363, g362, g364, h365, c366, rfl⟩ := k360
            refine ⟨_, _, rfl, ?_⟩
            refine T_nf (st' := []) (l' := [(10, y361), (11, y363), (28, (m.1 28)), (69, (m.1 69)), (70, (m.1 70)), (71, (m.1 71)), (72, (m.1 72))]) (a' := [(65, (m.2 65)), (66, (m.2 66)), (67, (m.2 67)), (68, (m.2 68)), (80, (m.2 80))]) rfl rfl rfl rfl rfl ?_
            by_cases hf367 : y361 = 0
            · skip
              subst hf367
              replace h365 : 0 = 0 := h365 rfl
              have c368 := c366 rfl
              replace c368 : 1 ≠ 0 := c368
              clear g319 g362
              refine T_ld 174 (.ref 189) rfl (fun _ => rfl) ?_
              refine T_ld 175 (.int (i32 ((m.2 81) w))) rfl (fun _ => rfl) ?_
              refine T_gf 179 (.int (i32 (m.1 69))) rfl rfl rfl rfl rfl rfl ?_
              refine T_iadd 180 rfl rfl ?_
              refine T_ld 182 (.int (i32 64)) rfl (fun _ => rfl) ?_
              refine T_icmp 189 185 rfl rfl rfl (r32 (by omega) (by omega)) ⟨by decide, by decide⟩ (fun (h369 : (64 : Int) < ((m.2 81) w) + (m.1 69)) => ?_) (fun (h369 : ¬ ((64 : Int) < ((m.2 81) w) + (m.1 69))) => ?_)
              · skip
                refine T_ld 190 (.int (i32 0)) rfl (fun _ => rfl) ?_
                refine T_gf 194 (.int (i32 (m.1 70))) rfl rfl rfl rfl rfl rfl ?_
                refine T_call 197 256 [.ref 189, .int (i32 0), .int (i32 (m.1 70))] [] rfl (fun _ => rfl) rfl (c_want w (mO m [(10, 0), (11, y363), (28, (m.1 28)), (69, (m.1 69)), (70, (m.1 70)), (71, (m.1 71)), (72, (m.1 72))] [(65, (m.2 65)), (66, (m.2 66)), (67, (m.2 67)), (68, (m.2 68)), (80, (m.2 80))]) c N D (by omega) (Ty_mO hT rfl rfl ⟨⟨(by omega : (0 : Int) ≤ 0), (by omega : (0 : Int) ≤ 8)⟩, g364, f28, f69, f70, f71, f72, trivial⟩ ⟨(hT.2.1 65), (hT.2.1 66), (hT.2.1 67), (hT.2.1 68), (hT.2.1 80), trivial⟩) 0 (m.1 70) ⟨by decide, by decide⟩ (r32 (by omega) (by omega)) (show 0 ≤ (m.1 70) ∧ (m.1 70) ≤ 4000 by omega) (fun _ => trivial)) (fun r370 k371 => ?_)
                obtain ⟨y372, y374, g373, g375, h376, c377, rfl⟩ := k371
                refine ⟨_, _, rfl, ?_⟩
                refine T_nf (st' := []) (l' := [(10, y372), (11, y374), (28, (m.1 28)), (69, (m.1 69)), (70, (m.1 70)), (71, (m.1 71)), (72, (m.1 72))]) (a' := [(65, (m.2 65)), (66, (m.2 66)), (67, (m.2 67)), (68, (m.2 68)), (80, (m.2 80))]) rfl rfl rfl rfl rfl ?_
                by_cases hf378 : y372 = 0
                · skip
                  subst hf378
                  replace h376 : 0 = 0 := h376 rfl
                  have c379 := c377 rfl
                  replace c379 : 0 ≠ 0 := c379
                  clear g364 g373
                  refine T_ld 198 (.int (i32 ((m.2 81) w))) rfl (fun _ => rfl) ?_
                  refine T_gf 202 (.int (i32 (m.1 69))) rfl rfl rfl rfl rfl rfl ?_
                  refine T_iadd 203 rfl rfl ?_
                  refine T_sto 204 [(2, .int (i32 (((m.2 81) w) + (m.1 69)))), (5, .int (i32 (m.1 69))), (4, .int (i32 ((m.2 80) w))), (3, .int (i32 ((m.2 82) w))), (0, .ref 189), (1, .int (i32 w))] rfl (fun _ => rfl) ?_
                  refine T_goto 261 rfl (fun _ => rfl) ?_
                  refine Tm_lv (a := [(0, .ref 189), (1, .int (i32 w)), (2, .int (i32 (((m.2 81) w) + (m.1 69)))), (3, .int (i32 ((m.2 82) w))), (4, .int (i32 ((m.2 80) w))), (5, .int (i32 (m.1 69)))]) rfl rfl ⟨rfl, rfl, rfl, rfl, rfl, rfl, trivial⟩ ?_
                  exact J261_182 (((m.2 81) w) + (m.1 69)) 0 y374 (r32 (by omega) (by omega)) ⟨by omega, by omega⟩ g375 (by omega) (fun _ => (by omega))
                · skip
                  clear c377
                  clear h376
                  have hf380 : 1 ≤ y372 := by omega
                  clear g364
                  refine Tm_lv (a := [(0, .ref 189), (1, .int (i32 w)), (2, .int (i32 ((m.2 81) w))), (3, .int (i32 ((m.2 82) w))), (4, .int (i32 ((m.2 80) w))), (5, .int (i32 (m.1 69)))]) rfl rfl ⟨rfl, rfl, rfl, rfl, rfl, rfl, trivial⟩ ?_
                  exact J197_62 y372 y374 g373 g375 (by omega) (by omega)
              · skip
                refine T_ld 186 (.int (i32 1)) rfl (fun _ => rfl) ?_
                refine T_goto 190 rfl (fun _ => rfl) ?_
                refine T_gf 194 (.int (i32 (m.1 70))) rfl rfl rfl rfl rfl rfl ?_
                refine T_call 197 256 [.ref 189, .int (i32 1), .int (i32 (m.1 70))] [] rfl (fun _ => rfl) rfl (c_want w (mO m [(10, 0), (11, y363), (28, (m.1 28)), (69, (m.1 69)), (70, (m.1 70)), (71, (m.1 71)), (72, (m.1 72))] [(65, (m.2 65)), (66, (m.2 66)), (67, (m.2 67)), (68, (m.2 68)), (80, (m.2 80))]) c N D (by omega) (Ty_mO hT rfl rfl ⟨⟨(by omega : (0 : Int) ≤ 0), (by omega : (0 : Int) ≤ 8)⟩, g364, f28, f69, f70, f71, f72, trivial⟩ ⟨(hT.2.1 65), (hT.2.1 66), (hT.2.1 67), (hT.2.1 68), (hT.2.1 80), trivial⟩) 1 (m.1 70) ⟨by decide, by decide⟩ (r32 (by omega) (by omega)) (show 0 ≤ (m.1 70) ∧ (m.1 70) ≤ 4000 by omega) (fun _ => trivial)) (fun r381 k382 => ?_)
                obtain ⟨y383, y385, g384, g386, h387, c388, rfl⟩ := k382
                refine ⟨_, _, rfl, ?_⟩
                refine T_nf (st' := []) (l' := [(10, y383), (11, y385), (28, (m.1 28)), (69, (m.1 69)), (70, (m.1 70)), (71, (m.1 71)), (72, (m.1 72))]) (a' := [(65, (m.2 65)), (66, (m.2 66)), (67, (m.2 67)), (68, (m.2 68)), (80, (m.2 80))]) rfl rfl rfl rfl rfl ?_
                by_cases hf389 : y383 = 0
                · skip
                  subst hf389
                  replace h387 : 0 = 0 := h387 rfl
                  have c390 := c388 rfl
                  replace c390 : 1 ≠ 0 := c390
                  clear g364 g384
                  refine T_ld 198 (.int (i32 ((m.2 81) w))) rfl (fun _ => rfl) ?_
                  refine T_gf 202 (.int (i32 (m.1 69))) rfl rfl rfl rfl rfl rfl ?_
                  refine T_iadd 203 rfl rfl ?_
                  refine T_sto 204 [(2, .int (i32 (((m.2 81) w) + (m.1 69)))), (5, .int (i32 (m.1 69))), (4, .int (i32 ((m.2 80) w))), (3, .int (i32 ((m.2 82) w))), (0, .ref 189), (1, .int (i32 w))] rfl (fun _ => rfl) ?_
                  refine T_goto 261 rfl (fun _ => rfl) ?_
                  refine Tm_lv (a := [(0, .ref 189), (1, .int (i32 w)), (2, .int (i32 (((m.2 81) w) + (m.1 69)))), (3, .int (i32 ((m.2 82) w))), (4, .int (i32 ((m.2 80) w))), (5, .int (i32 (m.1 69)))]) rfl rfl ⟨rfl, rfl, rfl, rfl, rfl, rfl, trivial⟩ ?_
                  exact J261_182 (((m.2 81) w) + (m.1 69)) 0 y385 (r32 (by omega) (by omega)) ⟨by omega, by omega⟩ g386 (by omega) (fun _ => (by omega))
                · skip
                  clear c388
                  clear h387
                  have hf391 : 1 ≤ y383 := by omega
                  clear g364
                  refine Tm_lv (a := [(0, .ref 189), (1, .int (i32 w)), (2, .int (i32 ((m.2 81) w))), (3, .int (i32 ((m.2 82) w))), (4, .int (i32 ((m.2 80) w))), (5, .int (i32 (m.1 69)))]) rfl rfl ⟨rfl, rfl, rfl, rfl, rfl, rfl, trivial⟩ ?_
                  exact J197_62 y383 y385 g384 g386 (by omega) (by omega)
            · skip
              clear c366
              clear h365
              have hf392 : 1 ≤ y361 := by omega
              clear g319
              refine Tm_lv (a := [(0, .ref 189), (1, .int (i32 w)), (2, .int (i32 ((m.2 81) w))), (3, .int (i32 ((m.2 82) w))), (4, .int (i32 ((m.2 80) w))), (5, .int (i32 (m.1 69)))]) rfl rfl ⟨rfl, rfl, rfl, rfl, rfl, rfl, trivial⟩ ?_
              exact J173_90 y361 y363 g362 g364 (by omega) (by omega)
        · skip
          clear c321
          clear h320
          have hf393 : 1 ≤ y316 := by omega
          clear g177a g177b h178
          refine Tm_lv (a := [(0, .ref 189), (1, .int (i32 w)), (2, .int (i32 ((m.2 81) w))), (3, .int (i32 ((m.2 82) w))), (4, .int (i32 ((m.2 80) w))), (5, .int (i32 (m.1 69)))]) rfl rfl ⟨rfl, rfl, rfl, rfl, rfl, rfl, trivial⟩ ?_
          exact J153_117 y316 y318 g317 g319 (by omega) (by omega)
      · skip
        refine T_ld 145 (.int (i32 1)) rfl (fun _ => rfl) ?_
        refine T_goto 149 rfl (fun _ => rfl) ?_
        refine T_ld 150 (.int (i32 ((m.2 82) w))) rfl (fun _ => rfl) ?_
        refine T_call 153 256 [.ref 189, .int (i32 1), .int (i32 ((m.2 82) w))] [] rfl (fun _ => rfl) rfl (c_want w (mO m [(10, (m.1 10)), (11, (m.1 11)), (28, (m.1 28)), (69, (m.1 69)), (70, (m.1 70)), (71, (m.1 71)), (72, (m.1 72))] [(65, (m.2 65)), (66, (m.2 66)), (67, (m.2 67)), (68, (m.2 68)), (80, (m.2 80))]) c N D (by omega) (Ty_mO hT rfl rfl ⟨f10, f11, f28, f69, f70, f71, f72, trivial⟩ ⟨(hT.2.1 65), (hT.2.1 66), (hT.2.1 67), (hT.2.1 68), (hT.2.1 80), trivial⟩) 1 ((m.2 82) w) ⟨by decide, by decide⟩ (r32 (by omega) (by omega)) (show 0 ≤ ((m.2 82) w) ∧ ((m.2 82) w) ≤ 4000 by omega) (fun _ => trivial)) (fun r394 k395 => ?_)
        obtain ⟨y396, y398, g397, g399, h400, c401, rfl⟩ := k395
        refine ⟨_, _, rfl, ?_⟩
        refine T_nf (st' := []) (l' := [(10, y396), (11, y398), (28, (m.1 28)), (69, (m.1 69)), (70, (m.1 70)), (71, (m.1 71)), (72, (m.1 72))]) (a' := [(65, (m.2 65)), (66, (m.2 66)), (67, (m.2 67)), (68, (m.2 68)), (80, (m.2 80))]) rfl rfl rfl rfl rfl ?_
        by_cases hf402 : y396 = 0
        · skip
          subst hf402
          replace h400 : (m.1 10) = 0 := h400 rfl
          have c403 := c401 rfl
          replace c403 : 1 ≠ 0 := c403
          clear g177a g177b h178 g397
          refine T_ld 154 (.ref 189) rfl (fun _ => rfl) ?_
          refine T_gf 158 (.int (i32 (m.1 71))) rfl rfl rfl rfl rfl rfl ?_
          refine T_if 165 161 rfl rfl rfl (r32 (by omega) (by omega)) (fun (h404 : (m.1 71) ≠ 0) => ?_) (fun (h404 : ¬ ((m.1 71) ≠ 0)) => ?_)
          · skip
            refine T_ld 166 (.int (i32 0)) rfl (fun _ => rfl) ?_
            refine T_gf 170 (.int (i32 (m.1 70))) rfl rfl rfl rfl rfl rfl ?_
            refine T_call 173 256 [.ref 189, .int (i32 0), .int (i32 (m.1 70))] [] rfl (fun _ => rfl) rfl (c_want w (mO m [(10, 0), (11, y398), (28, (m.1 28)), (69, (m.1 69)), (70, (m.1 70)), (71, (m.1 71)), (72, (m.1 72))] [(65, (m.2 65)), (66, (m.2 66)), (67, (m.2 67)), (68, (m.2 68)), (80, (m.2 80))]) c N D (by omega) (Ty_mO hT rfl rfl ⟨⟨(by omega : (0 : Int) ≤ 0), (by omega : (0 : Int) ≤ 8)⟩, g399, f28, f69, f70, f71, f72, trivial⟩ ⟨(hT.2.1 65), (hT.2.1 66), (hT.2.1 67), (hT.2.1 68), (hT.2.1 80), trivial⟩) 0 (m.1 70) ⟨by decide, by decide⟩ (r32 (by omega) (by omega)) (show 0 ≤ (m.1 70) ∧ (m.1 70) ≤ 4000 by omega) (fun _ => trivial)) (fun r405 k406 => ?_)
            obtain ⟨y407, y409, g408, g410, h411, c412, rfl⟩ := k406
            refine ⟨_, _, rfl, ?_⟩
            refine T_nf (st' := []) (l' := [(10, y407), (11, y409), (28, (m.1 28)), (69, (m.1 69)), (70, (m.1 70)), (71, (m.1 71)), (72, (m.1 72))]) (a' := [(65, (m.2 65)), (66, (m.2 66)), (67, (m.2 67)), (68, (m.2 68)), (80, (m.2 80))]) rfl rfl rfl rfl rfl ?_
            by_cases hf413 : y407 = 0
            · skip
              subst hf413
              replace h411 : 0 = 0 := h411 rfl
              have c414 := c412 rfl
              replace c414 : 0 ≠ 0 := c414
              clear g399 g408
              refine T_ld 174 (.ref 189) rfl (fun _ => rfl) ?_
              refine T_ld 175 (.int (i32 ((m.2 81) w))) rfl (fun _ => rfl) ?_
              refine T_gf 179 (.int (i32 (m.1 69))) rfl rfl rfl rfl rfl rfl ?_
              refine T_iadd 180 rfl rfl ?_
              refine T_ld 182 (.int (i32 64)) rfl (fun _ => rfl) ?_
              refine T_icmp 189 185 rfl rfl rfl (r32 (by omega) (by omega)) ⟨by decide, by decide⟩ (fun (h415 : (64 : Int) < ((m.2 81) w) + (m.1 69)) => ?_) (fun (h415 : ¬ ((64 : Int) < ((m.2 81) w) + (m.1 69))) => ?_)
              · skip
                refine T_ld 190 (.int (i32 0)) rfl (fun _ => rfl) ?_
                refine T_gf 194 (.int (i32 (m.1 70))) rfl rfl rfl rfl rfl rfl ?_
                refine T_call 197 256 [.ref 189, .int (i32 0), .int (i32 (m.1 70))] [] rfl (fun _ => rfl) rfl (c_want w (mO m [(10, 0), (11, y409), (28, (m.1 28)), (69, (m.1 69)), (70, (m.1 70)), (71, (m.1 71)), (72, (m.1 72))] [(65, (m.2 65)), (66, (m.2 66)), (67, (m.2 67)), (68, (m.2 68)), (80, (m.2 80))]) c N D (by omega) (Ty_mO hT rfl rfl ⟨⟨(by omega : (0 : Int) ≤ 0), (by omega : (0 : Int) ≤ 8)⟩, g410, f28, f69, f70, f71, f72, trivial⟩ ⟨(hT.2.1 65), (hT.2.1 66), (hT.2.1 67), (hT.2.1 68), (hT.2.1 80), trivial⟩) 0 (m.1 70) ⟨by decide, by decide⟩ (r32 (by omega) (by omega)) (show 0 ≤ (m.1 70) ∧ (m.1 70) ≤ 4000 by omega) (fun _ => trivial)) (fun r416 k417 => ?_)
                obtain ⟨y418, y420, g419, g421, h422, c423, rfl⟩ := k417
                refine ⟨_, _, rfl, ?_⟩
                refine T_nf (st' := []) (l' := [(10, y418), (11, y420), (28, (m.1 28)), (69, (m.1 69)), (70, (m.1 70)), (71, (m.1 71)), (72, (m.1 72))]) (a' := [(65, (m.2 65)), (66, (m.2 66)), (67, (m.2 67)), (68, (m.2 68)), (80, (m.2 80))]) rfl rfl rfl rfl rfl ?_
                by_cases hf424 : y418 = 0
                · skip
                  subst hf424
                  replace h422 : 0 = 0 := h422 rfl
                  have c425 := c423 rfl
                  replace c425 : 0 ≠ 0 := c425
                  clear g410 g419
                  refine T_ld 198 (.int (i32 ((m.2 81) w))) rfl (fun _ => rfl) ?_
                  refine T_gf 202 (.int (i32 (m.1 69))) rfl rfl rfl rfl rfl rfl ?_
                  refine T_iadd 203 rfl rfl ?_
                  refine T_sto 204 [(2, .int (i32 (((m.2 81) w) + (m.1 69)))), (5, .int (i32 (m.1 69))), (4, .int (i32 ((m.2 80) w))), (3, .int (i32 ((m.2 82) w))), (0, .ref 189), (1, .int (i32 w))] rfl (fun _ => rfl) ?_
                  refine T_goto 261 rfl (fun _ => rfl) ?_
                  refine Tm_lv (a := [(0, .ref 189), (1, .int (i32 w)), (2, .int (i32 (((m.2 81) w) + (m.1 69)))), (3, .int (i32 ((m.2 82) w))), (4, .int (i32 ((m.2 80) w))), (5, .int (i32 (m.1 69)))]) rfl rfl ⟨rfl, rfl, rfl, rfl, rfl, rfl, trivial⟩ ?_
                  exact J261_182 (((m.2 81) w) + (m.1 69)) 0 y420 (r32 (by omega) (by omega)) ⟨by omega, by omega⟩ g421 (by omega) (fun _ => (by omega))
                · skip
                  clear c423
                  clear h422
                  have hf426 : 1 ≤ y418 := by omega
                  clear g410
                  refine Tm_lv (a := [(0, .ref 189), (1, .int (i32 w)), (2, .int (i32 ((m.2 81) w))), (3, .int (i32 ((m.2 82) w))), (4, .int (i32 ((m.2 80) w))), (5, .int (i32 (m.1 69)))]) rfl rfl ⟨rfl, rfl, rfl, rfl, rfl, rfl, trivial⟩ ?_
                  exact J197_62 y418 y420 g419 g421 (by omega) (by omega)
              · skip
                refine T_ld 186 (.int (i32 1)) rfl (fun _ => rfl) ?_
                refine T_goto 190 rfl (fun _ => rfl) ?_
                refine T_gf 194 (.int (i32 (m.1 70))) rfl rfl rfl rfl rfl rfl ?_
                refine T_call 197 256 [.ref 189, .int (i32 1), .int (i32 (m.1 70))] [] rfl (fun _ => rfl) rfl (c_want w (mO m [(10, 0), (11, y409), (28, (m.1 28)), (69, (m.1 69)), (70, (m.1 70)), (71, (m.1 71)), (72, (m.1 72))] [(65, (m.2 65)), (66, (m.2 66)), (67, (m.2 67)), (68, (m.2 68)), (80, (m.2 80))]) c N D (by omega) (Ty_mO hT rfl rfl ⟨⟨(by omega : (0 : Int) ≤ 0), (by omega : (0 : Int) ≤ 8)⟩, g410, f28, f69, f70, f71, f72, trivial⟩ ⟨(hT.2.1 65), (hT.2.1 66), (hT.2.1 67), (hT.2.1 68), (hT.2.1 80), trivial⟩) 1 (m.1 70) ⟨by decide, by decide⟩ (r32 (by omega) (by omega)) (show 0 ≤ (m.1 70) ∧ (m.1 70) ≤ 4000 by omega) (fun _ => trivial)) (fun r427 k428 => ?_)
                obtain ⟨y429, y431, g430, g432, h433, c434, rfl⟩ := k428
                refine ⟨_, _, rfl, ?_⟩
                refine T_nf (st' := []) (l' := [(10, y429), (11, y431), (28, (m.1 28)), (69, (m.1 69)), (70, (m.1 70)), (71, (m.1 71)), (72, (m.1 72))]) (a' := [(65, (m.2 65)), (66, (m.2 66)), (67, (m.2 67)), (68, (m.2 68)), (80, (m.2 80))]) rfl rfl rfl rfl rfl ?_
                by_cases hf435 : y429 = 0
                · skip
                  subst hf435
                  replace h433 : 0 = 0 := h433 rfl
                  have c436 := c434 rfl
                  replace c436 : 1 ≠ 0 := c436
                  clear g410 g430
                  refine T_ld 198 (.int (i32 ((m.2 81) w))) rfl (fun _ => rfl) ?_
                  refine T_gf 202 (.int (i32 (m.1 69))) rfl rfl rfl rfl rfl rfl ?_
                  refine T_iadd 203 rfl rfl ?_
                  refine T_sto 204 [(2, .int (i32 (((m.2 81) w) + (m.1 69)))), (5, .int (i32 (m.1 69))), (4, .int (i32 ((m.2 80) w))), (3, .int (i32 ((m.2 82) w))), (0, .ref 189), (1, .int (i32 w))] rfl (fun _ => rfl) ?_
                  refine T_goto 261 rfl (fun _ => rfl) ?_
                  refine Tm_lv (a := [(0, .ref 189), (1, .int (i32 w)), (2, .int (i32 (((m.2 81) w) + (m.1 69)))), (3, .int (i32 ((m.2 82) w))), (4, .int (i32 ((m.2 80) w))), (5, .int (i32 (m.1 69)))]) rfl rfl ⟨rfl, rfl, rfl, rfl, rfl, rfl, trivial⟩ ?_
                  exact J261_182 (((m.2 81) w) + (m.1 69)) 0 y431 (r32 (by omega) (by omega)) ⟨by omega, by omega⟩ g432 (by omega) (fun _ => (by omega))
                · skip
                  clear c434
                  clear h433
                  have hf437 : 1 ≤ y429 := by omega
                  clear g410
                  refine Tm_lv (a := [(0, .ref 189), (1, .int (i32 w)), (2, .int (i32 ((m.2 81) w))), (3, .int (i32 ((m.2 82) w))), (4, .int (i32 ((m.2 80) w))), (5, .int (i32 (m.1 69)))]) rfl rfl ⟨rfl, rfl, rfl, rfl, rfl, rfl, trivial⟩ ?_
                  exact J197_62 y429 y431 g430 g432 (by omega) (by omega)
            · skip
              clear c412
              clear h411
              have hf438 : 1 ≤ y407 := by omega
              clear g399
              refine Tm_lv (a := [(0, .ref 189), (1, .int (i32 w)), (2, .int (i32 ((m.2 81) w))), (3, .int (i32 ((m.2 82) w))), (4, .int (i32 ((m.2 80) w))), (5, .int (i32 (m.1 69)))]) rfl rfl ⟨rfl, rfl, rfl, rfl, rfl, rfl, trivial⟩ ?_
              exact J173_90 y407 y409 g408 g410 (by omega) (by omega)
          · skip
            refine T_ld 162 (.int (i32 1)) rfl (fun _ => rfl) ?_
            refine T_goto 166 rfl (fun _ => rfl) ?_
            refine T_gf 170 (.int (i32 (m.1 70))) rfl rfl rfl rfl rfl rfl ?_
            refine T_call 173 256 [.ref 189, .int (i32 1), .int (i32 (m.1 70))] [] rfl (fun _ => rfl) rfl (c_want w (mO m [(10, 0), (11, y398), (28, (m.1 28)), (69, (m.1 69)), (70, (m.1 70)), (71, (m.1 71)), (72, (m.1 72))] [(65, (m.2 65)), (66, (m.2 66)), (67, (m.2 67)), (68, (m.2 68)), (80, (m.2 80))]) c N D (by omega) (Ty_mO hT rfl rfl ⟨⟨(by omega : (0 : Int) ≤ 0), (by omega : (0 : Int) ≤ 8)⟩, g399, f28, f69, f70, f71, f72, trivial⟩ ⟨(hT.2.1 65), (hT.2.1 66), (hT.2.1 67), (hT.2.1 68), (hT.2.1 80), trivial⟩) 1 (m.1 70) ⟨by decide, by decide⟩ (r32 (by omega) (by omega)) (show 0 ≤ (m.1 70) ∧ (m.1 70) ≤ 4000 by omega) (fun _ => trivial)) (fun r439 k440 => ?_)
            obtain ⟨y441, y443, g442, g444, h445, c446, rfl⟩ := k440
            refine ⟨_, _, rfl, ?_⟩
            refine T_nf (st' := []) (l' := [(10, y441), (11, y443), (28, (m.1 28)), (69, (m.1 69)), (70, (m.1 70)), (71, (m.1 71)), (72, (m.1 72))]) (a' := [(65, (m.2 65)), (66, (m.2 66)), (67, (m.2 67)), (68, (m.2 68)), (80, (m.2 80))]) rfl rfl rfl rfl rfl ?_
            by_cases hf447 : y441 = 0
            · skip
              subst hf447
              replace h445 : 0 = 0 := h445 rfl
              have c448 := c446 rfl
              replace c448 : 1 ≠ 0 := c448
              clear g399 g442
              refine T_ld 174 (.ref 189) rfl (fun _ => rfl) ?_
              refine T_ld 175 (.int (i32 ((m.2 81) w))) rfl (fun _ => rfl) ?_
              refine T_gf 179 (.int (i32 (m.1 69))) rfl rfl rfl rfl rfl rfl ?_
              refine T_iadd 180 rfl rfl ?_
              refine T_ld 182 (.int (i32 64)) rfl (fun _ => rfl) ?_
              refine T_icmp 189 185 rfl rfl rfl (r32 (by omega) (by omega)) ⟨by decide, by decide⟩ (fun (h449 : (64 : Int) < ((m.2 81) w) + (m.1 69)) => ?_) (fun (h449 : ¬ ((64 : Int) < ((m.2 81) w) + (m.1 69))) => ?_)
              · skip
                refine T_ld 190 (.int (i32 0)) rfl (fun _ => rfl) ?_
                refine T_gf 194 (.int (i32 (m.1 70))) rfl rfl rfl rfl rfl rfl ?_
                refine T_call 197 256 [.ref 189, .int (i32 0), .int (i32 (m.1 70))] [] rfl (fun _ => rfl) rfl (c_want w (mO m [(10, 0), (11, y443), (28, (m.1 28)), (69, (m.1 69)), (70, (m.1 70)), (71, (m.1 71)), (72, (m.1 72))] [(65, (m.2 65)), (66, (m.2 66)), (67, (m.2 67)), (68, (m.2 68)), (80, (m.2 80))]) c N D (by omega) (Ty_mO hT rfl rfl ⟨⟨(by omega : (0 : Int) ≤ 0), (by omega : (0 : Int) ≤ 8)⟩, g444, f28, f69, f70, f71, f72, trivial⟩ ⟨(hT.2.1 65), (hT.2.1 66), (hT.2.1 67), (hT.2.1 68), (hT.2.1 80), trivial⟩) 0 (m.1 70) ⟨by decide, by decide⟩ (r32 (by omega) (by omega)) (show 0 ≤ (m.1 70) ∧ (m.1 70) ≤ 4000 by omega) (fun _ => trivial)) (fun r450 k451 => ?_)
                obtain ⟨y452, y454, g453, g455, h456, c457, rfl⟩ := k451
                refine ⟨_, _, rfl, ?_⟩
                refine T_nf (st' := []) (l' := [(10, y452), (11, y454), (28, (m.1 28)), (69, (m.1 69)), (70, (m.1 70)), (71, (m.1 71)), (72, (m.1 72))]) (a' := [(65, (m.2 65)), (66, (m.2 66)), (67, (m.2 67)), (68, (m.2 68)), (80, (m.2 80))]) rfl rfl rfl rfl rfl ?_
                by_cases hf458 : y452 = 0
                · skip
                  subst hf458
                  replace h456 : 0 = 0 := h456 rfl
                  have c459 := c457 rfl
                  replace c459 : 0 ≠ 0 := c459
                  clear g444 g453
                  refine T_ld 198 (.int (i32 ((m.2 81) w))) rfl (fun _ => rfl) ?_
                  refine T_gf 202 (.int (i32 (m.1 69))) rfl rfl rfl rfl rfl rfl ?_
                  refine T_iadd 203 rfl rfl ?_
                  refine T_sto 204 [(2, .int (i32 (((m.2 81) w) + (m.1 69)))), (5, .int (i32 (m.1 69))), (4, .int (i32 ((m.2 80) w))), (3, .int (i32 ((m.2 82) w))), (0, .ref 189), (1, .int (i32 w))] rfl (fun _ => rfl) ?_
                  refine T_goto 261 rfl (fun _ => rfl) ?_
                  refine Tm_lv (a := [(0, .ref 189), (1, .int (i32 w)), (2, .int (i32 (((m.2 81) w) + (m.1 69)))), (3, .int (i32 ((m.2 82) w))), (4, .int (i32 ((m.2 80) w))), (5, .int (i32 (m.1 69)))]) rfl rfl ⟨rfl, rfl, rfl, rfl, rfl, rfl, trivial⟩ ?_
                  exact J261_182 (((m.2 81) w) + (m.1 69)) 0 y454 (r32 (by omega) (by omega)) ⟨by omega, by omega⟩ g455 (by omega) (fun _ => (by omega))
                · skip
                  clear c457
                  clear h456
                  have hf460 : 1 ≤ y452 := by omega
                  clear g444
                  refine Tm_lv (a := [(0, .ref 189), (1, .int (i32 w)), (2, .int (i32 ((m.2 81) w))), (3, .int (i32 ((m.2 82) w))), (4, .int (i32 ((m.2 80) w))), (5, .int (i32 (m.1 69)))]) rfl rfl ⟨rfl, rfl, rfl, rfl, rfl, rfl, trivial⟩ ?_
                  exact J197_62 y452 y454 g453 g455 (by omega) (by omega)
              · skip
                refine T_ld 186 (.int (i32 1)) rfl (fun _ => rfl) ?_
                refine T_goto 190 rfl (fun _ => rfl) ?_
                refine T_gf 194 (.int (i32 (m.1 70))) rfl rfl rfl rfl rfl rfl ?_
                refine T_call 197 256 [.ref 189, .int (i32 1), .int (i32 (m.1 70))] [] rfl (fun _ => rfl) rfl (c_want w (mO m [(10, 0), (11, y443), (28, (m.1 28)), (69, (m.1 69)), (70, (m.1 70)), (71, (m.1 71)), (72, (m.1 72))] [(65, (m.2 65)), (66, (m.2 66)), (67, (m.2 67)), (68, (m.2 68)), (80, (m.2 80))]) c N D (by omega) (Ty_mO hT rfl rfl ⟨⟨(by omega : (0 : Int) ≤ 0), (by omega : (0 : Int) ≤ 8)⟩, g444, f28, f69, f70, f71, f72, trivial⟩ ⟨(hT.2.1 65), (hT.2.1 66), (hT.2.1 67), (hT.2.1 68), (hT.2.1 80), trivial⟩) 1 (m.1 70) ⟨by decide, by decide⟩ (r32 (by omega) (by omega)) (show 0 ≤ (m.1 70) ∧ (m.1 70) ≤ 4000 by omega) (fun _ => trivial)) (fun r461 k462 => ?_)
                obtain ⟨y463, y465, g464, g466, h467, c468, rfl⟩ := k462
                refine ⟨_, _, rfl, ?_⟩
                refine T_nf (st' := []) (l' := [(10, y463), (11, y465), (28, (m.1 28)), (69, (m.1 69)), (70, (m.1 70)), (71, (m.1 71)), (72, (m.1 72))]) (a' := [(65, (m.2 65)), (66, (m.2 66)), (67, (m.2 67)), (68, (m.2 68)), (80, (m.2 80))]) rfl rfl rfl rfl rfl ?_
                by_cases hf469 : y463 = 0
                · skip
                  subst hf469
                  replace h467 : 0 = 0 := h467 rfl
                  have c470 := c468 rfl
                  replace c470 : 1 ≠ 0 := c470
                  clear g444 g464
                  refine T_ld 198 (.int (i32 ((m.2 81) w))) rfl (fun _ => rfl) ?_
                  refine T_gf 202 (.int (i32 (m.1 69))) rfl rfl rfl rfl rfl rfl ?_
                  refine T_iadd 203 rfl rfl ?_
                  refine T_sto 204 [(2, .int (i32 (((m.2 81) w) + (m.1 69)))), (5, .int (i32 (m.1 69))), (4, .int (i32 ((m.2 80) w))), (3, .int (i32 ((m.2 82) w))), (0, .ref 189), (1, .int (i32 w))] rfl (fun _ => rfl) ?_
                  refine T_goto 261 rfl (fun _ => rfl) ?_
                  refine Tm_lv (a := [(0, .ref 189), (1, .int (i32 w)), (2, .int (i32 (((m.2 81) w) + (m.1 69)))), (3, .int (i32 ((m.2 82) w))), (4, .int (i32 ((m.2 80) w))), (5, .int (i32 (m.1 69)))]) rfl rfl ⟨rfl, rfl, rfl, rfl, rfl, rfl, trivial⟩ ?_
                  exact J261_182 (((m.2 81) w) + (m.1 69)) 0 y465 (r32 (by omega) (by omega)) ⟨by omega, by omega⟩ g466 (by omega) (fun _ => (by omega))
                · skip
                  clear c468
                  clear h467
                  have hf471 : 1 ≤ y463 := by omega
                  clear g444
                  refine Tm_lv (a := [(0, .ref 189), (1, .int (i32 w)), (2, .int (i32 ((m.2 81) w))), (3, .int (i32 ((m.2 82) w))), (4, .int (i32 ((m.2 80) w))), (5, .int (i32 (m.1 69)))]) rfl rfl ⟨rfl, rfl, rfl, rfl, rfl, rfl, trivial⟩ ?_
                  exact J197_62 y463 y465 g464 g466 (by omega) (by omega)
            · skip
              clear c446
              clear h445
              have hf472 : 1 ≤ y441 := by omega
              clear g399
              refine Tm_lv (a := [(0, .ref 189), (1, .int (i32 w)), (2, .int (i32 ((m.2 81) w))), (3, .int (i32 ((m.2 82) w))), (4, .int (i32 ((m.2 80) w))), (5, .int (i32 (m.1 69)))]) rfl rfl ⟨rfl, rfl, rfl, rfl, rfl, rfl, trivial⟩ ?_
              exact J173_90 y441 y443 g442 g444 (by omega) (by omega)
        · skip
          clear c401
          clear h400
          have hf473 : 1 ≤ y396 := by omega
          clear g177a g177b h178
          refine Tm_lv (a := [(0, .ref 189), (1, .int (i32 w)), (2, .int (i32 ((m.2 81) w))), (3, .int (i32 ((m.2 82) w))), (4, .int (i32 ((m.2 80) w))), (5, .int (i32 (m.1 69)))]) rfl rfl ⟨rfl, rfl, rfl, rfl, rfl, rfl, trivial⟩ ?_
          exact J153_117 y396 y398 g397 g399 (by omega) (by omega)
    by_cases h474 : x176 = 2
    · skip
      refine T_cast 2 h474 ?_
      refine T_pop 207 rfl (fun _ => rfl) ?_
      exact T207_278
    by_cases h475 : x176 = 3
    · skip
      refine T_cast 3 h475 ?_
      refine T_pop 207 rfl (fun _ => rfl) ?_
      exact T207_278
    by_cases h476 : x176 = 4
    · skip
      refine T_cast 4 h476 ?_
      refine T_pop 207 rfl (fun _ => rfl) ?_
      exact T207_278
    by_cases h477 : x176 = 5
    · skip
      refine T_cast 5 h477 ?_
      refine T_pop 207 rfl (fun _ => rfl) ?_
      exact T207_278
    by_cases h478 : x176 = 7
    · skip
      refine T_cast 7 h478 ?_
      refine T_pop 207 rfl (fun _ => rfl) ?_
      exact T207_278
    refine T_tsd 207 rfl rfl (r32 (by omega) (by omega)) (by omega) ?_
    exact T207_278
  · skip
    clear hC
    refine T_gf 4 (.ref 243) rfl rfl rfl rfl rfl rfl ?_
    refine T_ld 5 (.int (i32 w)) rfl (fun _ => rfl) ?_
    refine T_iald 6 81 (m.2 81) rfl rfl rfl (by omega) (show w < (540 : Int) by omega) rfl ?_
    have e479 : 0 ≤ m.2 81 w ∧ m.2 81 w ≤ 64 := hT.2.1 81 w
    refine T_sto 7 [(2, .int (i32 ((m.2 81) w))), (0, .ref 189), (1, .int (i32 w))] rfl (fun _ => rfl) ?_
    refine T_gf 11 (.ref 244) rfl rfl rfl rfl rfl rfl ?_
    refine T_ld 12 (.int (i32 w)) rfl (fun _ => rfl) ?_
    refine T_iald 13 82 (m.2 82) rfl rfl rfl (by omega) (show w < (540 : Int) by omega) rfl ?_
    have e480 : 0 ≤ m.2 82 w ∧ m.2 82 w ≤ 4000 := hT.2.1 82 w
    refine T_sto 14 [(3, .int (i32 ((m.2 82) w))), (2, .int (i32 ((m.2 81) w))), (0, .ref 189), (1, .int (i32 w))] rfl (fun _ => rfl) ?_
    refine T_gf 18 (.ref 242) rfl rfl rfl rfl rfl rfl ?_
    refine T_ld 19 (.int (i32 w)) rfl (fun _ => rfl) ?_
    refine T_iald 20 80 (m.2 80) rfl rfl rfl (by omega) (show w < (540 : Int) by omega) rfl ?_
    have e481 : (-1) ≤ (m.2 80) w ∧ (m.2 80) w ≤ 330 := (hT.2.1 80) w
    refine T_sto 22 [(4, .int (i32 ((m.2 80) w))), (3, .int (i32 ((m.2 82) w))), (2, .int (i32 ((m.2 81) w))), (0, .ref 189), (1, .int (i32 w))] rfl (fun _ => rfl) ?_
    refine T_gf 26 (.int (i32 (m.1 69))) rfl rfl rfl rfl rfl rfl ?_
    refine T_sto 28 [(5, .int (i32 (m.1 69))), (4, .int (i32 ((m.2 80) w))), (3, .int (i32 ((m.2 82) w))), (2, .int (i32 ((m.2 81) w))), (0, .ref 189), (1, .int (i32 w))] rfl (fun _ => rfl) ?_
    refine T_gf 32 (.ref 242) rfl rfl rfl rfl rfl rfl ?_
    refine T_ld 33 (.int (i32 w)) rfl (fun _ => rfl) ?_
    refine T_iald 34 80 (m.2 80) rfl rfl rfl (by omega) (show w < (540 : Int) by omega) rfl ?_
    have e482 : (-1) ≤ (m.2 80) w ∧ (m.2 80) w ≤ 330 := (hT.2.1 80) w
    refine T_call 37 259 [.int (i32 ((m.2 80) w))] [] rfl (fun _ => rfl) rfl (c_level w (mO m [(10, (m.1 10)), (11, (m.1 11)), (28, (m.1 28)), (69, (m.1 69)), (70, (m.1 70)), (71, (m.1 71)), (72, (m.1 72))] [(65, (m.2 65)), (66, (m.2 66)), (67, (m.2 67)), (68, (m.2 68)), (80, (m.2 80))]) c N D (by omega) (Ty_mO hT rfl rfl ⟨f10, f11, f28, f69, f70, f71, f72, trivial⟩ ⟨(hT.2.1 65), (hT.2.1 66), (hT.2.1 67), (hT.2.1 68), (hT.2.1 80), trivial⟩) ((m.2 80) w) (r32 (by omega) (by omega))) (fun r483 k484 => ?_)
    obtain ⟨x485, g486, h487, rfl⟩ := k484
    refine ⟨_, _, rfl, ?_⟩
    refine T_nf (st' := [.int (i32 x485)]) (l' := [(10, (m.1 10)), (11, (m.1 11)), (28, (m.1 28)), (69, (m.1 69)), (70, (m.1 70)), (71, (m.1 71)), (72, (m.1 72))]) (a' := [(65, (m.2 65)), (66, (m.2 66)), (67, (m.2 67)), (68, (m.2 68)), (80, (m.2 80))]) rfl rfl rfl rfl rfl ?_
    obtain ⟨g486a, g486b⟩ := g486
    replace h487 : 0 ≤ x485 → 4 ≤ ((m.2 80) w) ∧ ((m.2 80) w) ≤ 124 := h487
    have J261_491 : ∀ (v488 : Int) (y489 : Int) (y490 : Int), (R32 v488) → (0 ≤ y489 ∧ y489 ≤ 8) → ((-1) ≤ y490 ∧ y490 ≤ 4000) → (0 ≤ v488 ∧ v488 ≤ (m.1 69) + 64) → (y489 = 0 → (v488 ≤ 64)) → TT w D pm_260 (261, [(0, .ref 189), (1, .int (i32 w)), (2, .int (i32 v488)), (3, .int (i32 ((m.2 82) w))), (4, .int (i32 ((m.2 80) w))), (5, .int (i32 (m.1 69)))], [.int (i32 x485)], (mhp (mO m [(10, y489), (11, y490), (28, (m.1 28)), (69, (m.1 69)), (70, (m.1 70)), (71, (m.1 71)), (72, (m.1 72))] [(65, (m.2 65)), (66, (m.2 66)), (67, (m.2 67)), (68, (m.2 68)), (80, (m.2 80))]) c, N), 0, 0) (Q_join m c N w B) := by
      intro v488 y489 y490 q492 q493 q494 i495 c496
      obtain ⟨q492a, q492b⟩ := id q492
      by_cases hf497 : y489 = 0
      · skip
        subst hf497
        have c498 := c496 rfl
        refine T_gf 265 (.ref 242) rfl rfl rfl rfl rfl rfl ?_
        refine T_ld 266 (.int (i32 w)) rfl (fun _ => rfl) ?_
        refine T_ld 267 (.int (i32 (-1))) rfl (fun _ => rfl) ?_
        have G499 : ∀ j, (-1) ≤ (upI (m.2 80) w (-1)) j ∧ (upI (m.2 80) w (-1)) j ≤ 330 := upI_rg (hT.2.1 80) ⟨by omega, by omega⟩
        refine T_iast (a' := [(65, (m.2 65)), (66, (m.2 66)), (67, (m.2 67)), (68, (m.2 68)), (80, upI (m.2 80) w (-1))]) 268 80 (m.2 80) rfl rfl rfl (by omega) (show w < (540 : Int) by omega) rfl rfl ?_
        have hAr : ar ((m.2 80) w) ≤ 1 + lh (m.2 79) (m.2 80) (m.1 73) := by omega
        have hCk : CNk ((m.2 80) w) (m.1 69) := by refine ⟨?_, ?_, ?_, ?_⟩ <;> omega
        refine T_ld 269 (.ref 189) rfl (fun _ => rfl) ?_
        refine T_ld 271 (.int (i32 ((m.2 80) w))) rfl (fun _ => rfl) ?_
        refine T_ld 272 (.int (i32 v488)) rfl (fun _ => rfl) ?_
        refine T_ld 274 (.int (i32 (m.1 69))) rfl (fun _ => rfl) ?_
        refine T_ld 275 (.long (i64 0)) rfl (fun _ => rfl) ?_
        refine T_call 278 248 [.ref 189, .int (i32 ((m.2 80) w)), .int (i32 v488), .int (i32 (m.1 69)), .long (i64 0)] [.int (i32 x485)] rfl (fun _ => rfl) rfl (c_node w (mO m [(10, 0), (11, y490), (28, (m.1 28)), (69, (m.1 69)), (70, (m.1 70)), (71, (m.1 71)), (72, (m.1 72))] [(65, (m.2 65)), (66, (m.2 66)), (67, (m.2 67)), (68, (m.2 68)), (80, upI (m.2 80) w (-1))]) c N D (by omega) (Ty_mO hT rfl rfl ⟨⟨(by omega : (0 : Int) ≤ 0), (by omega : (0 : Int) ≤ 8)⟩, q494, f28, f69, f70, f71, f72, trivial⟩ ⟨(hT.2.1 65), (hT.2.1 66), (hT.2.1 67), (hT.2.1 68), G499, trivial⟩) ((m.2 80) w) v488 (m.1 69) 0 ($B) (1 + lh (m.2 79) (m.2 80) (m.1 73)) (r32 (by omega) (by omega)) (r32 (by omega) (by omega)) (r32 (by omega) (by omega)) ⟨by decide, by decide⟩ (fun _ => ⟨(show 0 ≤ ((m.2 80) w) ∧ ((m.2 80) w) ≤ 408 by first | omega | decide), (show 0 ≤ v488 ∧ v488 ≤ 64 by first | omega | decide), (show 0 ≤ (m.1 69) ∧ (m.1 69) ≤ 191 by first | omega | decide), (show CNk ((m.2 80) w) (m.1 69) by first | exact hCk | (refine ⟨?_, ?_, ?_, ?_⟩ <;> omega)), (show ar ((m.2 80) w) ≤ (1 + lh (m.2 79) (m.2 80) (m.1 73)) by first | exact hAr | omega), (show EX (m.2 65) (m.2 67) ($B) (m.1 28) (1 + lh (m.2 79) (m.2 80) (m.1 73)) by first | exact hEX | assumption)⟩)) (fun r500 k501 => ?_)
        obtain ⟨y502, y504, y506, F508, F510, F512, F514, g503, g505, g507, G509, G511, G513, G515, h516, c517, rfl⟩ := k501
        refine ⟨_, _, rfl, ?_⟩
        refine T_nf (st' := [.int (i32 x485)]) (l' := [(10, y502), (11, y504), (28, y506), (69, (m.1 69)), (70, (m.1 70)), (71, (m.1 71)), (72, (m.1 72))]) (a' := [(65, F508), (66, F510), (67, F512), (68, F514), (80, upI (m.2 80) w (-1))]) rfl rfl rfl rfl rfl ?_
        by_cases hf518 : y502 = 0
        · skip
          subst hf518
          replace h516 : 0 = 0 := h516 rfl
          obtain ⟨c519, c520, c521⟩ := c517 rfl
          replace c519 : y506 = (m.1 28) + 1 := c519
          replace c520 : EX F508 F512 ($B) y506 ((1 + lh (m.2 79) (m.2 80) (m.1 73)) + 1 - ar ((m.2 80) w)) := c520
          have hEX := c520
          replace c521 : agr (m.2 65) F508 (m.1 28) := c521
          have hAg := c521
          clear q493 q494 g503
          have hXE : XS F508 F512 (m.2 76) (m.2 78) (m.2 79) (upI (m.2 80) w (-1)) $B y506 (m.1 73) (m.1 74) 1 := XS_of (XS_ws (x := -1) (U' := 1) hXS (by omega) (by omega) (by omega) (by rw [if_neg (by omega)]; have := cn1_0 (m.2 80) w; omega)) hEX (by omega)
          refine T_ld 279 (.ref 189) rfl (fun _ => rfl) ?_
          refine T_ld 280 (.int (i32 v488)) rfl (fun _ => rfl) ?_
          refine T_ld 281 (.int (i32 ((m.2 82) w))) rfl (fun _ => rfl) ?_
          refine T_call 284 250 [.ref 189, .int (i32 v488), .int (i32 ((m.2 82) w))] [.int (i32 x485)] rfl (fun _ => rfl) rfl (c_unit w (mO m [(10, 0), (11, y504), (28, y506), (69, (m.1 69)), (70, (m.1 70)), (71, (m.1 71)), (72, (m.1 72))] [(65, F508), (66, F510), (67, F512), (68, F514), (80, upI (m.2 80) w (-1))]) c N D (by omega) (Ty_mO hT rfl rfl ⟨⟨(by omega : (0 : Int) ≤ 0), (by omega : (0 : Int) ≤ 8)⟩, g505, g507, f69, f70, f71, f72, trivial⟩ ⟨G509, G511, G513, G515, G499, trivial⟩) v488 ((m.2 82) w) (r32 (by omega) (by omega)) (r32 (by omega) (by omega)) (show 0 ≤ v488 ∧ v488 ≤ 1024 by omega) (show 0 ≤ ((m.2 82) w) ∧ ((m.2 82) w) ≤ 4000 by omega)) (fun r522 k523 => ?_)
          obtain ⟨y524, y526, y528, y530, g525, g527, g529, g531, h532, rfl⟩ := k523
          refine ⟨_, _, rfl, ?_⟩
          refine T_nf (st' := [.int (i32 x485)]) (l' := [(10, 0), (11, y504), (28, y506), (69, y524), (70, y526), (71, y528), (72, y530)]) (a' := [(65, F508), (66, F510), (67, F512), (68, F514), (80, upI (m.2 80) w (-1))]) rfl rfl rfl rfl rfl ?_
          replace h532 : y524 = v488 := h532
          refine T_ret rfl (fun _ => rfl) ?_
          exact ⟨0, y504, y506, y524, y526, y528, y530, F508, F510, F512, F514, upI (m.2 80) w (-1), ⟨by omega, by omega⟩, g505, g507, g525, g527, g529, g531, G509, G511, G513, G515, G499, (by omega), (by omega), (fun _ => ⟨(by omega), (by omega), (by first | (exact hXE) | (exfalso; omega)), (by first | (exact hAg) | (exfalso; omega)), (by rfl)⟩), rfl⟩
        · skip
          clear c517
          clear h516
          have hf533 : 1 ≤ y502 := by omega
          clear q493 q494
          refine T_ld 279 (.ref 189) rfl (fun _ => rfl) ?_
          refine T_ld 280 (.int (i32 v488)) rfl (fun _ => rfl) ?_
          refine T_ld 281 (.int (i32 ((m.2 82) w))) rfl (fun _ => rfl) ?_
          refine T_call 284 250 [.ref 189, .int (i32 v488), .int (i32 ((m.2 82) w))] [.int (i32 x485)] rfl (fun _ => rfl) rfl (c_unit w (mO m [(10, y502), (11, y504), (28, y506), (69, (m.1 69)), (70, (m.1 70)), (71, (m.1 71)), (72, (m.1 72))] [(65, F508), (66, F510), (67, F512), (68, F514), (80, upI (m.2 80) w (-1))]) c N D (by omega) (Ty_mO hT rfl rfl ⟨g503, g505, g507, f69, f70, f71, f72, trivial⟩ ⟨G509, G511, G513, G515, G499, trivial⟩) v488 ((m.2 82) w) (r32 (by omega) (by omega)) (r32 (by omega) (by omega)) (show 0 ≤ v488 ∧ v488 ≤ 1024 by omega) (show 0 ≤ ((m.2 82) w) ∧ ((m.2 82) w) ≤ 4000 by omega)) (fun r534 k535 => ?_)
          obtain ⟨y536, y538, y540, y542, g537, g539, g541, g543, h544, rfl⟩ := k535
          refine ⟨_, _, rfl, ?_⟩
          refine T_nf (st' := [.int (i32 x485)]) (l' := [(10, y502), (11, y504), (28, y506), (69, y536), (70, y538), (71, y540), (72, y542)]) (a' := [(65, F508), (66, F510), (67, F512), (68, F514), (80, upI (m.2 80) w (-1))]) rfl rfl rfl rfl rfl ?_
          replace h544 : y536 = v488 := h544
          refine T_ret rfl (fun _ => rfl) ?_
          exact ⟨y502, y504, y506, y536, y538, y540, y542, F508, F510, F512, F514, upI (m.2 80) w (-1), g503, g505, g507, g537, g539, g541, g543, G509, G511, G513, G515, G499, (by omega), (by omega), (fun h => absurd h (by omega)), rfl⟩
      · skip
        clear c496
        have hf545 : 1 ≤ y489 := by omega
        refine T_gf 265 (.ref 242) rfl rfl rfl rfl rfl rfl ?_
        refine T_ld 266 (.int (i32 w)) rfl (fun _ => rfl) ?_
        refine T_ld 267 (.int (i32 (-1))) rfl (fun _ => rfl) ?_
        have G546 : ∀ j, (-1) ≤ (upI (m.2 80) w (-1)) j ∧ (upI (m.2 80) w (-1)) j ≤ 330 := upI_rg (hT.2.1 80) ⟨by omega, by omega⟩
        refine T_iast (a' := [(65, (m.2 65)), (66, (m.2 66)), (67, (m.2 67)), (68, (m.2 68)), (80, upI (m.2 80) w (-1))]) 268 80 (m.2 80) rfl rfl rfl (by omega) (show w < (540 : Int) by omega) rfl rfl ?_
        refine T_ld 269 (.ref 189) rfl (fun _ => rfl) ?_
        refine T_ld 271 (.int (i32 ((m.2 80) w))) rfl (fun _ => rfl) ?_
        refine T_ld 272 (.int (i32 v488)) rfl (fun _ => rfl) ?_
        refine T_ld 274 (.int (i32 (m.1 69))) rfl (fun _ => rfl) ?_
        refine T_ld 275 (.long (i64 0)) rfl (fun _ => rfl) ?_
        refine T_call 278 248 [.ref 189, .int (i32 ((m.2 80) w)), .int (i32 v488), .int (i32 (m.1 69)), .long (i64 0)] [.int (i32 x485)] rfl (fun _ => rfl) rfl (c_node w (mO m [(10, y489), (11, y490), (28, (m.1 28)), (69, (m.1 69)), (70, (m.1 70)), (71, (m.1 71)), (72, (m.1 72))] [(65, (m.2 65)), (66, (m.2 66)), (67, (m.2 67)), (68, (m.2 68)), (80, upI (m.2 80) w (-1))]) c N D (by omega) (Ty_mO hT rfl rfl ⟨q493, q494, f28, f69, f70, f71, f72, trivial⟩ ⟨(hT.2.1 65), (hT.2.1 66), (hT.2.1 67), (hT.2.1 68), G546, trivial⟩) ((m.2 80) w) v488 (m.1 69) 0 ($B) (1 + lh (m.2 79) (m.2 80) (m.1 73)) (r32 (by omega) (by omega)) (r32 (by omega) (by omega)) (r32 (by omega) (by omega)) ⟨by decide, by decide⟩ (fun h => absurd h (by omega))) (fun r547 k548 => ?_)
        obtain ⟨y549, y551, y553, F555, F557, F559, F561, g550, g552, g554, G556, G558, G560, G562, h563, c564, rfl⟩ := k548
        refine ⟨_, _, rfl, ?_⟩
        refine T_nf (st' := [.int (i32 x485)]) (l' := [(10, y549), (11, y551), (28, y553), (69, (m.1 69)), (70, (m.1 70)), (71, (m.1 71)), (72, (m.1 72))]) (a' := [(65, F555), (66, F557), (67, F559), (68, F561), (80, upI (m.2 80) w (-1))]) rfl rfl rfl rfl rfl ?_
        replace h563 : y549 = 0 → y489 = 0 := h563
        have hf565 : 1 ≤ y549 := by omega
        clear c564
        clear h563
        clear q493 q494 hf545
        refine T_ld 279 (.ref 189) rfl (fun _ => rfl) ?_
        refine T_ld 280 (.int (i32 v488)) rfl (fun _ => rfl) ?_
        refine T_ld 281 (.int (i32 ((m.2 82) w))) rfl (fun _ => rfl) ?_
        refine T_call 284 250 [.ref 189, .int (i32 v488), .int (i32 ((m.2 82) w))] [.int (i32 x485)] rfl (fun _ => rfl) rfl (c_unit w (mO m [(10, y549), (11, y551), (28, y553), (69, (m.1 69)), (70, (m.1 70)), (71, (m.1 71)), (72, (m.1 72))] [(65, F555), (66, F557), (67, F559), (68, F561), (80, upI (m.2 80) w (-1))]) c N D (by omega) (Ty_mO hT rfl rfl ⟨g550, g552, g554, f69, f70, f71, f72, trivial⟩ ⟨G556, G558, G560, G562, G546, trivial⟩) v488 ((m.2 82) w) (r32 (by omega) (by omega)) (r32 (by omega) (by omega)) (show 0 ≤ v488 ∧ v488 ≤ 1024 by omega) (show 0 ≤ ((m.2 82) w) ∧ ((m.2 82) w) ≤ 4000 by omega)) (fun r566 k567 => ?_)
        obtain ⟨y568, y570, y572, y574, g569, g571, g573, g575, h576, rfl⟩ := k567
        refine ⟨_, _, rfl, ?_⟩
        refine T_nf (st' := [.int (i32 x485)]) (l' := [(10, y549), (11, y551), (28, y553), (69, y568), (70, y570), (71, y572), (72, y574)]) (a' := [(65, F555), (66, F557), (67, F559), (68, F561), (80, upI (m.2 80) w (-1))]) rfl rfl rfl rfl rfl ?_
        replace h576 : y568 = v488 := h576
        refine T_ret rfl (fun _ => rfl) ?_
        exact ⟨y549, y551, y553, y568, y570, y572, y574, F555, F557, F559, F561, upI (m.2 80) w (-1), g550, g552, g554, g569, g571, g573, g575, G556, G558, G560, G562, G546, (by omega), (by omega), (fun h => absurd h (by omega)), rfl⟩
    have T88_577 : TT w D pm_260 (88, [(5, .int (i32 (m.1 69))), (4, .int (i32 ((m.2 80) w))), (3, .int (i32 ((m.2 82) w))), (2, .int (i32 ((m.2 81) w))), (0, .ref 189), (1, .int (i32 w))], [], (mhp (mO m [(10, (m.1 10)), (11, (m.1 11)), (28, (m.1 28)), (69, (m.1 69)), (70, (m.1 70)), (71, (m.1 71)), (72, (m.1 72))] [(65, (m.2 65)), (66, (m.2 66)), (67, (m.2 67)), (68, (m.2 68)), (80, (m.2 80))]) c, N), 0, 0) (Q_join m c N w B) := by
      refine T_ld 89 (.ref 189) rfl (fun _ => rfl) ?_
      refine T_ld 90 (.int (i32 ((m.2 81) w))) rfl (fun _ => rfl) ?_
      refine T_gf 94 (.ref 245) rfl rfl rfl rfl rfl rfl ?_
      refine T_ld 95 (.int (i32 w)) rfl (fun _ => rfl) ?_
      refine T_bald 96 83 (m.2 83) rfl rfl rfl (by omega) (show w < (540 : Int) by omega) rfl ?_
      have e578 : 0 ≤ m.2 83 w ∧ m.2 83 w ≤ 1 := hT.2.1 83 w
      refine T_gf 100 (.ref 246) rfl rfl rfl rfl rfl rfl ?_
      refine T_ld 101 (.int (i32 w)) rfl (fun _ => rfl) ?_
      refine T_lald 102 84 (m.2 84) rfl rfl rfl (by omega) (show w < (540 : Int) by omega) rfl ?_
      have e579 : (-9223372036854775808) ≤ m.2 84 w ∧ m.2 84 w ≤ 9223372036854775807 := hT.2.1 84 w
      refine T_ld 103 (.int (i32 ((m.2 82) w))) rfl (fun _ => rfl) ?_
      refine T_call 106 258 [.ref 189, .int (i32 ((m.2 81) w)), .int (i32 ((m.2 83) w)), .long (i64 ((m.2 84) w)), .int (i32 ((m.2 82) w))] [] rfl (fun _ => rfl) rfl (c_wantBit w (mO m [(10, (m.1 10)), (11, (m.1 11)), (28, (m.1 28)), (69, (m.1 69)), (70, (m.1 70)), (71, (m.1 71)), (72, (m.1 72))] [(65, (m.2 65)), (66, (m.2 66)), (67, (m.2 67)), (68, (m.2 68)), (80, (m.2 80))]) c N D (by omega) (Ty_mO hT rfl rfl ⟨f10, f11, f28, f69, f70, f71, f72, trivial⟩ ⟨(hT.2.1 65), (hT.2.1 66), (hT.2.1 67), (hT.2.1 68), (hT.2.1 80), trivial⟩) ((m.2 81) w) ((m.2 83) w) ((m.2 84) w) ((m.2 82) w) (r32 (by omega) (by omega)) (r32 (by omega) (by omega)) (r64 (by omega) (by omega)) (r32 (by omega) (by omega)) (show 0 ≤ ((m.2 82) w) ∧ ((m.2 82) w) ≤ 4000 by omega) (fun h => absurd h (by omega))) (fun r580 k581 => ?_)
      obtain ⟨y582, y584, g583, g585, h586, c587, rfl⟩ := k581
      refine ⟨_, _, rfl, ?_⟩
      refine T_nf (st' := []) (l' := [(10, y582), (11, y584), (28, (m.1 28)), (69, (m.1 69)), (70, (m.1 70)), (71, (m.1 71)), (72, (m.1 72))]) (a' := [(65, (m.2 65)), (66, (m.2 66)), (67, (m.2 67)), (68, (m.2 68)), (80, (m.2 80))]) rfl rfl rfl rfl rfl ?_
      replace h586 : y582 = 0 → (m.1 10) = 0 := h586
      have hf588 : 1 ≤ y582 := by omega
      clear c587
      clear h586
      clear g486a g486b h487
      refine T_ld 107 (.ref 189) rfl (fun _ => rfl) ?_
      refine T_gf 111 (.int (i32 (m.1 69))) rfl rfl rfl rfl rfl rfl ?_
      refine T_gf 115 (.int (i32 (m.1 71))) rfl rfl rfl rfl rfl rfl ?_
      refine T_gf 119 (.long (i64 (m.1 72))) rfl rfl rfl rfl rfl rfl ?_
      refine T_gf 123 (.int (i32 (m.1 70))) rfl rfl rfl rfl rfl rfl ?_
      refine T_call 126 258 [.ref 189, .int (i32 (m.1 69)), .int (i32 (m.1 71)), .long (i64 (m.1 72)), .int (i32 (m.1 70))] [] rfl (fun _ => rfl) rfl (c_wantBit w (mO m [(10, y582), (11, y584), (28, (m.1 28)), (69, (m.1 69)), (70, (m.1 70)), (71, (m.1 71)), (72, (m.1 72))] [(65, (m.2 65)), (66, (m.2 66)), (67, (m.2 67)), (68, (m.2 68)), (80, (m.2 80))]) c N D (by omega) (Ty_mO hT rfl rfl ⟨g583, g585, f28, f69, f70, f71, f72, trivial⟩ ⟨(hT.2.1 65), (hT.2.1 66), (hT.2.1 67), (hT.2.1 68), (hT.2.1 80), trivial⟩) (m.1 69) (m.1 71) (m.1 72) (m.1 70) (r32 (by omega) (by omega)) (r32 (by omega) (by omega)) (r64 (by omega) (by omega)) (r32 (by omega) (by omega)) (show 0 ≤ (m.1 70) ∧ (m.1 70) ≤ 4000 by omega) (fun h => absurd h (by omega))) (fun r589 k590 => ?_)
      obtain ⟨y591, y593, g592, g594, h595, c596, rfl⟩ := k590
      refine ⟨_, _, rfl, ?_⟩
      refine T_nf (st' := []) (l' := [(10, y591), (11, y593), (28, (m.1 28)), (69, (m.1 69)), (70, (m.1 70)), (71, (m.1 71)), (72, (m.1 72))]) (a' := [(65, (m.2 65)), (66, (m.2 66)), (67, (m.2 67)), (68, (m.2 68)), (80, (m.2 80))]) rfl rfl rfl rfl rfl ?_
      replace h595 : y591 = 0 → y582 = 0 := h595
      have hf597 : 1 ≤ y591 := by omega
      clear c596
      clear h595
      clear g583 g585 hf588
      refine T_ld 127 (.int (i32 1)) rfl (fun _ => rfl) ?_
      refine T_sto 128 [(2, .int (i32 1)), (5, .int (i32 (m.1 69))), (4, .int (i32 ((m.2 80) w))), (3, .int (i32 ((m.2 82) w))), (0, .ref 189), (1, .int (i32 w))] rfl (fun _ => rfl) ?_
      refine T_goto 261 rfl (fun _ => rfl) ?_
      refine Tm_lv (a := [(0, .ref 189), (1, .int (i32 w)), (2, .int (i32 1)), (3, .int (i32 ((m.2 82) w))), (4, .int (i32 ((m.2 80) w))), (5, .int (i32 (m.1 69)))]) rfl rfl ⟨rfl, rfl, rfl, rfl, rfl, rfl, trivial⟩ ?_
      exact J261_491 1 y591 y593 ⟨by decide, by decide⟩ g592 g594 (by omega) (fun h => absurd h (by omega))
    have T207_598 : TT w D pm_260 (207, [(5, .int (i32 (m.1 69))), (4, .int (i32 ((m.2 80) w))), (3, .int (i32 ((m.2 82) w))), (2, .int (i32 ((m.2 81) w))), (0, .ref 189), (1, .int (i32 w))], [], (mhp (mO m [(10, (m.1 10)), (11, (m.1 11)), (28, (m.1 28)), (69, (m.1 69)), (70, (m.1 70)), (71, (m.1 71)), (72, (m.1 72))] [(65, (m.2 65)), (66, (m.2 66)), (67, (m.2 67)), (68, (m.2 68)), (80, (m.2 80))]) c, N), 0, 0) (Q_join m c N w B) := by
      refine T_ld 208 (.ref 189) rfl (fun _ => rfl) ?_
      refine T_ld 209 (.int (i32 ((m.2 81) w))) rfl (fun _ => rfl) ?_
      refine T_gf 213 (.ref 245) rfl rfl rfl rfl rfl rfl ?_
      refine T_ld 214 (.int (i32 w)) rfl (fun _ => rfl) ?_
      refine T_bald 215 83 (m.2 83) rfl rfl rfl (by omega) (show w < (540 : Int) by omega) rfl ?_
      have e599 : 0 ≤ m.2 83 w ∧ m.2 83 w ≤ 1 := hT.2.1 83 w
      refine T_gf 219 (.ref 246) rfl rfl rfl rfl rfl rfl ?_
      refine T_ld 220 (.int (i32 w)) rfl (fun _ => rfl) ?_
      refine T_lald 221 84 (m.2 84) rfl rfl rfl (by omega) (show w < (540 : Int) by omega) rfl ?_
      have e600 : (-9223372036854775808) ≤ m.2 84 w ∧ m.2 84 w ≤ 9223372036854775807 := hT.2.1 84 w
      refine T_ld 222 (.int (i32 ((m.2 82) w))) rfl (fun _ => rfl) ?_
      refine T_gf 226 (.int (i32 (m.1 69))) rfl rfl rfl rfl rfl rfl ?_
      refine T_gf 230 (.int (i32 (m.1 71))) rfl rfl rfl rfl rfl rfl ?_
      refine T_gf 234 (.long (i64 (m.1 72))) rfl rfl rfl rfl rfl rfl ?_
      refine T_gf 238 (.int (i32 (m.1 70))) rfl rfl rfl rfl rfl rfl ?_
      refine T_call 241 261 [.ref 189, .int (i32 ((m.2 81) w)), .int (i32 ((m.2 83) w)), .long (i64 ((m.2 84) w)), .int (i32 ((m.2 82) w)), .int (i32 (m.1 69)), .int (i32 (m.1 71)), .long (i64 (m.1 72)), .int (i32 (m.1 70))] [] rfl (fun _ => rfl) rfl (c_common w (mO m [(10, (m.1 10)), (11, (m.1 11)), (28, (m.1 28)), (69, (m.1 69)), (70, (m.1 70)), (71, (m.1 71)), (72, (m.1 72))] [(65, (m.2 65)), (66, (m.2 66)), (67, (m.2 67)), (68, (m.2 68)), (80, (m.2 80))]) c N D (by omega) (Ty_mO hT rfl rfl ⟨f10, f11, f28, f69, f70, f71, f72, trivial⟩ ⟨(hT.2.1 65), (hT.2.1 66), (hT.2.1 67), (hT.2.1 68), (hT.2.1 80), trivial⟩) ((m.2 81) w) ((m.2 83) w) ((m.2 84) w) ((m.2 82) w) (m.1 69) (m.1 71) (m.1 72) (m.1 70) (r32 (by omega) (by omega)) (r32 (by omega) (by omega)) (r64 (by omega) (by omega)) (r32 (by omega) (by omega)) (r32 (by omega) (by omega)) (r32 (by omega) (by omega)) (r64 (by omega) (by omega)) (r32 (by omega) (by omega)) (show 0 ≤ ((m.2 82) w) ∧ ((m.2 82) w) ≤ 4000 by omega) (show 0 ≤ (m.1 70) ∧ (m.1 70) ≤ 4000 by omega) (show 0 ≤ ((m.2 81) w) ∧ ((m.2 81) w) ≤ 1024 by omega) (show 0 ≤ (m.1 69) ∧ (m.1 69) ≤ 1024 by omega) (fun h => absurd h (by omega))) (fun r601 k602 => ?_)
      obtain ⟨y603, y605, x607, g604, g606, g608, h609, h610, c611, rfl⟩ := k602
      refine ⟨_, _, rfl, ?_⟩
      refine T_nf (st' := [.int (i32 x607)]) (l' := [(10, y603), (11, y605), (28, (m.1 28)), (69, (m.1 69)), (70, (m.1 70)), (71, (m.1 71)), (72, (m.1 72))]) (a' := [(65, (m.2 65)), (66, (m.2 66)), (67, (m.2 67)), (68, (m.2 68)), (80, (m.2 80))]) rfl rfl rfl rfl rfl ?_
      obtain ⟨g608a, g608b⟩ := g608
      replace h609 : y603 = 0 → (m.1 10) = 0 := h609
      replace h610 : x607 = 64 ∨ x607 = ((m.2 81) w) ∨ x607 = (m.1 69) := h610
      have hf612 : 1 ≤ y603 := by omega
      clear c611
      clear h609
      clear g486a g486b h487
      refine T_sto 242 [(2, .int (i32 x607)), (5, .int (i32 (m.1 69))), (4, .int (i32 ((m.2 80) w))), (3, .int (i32 ((m.2 82) w))), (0, .ref 189), (1, .int (i32 w))] rfl (fun _ => rfl) ?_
      refine T_gf 246 (.ref 242) rfl rfl rfl rfl rfl rfl ?_
      refine T_ld 247 (.int (i32 w)) rfl (fun _ => rfl) ?_
      refine T_iald 248 80 (m.2 80) rfl rfl rfl (by omega) (show w < (540 : Int) by omega) rfl ?_
      have e613 : (-1) ≤ (m.2 80) w ∧ (m.2 80) w ≤ 330 := (hT.2.1 80) w
      refine T_call 251 259 [.int (i32 ((m.2 80) w))] [] rfl (fun _ => rfl) rfl (c_level w (mO m [(10, y603), (11, y605), (28, (m.1 28)), (69, (m.1 69)), (70, (m.1 70)), (71, (m.1 71)), (72, (m.1 72))] [(65, (m.2 65)), (66, (m.2 66)), (67, (m.2 67)), (68, (m.2 68)), (80, (m.2 80))]) c N D (by omega) (Ty_mO hT rfl rfl ⟨g604, g606, f28, f69, f70, f71, f72, trivial⟩ ⟨(hT.2.1 65), (hT.2.1 66), (hT.2.1 67), (hT.2.1 68), (hT.2.1 80), trivial⟩) ((m.2 80) w) (r32 (by omega) (by omega))) (fun r614 k615 => ?_)
      obtain ⟨x616, g617, h618, rfl⟩ := k615
      refine ⟨_, _, rfl, ?_⟩
      refine T_nf (st' := [.int (i32 x616)]) (l' := [(10, y603), (11, y605), (28, (m.1 28)), (69, (m.1 69)), (70, (m.1 70)), (71, (m.1 71)), (72, (m.1 72))]) (a' := [(65, (m.2 65)), (66, (m.2 66)), (67, (m.2 67)), (68, (m.2 68)), (80, (m.2 80))]) rfl rfl rfl rfl rfl ?_
      obtain ⟨g617a, g617b⟩ := g617
      replace h618 : 0 ≤ x616 → 4 ≤ ((m.2 80) w) ∧ ((m.2 80) w) ≤ 124 := h618
      refine T_ld 252 (.int (i32 2)) rfl (fun _ => rfl) ?_
      refine T_icmp 259 255 rfl rfl rfl (r32 (by omega) (by omega)) ⟨by decide, by decide⟩ (fun (h619 : x616 ≠ 2) => ?_) (fun (h619 : ¬ (x616 ≠ 2)) => ?_)
      · skip
        refine T_ld 260 (.int (i32 x607)) rfl (fun _ => rfl) ?_
        refine T_sto 261 [(2, .int (i32 x607)), (5, .int (i32 (m.1 69))), (4, .int (i32 ((m.2 80) w))), (3, .int (i32 ((m.2 82) w))), (0, .ref 189), (1, .int (i32 w))] rfl (fun _ => rfl) ?_
        refine Tm_lv (a := [(0, .ref 189), (1, .int (i32 w)), (2, .int (i32 x607)), (3, .int (i32 ((m.2 82) w))), (4, .int (i32 ((m.2 80) w))), (5, .int (i32 (m.1 69)))]) rfl rfl ⟨rfl, rfl, rfl, rfl, rfl, rfl, trivial⟩ ?_
        exact J261_491 x607 y603 y605 (r32 (by omega) (by omega)) g604 g606 (by omega) (fun h => absurd h (by omega))
      · skip
        refine T_ld 256 (.int (i32 1)) rfl (fun _ => rfl) ?_
        refine T_goto 260 rfl (fun _ => rfl) ?_
        refine T_sto 261 [(2, .int (i32 1)), (5, .int (i32 (m.1 69))), (4, .int (i32 ((m.2 80) w))), (3, .int (i32 ((m.2 82) w))), (0, .ref 189), (1, .int (i32 w))] rfl (fun _ => rfl) ?_
        refine Tm_lv (a := [(0, .ref 189), (1, .int (i32 w)), (2, .int (i32 1)), (3, .int (i32 ((m.2 82) w))), (4, .int (i32 ((m.2 80) w))), (5, .int (i32 (m.1 69)))]) rfl rfl ⟨rfl, rfl, rfl, rfl, rfl, rfl, trivial⟩ ?_
        exact J261_491 1 y603 y605 ⟨by decide, by decide⟩ g604 g606 (by omega) (fun h => absurd h (by omega))
    by_cases h620 : x485 = 0
    · skip
      refine T_cast 0 h620 ?_
      refine T_pop 88 rfl (fun _ => rfl) ?_
      exact T88_577
    by_cases h621 : x485 = 1
    · skip
      refine T_cast 1 h621 ?_
      refine T_pop 88 rfl (fun _ => rfl) ?_
      exact T88_577
    by_cases h622 : x485 = 6
    · skip
      refine T_cast 6 h622 ?_
      refine T_pop 131 rfl (fun _ => rfl) ?_
      refine T_goto 261 rfl (fun _ => rfl) ?_
      refine Tm_lv (a := [(0, .ref 189), (1, .int (i32 w)), (2, .int (i32 ((m.2 81) w))), (3, .int (i32 ((m.2 82) w))), (4, .int (i32 ((m.2 80) w))), (5, .int (i32 (m.1 69)))]) rfl rfl ⟨rfl, rfl, rfl, rfl, rfl, rfl, trivial⟩ ?_
      exact J261_491 ((m.2 81) w) (m.1 10) (m.1 11) (r32 (by omega) (by omega)) f10 f11 (by omega) (fun h => absurd h (by omega))
    by_cases h623 : x485 = 8
    · skip
      refine T_cast 8 h623 ?_
      refine T_pop 134 rfl (fun _ => rfl) ?_
      refine T_ld 135 (.ref 189) rfl (fun _ => rfl) ?_
      refine T_gf 139 (.ref 245) rfl rfl rfl rfl rfl rfl ?_
      refine T_ld 140 (.int (i32 w)) rfl (fun _ => rfl) ?_
      refine T_bald 141 83 (m.2 83) rfl rfl rfl (by omega) (show w < (540 : Int) by omega) rfl ?_
      have e624 : 0 ≤ m.2 83 w ∧ m.2 83 w ≤ 1 := hT.2.1 83 w
      refine T_if 148 144 rfl rfl rfl (r32 (by omega) (by omega)) (fun (h625 : (m.2 83) w ≠ 0) => ?_) (fun (h625 : ¬ ((m.2 83) w ≠ 0)) => ?_)
      · skip
        refine T_ld 149 (.int (i32 0)) rfl (fun _ => rfl) ?_
        refine T_ld 150 (.int (i32 ((m.2 82) w))) rfl (fun _ => rfl) ?_
        refine T_call 153 256 [.ref 189, .int (i32 0), .int (i32 ((m.2 82) w))] [] rfl (fun _ => rfl) rfl (c_want w (mO m [(10, (m.1 10)), (11, (m.1 11)), (28, (m.1 28)), (69, (m.1 69)), (70, (m.1 70)), (71, (m.1 71)), (72, (m.1 72))] [(65, (m.2 65)), (66, (m.2 66)), (67, (m.2 67)), (68, (m.2 68)), (80, (m.2 80))]) c N D (by omega) (Ty_mO hT rfl rfl ⟨f10, f11, f28, f69, f70, f71, f72, trivial⟩ ⟨(hT.2.1 65), (hT.2.1 66), (hT.2.1 67), (hT.2.1 68), (hT.2.1 80), trivial⟩) 0 ((m.2 82) w) ⟨by decide, by decide⟩ (r32 (by omega) (by omega)) (show 0 ≤ ((m.2 82) w) ∧ ((m.2 82) w) ≤ 4000 by omega) (fun h => absurd h (by omega))) (fun r626 k627 => ?_)
        obtain ⟨y628, y630, g629, g631, h632, c633, rfl⟩ := k627
        refine ⟨_, _, rfl, ?_⟩
        refine T_nf (st' := []) (l' := [(10, y628), (11, y630), (28, (m.1 28)), (69, (m.1 69)), (70, (m.1 70)), (71, (m.1 71)), (72, (m.1 72))]) (a' := [(65, (m.2 65)), (66, (m.2 66)), (67, (m.2 67)), (68, (m.2 68)), (80, (m.2 80))]) rfl rfl rfl rfl rfl ?_
        replace h632 : y628 = 0 → (m.1 10) = 0 := h632
        have hf634 : 1 ≤ y628 := by omega
        clear c633
        clear h632
        clear g486a g486b h487
        refine T_ld 154 (.ref 189) rfl (fun _ => rfl) ?_
        refine T_gf 158 (.int (i32 (m.1 71))) rfl rfl rfl rfl rfl rfl ?_
        refine T_if 165 161 rfl rfl rfl (r32 (by omega) (by omega)) (fun (h635 : (m.1 71) ≠ 0) => ?_) (fun (h635 : ¬ ((m.1 71) ≠ 0)) => ?_)
        · skip
          refine T_ld 166 (.int (i32 0)) rfl (fun _ => rfl) ?_
          refine T_gf 170 (.int (i32 (m.1 70))) rfl rfl rfl rfl rfl rfl ?_
          refine T_call 173 256 [.ref 189, .int (i32 0), .int (i32 (m.1 70))] [] rfl (fun _ => rfl) rfl (c_want w (mO m [(10, y628), (11, y630), (28, (m.1 28)), (69, (m.1 69)), (70, (m.1 70)), (71, (m.1 71)), (72, (m.1 72))] [(65, (m.2 65)), (66, (m.2 66)), (67, (m.2 67)), (68, (m.2 68)), (80, (m.2 80))]) c N D (by omega) (Ty_mO hT rfl rfl ⟨g629, g631, f28, f69, f70, f71, f72, trivial⟩ ⟨(hT.2.1 65), (hT.2.1 66), (hT.2.1 67), (hT.2.1 68), (hT.2.1 80), trivial⟩) 0 (m.1 70) ⟨by decide, by decide⟩ (r32 (by omega) (by omega)) (show 0 ≤ (m.1 70) ∧ (m.1 70) ≤ 4000 by omega) (fun h => absurd h (by omega))) (fun r636 k637 => ?_)
          obtain ⟨y638, y640, g639, g641, h642, c643, rfl⟩ := k637
          refine ⟨_, _, rfl, ?_⟩
          refine T_nf (st' := []) (l' := [(10, y638), (11, y640), (28, (m.1 28)), (69, (m.1 69)), (70, (m.1 70)), (71, (m.1 71)), (72, (m.1 72))]) (a' := [(65, (m.2 65)), (66, (m.2 66)), (67, (m.2 67)), (68, (m.2 68)), (80, (m.2 80))]) rfl rfl rfl rfl rfl ?_
          replace h642 : y638 = 0 → y628 = 0 := h642
          have hf644 : 1 ≤ y638 := by omega
          clear c643
          clear h642
          clear g629 g631 hf634
          refine T_ld 174 (.ref 189) rfl (fun _ => rfl) ?_
          refine T_ld 175 (.int (i32 ((m.2 81) w))) rfl (fun _ => rfl) ?_
          refine T_gf 179 (.int (i32 (m.1 69))) rfl rfl rfl rfl rfl rfl ?_
          refine T_iadd 180 rfl rfl ?_
          refine T_ld 182 (.int (i32 64)) rfl (fun _ => rfl) ?_
          refine T_icmp 189 185 rfl rfl rfl (r32 (by omega) (by omega)) ⟨by decide, by decide⟩ (fun (h645 : (64 : Int) < ((m.2 81) w) + (m.1 69)) => ?_) (fun (h645 : ¬ ((64 : Int) < ((m.2 81) w) + (m.1 69))) => ?_)
          · skip
            refine T_ld 190 (.int (i32 0)) rfl (fun _ => rfl) ?_
            refine T_gf 194 (.int (i32 (m.1 70))) rfl rfl rfl rfl rfl rfl ?_
            refine T_call 197 256 [.ref 189, .int (i32 0), .int (i32 (m.1 70))] [] rfl (fun _ => rfl) rfl (c_want w (mO m [(10, y638), (11, y640), (28, (m.1 28)), (69, (m.1 69)), (70, (m.1 70)), (71, (m.1 71)), (72, (m.1 72))] [(65, (m.2 65)), (66, (m.2 66)), (67, (m.2 67)), (68, (m.2 68)), (80, (m.2 80))]) c N D (by omega) (Ty_mO hT rfl rfl ⟨g639, g641, f28, f69, f70, f71, f72, trivial⟩ ⟨(hT.2.1 65), (hT.2.1 66), (hT.2.1 67), (hT.2.1 68), (hT.2.1 80), trivial⟩) 0 (m.1 70) ⟨by decide, by decide⟩ (r32 (by omega) (by omega)) (show 0 ≤ (m.1 70) ∧ (m.1 70) ≤ 4000 by omega) (fun h => absurd h (by omega))) (fun r646 k647 => ?_)
            obtain ⟨y648, y650, g649, g651, h652, c653, rfl⟩ := k647
            refine ⟨_, _, rfl, ?_⟩
            refine T_nf (st' := []) (l' := [(10, y648), (11, y650), (28, (m.1 28)), (69, (m.1 69)), (70, (m.1 70)), (71, (m.1 71)), (72, (m.1 72))]) (a' := [(65, (m.2 65)), (66, (m.2 66)), (67, (m.2 67)), (68, (m.2 68)), (80, (m.2 80))]) rfl rfl rfl rfl rfl ?_
            replace h652 : y648 = 0 → y638 = 0 := h652
            have hf654 : 1 ≤ y648 := by omega
            clear c653
            clear h652
            clear g639 g641 hf644
            refine T_ld 198 (.int (i32 ((m.2 81) w))) rfl (fun _ => rfl) ?_
            refine T_gf 202 (.int (i32 (m.1 69))) rfl rfl rfl rfl rfl rfl ?_
            refine T_iadd 203 rfl rfl ?_
            refine T_sto 204 [(2, .int (i32 (((m.2 81) w) + (m.1 69)))), (5, .int (i32 (m.1 69))), (4, .int (i32 ((m.2 80) w))), (3, .int (i32 ((m.2 82) w))), (0, .ref 189), (1, .int (i32 w))] rfl (fun _ => rfl) ?_
            refine T_goto 261 rfl (fun _ => rfl) ?_
            refine Tm_lv (a := [(0, .ref 189), (1, .int (i32 w)), (2, .int (i32 (((m.2 81) w) + (m.1 69)))), (3, .int (i32 ((m.2 82) w))), (4, .int (i32 ((m.2 80) w))), (5, .int (i32 (m.1 69)))]) rfl rfl ⟨rfl, rfl, rfl, rfl, rfl, rfl, trivial⟩ ?_
            exact J261_491 (((m.2 81) w) + (m.1 69)) y648 y650 (r32 (by omega) (by omega)) g649 g651 (by omega) (fun h => absurd h (by omega))
          · skip
            refine T_ld 186 (.int (i32 1)) rfl (fun _ => rfl) ?_
            refine T_goto 190 rfl (fun _ => rfl) ?_
            refine T_gf 194 (.int (i32 (m.1 70))) rfl rfl rfl rfl rfl rfl ?_
            refine T_call 197 256 [.ref 189, .int (i32 1), .int (i32 (m.1 70))] [] rfl (fun _ => rfl) rfl (c_want w (mO m [(10, y638), (11, y640), (28, (m.1 28)), (69, (m.1 69)), (70, (m.1 70)), (71, (m.1 71)), (72, (m.1 72))] [(65, (m.2 65)), (66, (m.2 66)), (67, (m.2 67)), (68, (m.2 68)), (80, (m.2 80))]) c N D (by omega) (Ty_mO hT rfl rfl ⟨g639, g641, f28, f69, f70, f71, f72, trivial⟩ ⟨(hT.2.1 65), (hT.2.1 66), (hT.2.1 67), (hT.2.1 68), (hT.2.1 80), trivial⟩) 1 (m.1 70) ⟨by decide, by decide⟩ (r32 (by omega) (by omega)) (show 0 ≤ (m.1 70) ∧ (m.1 70) ≤ 4000 by omega) (fun h => absurd h (by omega))) (fun r655 k656 => ?_)
            obtain ⟨y657, y659, g658, g660, h661, c662, rfl⟩ := k656
            refine ⟨_, _, rfl, ?_⟩
            refine T_nf (st' := []) (l' := [(10, y657), (11, y659), (28, (m.1 28)), (69, (m.1 69)), (70, (m.1 70)), (71, (m.1 71)), (72, (m.1 72))]) (a' := [(65, (m.2 65)), (66, (m.2 66)), (67, (m.2 67)), (68, (m.2 68)), (80, (m.2 80))]) rfl rfl rfl rfl rfl ?_
            replace h661 : y657 = 0 → y638 = 0 := h661
            have hf663 : 1 ≤ y657 := by omega
            clear c662
            clear h661
            clear g639 g641 hf644
            refine T_ld 198 (.int (i32 ((m.2 81) w))) rfl (fun _ => rfl) ?_
            refine T_gf 202 (.int (i32 (m.1 69))) rfl rfl rfl rfl rfl rfl ?_
            refine T_iadd 203 rfl rfl ?_
            refine T_sto 204 [(2, .int (i32 (((m.2 81) w) + (m.1 69)))), (5, .int (i32 (m.1 69))), (4, .int (i32 ((m.2 80) w))), (3, .int (i32 ((m.2 82) w))), (0, .ref 189), (1, .int (i32 w))] rfl (fun _ => rfl) ?_
            refine T_goto 261 rfl (fun _ => rfl) ?_
            refine Tm_lv (a := [(0, .ref 189), (1, .int (i32 w)), (2, .int (i32 (((m.2 81) w) + (m.1 69)))), (3, .int (i32 ((m.2 82) w))), (4, .int (i32 ((m.2 80) w))), (5, .int (i32 (m.1 69)))]) rfl rfl ⟨rfl, rfl, rfl, rfl, rfl, rfl, trivial⟩ ?_
            exact J261_491 (((m.2 81) w) + (m.1 69)) y657 y659 (r32 (by omega) (by omega)) g658 g660 (by omega) (fun h => absurd h (by omega))
        · skip
          refine T_ld 162 (.int (i32 1)) rfl (fun _ => rfl) ?_
          refine T_goto 166 rfl (fun _ => rfl) ?_
          refine T_gf 170 (.int (i32 (m.1 70))) rfl rfl rfl rfl rfl rfl ?_
          refine T_call 173 256 [.ref 189, .int (i32 1), .int (i32 (m.1 70))] [] rfl (fun _ => rfl) rfl (c_want w (mO m [(10, y628), (11, y630), (28, (m.1 28)), (69, (m.1 69)), (70, (m.1 70)), (71, (m.1 71)), (72, (m.1 72))] [(65, (m.2 65)), (66, (m.2 66)), (67, (m.2 67)), (68, (m.2 68)), (80, (m.2 80))]) c N D (by omega) (Ty_mO hT rfl rfl ⟨g629, g631, f28, f69, f70, f71, f72, trivial⟩ ⟨(hT.2.1 65), (hT.2.1 66), (hT.2.1 67), (hT.2.1 68), (hT.2.1 80), trivial⟩) 1 (m.1 70) ⟨by decide, by decide⟩ (r32 (by omega) (by omega)) (show 0 ≤ (m.1 70) ∧ (m.1 70) ≤ 4000 by omega) (fun h => absurd h (by omega))) (fun r664 k665 => ?_)
          obtain ⟨y666, y668, g667, g669, h670, c671, rfl⟩ := k665
          refine ⟨_, _, rfl, ?_⟩
          refine T_nf (st' := []) (l' := [(10, y666), (11, y668), (28, (m.1 28)), (69, (m.1 69)), (70, (m.1 70)), (71, (m.1 71)), (72, (m.1 72))]) (a' := [(65, (m.2 65)), (66, (m.2 66)), (67, (m.2 67)), (68, (m.2 68)), (80, (m.2 80))]) rfl rfl rfl rfl rfl ?_
          replace h670 : y666 = 0 → y628 = 0 := h670
          have hf672 : 1 ≤ y666 := by omega
          clear c671
          clear h670
          clear g629 g631 hf634
          refine T_ld 174 (.ref 189) rfl (fun _ => rfl) ?_
          refine T_ld 175 (.int (i32 ((m.2 81) w))) rfl (fun _ => rfl) ?_
          refine T_gf 179 (.int (i32 (m.1 69))) rfl rfl rfl rfl rfl rfl ?_
          refine T_iadd 180 rfl rfl ?_
          refine T_ld 182 (.int (i32 64)) rfl (fun _ => rfl) ?_
          refine T_icmp 189 185 rfl rfl rfl (r32 (by omega) (by omega)) ⟨by decide, by decide⟩ (fun (h673 : (64 : Int) < ((m.2 81) w) + (m.1 69)) => ?_) (fun (h673 : ¬ ((64 : Int) < ((m.2 81) w) + (m.1 69))) => ?_)
          · skip
            refine T_ld 190 (.int (i32 0)) rfl (fun _ => rfl) ?_
            refine T_gf 194 (.int (i32 (m.1 70))) rfl rfl rfl rfl rfl rfl ?_
            refine T_call 197 256 [.ref 189, .int (i32 0), .int (i32 (m.1 70))] [] rfl (fun _ => rfl) rfl (c_want w (mO m [(10, y666), (11, y668), (28, (m.1 28)), (69, (m.1 69)), (70, (m.1 70)), (71, (m.1 71)), (72, (m.1 72))] [(65, (m.2 65)), (66, (m.2 66)), (67, (m.2 67)), (68, (m.2 68)), (80, (m.2 80))]) c N D (by omega) (Ty_mO hT rfl rfl ⟨g667, g669, f28, f69, f70, f71, f72, trivial⟩ ⟨(hT.2.1 65), (hT.2.1 66), (hT.2.1 67), (hT.2.1 68), (hT.2.1 80), trivial⟩) 0 (m.1 70) ⟨by decide, by decide⟩ (r32 (by omega) (by omega)) (show 0 ≤ (m.1 70) ∧ (m.1 70) ≤ 4000 by omega) (fun h => absurd h (by omega))) (fun r674 k675 => ?_)
            obtain ⟨y676, y678, g677, g679, h680, c681, rfl⟩ := k675
            refine ⟨_, _, rfl, ?_⟩
            refine T_nf (st' := []) (l' := [(10, y676), (11, y678), (28, (m.1 28)), (69, (m.1 69)), (70, (m.1 70)), (71, (m.1 71)), (72, (m.1 72))]) (a' := [(65, (m.2 65)), (66, (m.2 66)), (67, (m.2 67)), (68, (m.2 68)), (80, (m.2 80))]) rfl rfl rfl rfl rfl ?_
            replace h680 : y676 = 0 → y666 = 0 := h680
            have hf682 : 1 ≤ y676 := by omega
            clear c681
            clear h680
            clear g667 g669 hf672
            refine T_ld 198 (.int (i32 ((m.2 81) w))) rfl (fun _ => rfl) ?_
            refine T_gf 202 (.int (i32 (m.1 69))) rfl rfl rfl rfl rfl rfl ?_
            refine T_iadd 203 rfl rfl ?_
            refine T_sto 204 [(2, .int (i32 (((m.2 81) w) + (m.1 69)))), (5, .int (i32 (m.1 69))), (4, .int (i32 ((m.2 80) w))), (3, .int (i32 ((m.2 82) w))), (0, .ref 189), (1, .int (i32 w))] rfl (fun _ => rfl) ?_
            refine T_goto 261 rfl (fun _ => rfl) ?_
            refine Tm_lv (a := [(0, .ref 189), (1, .int (i32 w)), (2, .int (i32 (((m.2 81) w) + (m.1 69)))), (3, .int (i32 ((m.2 82) w))), (4, .int (i32 ((m.2 80) w))), (5, .int (i32 (m.1 69)))]) rfl rfl ⟨rfl, rfl, rfl, rfl, rfl, rfl, trivial⟩ ?_
            exact J261_491 (((m.2 81) w) + (m.1 69)) y676 y678 (r32 (by omega) (by omega)) g677 g679 (by omega) (fun h => absurd h (by omega))
          · skip
            refine T_ld 186 (.int (i32 1)) rfl (fun _ => rfl) ?_
            refine T_goto 190 rfl (fun _ => rfl) ?_
            refine T_gf 194 (.int (i32 (m.1 70))) rfl rfl rfl rfl rfl rfl ?_
            refine T_call 197 256 [.ref 189, .int (i32 1), .int (i32 (m.1 70))] [] rfl (fun _ => rfl) rfl (c_want w (mO m [(10, y666), (11, y668), (28, (m.1 28)), (69, (m.1 69)), (70, (m.1 70)), (71, (m.1 71)), (72, (m.1 72))] [(65, (m.2 65)), (66, (m.2 66)), (67, (m.2 67)), (68, (m.2 68)), (80, (m.2 80))]) c N D (by omega) (Ty_mO hT rfl rfl ⟨g667, g669, f28, f69, f70, f71, f72, trivial⟩ ⟨(hT.2.1 65), (hT.2.1 66), (hT.2.1 67), (hT.2.1 68), (hT.2.1 80), trivial⟩) 1 (m.1 70) ⟨by decide, by decide⟩ (r32 (by omega) (by omega)) (show 0 ≤ (m.1 70) ∧ (m.1 70) ≤ 4000 by omega) (fun h => absurd h (by omega))) (fun r683 k684 => ?_)
            obtain ⟨y685, y687, g686, g688, h689, c690, rfl⟩ := k684
            refine ⟨_, _, rfl, ?_⟩
            refine T_nf (st' := []) (l' := [(10, y685), (11, y687), (28, (m.1 28)), (69, (m.1 69)), (70, (m.1 70)), (71, (m.1 71)), (72, (m.1 72))]) (a' := [(65, (m.2 65)), (66, (m.2 66)), (67, (m.2 67)), (68, (m.2 68)), (80, (m.2 80))]) rfl rfl rfl rfl rfl ?_
            replace h689 : y685 = 0 → y666 = 0 := h689
            have hf691 : 1 ≤ y685 := by omega
            clear c690
            clear h689
            clear g667 g669 hf672
            refine T_ld 198 (.int (i32 ((m.2 81) w))) rfl (fun _ => rfl) ?_
            refine T_gf 202 (.int (i32 (m.1 69))) rfl rfl rfl rfl rfl rfl ?_
            refine T_iadd 203 rfl rfl ?_
            refine T_sto 204 [(2, .int (i32 (((m.2 81) w) + (m.1 69)))), (5, .int (i32 (m.1 69))), (4, .int (i32 ((m.2 80) w))), (3, .int (i32 ((m.2 82) w))), (0, .ref 189), (1, .int (i32 w))] rfl (fun _ => rfl) ?_
            refine T_goto 261 rfl (fun _ => rfl) ?_
            refine Tm_lv (a := [(0, .ref 189), (1, .int (i32 w)), (2, .int (i32 (((m.2 81) w) + (m.1 69)))), (3, .int (i32 ((m.2 82) w))), (4, .int (i32 ((m.2 80) w))), (5, .int (i32 (m.1 69)))]) rfl rfl ⟨rfl, rfl, rfl, rfl, rfl, rfl, trivial⟩ ?_
            exact J261_491 (((m.2 81) w) + (m.1 69)) y685 y687 (r32 (by omega) (by omega)) g686 g688 (by omega) (fun h => absurd h (by omega))
      · skip
        refine T_ld 145 (.int (i32 1)) rfl (fun _ => rfl) ?_
        refine T_goto 149 rfl (fun _ => rfl) ?_
        refine T_ld 150 (.int (i32 ((m.2 82) w))) rfl (fun _ => rfl) ?_
        refine T_call 153 256 [.ref 189, .int (i32 1), .int (i32 ((m.2 82) w))] [] rfl (fun _ => rfl) rfl (c_want w (mO m [(10, (m.1 10)), (11, (m.1 11)), (28, (m.1 28)), (69, (m.1 69)), (70, (m.1 70)), (71, (m.1 71)), (72, (m.1 72))] [(65, (m.2 65)), (66, (m.2 66)), (67, (m.2 67)), (68, (m.2 68)), (80, (m.2 80))]) c N D (by omega) (Ty_mO hT rfl rfl ⟨f10, f11, f28, f69, f70, f71, f72, trivial⟩ ⟨(hT.2.1 65), (hT.2.1 66), (hT.2.1 67), (hT.2.1 68), (hT.2.1 80), trivial⟩) 1 ((m.2 82) w) ⟨by decide, by decide⟩ (r32 (by omega) (by omega)) (show 0 ≤ ((m.2 82) w) ∧ ((m.2 82) w) ≤ 4000 by omega) (fun h => absurd h (by omega))) (fun r692 k693 => ?_)
        obtain ⟨y694, y696, g695, g697, h698, c699, rfl⟩ := k693
        refine ⟨_, _, rfl, ?_⟩
        refine T_nf (st' := []) (l' := [(10, y694), (11, y696), (28, (m.1 28)), (69, (m.1 69)), (70, (m.1 70)), (71, (m.1 71)), (72, (m.1 72))]) (a' := [(65, (m.2 65)), (66, (m.2 66)), (67, (m.2 67)), (68, (m.2 68)), (80, (m.2 80))]) rfl rfl rfl rfl rfl ?_
        replace h698 : y694 = 0 → (m.1 10) = 0 := h698
        have hf700 : 1 ≤ y694 := by omega
        clear c699
        clear h698
        clear g486a g486b h487
        refine T_ld 154 (.ref 189) rfl (fun _ => rfl) ?_
        refine T_gf 158 (.int (i32 (m.1 71))) rfl rfl rfl rfl rfl rfl ?_
        refine T_if 165 161 rfl rfl rfl (r32 (by omega) (by omega)) (fun (h701 : (m.1 71) ≠ 0) => ?_) (fun (h701 : ¬ ((m.1 71) ≠ 0)) => ?_)
        · skip
          refine T_ld 166 (.int (i32 0)) rfl (fun _ => rfl) ?_
          refine T_gf 170 (.int (i32 (m.1 70))) rfl rfl rfl rfl rfl rfl ?_
          refine T_call 173 256 [.ref 189, .int (i32 0), .int (i32 (m.1 70))] [] rfl (fun _ => rfl) rfl (c_want w (mO m [(10, y694), (11, y696), (28, (m.1 28)), (69, (m.1 69)), (70, (m.1 70)), (71, (m.1 71)), (72, (m.1 72))] [(65, (m.2 65)), (66, (m.2 66)), (67, (m.2 67)), (68, (m.2 68)), (80, (m.2 80))]) c N D (by omega) (Ty_mO hT rfl rfl ⟨g695, g697, f28, f69, f70, f71, f72, trivial⟩ ⟨(hT.2.1 65), (hT.2.1 66), (hT.2.1 67), (hT.2.1 68), (hT.2.1 80), trivial⟩) 0 (m.1 70) ⟨by decide, by decide⟩ (r32 (by omega) (by omega)) (show 0 ≤ (m.1 70) ∧ (m.1 70) ≤ 4000 by omega) (fun h => absurd h (by omega))) (fun r702 k703 => ?_)
          obtain ⟨y704, y706, g705, g707, h708, c709, rfl⟩ := k703
          refine ⟨_, _, rfl, ?_⟩
          refine T_nf (st' := []) (l' := [(10, y704), (11, y706), (28, (m.1 28)), (69, (m.1 69)), (70, (m.1 70)), (71, (m.1 71)), (72, (m.1 72))]) (a' := [(65, (m.2 65)), (66, (m.2 66)), (67, (m.2 67)), (68, (m.2 68)), (80, (m.2 80))]) rfl rfl rfl rfl rfl ?_
          replace h708 : y704 = 0 → y694 = 0 := h708
          have hf710 : 1 ≤ y704 := by omega
          clear c709
          clear h708
          clear g695 g697 hf700
          refine T_ld 174 (.ref 189) rfl (fun _ => rfl) ?_
          refine T_ld 175 (.int (i32 ((m.2 81) w))) rfl (fun _ => rfl) ?_
          refine T_gf 179 (.int (i32 (m.1 69))) rfl rfl rfl rfl rfl rfl ?_
          refine T_iadd 180 rfl rfl ?_
          refine T_ld 182 (.int (i32 64)) rfl (fun _ => rfl) ?_
          refine T_icmp 189 185 rfl rfl rfl (r32 (by omega) (by omega)) ⟨by decide, by decide⟩ (fun (h711 : (64 : Int) < ((m.2 81) w) + (m.1 69)) => ?_) (fun (h711 : ¬ ((64 : Int) < ((m.2 81) w) + (m.1 69))) => ?_)
          · skip
            refine T_ld 190 (.int (i32 0)) rfl (fun _ => rfl) ?_
            refine T_gf 194 (.int (i32 (m.1 70))) rfl rfl rfl rfl rfl rfl ?_
            refine T_call 197 256 [.ref 189, .int (i32 0), .int (i32 (m.1 70))] [] rfl (fun _ => rfl) rfl (c_want w (mO m [(10, y704), (11, y706), (28, (m.1 28)), (69, (m.1 69)), (70, (m.1 70)), (71, (m.1 71)), (72, (m.1 72))] [(65, (m.2 65)), (66, (m.2 66)), (67, (m.2 67)), (68, (m.2 68)), (80, (m.2 80))]) c N D (by omega) (Ty_mO hT rfl rfl ⟨g705, g707, f28, f69, f70, f71, f72, trivial⟩ ⟨(hT.2.1 65), (hT.2.1 66), (hT.2.1 67), (hT.2.1 68), (hT.2.1 80), trivial⟩) 0 (m.1 70) ⟨by decide, by decide⟩ (r32 (by omega) (by omega)) (show 0 ≤ (m.1 70) ∧ (m.1 70) ≤ 4000 by omega) (fun h => absurd h (by omega))) (fun r712 k713 => ?_)
            obtain ⟨y714, y716, g715, g717, h718, c719, rfl⟩ := k713
            refine ⟨_, _, rfl, ?_⟩
            refine T_nf (st' := []) (l' := [(10, y714), (11, y716), (28, (m.1 28)), (69, (m.1 69)), (70, (m.1 70)), (71, (m.1 71)), (72, (m.1 72))]) (a' := [(65, (m.2 65)), (66, (m.2 66)), (67, (m.2 67)), (68, (m.2 68)), (80, (m.2 80))]) rfl rfl rfl rfl rfl ?_
            replace h718 : y714 = 0 → y704 = 0 := h718
            have hf720 : 1 ≤ y714 := by omega
            clear c719
            clear h718
            clear g705 g707 hf710
            refine T_ld 198 (.int (i32 ((m.2 81) w))) rfl (fun _ => rfl) ?_
            refine T_gf 202 (.int (i32 (m.1 69))) rfl rfl rfl rfl rfl rfl ?_
            refine T_iadd 203 rfl rfl ?_
            refine T_sto 204 [(2, .int (i32 (((m.2 81) w) + (m.1 69)))), (5, .int (i32 (m.1 69))), (4, .int (i32 ((m.2 80) w))), (3, .int (i32 ((m.2 82) w))), (0, .ref 189), (1, .int (i32 w))] rfl (fun _ => rfl) ?_
            refine T_goto 261 rfl (fun _ => rfl) ?_
            refine Tm_lv (a := [(0, .ref 189), (1, .int (i32 w)), (2, .int (i32 (((m.2 81) w) + (m.1 69)))), (3, .int (i32 ((m.2 82) w))), (4, .int (i32 ((m.2 80) w))), (5, .int (i32 (m.1 69)))]) rfl rfl ⟨rfl, rfl, rfl, rfl, rfl, rfl, trivial⟩ ?_
            exact J261_491 (((m.2 81) w) + (m.1 69)) y714 y716 (r32 (by omega) (by omega)) g715 g717 (by omega) (fun h => absurd h (by omega))
          · skip
            refine T_ld 186 (.int (i32 1)) rfl (fun _ => rfl) ?_
            refine T_goto 190 rfl (fun _ => rfl) ?_
            refine T_gf 194 (.int (i32 (m.1 70))) rfl rfl rfl rfl rfl rfl ?_
            refine T_call 197 256 [.ref 189, .int (i32 1), .int (i32 (m.1 70))] [] rfl (fun _ => rfl) rfl (c_want w (mO m [(10, y704), (11, y706), (28, (m.1 28)), (69, (m.1 69)), (70, (m.1 70)), (71, (m.1 71)), (72, (m.1 72))] [(65, (m.2 65)), (66, (m.2 66)), (67, (m.2 67)), (68, (m.2 68)), (80, (m.2 80))]) c N D (by omega) (Ty_mO hT rfl rfl ⟨g705, g707, f28, f69, f70, f71, f72, trivial⟩ ⟨(hT.2.1 65), (hT.2.1 66), (hT.2.1 67), (hT.2.1 68), (hT.2.1 80), trivial⟩) 1 (m.1 70) ⟨by decide, by decide⟩ (r32 (by omega) (by omega)) (show 0 ≤ (m.1 70) ∧ (m.1 70) ≤ 4000 by omega) (fun h => absurd h (by omega))) (fun r721 k722 => ?_)
            obtain ⟨y723, y725, g724, g726, h727, c728, rfl⟩ := k722
            refine ⟨_, _, rfl, ?_⟩
            refine T_nf (st' := []) (l' := [(10, y723), (11, y725), (28, (m.1 28)), (69, (m.1 69)), (70, (m.1 70)), (71, (m.1 71)), (72, (m.1 72))]) (a' := [(65, (m.2 65)), (66, (m.2 66)), (67, (m.2 67)), (68, (m.2 68)), (80, (m.2 80))]) rfl rfl rfl rfl rfl ?_
            replace h727 : y723 = 0 → y704 = 0 := h727
            have hf729 : 1 ≤ y723 := by omega
            clear c728
            clear h727
            clear g705 g707 hf710
            refine T_ld 198 (.int (i32 ((m.2 81) w))) rfl (fun _ => rfl) ?_
            refine T_gf 202 (.int (i32 (m.1 69))) rfl rfl rfl rfl rfl rfl ?_
            refine T_iadd 203 rfl rfl ?_
            refine T_sto 204 [(2, .int (i32 (((m.2 81) w) + (m.1 69)))), (5, .int (i32 (m.1 69))), (4, .int (i32 ((m.2 80) w))), (3, .int (i32 ((m.2 82) w))), (0, .ref 189), (1, .int (i32 w))] rfl (fun _ => rfl) ?_
            refine T_goto 261 rfl (fun _ => rfl) ?_
            refine Tm_lv (a := [(0, .ref 189), (1, .int (i32 w)), (2, .int (i32 (((m.2 81) w) + (m.1 69)))), (3, .int (i32 ((m.2 82) w))), (4, .int (i32 ((m.2 80) w))), (5, .int (i32 (m.1 69)))]) rfl rfl ⟨rfl, rfl, rfl, rfl, rfl, rfl, trivial⟩ ?_
            exact J261_491 (((m.2 81) w) + (m.1 69)) y723 y725 (r32 (by omega) (by omega)) g724 g726 (by omega) (fun h => absurd h (by omega))
        · skip
          refine T_ld 162 (.int (i32 1)) rfl (fun _ => rfl) ?_
          refine T_goto 166 rfl (fun _ => rfl) ?_
          refine T_gf 170 (.int (i32 (m.1 70))) rfl rfl rfl rfl rfl rfl ?_
          refine T_call 173 256 [.ref 189, .int (i32 1), .int (i32 (m.1 70))] [] rfl (fun _ => rfl) rfl (c_want w (mO m [(10, y694), (11, y696), (28, (m.1 28)), (69, (m.1 69)), (70, (m.1 70)), (71, (m.1 71)), (72, (m.1 72))] [(65, (m.2 65)), (66, (m.2 66)), (67, (m.2 67)), (68, (m.2 68)), (80, (m.2 80))]) c N D (by omega) (Ty_mO hT rfl rfl ⟨g695, g697, f28, f69, f70, f71, f72, trivial⟩ ⟨(hT.2.1 65), (hT.2.1 66), (hT.2.1 67), (hT.2.1 68), (hT.2.1 80), trivial⟩) 1 (m.1 70) ⟨by decide, by decide⟩ (r32 (by omega) (by omega)) (show 0 ≤ (m.1 70) ∧ (m.1 70) ≤ 4000 by omega) (fun h => absurd h (by omega))) (fun r730 k731 => ?_)
          obtain ⟨y732, y734, g733, g735, h736, c737, rfl⟩ := k731
          refine ⟨_, _, rfl, ?_⟩
          refine T_nf (st' := []) (l' := [(10, y732), (11, y734), (28, (m.1 28)), (69, (m.1 69)), (70, (m.1 70)), (71, (m.1 71)), (72, (m.1 72))]) (a' := [(65, (m.2 65)), (66, (m.2 66)), (67, (m.2 67)), (68, (m.2 68)), (80, (m.2 80))]) rfl rfl rfl rfl rfl ?_
          replace h736 : y732 = 0 → y694 = 0 := h736
          have hf738 : 1 ≤ y732 := by omega
          clear c737
          clear h736
          clear g695 g697 hf700
          refine T_ld 174 (.ref 189) rfl (fun _ => rfl) ?_
          refine T_ld 175 (.int (i32 ((m.2 81) w))) rfl (fun _ => rfl) ?_
          refine T_gf 179 (.int (i32 (m.1 69))) rfl rfl rfl rfl rfl rfl ?_
          refine T_iadd 180 rfl rfl ?_
          refine T_ld 182 (.int (i32 64)) rfl (fun _ => rfl) ?_
          refine T_icmp 189 185 rfl rfl rfl (r32 (by omega) (by omega)) ⟨by decide, by decide⟩ (fun (h739 : (64 : Int) < ((m.2 81) w) + (m.1 69)) => ?_) (fun (h739 : ¬ ((64 : Int) < ((m.2 81) w) + (m.1 69))) => ?_)
          · skip
            refine T_ld 190 (.int (i32 0)) rfl (fun _ => rfl) ?_
            refine T_gf 194 (.int (i32 (m.1 70))) rfl rfl rfl rfl rfl rfl ?_
            refine T_call 197 256 [.ref 189, .int (i32 0), .int (i32 (m.1 70))] [] rfl (fun _ => rfl) rfl (c_want w (mO m [(10, y732), (11, y734), (28, (m.1 28)), (69, (m.1 69)), (70, (m.1 70)), (71, (m.1 71)), (72, (m.1 72))] [(65, (m.2 65)), (66, (m.2 66)), (67, (m.2 67)), (68, (m.2 68)), (80, (m.2 80))]) c N D (by omega) (Ty_mO hT rfl rfl ⟨g733, g735, f28, f69, f70, f71, f72, trivial⟩ ⟨(hT.2.1 65), (hT.2.1 66), (hT.2.1 67), (hT.2.1 68), (hT.2.1 80), trivial⟩) 0 (m.1 70) ⟨by decide, by decide⟩ (r32 (by omega) (by omega)) (show 0 ≤ (m.1 70) ∧ (m.1 70) ≤ 4000 by omega) (fun h => absurd h (by omega))) (fun r740 k741 => ?_)
            obtain ⟨y742, y744, g743, g745, h746, c747, rfl⟩ := k741
            refine ⟨_, _, rfl, ?_⟩
            refine T_nf (st' := []) (l' := [(10, y742), (11, y744), (28, (m.1 28)), (69, (m.1 69)), (70, (m.1 70)), (71, (m.1 71)), (72, (m.1 72))]) (a' := [(65, (m.2 65)), (66, (m.2 66)), (67, (m.2 67)), (68, (m.2 68)), (80, (m.2 80))]) rfl rfl rfl rfl rfl ?_
            replace h746 : y742 = 0 → y732 = 0 := h746
            have hf748 : 1 ≤ y742 := by omega
            clear c747
            clear h746
            clear g733 g735 hf738
            refine T_ld 198 (.int (i32 ((m.2 81) w))) rfl (fun _ => rfl) ?_
            refine T_gf 202 (.int (i32 (m.1 69))) rfl rfl rfl rfl rfl rfl ?_
            refine T_iadd 203 rfl rfl ?_
            refine T_sto 204 [(2, .int (i32 (((m.2 81) w) + (m.1 69)))), (5, .int (i32 (m.1 69))), (4, .int (i32 ((m.2 80) w))), (3, .int (i32 ((m.2 82) w))), (0, .ref 189), (1, .int (i32 w))] rfl (fun _ => rfl) ?_
            refine T_goto 261 rfl (fun _ => rfl) ?_
            refine Tm_lv (a := [(0, .ref 189), (1, .int (i32 w)), (2, .int (i32 (((m.2 81) w) + (m.1 69)))), (3, .int (i32 ((m.2 82) w))), (4, .int (i32 ((m.2 80) w))), (5, .int (i32 (m.1 69)))]) rfl rfl ⟨rfl, rfl, rfl, rfl, rfl, rfl, trivial⟩ ?_
            exact J261_491 (((m.2 81) w) + (m.1 69)) y742 y744 (r32 (by omega) (by omega)) g743 g745 (by omega) (fun h => absurd h (by omega))
          · skip
            refine T_ld 186 (.int (i32 1)) rfl (fun _ => rfl) ?_
            refine T_goto 190 rfl (fun _ => rfl) ?_
            refine T_gf 194 (.int (i32 (m.1 70))) rfl rfl rfl rfl rfl rfl ?_
            refine T_call 197 256 [.ref 189, .int (i32 1), .int (i32 (m.1 70))] [] rfl (fun _ => rfl) rfl (c_want w (mO m [(10, y732), (11, y734), (28, (m.1 28)), (69, (m.1 69)), (70, (m.1 70)), (71, (m.1 71)), (72, (m.1 72))] [(65, (m.2 65)), (66, (m.2 66)), (67, (m.2 67)), (68, (m.2 68)), (80, (m.2 80))]) c N D (by omega) (Ty_mO hT rfl rfl ⟨g733, g735, f28, f69, f70, f71, f72, trivial⟩ ⟨(hT.2.1 65), (hT.2.1 66), (hT.2.1 67), (hT.2.1 68), (hT.2.1 80), trivial⟩) 1 (m.1 70) ⟨by decide, by decide⟩ (r32 (by omega) (by omega)) (show 0 ≤ (m.1 70) ∧ (m.1 70) ≤ 4000 by omega) (fun h => absurd h (by omega))) (fun r749 k750 => ?_)
            obtain ⟨y751, y753, g752, g754, h755, c756, rfl⟩ := k750
            refine ⟨_, _, rfl, ?_⟩
            refine T_nf (st' := []) (l' := [(10, y751), (11, y753), (28, (m.1 28)), (69, (m.1 69)), (70, (m.1 70)), (71, (m.1 71)), (72, (m.1 72))]) (a' := [(65, (m.2 65)), (66, (m.2 66)), (67, (m.2 67)), (68, (m.2 68)), (80, (m.2 80))]) rfl rfl rfl rfl rfl ?_
            replace h755 : y751 = 0 → y732 = 0 := h755
            have hf757 : 1 ≤ y751 := by omega
            clear c756
            clear h755
            clear g733 g735 hf738
            refine T_ld 198 (.int (i32 ((m.2 81) w))) rfl (fun _ => rfl) ?_
            refine T_gf 202 (.int (i32 (m.1 69))) rfl rfl rfl rfl rfl rfl ?_
            refine T_iadd 203 rfl rfl ?_
            refine T_sto 204 [(2, .int (i32 (((m.2 81) w) + (m.1 69)))), (5, .int (i32 (m.1 69))), (4, .int (i32 ((m.2 80) w))), (3, .int (i32 ((m.2 82) w))), (0, .ref 189), (1, .int (i32 w))] rfl (fun _ => rfl) ?_
            refine T_goto 261 rfl (fun _ => rfl) ?_
            refine Tm_lv (a := [(0, .ref 189), (1, .int (i32 w)), (2, .int (i32 (((m.2 81) w) + (m.1 69)))), (3, .int (i32 ((m.2 82) w))), (4, .int (i32 ((m.2 80) w))), (5, .int (i32 (m.1 69)))]) rfl rfl ⟨rfl, rfl, rfl, rfl, rfl, rfl, trivial⟩ ?_
            exact J261_491 (((m.2 81) w) + (m.1 69)) y751 y753 (r32 (by omega) (by omega)) g752 g754 (by omega) (fun h => absurd h (by omega))
    by_cases h758 : x485 = 2
    · skip
      refine T_cast 2 h758 ?_
      refine T_pop 207 rfl (fun _ => rfl) ?_
      exact T207_598
    by_cases h759 : x485 = 3
    · skip
      refine T_cast 3 h759 ?_
      refine T_pop 207 rfl (fun _ => rfl) ?_
      exact T207_598
    by_cases h760 : x485 = 4
    · skip
      refine T_cast 4 h760 ?_
      refine T_pop 207 rfl (fun _ => rfl) ?_
      exact T207_598
    by_cases h761 : x485 = 5
    · skip
      refine T_cast 5 h761 ?_
      refine T_pop 207 rfl (fun _ => rfl) ?_
      exact T207_598
    by_cases h762 : x485 = 7
    · skip
      refine T_cast 7 h762 ?_
      refine T_pop 207 rfl (fun _ => rfl) ?_
      exact T207_598
    refine T_tsd 207 rfl rfl (r32 (by omega) (by omega)) (by omega) ?_
    exact T207_598
