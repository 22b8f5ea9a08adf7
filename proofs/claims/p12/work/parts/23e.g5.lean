def Q_after (m : mR) (c : Nat → Option am_C) (N : Nat) (B : Int) : ag_Re af_T → Prop := fun R => ∃ (y7 : Int) (y8 : Int) (y9 : Int) (y10 : Int) (y11 : Int) (y12 : Int) (y28 : Int) (y69 : Int) (y70 : Int) (y71 : Int) (y72 : Int) (y75 : Int) (F65 : Int → Int) (F66 : Int → Int) (F67 : Int → Int) (F68 : Int → Int), (0 ≤ y7 ∧ y7 ≤ 330) ∧ (0 ≤ y8 ∧ y8 ≤ 4000) ∧ (0 ≤ y9 ∧ y9 ≤ 4000) ∧ (0 ≤ y10 ∧ y10 ≤ 8) ∧ ((-1) ≤ y11 ∧ y11 ≤ 4000) ∧ ((-9223372036854775808) ≤ y12 ∧ y12 ≤ 9223372036854775807) ∧ (0 ≤ y28 ∧ y28 ≤ 800) ∧ (0 ≤ y69 ∧ y69 ≤ 1024) ∧ (0 ≤ y70 ∧ y70 ≤ 4000) ∧ (0 ≤ y71 ∧ y71 ≤ 1) ∧ ((-9223372036854775808) ≤ y72 ∧ y72 ≤ 9223372036854775807) ∧ (0 ≤ y75 ∧ y75 ≤ 3) ∧ (∀ j, 0 ≤ F65 j ∧ F65 j ≤ 408) ∧ (∀ j, 0 ≤ F66 j ∧ F66 j ≤ 64) ∧ (∀ j, 0 ≤ F67 j ∧ F67 j ≤ 191) ∧ (∀ j, (-9223372036854775808) ≤ F68 j ∧ F68 j ≤ 9223372036854775807) ∧ (y10 = 0 → (m.1 10) = 0) ∧ (LxP y7 y8 y9 (m.1 6) y10) ∧ (y10 = 0 → ((y75 = 1 ∧ (m.1 8) + 1 ≤ y8) ∨ (y75 = 2 ∧ y8 = (m.1 8))) ∧ (y69 ≤ 64) ∧ ((m.1 28) ≤ y28) ∧ (XS F65 F67 (m.2 76) (m.2 78) (m.2 79) (m.2 80) B y28 (m.1 73) (m.1 74) 1) ∧ (agr (m.2 65) F65 (m.1 28))) ∧ R = (.inl (none), (mhp (mO m [(7, y7), (8, y8), (9, y9), (10, y10), (11, y11), (12, y12), (28, y28), (69, y69), (70, y70), (71, y71), (72, y72), (75, y75)] [(65, F65), (66, F66), (67, F67), (68, F68)]) c, N), 0, 0)
set_option maxHeartbeats 8000000 in
theorem c_after (w : wX) (m : mR) (c : Nat → Option am_C) (N D : Nat) (hD : 7 ≤ D) (hT : Ty m) (B : Int) (hLx0 : LxP (m.1 7) (m.1 8) (m.1 9) (m.1 6) (m.1 10)) (hf0 : m.1 10 = 0) (hC : (XS (m.2 65) (m.2 67) (m.2 76) (m.2 78) (m.2 79) (m.2 80) B (m.1 28) (m.1 73) (m.1 74) 1) ∧ ((m.1 75) = 1) ∧ ((m.1 69) ≤ 64)) : TC w D 255 [.ref 189] (mhp m c, N) (Q_after m c N B) := by
  obtain ⟨D, rfl⟩ : ∃ k, D = k + 1 := ⟨D - 1, by omega⟩
  have hLx := hLx0
  have f7 : 0 ≤ m.1 7 ∧ m.1 7 ≤ 330 := hT.1 7
  have f8 : 0 ≤ m.1 8 ∧ m.1 8 ≤ 4000 := hT.1 8
  have f9 : 0 ≤ m.1 9 ∧ m.1 9 ≤ 4000 := hT.1 9
  have f10 : 0 ≤ m.1 10 ∧ m.1 10 ≤ 8 := hT.1 10
  have f11 : (-1) ≤ m.1 11 ∧ m.1 11 ≤ 4000 := hT.1 11
  have f12 : (-9223372036854775808) ≤ m.1 12 ∧ m.1 12 ≤ 9223372036854775807 := hT.1 12
  have f28 : 0 ≤ m.1 28 ∧ m.1 28 ≤ 800 := hT.1 28
  have f69 : 0 ≤ m.1 69 ∧ m.1 69 ≤ 1024 := hT.1 69
  have f70 : 0 ≤ m.1 70 ∧ m.1 70 ≤ 4000 := hT.1 70
  have f71 : 0 ≤ m.1 71 ∧ m.1 71 ≤ 1 := hT.1 71
  have f72 : (-9223372036854775808) ≤ m.1 72 ∧ m.1 72 ≤ 9223372036854775807 := hT.1 72
  have f75 : 0 ≤ m.1 75 ∧ m.1 75 ≤ 3 := hT.1 75
  have f74 : 0 ≤ m.1 74 ∧ m.1 74 ≤ 24 := hT.1 74
  have f73 : 0 ≤ m.1 73 ∧ m.1 73 ≤ 60 := hT.1 73
  have f6 : 0 ≤ m.1 6 ∧ m.1 6 ≤ 4000 := hT.1 6
  refine Tc_of rfl ?_
  show TT w D pm_255 (0, [(0, .ref 189)], [], (mhp m c, N), 0, 0) (Q_after m c N B)
  rw [show (mhp m c, N) = (mhp (mO m [(7, (m.1 7)), (8, (m.1 8)), (9, (m.1 9)), (10, (m.1 10)), (11, (m.1 11)), (12, (m.1 12)), (28, (m.1 28)), (69, (m.1 69)), (70, (m.1 70)), (71, (m.1 71)), (72, (m.1 72)), (75, (m.1 75))] [(65, (m.2 65)), (66, (m.2 66)), (67, (m.2 67)), (68, (m.2 68))]) c, N) from congrArg (fun M => (mhp M c, N)) (mO_pad m [7, 8, 9, 10, 11, 12, 28, 69, 70, 71, 72, 75] [65, 66, 67, 68])]
  obtain ⟨hXS, c1, c2⟩ := hC
  have h7 := hLx (by omega)
  have hEX := hXS.1.1
  have hl0 : 0 ≤ lh (m.2 79) (m.2 80) (m.1 73) := lh_0 (hT.2.1 79) _ _
  have hXE := hXS
  have hAgC := agr_r (m.2 65) (m.1 28)
  have J207_118 : ∀ (v106 : Int) (y107 : Int) (y108 : Int) (y109 : Int) (y110 : Int) (y111 : Int) (y112 : Int) (y113 : Int) (F114 : Int → Int) (F115 : Int → Int) (F116 : Int → Int) (F117 : Int → Int), (R32 v106) → (0 ≤ y107 ∧ y107 ≤ 330) → (0 ≤ y108 ∧ y108 ≤ 4000) → (0 ≤ y109 ∧ y109 ≤ 4000) → (0 ≤ y110 ∧ y110 ≤ 8) → ((-1) ≤ y111 ∧ y111 ≤ 4000) → ((-9223372036854775808) ≤ y112 ∧ y112 ≤ 9223372036854775807) → (0 ≤ y113 ∧ y113 ≤ 800) → (∀ j, 0 ≤ F114 j ∧ F114 j ≤ 408) → (∀ j, 0 ≤ F115 j ∧ F115 j ≤ 64) → (∀ j, 0 ≤ F116 j ∧ F116 j ≤ 191) → (∀ j, (-9223372036854775808) ≤ F117 j ∧ F117 j ≤ 9223372036854775807) → (1 ≤ v106) → (v106 ≤ 64) → (1 ≤ y110) → (y110 ≤ 8) → TT w D pm_255 (207, [(0, .ref 189), (1, .int (i32 v106))], [], (mhp (mO m [(7, y107), (8, y108), (9, y109), (10, y110), (11, y111), (12, y112), (28, y113), (69, (m.1 69)), (70, (m.1 70)), (71, (m.1 71)), (72, (m.1 72)), (75, (m.1 75))] [(65, F114), (66, F115), (67, F116), (68, F117)]) c, N), 0, 0) (Q_after m c N B) := by
    intro v106 y107 y108 y109 y110 y111 y112 y113 F114 F115 F116 F117 q119 q120 q121 q122 q123 q124 q125 q126 q127 q128 q129 q130 ic131 ic132 ic133 ic134
    obtain ⟨q119a, q119b⟩ := id q119
    refine T_ld 208 (.ref 189) rfl (fun _ => rfl) ?_
    refine T_ld 209 (.int (i32 v106)) rfl (fun _ => rfl) ?_
    refine T_gf 213 (.int (i32 (m.1 70))) rfl rfl rfl rfl rfl rfl ?_
    refine T_call 216 250 [.ref 189, .int (i32 v106), .int (i32 (m.1 70))] [] rfl (fun _ => rfl) rfl (c_unit w (mO m [(7, y107), (8, y108), (9, y109), (10, y110), (11, y111), (12, y112), (28, y113), (69, (m.1 69)), (70, (m.1 70)), (71, (m.1 71)), (72, (m.1 72)), (75, (m.1 75))] [(65, F114), (66, F115), (67, F116), (68, F117)]) c N D (by omega) (Ty_mO hT rfl rfl ⟨q120, q121, q122, q123, q124, q125, q126, f69, f70, f71, f72, f75, trivial⟩ ⟨q127, q128, q129, q130, trivial⟩) v106 (m.1 70) (r32 (by omega) (by omega)) (r32 (by omega) (by omega)) (show 0 ≤ v106 ∧ v106 ≤ 1024 by omega) (show 0 ≤ (m.1 70) ∧ (m.1 70) ≤ 4000 by omega)) (fun rr136 k137 => ?_)
    obtain ⟨y138, y140, y142, y144, g139, g141, g143, g145, h146, rfl⟩ := k137
    refine ⟨_, _, rfl, ?_⟩
    refine T_nf (st' := []) (l' := [(7, y107), (8, y108), (9, y109), (10, y110), (11, y111), (12, y112), (28, y113), (69, y138), (70, y140), (71, y142), (72, y144), (75, (m.1 75))]) (a' := [(65, F114), (66, F115), (67, F116), (68, F117)]) rfl rfl rfl rfl rfl ?_
    replace h146 : y138 = v106 := h146
    refine T_goto 224 rfl (fun _ => rfl) ?_
    refine T_ret rfl (fun _ => rfl) ?_
    exact ⟨y107, y108, y109, y110, y111, y112, y113, y138, y140, y142, y144, (m.1 75), F114, F115, F116, F117, q120, q121, q122, q123, q124, q125, q126, g139, g141, g143, g145, f75, q127, q128, q129, q130, (by omega), (by first | (first | exact hLx | (intro h9; exfalso; omega)) | (exfalso; omega)), (fun h => absurd h (by omega)), rfl⟩
  have J196_154 : ∀ (s147 : Int) (y148 : Int) (y149 : Int) (y150 : Int) (y151 : Int) (y152 : Int) (y153 : Int), (R32 s147) → (0 ≤ y148 ∧ y148 ≤ 330) → (0 ≤ y149 ∧ y149 ≤ 4000) → (0 ≤ y150 ∧ y150 ≤ 4000) → (0 ≤ y151 ∧ y151 ≤ 8) → ((-1) ≤ y152 ∧ y152 ≤ 4000) → ((-9223372036854775808) ≤ y153 ∧ y153 ≤ 9223372036854775807) → (1 ≤ s147) → (s147 ≤ 64) → (1 ≤ y151) → (y151 ≤ 8) → TT w D pm_255 (196, [(0, .ref 189)], [.int (i32 s147)], (mhp (mO m [(7, y148), (8, y149), (9, y150), (10, y151), (11, y152), (12, y153), (28, (m.1 28)), (69, (m.1 69)), (70, (m.1 70)), (71, (m.1 71)), (72, (m.1 72)), (75, (m.1 75))] [(65, (m.2 65)), (66, (m.2 66)), (67, (m.2 67)), (68, (m.2 68))]) c, N), 0, 0) (Q_after m c N B) := by
    intro s147 y148 y149 y150 y151 y152 y153 q155 q156 q157 q158 q159 q160 q161 ic162 ic163 ic164 ic165
    obtain ⟨q155a, q155b⟩ := id q155
    refine T_sto 197 [(1, .int (i32 s147)), (0, .ref 189)] rfl (fun _ => rfl) ?_
    refine T_ld 198 (.ref 189) rfl (fun _ => rfl) ?_
    refine T_ld 201 (.int (i32 406)) rfl (fun _ => rfl) ?_
    refine T_ld 202 (.int (i32 s147)) rfl (fun _ => rfl) ?_
    refine T_ld 203 (.int (i32 0)) rfl (fun _ => rfl) ?_
    refine T_ld 204 (.long (i64 0)) rfl (fun _ => rfl) ?_
    refine T_call 207 248 [.ref 189, .int (i32 406), .int (i32 s147), .int (i32 0), .long (i64 0)] [] rfl (fun _ => rfl) rfl (c_node w (mO m [(7, y148), (8, y149), (9, y150), (10, y151), (11, y152), (12, y153), (28, (m.1 28)), (69, (m.1 69)), (70, (m.1 70)), (71, (m.1 71)), (72, (m.1 72)), (75, (m.1 75))] [(65, (m.2 65)), (66, (m.2 66)), (67, (m.2 67)), (68, (m.2 68))]) c N D (by omega) (Ty_mO hT rfl rfl ⟨q156, q157, q158, q159, q160, q161, f28, f69, f70, f71, f72, f75, trivial⟩ ⟨(hT.2.1 65), (hT.2.1 66), (hT.2.1 67), (hT.2.1 68), trivial⟩) 406 s147 0 0 B (1 + lh (m.2 79) (m.2 80) (m.1 73)) ⟨by decide, by decide⟩ (r32 (by omega) (by omega)) ⟨by decide, by decide⟩ ⟨by decide, by decide⟩ (fun (h : y151 = 0) => absurd h (by omega))) (fun rr167 k168 => ?_)
    obtain ⟨y169, y171, y173, F175, F177, F179, F181, g170, g172, g174, G176, G178, G180, G182, h183, c184, rfl⟩ := k168
    refine ⟨_, _, rfl, ?_⟩
    refine T_nf (st' := []) (l' := [(7, y148), (8, y149), (9, y150), (10, y169), (11, y171), (12, y153), (28, y173), (69, (m.1 69)), (70, (m.1 70)), (71, (m.1 71)), (72, (m.1 72)), (75, (m.1 75))]) (a' := [(65, F175), (66, F177), (67, F179), (68, F181)]) rfl rfl rfl rfl rfl ?_
    replace h183 : y169 = 0 → y151 = 0 := h183
    have hf185 : 1 ≤ y169 := by omega
    clear c184
    clear h183
    clear q159 q160 ic164 ic165
    refine Tm_lv (a := [(0, .ref 189), (1, .int (i32 s147))]) rfl rfl ⟨rfl, rfl, trivial⟩ ?_
    exact J207_118 s147 y148 y149 y150 y169 y171 y153 y173 F175 F177 F179 F181 (r32 (by omega) (by omega)) q156 q157 q158 g170 g172 q161 g174 G176 G178 G180 G182 (by omega) (by omega) (by omega) (by omega)
  have J159_200 : ∀ (v186 : Int) (v187 : Int) (v188 : Int) (y189 : Int) (y190 : Int) (y191 : Int) (y192 : Int) (y193 : Int) (y194 : Int) (y195 : Int) (F196 : Int → Int) (F197 : Int → Int) (F198 : Int → Int) (F199 : Int → Int), (R32 v186) → (R64 v187) → (R64 v188) → (0 ≤ y189 ∧ y189 ≤ 330) → (0 ≤ y190 ∧ y190 ≤ 4000) → (0 ≤ y191 ∧ y191 ≤ 4000) → (0 ≤ y192 ∧ y192 ≤ 8) → ((-1) ≤ y193 ∧ y193 ≤ 4000) → ((-9223372036854775808) ≤ y194 ∧ y194 ≤ 9223372036854775807) → (0 ≤ y195 ∧ y195 ≤ 800) → (∀ j, 0 ≤ F196 j ∧ F196 j ≤ 408) → (∀ j, 0 ≤ F197 j ∧ F197 j ≤ 64) → (∀ j, 0 ≤ F198 j ∧ F198 j ≤ 191) → (∀ j, (-9223372036854775808) ≤ F199 j ∧ F199 j ≤ 9223372036854775807) → (0 ≤ v186) → (v186 ≤ 4000) → (1 ≤ y192) → (y192 ≤ 8) → (0 ≤ v187 - v188 ∧ v187 - v188 ≤ 63) → (0 ≤ (m.1 70) ∧ (m.1 70) ≤ 4000) → TT w D pm_255 (159, [(0, .ref 189), (1, .int (i32 v186)), (2, .long (i64 v187)), (4, .long (i64 v188)), (6, .int (i32 (m.1 70)))], [], (mhp (mO m [(7, y189), (8, y190), (9, y191), (10, y192), (11, y193), (12, y194), (28, y195), (69, (m.1 69)), (70, (m.1 70)), (71, (m.1 71)), (72, (m.1 72)), (75, (m.1 75))] [(65, F196), (66, F197), (67, F198), (68, F199)]) c, N), 0, 0) (Q_after m c N B) := by
    intro v186 v187 v188 y189 y190 y191 y192 y193 y194 y195 F196 F197 F198 F199 q201 q202 q203 q204 q205 q206 q207 q208 q209 q210 q211 q212 q213 q214 ic215 ic216 ic217 ic218 ic219 ic220
    obtain ⟨q201a, q201b⟩ := id q201
    obtain ⟨q202a, q202b⟩ := id q202
    obtain ⟨q203a, q203b⟩ := id q203
    refine T_ld 160 (.ref 189) rfl (fun _ => rfl) ?_
    refine T_ld 161 (.long (i64 v187)) rfl (fun _ => rfl) ?_
    refine T_ld 163 (.long (i64 v188)) rfl (fun _ => rfl) ?_
    refine T_lsub 164 rfl rfl ?_
    refine T_l2i 165 rfl rfl ?_
    refine T_ld 166 (.int (i32 1)) rfl (fun _ => rfl) ?_
    refine T_iadd 167 rfl rfl ?_
    refine T_ld 169 (.int (i32 (m.1 70))) rfl (fun _ => rfl) ?_
    refine T_call 172 250 [.ref 189, .int (i32 ((v187 - v188) + 1)), .int (i32 (m.1 70))] [] rfl (fun _ => rfl) rfl (c_unit w (mO m [(7, y189), (8, y190), (9, y191), (10, y192), (11, y193), (12, y194), (28, y195), (69, (m.1 69)), (70, (m.1 70)), (71, (m.1 71)), (72, (m.1 72)), (75, (m.1 75))] [(65, F196), (66, F197), (67, F198), (68, F199)]) c N D (by omega) (Ty_mO hT rfl rfl ⟨q204, q205, q206, q207, q208, q209, q210, f69, f70, f71, f72, f75, trivial⟩ ⟨q211, q212, q213, q214, trivial⟩) ((v187 - v188) + 1) (m.1 70) (r32 (by omega) (by omega)) (r32 (by omega) (by omega)) (show 0 ≤ ((v187 - v188) + 1) ∧ ((v187 - v188) + 1) ≤ 1024 by omega) (show 0 ≤ (m.1 70) ∧ (m.1 70) ≤ 4000 by omega)) (fun rr222 k223 => ?_)
    obtain ⟨y224, y226, y228, y230, g225, g227, g229, g231, h232, rfl⟩ := k223
    refine ⟨_, _, rfl, ?_⟩
    refine T_nf (st' := []) (l' := [(7, y189), (8, y190), (9, y191), (10, y192), (11, y193), (12, y194), (28, y195), (69, y224), (70, y226), (71, y228), (72, y230), (75, (m.1 75))]) (a' := [(65, F196), (66, F197), (67, F198), (68, F199)]) rfl rfl rfl rfl rfl ?_
    replace h232 : y224 = ((v187 - v188) + 1) := h232
    refine T_goto 224 rfl (fun _ => rfl) ?_
    refine T_ret rfl (fun _ => rfl) ?_
    exact ⟨y189, y190, y191, y192, y193, y194, y195, y224, y226, y228, y230, (m.1 75), F196, F197, F198, F199, q204, q205, q206, q207, q208, q209, q210, g225, g227, g229, g231, f75, q211, q212, q213, q214, (by omega), (by first | (first | exact hLx | (intro h9; exfalso; omega)) | (exfalso; omega)), (fun h => absurd h (by omega)), rfl⟩
  have J127_242 : ∀ (v233 : Int) (v234 : Int) (v235 : Int) (y236 : Int) (y237 : Int) (y238 : Int) (y239 : Int) (y240 : Int) (y241 : Int), (R32 v233) → (R64 v234) → (R64 v235) → (0 ≤ y236 ∧ y236 ≤ 330) → (0 ≤ y237 ∧ y237 ≤ 4000) → (0 ≤ y238 ∧ y238 ≤ 4000) → (0 ≤ y239 ∧ y239 ≤ 8) → ((-1) ≤ y240 ∧ y240 ≤ 4000) → ((-9223372036854775808) ≤ y241 ∧ y241 ≤ 9223372036854775807) → (0 ≤ v233) → (v233 ≤ 4000) → (1 ≤ y239) → (y239 ≤ 8) → TT w D pm_255 (127, [(0, .ref 189), (1, .int (i32 v233)), (2, .long (i64 v234)), (4, .long (i64 v235))], [], (mhp (mO m [(7, y236), (8, y237), (9, y238), (10, y239), (11, y240), (12, y241), (28, (m.1 28)), (69, (m.1 69)), (70, (m.1 70)), (71, (m.1 71)), (72, (m.1 72)), (75, (m.1 75))] [(65, (m.2 65)), (66, (m.2 66)), (67, (m.2 67)), (68, (m.2 68))]) c, N), 0, 0) (Q_after m c N B) := by
    intro v233 v234 v235 y236 y237 y238 y239 y240 y241 q243 q244 q245 q246 q247 q248 q249 q250 q251 ic252 ic253 ic254 ic255
    obtain ⟨q243a, q243b⟩ := id q243
    obtain ⟨q244a, q244b⟩ := id q244
    obtain ⟨q245a, q245b⟩ := id q245
    refine T_gf 131 (.int (i32 y239)) rfl rfl rfl rfl rfl rfl ?_
    refine T_if 135 134 rfl rfl rfl (r32 (by omega) (by omega)) (fun (h257 : y239 ≤ 0) => by exfalso; omega) (fun (h257 : ¬ (y239 ≤ 0)) => ?_)
    refine T_ret rfl (fun _ => rfl) ?_
    exact ⟨y236, y237, y238, y239, y240, y241, (m.1 28), (m.1 69), (m.1 70), (m.1 71), (m.1 72), (m.1 75), (m.2 65), (m.2 66), (m.2 67), (m.2 68), q246, q247, q248, q249, q250, q251, f28, f69, f70, f71, f72, f75, (hT.2.1 65), (hT.2.1 66), (hT.2.1 67), (hT.2.1 68), (by omega), (by first | (first | exact hLx | (intro h9; exfalso; omega)) | (exfalso; omega)), (fun h => absurd h (by omega)), rfl⟩
  have J121_267 : ∀ (v258 : Int) (v259 : Int) (v260 : Int) (y261 : Int) (y262 : Int) (y263 : Int) (y264 : Int) (y265 : Int) (y266 : Int), (R32 v258) → (R64 v259) → (R64 v260) → (0 ≤ y261 ∧ y261 ≤ 330) → (0 ≤ y262 ∧ y262 ≤ 4000) → (0 ≤ y263 ∧ y263 ≤ 4000) → (0 ≤ y264 ∧ y264 ≤ 8) → ((-1) ≤ y265 ∧ y265 ≤ 4000) → ((-9223372036854775808) ≤ y266 ∧ y266 ≤ 9223372036854775807) → (0 ≤ v258) → (v258 ≤ 4000) → (1 ≤ y264) → (y264 ≤ 8) → TT w D pm_255 (121, [(0, .ref 189), (1, .int (i32 v258)), (2, .long (i64 v259)), (4, .long (i64 v260))], [], (mhp (mO m [(7, y261), (8, y262), (9, y263), (10, y264), (11, y265), (12, y266), (28, (m.1 28)), (69, (m.1 69)), (70, (m.1 70)), (71, (m.1 71)), (72, (m.1 72)), (75, (m.1 75))] [(65, (m.2 65)), (66, (m.2 66)), (67, (m.2 67)), (68, (m.2 68))]) c, N), 0, 0) (Q_after m c N B) := by
    intro v258 v259 v260 y261 y262 y263 y264 y265 y266 q268 q269 q270 q271 q272 q273 q274 q275 q276 ic277 ic278 ic279 ic280
    obtain ⟨q268a, q268b⟩ := id q268
    obtain ⟨q269a, q269b⟩ := id q269
    obtain ⟨q270a, q270b⟩ := id q270
    refine T_ld 122 (.ref 189) rfl (fun _ => rfl) ?_
    refine T_ld 124 (.int (i32 93)) rfl (fun _ => rfl) ?_
    refine T_call 127 232 [.ref 189, .int (i32 93)] [] rfl (fun _ => rfl) rfl (c_need w (mO m [(7, y261), (8, y262), (9, y263), (10, y264), (11, y265), (12, y266), (28, (m.1 28)), (69, (m.1 69)), (70, (m.1 70)), (71, (m.1 71)), (72, (m.1 72)), (75, (m.1 75))] [(65, (m.2 65)), (66, (m.2 66)), (67, (m.2 67)), (68, (m.2 68))]) c N D (by omega) (Ty_mO hT rfl rfl ⟨q271, q272, q273, q274, q275, q276, f28, f69, f70, f71, f72, f75, trivial⟩ ⟨(hT.2.1 65), (hT.2.1 66), (hT.2.1 67), (hT.2.1 68), trivial⟩) 93 ⟨by decide, by decide⟩ (show 1 ≤ (93 : Int) by omega) (show LxP y261 y262 y263 (m.1 6) y264 by first | exact hLx | (intro h9; exfalso; omega) | (intro h9; have h8 := hLx (by omega); omega))) (fun rr282 k283 => ?_)
    obtain ⟨y284, y286, y288, y290, y292, y294, g285, g287, g289, g291, g293, g295, h296, h297, h298, h299, rfl⟩ := k283
    refine ⟨_, _, rfl, ?_⟩
    refine T_nf (st' := []) (l' := [(7, y284), (8, y286), (9, y288), (10, y290), (11, y292), (12, y294), (28, (m.1 28)), (69, (m.1 69)), (70, (m.1 70)), (71, (m.1 71)), (72, (m.1 72)), (75, (m.1 75))]) (a' := [(65, (m.2 65)), (66, (m.2 66)), (67, (m.2 67)), (68, (m.2 68))]) rfl rfl rfl rfl rfl ?_
    replace h296 : LxP y284 y286 y288 (m.1 6) y290 := h296
    replace h297 : y290 = 0 → y264 = 0 ∧ y261 = (93 : Int) := h297
    replace h298 : y262 ≤ y286 := h298
    replace h299 : y290 = 0 → y262 + y263 ≤ y286 := h299
    have hf300 : 1 ≤ y290 := by omega
    clear h297
    clear h299
    have hLx := h296
    clear q271 q272 q273 q274 q275 q276 ic279 ic280 h298
    exact J127_242 v258 v259 v260 y284 y286 y288 y290 y292 y294 (r32 (by omega) (by omega)) (r64 (by omega) (by omega)) (r64 (by omega) (by omega)) g285 g287 g289 g291 g293 g295 (by omega) (by omega) (by omega) (by omega)
  have J74_310 : ∀ (v301 : Int) (v302 : Int) (v303 : Int) (y304 : Int) (y305 : Int) (y306 : Int) (y307 : Int) (y308 : Int) (y309 : Int), (R32 v301) → (R64 v302) → (R64 v303) → (0 ≤ y304 ∧ y304 ≤ 330) → (0 ≤ y305 ∧ y305 ≤ 4000) → (0 ≤ y306 ∧ y306 ≤ 4000) → (0 ≤ y307 ∧ y307 ≤ 8) → ((-1) ≤ y308 ∧ y308 ≤ 4000) → ((-9223372036854775808) ≤ y309 ∧ y309 ≤ 9223372036854775807) → (0 ≤ v301) → (v301 ≤ 4000) → (1 ≤ y307) → (y307 ≤ 8) → TT w D pm_255 (74, [(0, .ref 189), (1, .int (i32 v301)), (2, .long (i64 v302)), (4, .long (i64 v303))], [], (mhp (mO m [(7, y304), (8, y305), (9, y306), (10, y307), (11, y308), (12, y309), (28, (m.1 28)), (69, (m.1 69)), (70, (m.1 70)), (71, (m.1 71)), (72, (m.1 72)), (75, (m.1 75))] [(65, (m.2 65)), (66, (m.2 66)), (67, (m.2 67)), (68, (m.2 68))]) c, N), 0, 0) (Q_after m c N B) := by
    intro v301 v302 v303 y304 y305 y306 y307 y308 y309 q311 q312 q313 q314 q315 q316 q317 q318 q319 ic320 ic321 ic322 ic323
    obtain ⟨q311a, q311b⟩ := id q311
    obtain ⟨q312a, q312b⟩ := id q312
    obtain ⟨q313a, q313b⟩ := id q313
    refine T_gf 78 (.int (i32 y307)) rfl rfl rfl rfl rfl rfl ?_
    refine T_if 121 81 rfl rfl rfl (r32 (by omega) (by omega)) (fun (h325 : y307 ≠ 0) => ?_) (fun (h325 : ¬ (y307 ≠ 0)) => by exfalso; omega)
    refine T_ld 122 (.ref 189) rfl (fun _ => rfl) ?_
    refine T_ld 124 (.int (i32 93)) rfl (fun _ => rfl) ?_
    refine T_call 127 232 [.ref 189, .int (i32 93)] [] rfl (fun _ => rfl) rfl (c_need w (mO m [(7, y304), (8, y305), (9, y306), (10, y307), (11, y308), (12, y309), (28, (m.1 28)), (69, (m.1 69)), (70, (m.1 70)), (71, (m.1 71)), (72, (m.1 72)), (75, (m.1 75))] [(65, (m.2 65)), (66, (m.2 66)), (67, (m.2 67)), (68, (m.2 68))]) c N D (by omega) (Ty_mO hT rfl rfl ⟨q314, q315, q316, q317, q318, q319, f28, f69, f70, f71, f72, f75, trivial⟩ ⟨(hT.2.1 65), (hT.2.1 66), (hT.2.1 67), (hT.2.1 68), trivial⟩) 93 ⟨by decide, by decide⟩ (show 1 ≤ (93 : Int) by omega) (show LxP y304 y305 y306 (m.1 6) y307 by first | exact hLx | (intro h9; exfalso; omega) | (intro h9; have h8 := hLx (by omega); omega))) (fun rr326 k327 => ?_)
    obtain ⟨y328, y330, y332, y334, y336, y338, g329, g331, g333, g335, g337, g339, h340, h341, h342, h343, rfl⟩ := k327
    refine ⟨_, _, rfl, ?_⟩
    refine T_nf (st' := []) (l' := [(7, y328), (8, y330), (9, y332), (10, y334), (11, y336), (12, y338), (28, (m.1 28)), (69, (m.1 69)), (70, (m.1 70)), (71, (m.1 71)), (72, (m.1 72)), (75, (m.1 75))]) (a' := [(65, (m.2 65)), (66, (m.2 66)), (67, (m.2 67)), (68, (m.2 68))]) rfl rfl rfl rfl rfl ?_
    replace h340 : LxP y328 y330 y332 (m.1 6) y334 := h340
    replace h341 : y334 = 0 → y307 = 0 ∧ y304 = (93 : Int) := h341
    replace h342 : y305 ≤ y330 := h342
    replace h343 : y334 = 0 → y305 + y306 ≤ y330 := h343
    have hf344 : 1 ≤ y334 := by omega
    clear h341
    clear h343
    have hLx := h340
    clear q314 q315 q316 q317 q318 q319 ic322 ic323 h325 h342
    exact J127_242 v301 v302 v303 y328 y330 y332 y334 y336 y338 (r32 (by omega) (by omega)) (r64 (by omega) (by omega)) (r64 (by omega) (by omega)) g329 g331 g333 g335 g337 g339 (by omega) (by omega) (by omega) (by omega)
  have J45_353 : ∀ (v345 : Int) (v346 : Int) (y347 : Int) (y348 : Int) (y349 : Int) (y350 : Int) (y351 : Int) (y352 : Int), (R32 v345) → (R64 v346) → (0 ≤ y347 ∧ y347 ≤ 330) → (0 ≤ y348 ∧ y348 ≤ 4000) → (0 ≤ y349 ∧ y349 ≤ 4000) → (0 ≤ y350 ∧ y350 ≤ 8) → ((-1) ≤ y351 ∧ y351 ≤ 4000) → ((-9223372036854775808) ≤ y352 ∧ y352 ≤ 9223372036854775807) → (0 ≤ v345) → (v345 ≤ 4000) → (1 ≤ y350) → (y350 ≤ 8) → TT w D pm_255 (45, [(0, .ref 189), (1, .int (i32 v345)), (2, .long (i64 v346))], [], (mhp (mO m [(7, y347), (8, y348), (9, y349), (10, y350), (11, y351), (12, y352), (28, (m.1 28)), (69, (m.1 69)), (70, (m.1 70)), (71, (m.1 71)), (72, (m.1 72)), (75, (m.1 75))] [(65, (m.2 65)), (66, (m.2 66)), (67, (m.2 67)), (68, (m.2 68))]) c, N), 0, 0) (Q_after m c N B) := by
    intro v345 v346 y347 y348 y349 y350 y351 y352 q354 q355 q356 q357 q358 q359 q360 q361 ic362 ic363 ic364 ic365
    obtain ⟨q354a, q354b⟩ := id q354
    obtain ⟨q355a, q355b⟩ := id q355
    refine T_gf 49 (.int (i32 y350)) rfl rfl rfl rfl rfl rfl ?_
    refine T_if 64 52 rfl rfl rfl (r32 (by omega) (by omega)) (fun (h367 : y350 ≠ 0) => ?_) (fun (h367 : ¬ (y350 ≠ 0)) => by exfalso; omega)
    refine T_gf 68 (.long (i64 y352)) rfl rfl rfl rfl rfl rfl ?_
    refine T_sto 70 [(4, .long (i64 y352)), (0, .ref 189), (1, .int (i32 v345)), (2, .long (i64 v346))] rfl (fun _ => rfl) ?_
    refine T_ld 71 (.ref 189) rfl (fun _ => rfl) ?_
    refine T_call 74 212 [.ref 189] [] rfl (fun _ => rfl) rfl (c_next w (mO m [(7, y347), (8, y348), (9, y349), (10, y350), (11, y351), (12, y352), (28, (m.1 28)), (69, (m.1 69)), (70, (m.1 70)), (71, (m.1 71)), (72, (m.1 72)), (75, (m.1 75))] [(65, (m.2 65)), (66, (m.2 66)), (67, (m.2 67)), (68, (m.2 68))]) c N D (by omega) (Ty_mO hT rfl rfl ⟨q356, q357, q358, q359, q360, q361, f28, f69, f70, f71, f72, f75, trivial⟩ ⟨(hT.2.1 65), (hT.2.1 66), (hT.2.1 67), (hT.2.1 68), trivial⟩) (show y350 = 0 → y348 + y349 ≤ (m.1 6) by first | omega | (intro h9; have h8 := hLx h9; omega))) (fun rr368 k369 => ?_)
    obtain ⟨y370, y372, y374, y376, y378, y380, g371, g373, g375, g377, g379, g381, h382, h383, h384, h385, rfl⟩ := k369
    refine ⟨_, _, rfl, ?_⟩
    refine T_nf (st' := []) (l' := [(7, y370), (8, y372), (9, y374), (10, y376), (11, y378), (12, y380), (28, (m.1 28)), (69, (m.1 69)), (70, (m.1 70)), (71, (m.1 71)), (72, (m.1 72)), (75, (m.1 75))]) (a' := [(65, (m.2 65)), (66, (m.2 66)), (67, (m.2 67)), (68, (m.2 68))]) rfl rfl rfl rfl rfl ?_
    replace h382 : LxP y370 y372 y374 (m.1 6) y376 := h382
    replace h383 : y376 = 0 → y350 = 0 := h383
    replace h384 : y348 ≤ y372 := h384
    replace h385 : y376 = 0 → y348 + y349 ≤ y372 := h385
    have hf386 : 1 ≤ y376 := by omega
    clear h383
    clear h385
    have hLx := h382
    clear q356 q357 q358 q359 q360 ic364 ic365 h367 h384
    refine Tm_lv (a := [(0, .ref 189), (1, .int (i32 v345)), (2, .long (i64 v346)), (4, .long (i64 y352))]) rfl rfl ⟨rfl, rfl, rfl, rfl, trivial⟩ ?_
    exact J74_310 v345 v346 y352 y370 y372 y374 y376 y378 y380 (r32 (by omega) (by omega)) (r64 (by omega) (by omega)) (r64 (by omega) (by omega)) g371 g373 g375 g377 g379 g381 (by omega) (by omega) (by omega) (by omega)
  have J39_395 : ∀ (v387 : Int) (v388 : Int) (y389 : Int) (y390 : Int) (y391 : Int) (y392 : Int) (y393 : Int) (y394 : Int), (R32 v387) → (R64 v388) → (0 ≤ y389 ∧ y389 ≤ 330) → (0 ≤ y390 ∧ y390 ≤ 4000) → (0 ≤ y391 ∧ y391 ≤ 4000) → (0 ≤ y392 ∧ y392 ≤ 8) → ((-1) ≤ y393 ∧ y393 ≤ 4000) → ((-9223372036854775808) ≤ y394 ∧ y394 ≤ 9223372036854775807) → (0 ≤ v387) → (v387 ≤ 4000) → (1 ≤ y392) → (y392 ≤ 8) → TT w D pm_255 (39, [(0, .ref 189), (1, .int (i32 v387)), (2, .long (i64 v388))], [], (mhp (mO m [(7, y389), (8, y390), (9, y391), (10, y392), (11, y393), (12, y394), (28, (m.1 28)), (69, (m.1 69)), (70, (m.1 70)), (71, (m.1 71)), (72, (m.1 72)), (75, (m.1 75))] [(65, (m.2 65)), (66, (m.2 66)), (67, (m.2 67)), (68, (m.2 68))]) c, N), 0, 0) (Q_after m c N B) := by
    intro v387 v388 y389 y390 y391 y392 y393 y394 q396 q397 q398 q399 q400 q401 q402 q403 ic404 ic405 ic406 ic407
    obtain ⟨q396a, q396b⟩ := id q396
    obtain ⟨q397a, q397b⟩ := id q397
    refine T_ld 40 (.ref 189) rfl (fun _ => rfl) ?_
    refine T_ld 42 (.int (i32 58)) rfl (fun _ => rfl) ?_
    refine T_call 45 232 [.ref 189, .int (i32 58)] [] rfl (fun _ => rfl) rfl (c_need w (mO m [(7, y389), (8, y390), (9, y391), (10, y392), (11, y393), (12, y394), (28, (m.1 28)), (69, (m.1 69)), (70, (m.1 70)), (71, (m.1 71)), (72, (m.1 72)), (75, (m.1 75))] [(65, (m.2 65)), (66, (m.2 66)), (67, (m.2 67)), (68, (m.2 68))]) c N D (by omega) (Ty_mO hT rfl rfl ⟨q398, q399, q400, q401, q402, q403, f28, f69, f70, f71, f72, f75, trivial⟩ ⟨(hT.2.1 65), (hT.2.1 66), (hT.2.1 67), (hT.2.1 68), trivial⟩) 58 ⟨by decide, by decide⟩ (show 1 ≤ (58 : Int) by omega) (show LxP y389 y390 y391 (m.1 6) y392 by first | exact hLx | (intro h9; exfalso; omega) | (intro h9; have h8 := hLx (by omega); omega))) (fun rr409 k410 => ?_)
    obtain ⟨y411, y413, y415, y417, y419, y421, g412, g414, g416, g418, g420, g422, h423, h424, h425, h426, rfl⟩ := k410
    refine ⟨_, _, rfl, ?_⟩
    refine T_nf (st' := []) (l' := [(7, y411), (8, y413), (9, y415), (10, y417), (11, y419), (12, y421), (28, (m.1 28)), (69, (m.1 69)), (70, (m.1 70)), (71, (m.1 71)), (72, (m.1 72)), (75, (m.1 75))]) (a' := [(65, (m.2 65)), (66, (m.2 66)), (67, (m.2 67)), (68, (m.2 68))]) rfl rfl rfl rfl rfl ?_
    replace h423 : LxP y411 y413 y415 (m.1 6) y417 := h423
    replace h424 : y417 = 0 → y392 = 0 ∧ y389 = (58 : Int) := h424
    replace h425 : y390 ≤ y413 := h425
    replace h426 : y417 = 0 → y390 + y391 ≤ y413 := h426
    have hf427 : 1 ≤ y417 := by omega
    clear h424
    clear h426
    have hLx := h423
    clear q398 q399 q400 q401 q402 q403 ic406 ic407 h425
    exact J45_353 v387 v388 y411 y413 y415 y417 y419 y421 (r32 (by omega) (by omega)) (r64 (by omega) (by omega)) g412 g414 g416 g418 g420 g422 (by omega) (by omega) (by omega) (by omega)
  have J30_435 : ∀ (v428 : Int) (y429 : Int) (y430 : Int) (y431 : Int) (y432 : Int) (y433 : Int) (y434 : Int), (R32 v428) → (0 ≤ y429 ∧ y429 ≤ 330) → (0 ≤ y430 ∧ y430 ≤ 4000) → (0 ≤ y431 ∧ y431 ≤ 4000) → (0 ≤ y432 ∧ y432 ≤ 8) → ((-1) ≤ y433 ∧ y433 ≤ 4000) → ((-9223372036854775808) ≤ y434 ∧ y434 ≤ 9223372036854775807) → (0 ≤ v428) → (v428 ≤ 4000) → (1 ≤ y432) → (y432 ≤ 8) → TT w D pm_255 (30, [(0, .ref 189), (1, .int (i32 v428))], [], (mhp (mO m [(7, y429), (8, y430), (9, y431), (10, y432), (11, y433), (12, y434), (28, (m.1 28)), (69, (m.1 69)), (70, (m.1 70)), (71, (m.1 71)), (72, (m.1 72)), (75, (m.1 75))] [(65, (m.2 65)), (66, (m.2 66)), (67, (m.2 67)), (68, (m.2 68))]) c, N), 0, 0) (Q_after m c N B) := by
    intro v428 y429 y430 y431 y432 y433 y434 q436 q437 q438 q439 q440 q441 q442 ic443 ic444 ic445 ic446
    obtain ⟨q436a, q436b⟩ := id q436
    refine T_gf 34 (.long (i64 y434)) rfl rfl rfl rfl rfl rfl ?_
    refine T_sto 35 [(2, .long (i64 y434)), (0, .ref 189), (1, .int (i32 v428))] rfl (fun _ => rfl) ?_
    refine T_ld 36 (.ref 189) rfl (fun _ => rfl) ?_
    refine T_call 39 212 [.ref 189] [] rfl (fun _ => rfl) rfl (c_next w (mO m [(7, y429), (8, y430), (9, y431), (10, y432), (11, y433), (12, y434), (28, (m.1 28)), (69, (m.1 69)), (70, (m.1 70)), (71, (m.1 71)), (72, (m.1 72)), (75, (m.1 75))] [(65, (m.2 65)), (66, (m.2 66)), (67, (m.2 67)), (68, (m.2 68))]) c N D (by omega) (Ty_mO hT rfl rfl ⟨q437, q438, q439, q440, q441, q442, f28, f69, f70, f71, f72, f75, trivial⟩ ⟨(hT.2.1 65), (hT.2.1 66), (hT.2.1 67), (hT.2.1 68), trivial⟩) (show y432 = 0 → y430 + y431 ≤ (m.1 6) by first | omega | (intro h9; have h8 := hLx h9; omega))) (fun rr448 k449 => ?_)
    obtain ⟨y450, y452, y454, y456, y458, y460, g451, g453, g455, g457, g459, g461, h462, h463, h464, h465, rfl⟩ := k449
    refine ⟨_, _, rfl, ?_⟩
    refine T_nf (st' := []) (l' := [(7, y450), (8, y452), (9, y454), (10, y456), (11, y458), (12, y460), (28, (m.1 28)), (69, (m.1 69)), (70, (m.1 70)), (71, (m.1 71)), (72, (m.1 72)), (75, (m.1 75))]) (a' := [(65, (m.2 65)), (66, (m.2 66)), (67, (m.2 67)), (68, (m.2 68))]) rfl rfl rfl rfl rfl ?_
    replace h462 : LxP y450 y452 y454 (m.1 6) y456 := h462
    replace h463 : y456 = 0 → y432 = 0 := h463
    replace h464 : y430 ≤ y452 := h464
    replace h465 : y456 = 0 → y430 + y431 ≤ y452 := h465
    have hf466 : 1 ≤ y456 := by omega
    clear h463
    clear h465
    have hLx := h462
    clear q437 q438 q439 q440 q441 ic445 ic446 h464
    refine Tm_lv (a := [(0, .ref 189), (1, .int (i32 v428)), (2, .long (i64 y434))]) rfl rfl ⟨rfl, rfl, rfl, trivial⟩ ?_
    exact J39_395 v428 y434 y450 y452 y454 y456 y458 y460 (r32 (by omega) (by omega)) (r64 (by omega) (by omega)) g451 g453 g455 g457 g459 g461 (by omega) (by omega) (by omega) (by omega)
  refine T_gf 4 (.int (i32 (m.1 7))) rfl rfl rfl rfl rfl rfl ?_
  refine T_ld 6 (.int (i32 91)) rfl (fun _ => rfl) ?_
  refine T_icmp 175 9 rfl rfl rfl (r32 (by omega) (by omega)) ⟨by decide, by decide⟩ (fun (h467 : (m.1 7) ≠ 91) => ?_) (fun (h467 : ¬ ((m.1 7) ≠ 91)) => ?_)
  · skip
    refine T_gf 179 (.int (i32 (m.1 7))) rfl rfl rfl rfl rfl rfl ?_
    refine T_ld 182 (.int (i32 330)) rfl (fun _ => rfl) ?_
    refine T_icmp 219 185 rfl rfl rfl (r32 (by omega) (by omega)) ⟨by decide, by decide⟩ (fun (h468 : (m.1 7) ≠ 330) => ?_) (fun (h468 : ¬ ((m.1 7) ≠ 330)) => ?_)
    · skip
      refine T_ld 220 (.ref 189) rfl (fun _ => rfl) ?_
      refine T_ld 221 (.int (i32 2)) rfl (fun _ => rfl) ?_
      refine T_pf (l' := [(7, (m.1 7)), (8, (m.1 8)), (9, (m.1 9)), (10, (m.1 10)), (11, (m.1 11)), (12, (m.1 12)), (28, (m.1 28)), (69, (m.1 69)), (70, (m.1 70)), (71, (m.1 71)), (72, (m.1 72)), (75, 2)]) 224 2 rfl rfl rfl rfl rfl rfl ?_
      refine T_ret rfl (fun _ => rfl) ?_
      exact ⟨(m.1 7), (m.1 8), (m.1 9), (m.1 10), (m.1 11), (m.1 12), (m.1 28), (m.1 69), (m.1 70), (m.1 71), (m.1 72), 2, (m.2 65), (m.2 66), (m.2 67), (m.2 68), f7, f8, f9, f10, f11, f12, f28, f69, f70, f71, f72, ⟨by omega, by omega⟩, (hT.2.1 65), (hT.2.1 66), (hT.2.1 67), (hT.2.1 68), (by omega), (by first | (first | exact hLx | (intro h9; exfalso; omega)) | (exfalso; omega)), (fun _ => ⟨(by omega), (by omega), (by omega), (by first | (exact hXE) | (exfalso; omega)), (by first | (exact hAgC) | (exfalso; omega))⟩), rfl⟩
    · skip
      refine T_ld 186 (.ref 189) rfl (fun _ => rfl) ?_
      refine T_call 189 212 [.ref 189] [] rfl (fun _ => rfl) rfl (c_next w (mO m [(7, (m.1 7)), (8, (m.1 8)), (9, (m.1 9)), (10, (m.1 10)), (11, (m.1 11)), (12, (m.1 12)), (28, (m.1 28)), (69, (m.1 69)), (70, (m.1 70)), (71, (m.1 71)), (72, (m.1 72)), (75, (m.1 75))] [(65, (m.2 65)), (66, (m.2 66)), (67, (m.2 67)), (68, (m.2 68))]) c N D (by omega) (Ty_mO hT rfl rfl ⟨f7, f8, f9, f10, f11, f12, f28, f69, f70, f71, f72, f75, trivial⟩ ⟨(hT.2.1 65), (hT.2.1 66), (hT.2.1 67), (hT.2.1 68), trivial⟩) (show (m.1 10) = 0 → (m.1 8) + (m.1 9) ≤ (m.1 6) by first | omega | (intro h9; have h8 := hLx h9; omega))) (fun rr469 k470 => ?_)
      obtain ⟨y471, y473, y475, y477, y479, y481, g472, g474, g476, g478, g480, g482, h483, h484, h485, h486, rfl⟩ := k470
      refine ⟨_, _, rfl, ?_⟩
      refine T_nf (st' := []) (l' := [(7, y471), (8, y473), (9, y475), (10, y477), (11, y479), (12, y481), (28, (m.1 28)), (69, (m.1 69)), (70, (m.1 70)), (71, (m.1 71)), (72, (m.1 72)), (75, (m.1 75))]) (a' := [(65, (m.2 65)), (66, (m.2 66)), (67, (m.2 67)), (68, (m.2 68))]) rfl rfl rfl rfl rfl ?_
      by_cases hf487 : y477 = 0
      · skip
        subst hf487
        replace h483 : LxP y471 y473 y475 (m.1 6) (0 : Int) := h483
        have hLx := h483
        replace h484 : (m.1 10) = 0 := h484 rfl
        replace h485 : (m.1 8) ≤ y473 := h485
        replace h486 : (m.1 8) + (m.1 9) ≤ y473 := h486 rfl
        have u488 : (m.1 8) + 1 ≤ y473 := by omega
        have hAgC : agr (m.2 65) (m.2 65) (m.1 28) := by first | exact agr_r _ _ | exact hAgC | exact agr_t hAgC hAg (by omega)
        clear g478
        refine T_ld 190 (.ref 189) rfl (fun _ => rfl) ?_
        refine T_ld 191 (.int (i32 1)) rfl (fun _ => rfl) ?_
        refine T_ld 193 (.int (i32 64)) rfl (fun _ => rfl) ?_
        refine T_call 196 234 [.ref 189, .int (i32 1), .int (i32 64)] [] rfl (fun _ => rfl) rfl (c_number w (mO m [(7, y471), (8, y473), (9, y475), (10, 0), (11, y479), (12, y481), (28, (m.1 28)), (69, (m.1 69)), (70, (m.1 70)), (71, (m.1 71)), (72, (m.1 72)), (75, (m.1 75))] [(65, (m.2 65)), (66, (m.2 66)), (67, (m.2 67)), (68, (m.2 68))]) c N D (by omega) (Ty_mO hT rfl rfl ⟨g472, g474, g476, ⟨(by omega : (0 : Int) ≤ 0), (by omega : (0 : Int) ≤ 8)⟩, g480, g482, f28, f69, f70, f71, f72, f75, trivial⟩ ⟨(hT.2.1 65), (hT.2.1 66), (hT.2.1 67), (hT.2.1 68), trivial⟩) 1 64 ⟨by decide, by decide⟩ ⟨by decide, by decide⟩ (show LxP y471 y473 y475 (m.1 6) (0 : Int) by first | exact hLx | (intro h9; exfalso; omega) | (intro h9; have h8 := hLx (by omega); omega)) (show (1 : Int) ≤ (64 : Int) by omega)) (fun rr489 k490 => ?_)
        obtain ⟨y491, y493, y495, y497, y499, y501, nu, g492, g494, g496, g498, g500, g502, g503, h504, h505, h506, h507, h508, h509, rfl⟩ := k490
        refine ⟨_, _, rfl, ?_⟩
        refine T_nf (st' := [.int (i32 nu)]) (l' := [(7, y491), (8, y493), (9, y495), (10, y497), (11, y499), (12, y501), (28, (m.1 28)), (69, (m.1 69)), (70, (m.1 70)), (71, (m.1 71)), (72, (m.1 72)), (75, (m.1 75))]) (a' := [(65, (m.2 65)), (66, (m.2 66)), (67, (m.2 67)), (68, (m.2 68))]) rfl rfl rfl rfl rfl ?_
        obtain ⟨g503a, g503b⟩ := g503
        by_cases hf510 : y497 = 0
        · skip
          subst hf510
          replace h504 : LxP y491 y493 y495 (m.1 6) (0 : Int) := h504
          have hLx := h504
          replace h505 : y473 ≤ y493 := h505
          replace h506 : (0 : Int) = 0 ∧ y473 + y475 ≤ y493 := h506 rfl
          replace h507 : y471 = 2 := h507 rfl
          replace h508 : (1 : Int) ≤ nu ∧ nu ≤ (64 : Int) := h508
          replace h509 : nu = y481 := h509 rfl
          have u511 : (m.1 8) + 1 ≤ y493 := by omega
          have hAgC : agr (m.2 65) (m.2 65) (m.1 28) := by first | exact agr_r _ _ | exact hAgC | exact agr_t hAgC hAg (by omega)
          clear g472 g474 g476 g480 g482 h483 h485 h486 u488 g498 h505 h506 h507 h509
          refine T_sto 197 [(1, .int (i32 nu)), (0, .ref 189)] rfl (fun _ => rfl) ?_
          have hAr : ar 406 ≤ 1 + lh (m.2 79) (m.2 80) (m.1 73) := by rw [show ar 406 = 1 from rfl]; omega
          have hCk : CNk 406 0 := by refine ⟨?_, ?_, ?_, ?_⟩ <;> omega
          refine T_ld 198 (.ref 189) rfl (fun _ => rfl) ?_
          refine T_ld 201 (.int (i32 406)) rfl (fun _ => rfl) ?_
          refine T_ld 202 (.int (i32 nu)) rfl (fun _ => rfl) ?_
          refine T_ld 203 (.int (i32 0)) rfl (fun _ => rfl) ?_
          refine T_ld 204 (.long (i64 0)) rfl (fun _ => rfl) ?_
          refine T_call 207 248 [.ref 189, .int (i32 406), .int (i32 nu), .int (i32 0), .long (i64 0)] [] rfl (fun _ => rfl) rfl (c_node w (mO m [(7, y491), (8, y493), (9, y495), (10, 0), (11, y499), (12, y501), (28, (m.1 28)), (69, (m.1 69)), (70, (m.1 70)), (71, (m.1 71)), (72, (m.1 72)), (75, (m.1 75))] [(65, (m.2 65)), (66, (m.2 66)), (67, (m.2 67)), (68, (m.2 68))]) c N D (by omega) (Ty_mO hT rfl rfl ⟨g492, g494, g496, ⟨(by omega : (0 : Int) ≤ 0), (by omega : (0 : Int) ≤ 8)⟩, g500, g502, f28, f69, f70, f71, f72, f75, trivial⟩ ⟨(hT.2.1 65), (hT.2.1 66), (hT.2.1 67), (hT.2.1 68), trivial⟩) 406 nu 0 0 B (1 + lh (m.2 79) (m.2 80) (m.1 73)) ⟨by decide, by decide⟩ (r32 (by omega) (by omega)) ⟨by decide, by decide⟩ ⟨by decide, by decide⟩ (fun _ => ⟨(show 0 ≤ (406 : Int) ∧ (406 : Int) ≤ 408 by first | omega | decide), (show 0 ≤ nu ∧ nu ≤ 64 by first | omega | decide), (show 0 ≤ (0 : Int) ∧ (0 : Int) ≤ 191 by first | omega | decide), (show CNk (406 : Int) (0 : Int) by first | exact hCk | (refine ⟨?_, ?_, ?_, ?_⟩ <;> omega)), (show ar (406 : Int) ≤ (1 + lh (m.2 79) (m.2 80) (m.1 73)) by first | exact hAr | omega), (show EX (m.2 65) (m.2 67) B (m.1 28) (1 + lh (m.2 79) (m.2 80) (m.1 73)) by first | exact hEX | assumption)⟩)) (fun rr512 k513 => ?_)
          obtain ⟨y514, y516, y518, F520, F522, F524, F526, g515, g517, g519, G521, G523, G525, G527, h528, c529, rfl⟩ := k513
          refine ⟨_, _, rfl, ?_⟩
          refine T_nf (st' := []) (l' := [(7, y491), (8, y493), (9, y495), (10, y514), (11, y516), (12, y501), (28, y518), (69, (m.1 69)), (70, (m.1 70)), (71, (m.1 71)), (72, (m.1 72)), (75, (m.1 75))]) (a' := [(65, F520), (66, F522), (67, F524), (68, F526)]) rfl rfl rfl rfl rfl ?_
          by_cases hf530 : y514 = 0
          · skip
            subst hf530
            replace h528 : (0 : Int) = 0 := h528 rfl
            obtain ⟨c531, c532, c533⟩ := c529 rfl
            replace c531 : y518 = (m.1 28) + 1 := c531
            replace c532 : EX F520 F524 B y518 ((1 + lh (m.2 79) (m.2 80) (m.1 73)) + 1 - ar (406 : Int)) := c532
            have hEX := c532
            replace c533 : agr (m.2 65) F520 (m.1 28) := c533
            have hAg := c533
            clear c529
            have u534 : (m.1 8) + 1 ≤ y493 := by omega
            have hAgC : agr (m.2 65) F520 (m.1 28) := by first | exact agr_r _ _ | exact hAgC | exact agr_t hAgC hAg (by omega)
            clear g500 g515
            refine T_ld 208 (.ref 189) rfl (fun _ => rfl) ?_
            refine T_ld 209 (.int (i32 nu)) rfl (fun _ => rfl) ?_
            refine T_gf 213 (.int (i32 (m.1 70))) rfl rfl rfl rfl rfl rfl ?_
            refine T_call 216 250 [.ref 189, .int (i32 nu), .int (i32 (m.1 70))] [] rfl (fun _ => rfl) rfl (c_unit w (mO m [(7, y491), (8, y493), (9, y495), (10, 0), (11, y516), (12, y501), (28, y518), (69, (m.1 69)), (70, (m.1 70)), (71, (m.1 71)), (72, (m.1 72)), (75, (m.1 75))] [(65, F520), (66, F522), (67, F524), (68, F526)]) c N D (by omega) (Ty_mO hT rfl rfl ⟨g492, g494, g496, ⟨(by omega : (0 : Int) ≤ 0), (by omega : (0 : Int) ≤ 8)⟩, g517, g502, g519, f69, f70, f71, f72, f75, trivial⟩ ⟨G521, G523, G525, G527, trivial⟩) nu (m.1 70) (r32 (by omega) (by omega)) (r32 (by omega) (by omega)) (show 0 ≤ nu ∧ nu ≤ 1024 by omega) (show 0 ≤ (m.1 70) ∧ (m.1 70) ≤ 4000 by omega)) (fun rr535 k536 => ?_)
            obtain ⟨y537, y539, y541, y543, g538, g540, g542, g544, h545, rfl⟩ := k536
            refine ⟨_, _, rfl, ?_⟩
            refine T_nf (st' := []) (l' := [(7, y491), (8, y493), (9, y495), (10, 0), (11, y516), (12, y501), (28, y518), (69, y537), (70, y539), (71, y541), (72, y543), (75, (m.1 75))]) (a' := [(65, F520), (66, F522), (67, F524), (68, F526)]) rfl rfl rfl rfl rfl ?_
            replace h545 : y537 = nu := h545
            have u546 : (m.1 8) + 1 ≤ y493 := by omega
            have hAgC : agr (m.2 65) F520 (m.1 28) := by first | exact agr_r _ _ | exact hAgC | exact agr_t hAgC hAg (by omega)
            have hXE : XS F520 F524 (m.2 76) (m.2 78) (m.2 79) (m.2 80) B y518 (m.1 73) (m.1 74) 1 := XS_of hXS hEX (by rw [show ar 406 = 1 from rfl]; omega)
            refine T_goto 224 rfl (fun _ => rfl) ?_
            refine T_ret rfl (fun _ => rfl) ?_
            exact ⟨y491, y493, y495, 0, y516, y501, y518, y537, y539, y541, y543, (m.1 75), F520, F522, F524, F526, g492, g494, g496, ⟨by omega, by omega⟩, g517, g502, g519, g538, g540, g542, g544, f75, G521, G523, G525, G527, (by omega), (by first | (first | exact hLx | (intro h9; exfalso; omega)) | (exfalso; omega)), (fun _ => ⟨(by omega), (by omega), (by omega), (by first | (exact hXE) | (exfalso; omega)), (by first | (exact hAgC) | (exfalso; omega))⟩), rfl⟩
          · skip
            clear c529
            clear h528
            have hf547 : 1 ≤ y514 := by omega
            clear g500
            refine Tm_lv (a := [(0, .ref 189), (1, .int (i32 nu))]) rfl rfl ⟨rfl, rfl, trivial⟩ ?_
            exact J207_118 nu y491 y493 y495 y514 y516 y501 y518 F520 F522 F524 F526 (r32 (by omega) (by omega)) g492 g494 g496 g515 g517 g502 g519 G521 G523 G525 G527 (by omega) (by omega) (by omega) (by omega)
        · skip
          replace h504 : LxP y491 y493 y495 (m.1 6) y497 := h504
          have hLx := h504
          replace h505 : y473 ≤ y493 := h505
          clear h506
          clear h507
          replace h508 : (1 : Int) ≤ nu ∧ nu ≤ (64 : Int) := h508
          clear h509
          have hf548 : 1 ≤ y497 := by omega
          clear g472 g474 g476 g480 g482 h483 h485 h486 u488 h505
          exact J196_154 nu y491 y493 y495 y497 y499 y501 (r32 (by omega) (by omega)) g492 g494 g496 g498 g500 g502 (by omega) (by omega) (by omega) (by omega)
      · skip
        replace h483 : LxP y471 y473 y475 (m.1 6) y477 := h483
        have hLx := h483
        clear h484
        replace h485 : (m.1 8) ≤ y473 := h485
        clear h486
        have hf549 : 1 ≤ y477 := by omega
        refine T_ld 190 (.ref 189) rfl (fun _ => rfl) ?_
        refine T_ld 191 (.int (i32 1)) rfl (fun _ => rfl) ?_
        refine T_ld 193 (.int (i32 64)) rfl (fun _ => rfl) ?_
        refine T_call 196 234 [.ref 189, .int (i32 1), .int (i32 64)] [] rfl (fun _ => rfl) rfl (c_number w (mO m [(7, y471), (8, y473), (9, y475), (10, y477), (11, y479), (12, y481), (28, (m.1 28)), (69, (m.1 69)), (70, (m.1 70)), (71, (m.1 71)), (72, (m.1 72)), (75, (m.1 75))] [(65, (m.2 65)), (66, (m.2 66)), (67, (m.2 67)), (68, (m.2 68))]) c N D (by omega) (Ty_mO hT rfl rfl ⟨g472, g474, g476, g478, g480, g482, f28, f69, f70, f71, f72, f75, trivial⟩ ⟨(hT.2.1 65), (hT.2.1 66), (hT.2.1 67), (hT.2.1 68), trivial⟩) 1 64 ⟨by decide, by decide⟩ ⟨by decide, by decide⟩ (show LxP y471 y473 y475 (m.1 6) y477 by first | exact hLx | (intro h9; exfalso; omega) | (intro h9; have h8 := hLx (by omega); omega)) (show (1 : Int) ≤ (64 : Int) by omega)) (fun rr550 k551 => ?_)
        obtain ⟨y552, y554, y556, y558, y560, y562, nu, g553, g555, g557, g559, g561, g563, g564, h565, h566, h567, h568, h569, h570, rfl⟩ := k551
        refine ⟨_, _, rfl, ?_⟩
        refine T_nf (st' := [.int (i32 nu)]) (l' := [(7, y552), (8, y554), (9, y556), (10, y558), (11, y560), (12, y562), (28, (m.1 28)), (69, (m.1 69)), (70, (m.1 70)), (71, (m.1 71)), (72, (m.1 72)), (75, (m.1 75))]) (a' := [(65, (m.2 65)), (66, (m.2 66)), (67, (m.2 67)), (68, (m.2 68))]) rfl rfl rfl rfl rfl ?_
        obtain ⟨g564a, g564b⟩ := g564
        replace h565 : LxP y552 y554 y556 (m.1 6) y558 := h565
        replace h566 : y473 ≤ y554 := h566
        replace h567 : y558 = 0 → y477 = 0 ∧ y473 + y475 ≤ y554 := h567
        replace h568 : y558 = 0 → y471 = 2 := h568
        replace h569 : (1 : Int) ≤ nu ∧ nu ≤ (64 : Int) := h569
        replace h570 : y558 = 0 → nu = y481 := h570
        have hf571 : 1 ≤ y558 := by omega
        clear h567
        clear h568
        clear h570
        have hLx := h565
        clear g472 g474 g476 g478 g480 g482 h483 h485 hf549 h566
        exact J196_154 nu y552 y554 y556 y558 y560 y562 (r32 (by omega) (by omega)) g553 g555 g557 g559 g561 g563 (by omega) (by omega) (by omega) (by omega)
  · skip
    refine T_ld 10 (.ref 189) rfl (fun _ => rfl) ?_
    refine T_call 13 212 [.ref 189] [] rfl (fun _ => rfl) rfl (c_next w (mO m [(7, (m.1 7)), (8, (m.1 8)), (9, (m.1 9)), (10, (m.1 10)), (11, (m.1 11)), (12, (m.1 12)), (28, (m.1 28)), (69, (m.1 69)), (70, (m.1 70)), (71, (m.1 71)), (72, (m.1 72)), (75, (m.1 75))] [(65, (m.2 65)), (66, (m.2 66)), (67, (m.2 67)), (68, (m.2 68))]) c N D (by omega) (Ty_mO hT rfl rfl ⟨f7, f8, f9, f10, f11, f12, f28, f69, f70, f71, f72, f75, trivial⟩ ⟨(hT.2.1 65), (hT.2.1 66), (hT.2.1 67), (hT.2.1 68), trivial⟩) (show (m.1 10) = 0 → (m.1 8) + (m.1 9) ≤ (m.1 6) by first | omega | (intro h9; have h8 := hLx h9; omega))) (fun rr572 k573 => ?_)
    obtain ⟨y574, y576, y578, y580, y582, y584, g575, g577, g579, g581, g583, g585, h586, h587, h588, h589, rfl⟩ := k573
    refine ⟨_, _, rfl, ?_⟩
    refine T_nf (st' := []) (l' := [(7, y574), (8, y576), (9, y578), (10, y580), (11, y582), (12, y584), (28, (m.1 28)), (69, (m.1 69)), (70, (m.1 70)), (71, (m.1 71)), (72, (m.1 72)), (75, (m.1 75))]) (a' := [(65, (m.2 65)), (66, (m.2 66)), (67, (m.2 67)), (68, (m.2 68))]) rfl rfl rfl rfl rfl ?_
    by_cases hf590 : y580 = 0
    · skip
      subst hf590
      replace h586 : LxP y574 y576 y578 (m.1 6) (0 : Int) := h586
      have hLx := h586
      replace h587 : (m.1 10) = 0 := h587 rfl
      replace h588 : (m.1 8) ≤ y576 := h588
      replace h589 : (m.1 8) + (m.1 9) ≤ y576 := h589 rfl
      have u591 : (m.1 8) + 1 ≤ y576 := by omega
      have hAgC : agr (m.2 65) (m.2 65) (m.1 28) := by first | exact agr_r _ _ | exact hAgC | exact agr_t hAgC hAg (by omega)
      clear g581
      refine T_gf 17 (.int (i32 y576)) rfl rfl rfl rfl rfl rfl ?_
      refine T_sto 18 [(1, .int (i32 y576)), (0, .ref 189)] rfl (fun _ => rfl) ?_
      refine T_gf 22 (.int (i32 y574)) rfl rfl rfl rfl rfl rfl ?_
      refine T_ld 23 (.int (i32 2)) rfl (fun _ => rfl) ?_
      refine T_icmp 30 26 rfl rfl rfl (r32 (by omega) (by omega)) ⟨by decide, by decide⟩ (fun (h592 : y574 = 2) => ?_) (fun (h592 : ¬ (y574 = 2)) => ?_)
      · skip
        refine T_gf 34 (.long (i64 y584)) rfl rfl rfl rfl rfl rfl ?_
        refine T_sto 35 [(2, .long (i64 y584)), (1, .int (i32 y576)), (0, .ref 189)] rfl (fun _ => rfl) ?_
        refine T_ld 36 (.ref 189) rfl (fun _ => rfl) ?_
        refine T_call 39 212 [.ref 189] [] rfl (fun _ => rfl) rfl (c_next w (mO m [(7, y574), (8, y576), (9, y578), (10, 0), (11, y582), (12, y584), (28, (m.1 28)), (69, (m.1 69)), (70, (m.1 70)), (71, (m.1 71)), (72, (m.1 72)), (75, (m.1 75))] [(65, (m.2 65)), (66, (m.2 66)), (67, (m.2 67)), (68, (m.2 68))]) c N D (by omega) (Ty_mO hT rfl rfl ⟨g575, g577, g579, ⟨(by omega : (0 : Int) ≤ 0), (by omega : (0 : Int) ≤ 8)⟩, g583, g585, f28, f69, f70, f71, f72, f75, trivial⟩ ⟨(hT.2.1 65), (hT.2.1 66), (hT.2.1 67), (hT.2.1 68), trivial⟩) (show (0 : Int) = 0 → y576 + y578 ≤ (m.1 6) by first | omega | (intro h9; have h8 := hLx h9; omega))) (fun rr593 k594 => ?_)
        obtain ⟨y595, y597, y599, y601, y603, y605, g596, g598, g600, g602, g604, g606, h607, h608, h609, h610, rfl⟩ := k594
        refine ⟨_, _, rfl, ?_⟩
        refine T_nf (st' := []) (l' := [(7, y595), (8, y597), (9, y599), (10, y601), (11, y603), (12, y605), (28, (m.1 28)), (69, (m.1 69)), (70, (m.1 70)), (71, (m.1 71)), (72, (m.1 72)), (75, (m.1 75))]) (a' := [(65, (m.2 65)), (66, (m.2 66)), (67, (m.2 67)), (68, (m.2 68))]) rfl rfl rfl rfl rfl ?_
        by_cases hf611 : y601 = 0
        · skip
          subst hf611
          replace h607 : LxP y595 y597 y599 (m.1 6) (0 : Int) := h607
          have hLx := h607
          replace h608 : (0 : Int) = 0 := h608 rfl
          replace h609 : y576 ≤ y597 := h609
          replace h610 : y576 + y578 ≤ y597 := h610 rfl
          have u612 : (m.1 8) + 1 ≤ y597 := by omega
          have hAgC : agr (m.2 65) (m.2 65) (m.1 28) := by first | exact agr_r _ _ | exact hAgC | exact agr_t hAgC hAg (by omega)
          clear g575 g579 g583 h586 h592 g602 h610
          refine T_ld 40 (.ref 189) rfl (fun _ => rfl) ?_
          refine T_ld 42 (.int (i32 58)) rfl (fun _ => rfl) ?_
          refine T_call 45 232 [.ref 189, .int (i32 58)] [] rfl (fun _ => rfl) rfl (c_need w (mO m [(7, y595), (8, y597), (9, y599), (10, 0), (11, y603), (12, y605), (28, (m.1 28)), (69, (m.1 69)), (70, (m.1 70)), (71, (m.1 71)), (72, (m.1 72)), (75, (m.1 75))] [(65, (m.2 65)), (66, (m.2 66)), (67, (m.2 67)), (68, (m.2 68))]) c N D (by omega) (Ty_mO hT rfl rfl ⟨g596, g598, g600, ⟨(by omega : (0 : Int) ≤ 0), (by omega : (0 : Int) ≤ 8)⟩, g604, g606, f28, f69, f70, f71, f72, f75, trivial⟩ ⟨(hT.2.1 65), (hT.2.1 66), (hT.2.1 67), (hT.2.1 68), trivial⟩) 58 ⟨by decide, by decide⟩ (show 1 ≤ (58 : Int) by omega) (show LxP y595 y597 y599 (m.1 6) (0 : Int) by first | exact hLx | (intro h9; exfalso; omega) | (intro h9; have h8 := hLx (by omega); omega))) (fun rr613 k614 => ?_)
          obtain ⟨y615, y617, y619, y621, y623, y625, g616, g618, g620, g622, g624, g626, h627, h628, h629, h630, rfl⟩ := k614
          refine ⟨_, _, rfl, ?_⟩
          refine T_nf (st' := []) (l' := [(7, y615), (8, y617), (9, y619), (10, y621), (11, y623), (12, y625), (28, (m.1 28)), (69, (m.1 69)), (70, (m.1 70)), (71, (m.1 71)), (72, (m.1 72)), (75, (m.1 75))]) (a' := [(65, (m.2 65)), (66, (m.2 66)), (67, (m.2 67)), (68, (m.2 68))]) rfl rfl rfl rfl rfl ?_
          by_cases hf631 : y621 = 0
          · skip
            subst hf631
            replace h627 : LxP y615 y617 y619 (m.1 6) (0 : Int) := h627
            have hLx := h627
            replace h628 : (0 : Int) = 0 ∧ y595 = (58 : Int) := h628 rfl
            replace h629 : y597 ≤ y617 := h629
            replace h630 : y597 + y599 ≤ y617 := h630 rfl
            have u632 : (m.1 8) + 1 ≤ y617 := by omega
            have hAgC : agr (m.2 65) (m.2 65) (m.1 28) := by first | exact agr_r _ _ | exact hAgC | exact agr_t hAgC hAg (by omega)
            clear g596 g598 g600 g604 g606 h607 h609 u612 g622 h628 h629 h630
            refine T_gf 49 (.int (i32 0)) rfl rfl rfl rfl rfl rfl ?_
            refine T_if 64 52 rfl rfl rfl ⟨by decide, by decide⟩ (fun h633 => absurd (show (0 : Int) ≠ 0 from h633) (by decide)) (fun _ => ?_)
            refine T_gf 56 (.int (i32 y615)) rfl rfl rfl rfl rfl rfl ?_
            refine T_ld 57 (.int (i32 2)) rfl (fun _ => rfl) ?_
            refine T_icmp 64 60 rfl rfl rfl (r32 (by omega) (by omega)) ⟨by decide, by decide⟩ (fun (h634 : y615 = 2) => ?_) (fun (h634 : ¬ (y615 = 2)) => ?_)
            · skip
              refine T_gf 68 (.long (i64 y625)) rfl rfl rfl rfl rfl rfl ?_
              refine T_sto 70 [(4, .long (i64 y625)), (2, .long (i64 y584)), (1, .int (i32 y576)), (0, .ref 189)] rfl (fun _ => rfl) ?_
              refine T_ld 71 (.ref 189) rfl (fun _ => rfl) ?_
              refine T_call 74 212 [.ref 189] [] rfl (fun _ => rfl) rfl (c_next w (mO m [(7, y615), (8, y617), (9, y619), (10, 0), (11, y623), (12, y625), (28, (m.1 28)), (69, (m.1 69)), (70, (m.1 70)), (71, (m.1 71)), (72, (m.1 72)), (75, (m.1 75))] [(65, (m.2 65)), (66, (m.2 66)), (67, (m.2 67)), (68, (m.2 68))]) c N D (by omega) (Ty_mO hT rfl rfl ⟨g616, g618, g620, ⟨(by omega : (0 : Int) ≤ 0), (by omega : (0 : Int) ≤ 8)⟩, g624, g626, f28, f69, f70, f71, f72, f75, trivial⟩ ⟨(hT.2.1 65), (hT.2.1 66), (hT.2.1 67), (hT.2.1 68), trivial⟩) (show (0 : Int) = 0 → y617 + y619 ≤ (m.1 6) by first | omega | (intro h9; have h8 := hLx h9; omega))) (fun rr635 k636 => ?_)
              obtain ⟨y637, y639, y641, y643, y645, y647, g638, g640, g642, g644, g646, g648, h649, h650, h651, h652, rfl⟩ := k636
              refine ⟨_, _, rfl, ?_⟩
              refine T_nf (st' := []) (l' := [(7, y637), (8, y639), (9, y641), (10, y643), (11, y645), (12, y647), (28, (m.1 28)), (69, (m.1 69)), (70, (m.1 70)), (71, (m.1 71)), (72, (m.1 72)), (75, (m.1 75))]) (a' := [(65, (m.2 65)), (66, (m.2 66)), (67, (m.2 67)), (68, (m.2 68))]) rfl rfl rfl rfl rfl ?_
              by_cases hf653 : y643 = 0
              · skip
                subst hf653
                replace h649 : LxP y637 y639 y641 (m.1 6) (0 : Int) := h649
                have hLx := h649
                replace h650 : (0 : Int) = 0 := h650 rfl
                replace h651 : y617 ≤ y639 := h651
                replace h652 : y617 + y619 ≤ y639 := h652 rfl
                have u654 : (m.1 8) + 1 ≤ y639 := by omega
                have hAgC : agr (m.2 65) (m.2 65) (m.1 28) := by first | exact agr_r _ _ | exact hAgC | exact agr_t hAgC hAg (by omega)
                clear g616 g618 g620 g624 h627 u632 h634 g644 h651 h652
                refine T_gf 78 (.int (i32 0)) rfl rfl rfl rfl rfl rfl ?_
                refine T_if 121 81 rfl rfl rfl ⟨by decide, by decide⟩ (fun h655 => absurd (show (0 : Int) ≠ 0 from h655) (by decide)) (fun _ => ?_)
                refine T_ld 82 (.ref 189) rfl (fun _ => rfl) ?_
                refine T_ld 83 (.long (i64 y584)) rfl (fun _ => rfl) ?_
                refine T_ld 84 (.long (i64 0)) rfl (fun _ => rfl) ?_
                refine T_lcmp 85 rfl rfl (r64 (by omega) (by omega)) ⟨by decide, by decide⟩ (fun z656 h657 => ?_)
                obtain ⟨h657a, h657b, h657c, h657d, h657e⟩ := h657
                refine T_if 116 88 rfl rfl rfl (r32 (by omega) (by omega)) (fun (h658 : z656 < 0) => ?_) (fun (h658 : ¬ (z656 < 0)) => ?_)
                · skip
                  have hl659 : y584 < 0 := by omega
                  refine T_ld 117 (.int (i32 0)) rfl (fun _ => rfl) ?_
                  refine T_ld 118 (.int (i32 y576)) rfl (fun _ => rfl) ?_
                  refine T_call 121 256 [.ref 189, .int (i32 0), .int (i32 y576)] [] rfl (fun _ => rfl) rfl (c_want w (mO m [(7, y637), (8, y639), (9, y641), (10, 0), (11, y645), (12, y647), (28, (m.1 28)), (69, (m.1 69)), (70, (m.1 70)), (71, (m.1 71)), (72, (m.1 72)), (75, (m.1 75))] [(65, (m.2 65)), (66, (m.2 66)), (67, (m.2 67)), (68, (m.2 68))]) c N D (by omega) (Ty_mO hT rfl rfl ⟨g638, g640, g642, ⟨(by omega : (0 : Int) ≤ 0), (by omega : (0 : Int) ≤ 8)⟩, g646, g648, f28, f69, f70, f71, f72, f75, trivial⟩ ⟨(hT.2.1 65), (hT.2.1 66), (hT.2.1 67), (hT.2.1 68), trivial⟩) 0 y576 ⟨by decide, by decide⟩ (r32 (by omega) (by omega)) (show 0 ≤ y576 ∧ y576 ≤ 4000 by omega) (fun _ => trivial)) (fun rr660 k661 => ?_)
                  obtain ⟨y662, y664, g663, g665, h666, c667, rfl⟩ := k661
                  refine ⟨_, _, rfl, ?_⟩
                  refine T_nf (st' := []) (l' := [(7, y637), (8, y639), (9, y641), (10, y662), (11, y664), (12, y647), (28, (m.1 28)), (69, (m.1 69)), (70, (m.1 70)), (71, (m.1 71)), (72, (m.1 72)), (75, (m.1 75))]) (a' := [(65, (m.2 65)), (66, (m.2 66)), (67, (m.2 67)), (68, (m.2 68))]) rfl rfl rfl rfl rfl ?_
                  by_cases hf668 : y662 = 0
                  · skip
                    subst hf668
                    replace h666 : (0 : Int) = 0 := h666 rfl
                    have c669 := c667 rfl
                    replace c669 : (0 : Int) ≠ 0 := c669
                    clear c667
                    have u670 : (m.1 8) + 1 ≤ y639 := by omega
                    have hAgC : agr (m.2 65) (m.2 65) (m.1 28) := by first | exact agr_r _ _ | exact hAgC | exact agr_t hAgC hAg (by omega)
                    clear g646 h657a h657b h657c h657d h657e h658 g663
                    refine T_ld 122 (.ref 189) rfl (fun _ => rfl) ?_
                    refine T_ld 124 (.int (i32 93)) rfl (fun _ => rfl) ?_
                    refine T_call 127 232 [.ref 189, .int (i32 93)] [] rfl (fun _ => rfl) rfl (c_need w (mO m [(7, y637), (8, y639), (9, y641), (10, 0), (11, y664), (12, y647), (28, (m.1 28)), (69, (m.1 69)), (70, (m.1 70)), (71, (m.1 71)), (72, (m.1 72)), (75, (m.1 75))] [(65, (m.2 65)), (66, (m.2 66)), (67, (m.2 67)), (68, (m.2 68))]) c N D (by omega) (Ty_mO hT rfl rfl ⟨g638, g640, g642, ⟨(by omega : (0 : Int) ≤ 0), (by omega : (0 : Int) ≤ 8)⟩, g665, g648, f28, f69, f70, f71, f72, f75, trivial⟩ ⟨(hT.2.1 65), (hT.2.1 66), (hT.2.1 67), (hT.2.1 68), trivial⟩) 93 ⟨by decide, by decide⟩ (show 1 ≤ (93 : Int) by omega) (show LxP y637 y639 y641 (m.1 6) (0 : Int) by first | exact hLx | (intro h9; exfalso; omega) | (intro h9; have h8 := hLx (by omega); omega))) (fun rr671 k672 => ?_)
                    obtain ⟨y673, y675, y677, y679, y681, y683, g674, g676, g678, g680, g682, g684, h685, h686, h687, h688, rfl⟩ := k672
                    refine ⟨_, _, rfl, ?_⟩
                    refine T_nf (st' := []) (l' := [(7, y673), (8, y675), (9, y677), (10, y679), (11, y681), (12, y683), (28, (m.1 28)), (69, (m.1 69)), (70, (m.1 70)), (71, (m.1 71)), (72, (m.1 72)), (75, (m.1 75))]) (a' := [(65, (m.2 65)), (66, (m.2 66)), (67, (m.2 67)), (68, (m.2 68))]) rfl rfl rfl rfl rfl ?_
                    by_cases hf689 : y679 = 0
                    · skip
                      subst hf689
                      replace h685 : LxP y673 y675 y677 (m.1 6) (0 : Int) := h685
                      have hLx := h685
                      replace h686 : (0 : Int) = 0 ∧ y637 = (93 : Int) := h686 rfl
                      replace h687 : y639 ≤ y675 := h687
                      replace h688 : y639 + y641 ≤ y675 := h688 rfl
                      have u690 : (m.1 8) + 1 ≤ y675 := by omega
                      have hAgC : agr (m.2 65) (m.2 65) (m.1 28) := by first | exact agr_r _ _ | exact hAgC | exact agr_t hAgC hAg (by omega)
                      clear g638 g640 g642 g648 h649 u654 g665 u670 g680 h686 h687 h688
                      refine T_gf 131 (.int (i32 0)) rfl rfl rfl rfl rfl rfl ?_
                      refine T_if 135 134 rfl rfl rfl ⟨by decide, by decide⟩ (fun _ => ?_) (fun h691 => absurd (show (0 : Int) ≤ 0 by decide) h691)
                      refine T_gf 139 (.int (i32 (m.1 70))) rfl rfl rfl rfl rfl rfl ?_
                      refine T_sto 141 [(6, .int (i32 (m.1 70))), (4, .long (i64 y625)), (2, .long (i64 y584)), (1, .int (i32 y576)), (0, .ref 189)] rfl (fun _ => rfl) ?_
                      have hAr : ar 405 ≤ 1 + lh (m.2 79) (m.2 80) (m.1 73) := by rw [show ar 405 = 1 from rfl]; omega
                      have hCk : CNk 405 y625 := by refine ⟨?_, ?_, ?_, ?_⟩ <;> omega
                      refine T_ld 142 (.ref 189) rfl (fun _ => rfl) ?_
                      refine T_ld 145 (.int (i32 405)) rfl (fun _ => rfl) ?_
                      refine T_ld 146 (.long (i64 y584)) rfl (fun _ => rfl) ?_
                      refine T_ld 148 (.long (i64 y625)) rfl (fun _ => rfl) ?_
                      refine T_lsub 149 rfl rfl ?_
                      refine T_l2i 150 rfl rfl ?_
                      refine T_ld 151 (.int (i32 1)) rfl (fun _ => rfl) ?_
                      refine T_iadd 152 rfl rfl ?_
                      refine T_ld 154 (.long (i64 y625)) rfl (fun _ => rfl) ?_
                      refine T_l2i 155 rfl rfl ?_
                      refine T_ld 156 (.long (i64 0)) rfl (fun _ => rfl) ?_
                      refine T_call 159 248 [.ref 189, .int (i32 405), .int (i32 ((y584 - y625) + 1)), .int (i32 y625), .long (i64 0)] [] rfl (fun _ => rfl) rfl (c_node w (mO m [(7, y673), (8, y675), (9, y677), (10, 0), (11, y681), (12, y683), (28, (m.1 28)), (69, (m.1 69)), (70, (m.1 70)), (71, (m.1 71)), (72, (m.1 72)), (75, (m.1 75))] [(65, (m.2 65)), (66, (m.2 66)), (67, (m.2 67)), (68, (m.2 68))]) c N D (by omega) (Ty_mO hT rfl rfl ⟨g674, g676, g678, ⟨(by omega : (0 : Int) ≤ 0), (by omega : (0 : Int) ≤ 8)⟩, g682, g684, f28, f69, f70, f71, f72, f75, trivial⟩ ⟨(hT.2.1 65), (hT.2.1 66), (hT.2.1 67), (hT.2.1 68), trivial⟩) 405 ((y584 - y625) + 1) y625 0 B (1 + lh (m.2 79) (m.2 80) (m.1 73)) ⟨by decide, by decide⟩ (r32 (by omega) (by omega)) (r32 (by omega) (by omega)) ⟨by decide, by decide⟩ (fun _ => ⟨(show 0 ≤ (405 : Int) ∧ (405 : Int) ≤ 408 by first | omega | decide), (show 0 ≤ ((y584 - y625) + 1) ∧ ((y584 - y625) + 1) ≤ 64 by first | omega | decide), (show 0 ≤ y625 ∧ y625 ≤ 191 by first | omega | decide), (show CNk (405 : Int) y625 by first | exact hCk | (refine ⟨?_, ?_, ?_, ?_⟩ <;> omega)), (show ar (405 : Int) ≤ (1 + lh (m.2 79) (m.2 80) (m.1 73)) by first | exact hAr | omega), (show EX (m.2 65) (m.2 67) B (m.1 28) (1 + lh (m.2 79) (m.2 80) (m.1 73)) by first | exact hEX | assumption)⟩)) (fun rr692 k693 => ?_)
                      obtain ⟨y694, y696, y698, F700, F702, F704, F706, g695, g697, g699, G701, G703, G705, G707, h708, c709, rfl⟩ := k693
                      refine ⟨_, _, rfl, ?_⟩
                      refine T_nf (st' := []) (l' := [(7, y673), (8, y675), (9, y677), (10, y694), (11, y696), (12, y683), (28, y698), (69, (m.1 69)), (70, (m.1 70)), (71, (m.1 71)), (72, (m.1 72)), (75, (m.1 75))]) (a' := [(65, F700), (66, F702), (67, F704), (68, F706)]) rfl rfl rfl rfl rfl ?_
                      by_cases hf710 : y694 = 0
                      · skip
                        subst hf710
                        replace h708 : (0 : Int) = 0 := h708 rfl
                        obtain ⟨c711, c712, c713⟩ := c709 rfl
                        replace c711 : y698 = (m.1 28) + 1 := c711
                        replace c712 : EX F700 F704 B y698 ((1 + lh (m.2 79) (m.2 80) (m.1 73)) + 1 - ar (405 : Int)) := c712
                        have hEX := c712
                        replace c713 : agr (m.2 65) F700 (m.1 28) := c713
                        have hAg := c713
                        clear c709
                        have u714 : (m.1 8) + 1 ≤ y675 := by omega
                        have hAgC : agr (m.2 65) F700 (m.1 28) := by first | exact agr_r _ _ | exact hAgC | exact agr_t hAgC hAg (by omega)
                        clear g682 g695
                        refine T_ld 160 (.ref 189) rfl (fun _ => rfl) ?_
                        refine T_ld 161 (.long (i64 y584)) rfl (fun _ => rfl) ?_
                        refine T_ld 163 (.long (i64 y625)) rfl (fun _ => rfl) ?_
                        refine T_lsub 164 rfl rfl ?_
                        refine T_l2i 165 rfl rfl ?_
                        refine T_ld 166 (.int (i32 1)) rfl (fun _ => rfl) ?_
                        refine T_iadd 167 rfl rfl ?_
                        refine T_ld 169 (.int (i32 (m.1 70))) rfl (fun _ => rfl) ?_
                        refine T_call 172 250 [.ref 189, .int (i32 ((y584 - y625) + 1)), .int (i32 (m.1 70))] [] rfl (fun _ => rfl) rfl (c_unit w (mO m [(7, y673), (8, y675), (9, y677), (10, 0), (11, y696), (12, y683), (28, y698), (69, (m.1 69)), (70, (m.1 70)), (71, (m.1 71)), (72, (m.1 72)), (75, (m.1 75))] [(65, F700), (66, F702), (67, F704), (68, F706)]) c N D (by omega) (Ty_mO hT rfl rfl ⟨g674, g676, g678, ⟨(by omega : (0 : Int) ≤ 0), (by omega : (0 : Int) ≤ 8)⟩, g697, g684, g699, f69, f70, f71, f72, f75, trivial⟩ ⟨G701, G703, G705, G707, trivial⟩) ((y584 - y625) + 1) (m.1 70) (r32 (by omega) (by omega)) (r32 (by omega) (by omega)) (show 0 ≤ ((y584 - y625) + 1) ∧ ((y584 - y625) + 1) ≤ 1024 by omega) (show 0 ≤ (m.1 70) ∧ (m.1 70) ≤ 4000 by omega)) (fun rr715 k716 => ?_)
                        obtain ⟨y717, y719, y721, y723, g718, g720, g722, g724, h725, rfl⟩ := k716
                        refine ⟨_, _, rfl, ?_⟩
                        refine T_nf (st' := []) (l' := [(7, y673), (8, y675), (9, y677), (10, 0), (11, y696), (12, y683), (28, y698), (69, y717), (70, y719), (71, y721), (72, y723), (75, (m.1 75))]) (a' := [(65, F700), (66, F702), (67, F704), (68, F706)]) rfl rfl rfl rfl rfl ?_
                        replace h725 : y717 = ((y584 - y625) + 1) := h725
                        have u726 : (m.1 8) + 1 ≤ y675 := by omega
                        have hAgC : agr (m.2 65) F700 (m.1 28) := by first | exact agr_r _ _ | exact hAgC | exact agr_t hAgC hAg (by omega)
                        have hXE : XS F700 F704 (m.2 76) (m.2 78) (m.2 79) (m.2 80) B y698 (m.1 73) (m.1 74) 1 := XS_of hXS hEX (by rw [show ar 405 = 1 from rfl]; omega)
                        refine T_goto 224 rfl (fun _ => rfl) ?_
                        refine T_ret rfl (fun _ => rfl) ?_
                        exact ⟨y673, y675, y677, 0, y696, y683, y698, y717, y719, y721, y723, (m.1 75), F700, F702, F704, F706, g674, g676, g678, ⟨by omega, by omega⟩, g697, g684, g699, g718, g720, g722, g724, f75, G701, G703, G705, G707, (by omega), (by first | (first | exact hLx | (intro h9; exfalso; omega)) | (exfalso; omega)), (fun _ => ⟨(by omega), (by omega), (by omega), (by first | (exact hXE) | (exfalso; omega)), (by first | (exact hAgC) | (exfalso; omega))⟩), rfl⟩
                      · skip
                        clear c709
                        clear h708
                        have hf727 : 1 ≤ y694 := by omega
                        clear g682
                        refine Tm_lv (a := [(0, .ref 189), (1, .int (i32 y576)), (2, .long (i64 y584)), (4, .long (i64 y625)), (6, .int (i32 (m.1 70)))]) rfl rfl ⟨rfl, rfl, rfl, rfl, rfl, trivial⟩ ?_
                        exact J159_200 y576 y584 y625 y673 y675 y677 y694 y696 y683 y698 F700 F702 F704 F706 (r32 (by omega) (by omega)) (r64 (by omega) (by omega)) (r64 (by omega) (by omega)) g674 g676 g678 g695 g697 g684 g699 G701 G703 G705 G707 (by omega) (by omega) (by omega) (by omega) (by omega) (by omega)
                    · skip
                      replace h685 : LxP y673 y675 y677 (m.1 6) y679 := h685
                      have hLx := h685
                      clear h686
                      replace h687 : y639 ≤ y675 := h687
                      clear h688
                      have hf728 : 1 ≤ y679 := by omega
                      clear g638 g640 g642 g648 h649 u654 g665 u670 h687
                      refine Tm_lv (a := [(0, .ref 189), (1, .int (i32 y576)), (2, .long (i64 y584)), (4, .long (i64 y625))]) rfl rfl ⟨rfl, rfl, rfl, rfl, trivial⟩ ?_
                      exact J127_242 y576 y584 y625 y673 y675 y677 y679 y681 y683 (r32 (by omega) (by omega)) (r64 (by omega) (by omega)) (r64 (by omega) (by omega)) g674 g676 g678 g680 g682 g684 (by omega) (by omega) (by omega) (by omega)
                  · skip
                    clear c667
                    clear h666
                    have hf729 : 1 ≤ y662 := by omega
                    clear g646 h657a h657b h657c h657d h657e h658
                    refine Tm_lv (a := [(0, .ref 189), (1, .int (i32 y576)), (2, .long (i64 y584)), (4, .long (i64 y625))]) rfl rfl ⟨rfl, rfl, rfl, rfl, trivial⟩ ?_
                    exact J121_267 y576 y584 y625 y637 y639 y641 y662 y664 y647 (r32 (by omega) (by omega)) (r64 (by omega) (by omega)) (r64 (by omega) (by omega)) g638 g640 g642 g663 g665 g648 (by omega) (by omega) (by omega) (by omega)
                · skip
                  have hl730 : y584 ≥ 0 := by omega
                  refine T_ld 90 (.long (i64 y625)) rfl (fun _ => rfl) ?_
                  refine T_ld 91 (.long (i64 0)) rfl (fun _ => rfl) ?_
                  refine T_lcmp 92 rfl rfl (r64 (by omega) (by omega)) ⟨by decide, by decide⟩ (fun z731 h732 => ?_)
                  obtain ⟨h732a, h732b, h732c, h732d, h732e⟩ := h732
                  refine T_if 116 95 rfl rfl rfl (r32 (by omega) (by omega)) (fun (h733 : z731 < 0) => ?_) (fun (h733 : ¬ (z731 < 0)) => ?_)
                  · skip
                    have hl734 : y625 < 0 := by omega
                    refine T_ld 117 (.int (i32 0)) rfl (fun _ => rfl) ?_
                    refine T_ld 118 (.int (i32 y576)) rfl (fun _ => rfl) ?_
                    refine T_call 121 256 [.ref 189, .int (i32 0), .int (i32 y576)] [] rfl (fun _ => rfl) rfl (c_want w (mO m [(7, y637), (8, y639), (9, y641), (10, 0), (11, y645), (12, y647), (28, (m.1 28)), (69, (m.1 69)), (70, (m.1 70)), (71, (m.1 71)), (72, (m.1 72)), (75, (m.1 75))] [(65, (m.2 65)), (66, (m.2 66)), (67, (m.2 67)), (68, (m.2 68))]) c N D (by omega) (Ty_mO hT rfl rfl ⟨g638, g640, g642, ⟨(by omega : (0 : Int) ≤ 0), (by omega : (0 : Int) ≤ 8)⟩, g646, g648, f28, f69, f70, f71, f72, f75, trivial⟩ ⟨(hT.2.1 65), (hT.2.1 66), (hT.2.1 67), (hT.2.1 68), trivial⟩) 0 y576 ⟨by decide, by decide⟩ (r32 (by omega) (by omega)) (show 0 ≤ y576 ∧ y576 ≤ 4000 by omega) (fun _ => trivial)) (fun rr735 k736 => ?_)
                    obtain ⟨y737, y739, g738, g740, h741, c742, rfl⟩ := k736
                    refine ⟨_, _, rfl, ?_⟩
                    refine T_nf (st' := []) (l' := [(7, y637), (8, y639), (9, y641), (10, y737), (11, y739), (12, y647), (28, (m.1 28)), (69, (m.1 69)), (70, (m.1 70)), (71, (m.1 71)), (72, (m.1 72)), (75, (m.1 75))]) (a' := [(65, (m.2 65)), (66, (m.2 66)), (67, (m.2 67)), (68, (m.2 68))]) rfl rfl rfl rfl rfl ?_
                    by_cases hf743 : y737 = 0
                    · skip
                      subst hf743
                      replace h741 : (0 : Int) = 0 := h741 rfl
                      have c744 := c742 rfl
                      replace c744 : (0 : Int) ≠ 0 := c744
                      clear c742
                      have u745 : (m.1 8) + 1 ≤ y639 := by omega
                      have hAgC : agr (m.2 65) (m.2 65) (m.1 28) := by first | exact agr_r _ _ | exact hAgC | exact agr_t hAgC hAg (by omega)
                      clear g646 h657a h657b h657c h657d h657e h658 h732a h732b h732c h732d h732e h733 g738
                      refine T_ld 122 (.ref 189) rfl (fun _ => rfl) ?_
                      refine T_ld 124 (.int (i32 93)) rfl (fun _ => rfl) ?_
                      refine T_call 127 232 [.ref 189, .int (i32 93)] [] rfl (fun _ => rfl) rfl (c_need w (mO m [(7, y637), (8, y639), (9, y641), (10, 0), (11, y739), (12, y647), (28, (m.1 28)), (69, (m.1 69)), (70, (m.1 70)), (71, (m.1 71)), (72, (m.1 72)), (75, (m.1 75))] [(65, (m.2 65)), (66, (m.2 66)), (67, (m.2 67)), (68, (m.2 68))]) c N D (by omega) (Ty_mO hT rfl rfl ⟨g638, g640, g642, ⟨(by omega : (0 : Int) ≤ 0), (by omega : (0 : Int) ≤ 8)⟩, g740, g648, f28, f69, f70, f71, f72, f75, trivial⟩ ⟨(hT.2.1 65), (hT.2.1 66), (hT.2.1 67), (hT.2.1 68), trivial⟩) 93 ⟨by decide, by decide⟩ (show 1 ≤ (93 : Int) by omega) (show LxP y637 y639 y641 (m.1 6) (0 : Int) by first | exact hLx | (intro h9; exfalso; omega) | (intro h9; have h8 := hLx (by omega); omega))) (fun rr746 k747 => ?_)
                      obtain ⟨y748, y750, y752, y754, y756, y758, g749, g751, g753, g755, g757, g759, h760, h761, h762, h763, rfl⟩ := k747
                      refine ⟨_, _, rfl, ?_⟩
                      refine T_nf (st' := []) (l' := [(7, y748), (8, y750), (9, y752), (10, y754), (11, y756), (12, y758), (28, (m.1 28)), (69, (m.1 69)), (70, (m.1 70)), (71, (m.1 71)), (72, (m.1 72)), (75, (m.1 75))]) (a' := [(65, (m.2 65)), (66, (m.2 66)), (67, (m.2 67)), (68, (m.2 68))]) rfl rfl rfl rfl rfl ?_
                      by_cases hf764 : y754 = 0
                      · skip
                        subst hf764
                        replace h760 : LxP y748 y750 y752 (m.1 6) (0 : Int) := h760
                        have hLx := h760
                        replace h761 : (0 : Int) = 0 ∧ y637 = (93 : Int) := h761 rfl
                        replace h762 : y639 ≤ y750 := h762
                        replace h763 : y639 + y641 ≤ y750 := h763 rfl
                        have u765 : (m.1 8) + 1 ≤ y750 := by omega
                        have hAgC : agr (m.2 65) (m.2 65) (m.1 28) := by first | exact agr_r _ _ | exact hAgC | exact agr_t hAgC hAg (by omega)
                        clear g638 g640 g642 g648 h649 u654 g740 u745 g755 h761 h762 h763
                        refine T_gf 131 (.int (i32 0)) rfl rfl rfl rfl rfl rfl ?_
                        refine T_if 135 134 rfl rfl rfl ⟨by decide, by decide⟩ (fun _ => ?_) (fun h766 => absurd (show (0 : Int) ≤ 0 by decide) h766)
                        refine T_gf 139 (.int (i32 (m.1 70))) rfl rfl rfl rfl rfl rfl ?_
                        refine T_sto 141 [(6, .int (i32 (m.1 70))), (4, .long (i64 y625)), (2, .long (i64 y584)), (1, .int (i32 y576)), (0, .ref 189)] rfl (fun _ => rfl) ?_
                        have hAr : ar 405 ≤ 1 + lh (m.2 79) (m.2 80) (m.1 73) := by rw [show ar 405 = 1 from rfl]; omega
                        have hCk : CNk 405 y625 := by refine ⟨?_, ?_, ?_, ?_⟩ <;> omega
                        refine T_ld 142 (.ref 189) rfl (fun _ => rfl) ?_
                        refine T_ld 145 (.int (i32 405)) rfl (fun _ => rfl) ?_
                        refine T_ld 146 (.long (i64 y584)) rfl (fun _ => rfl) ?_
                        refine T_ld 148 (.long (i64 y625)) rfl (fun _ => rfl) ?_
                        refine T_lsub 149 rfl rfl ?_
                        refine T_l2i 150 rfl rfl ?_
                        refine T_ld 151 (.int (i32 1)) rfl (fun _ => rfl) ?_
                        refine T_iadd 152 rfl rfl ?_
                        refine T_ld 154 (.long (i64 y625)) rfl (fun _ => rfl) ?_
                        refine T_l2i 155 rfl rfl ?_
                        refine T_ld 156 (.long (i64 0)) rfl (fun _ => rfl) ?_
                        refine T_call 159 248 [.ref 189, .int (i32 405), .int (i32 ((y584 - y625) + 1)), .int (i32 y625), .long (i64 0)] [] rfl (fun _ => rfl) rfl (c_node w (mO m [(7, y748), (8, y750), (9, y752), (10, 0), (11, y756), (12, y758), (28, (m.1 28)), (69, (m.1 69)), (70, (m.1 70)), (71, (m.1 71)), (72, (m.1 72)), (75, (m.1 75))] [(65, (m.2 65)), (66, (m.2 66)), (67, (m.2 67)), (68, (m.2 68))]) c N D (by omega) (Ty_mO hT rfl rfl ⟨g749, g751, g753, ⟨(by omega : (0 : Int) ≤ 0), (by omega : (0 : Int) ≤ 8)⟩, g757, g759, f28, f69, f70, f71, f72, f75, trivial⟩ ⟨(hT.2.1 65), (hT.2.1 66), (hT.2.1 67), (hT.2.1 68), trivial⟩) 405 ((y584 - y625) + 1) y625 0 B (1 + lh (m.2 79) (m.2 80) (m.1 73)) ⟨by decide, by decide⟩ (r32 (by omega) (by omega)) (r32 (by omega) (by omega)) ⟨by decide, by decide⟩ (fun _ => ⟨(show 0 ≤ (405 : Int) ∧ (405 : Int) ≤ 408 by first | omega | decide), (show 0 ≤ ((y584 - y625) + 1) ∧ ((y584 - y625) + 1) ≤ 64 by first | omega | decide), (show 0 ≤ y625 ∧ y625 ≤ 191 by first | omega | decide), (show CNk (405 : Int) y625 by first | exact hCk | (refine ⟨?_, ?_, ?_, ?_⟩ <;> omega)), (show ar (405 : Int) ≤ (1 + lh (m.2 79) (m.2 80) (m.1 73)) by first | exact hAr | omega), (show EX (m.2 65) (m.2 67) B (m.1 28) (1 + lh (m.2 79) (m.2 80) (m.1 73)) by first | exact hEX | assumption)⟩)) (fun rr767 k768 => ?_)
                        obtain ⟨y769, y771, y773, F775, F777, F779, F781, g770, g772, g774, G776, G778, G780, G782, h783, c784, rfl⟩ := k768
                        refine ⟨_, _, rfl, ?_⟩
                        refine T_nf (st' := []) (l' := [(7, y748), (8, y750), (9, y752), (10, y769), (11, y771), (12, y758), (28, y773), (69, (m.1 69)), (70, (m.1 70)), (71, (m.1 71)), (72, (m.1 72)), (75, (m.1 75))]) (a' := [(65, F775), (66, F777), (67, F779), (68, F781)]) rfl rfl rfl rfl rfl ?_
                        by_cases hf785 : y769 = 0
                        · skip
                          subst hf785
                          replace h783 : (0 : Int) = 0 := h783 rfl
                          obtain ⟨c786, c787, c788⟩ := c784 rfl
                          replace c786 : y773 = (m.1 28) + 1 := c786
                          replace c787 : EX F775 F779 B y773 ((1 + lh (m.2 79) (m.2 80) (m.1 73)) + 1 - ar (405 : Int)) := c787
                          have hEX := c787
                          replace c788 : agr (m.2 65) F775 (m.1 28) := c788
                          have hAg := c788
                          clear c784
                          have u789 : (m.1 8) + 1 ≤ y750 := by omega
                          have hAgC : agr (m.2 65) F775 (m.1 28) := by first | exact agr_r _ _ | exact hAgC | exact agr_t hAgC hAg (by omega)
                          clear g757 g770
                          refine T_ld 160 (.ref 189) rfl (fun _ => rfl) ?_
                          refine T_ld 161 (.long (i64 y584)) rfl (fun _ => rfl) ?_
                          refine T_ld 163 (.long (i64 y625)) rfl (fun _ => rfl) ?_
                          refine T_lsub 164 rfl rfl ?_
                          refine T_l2i 165 rfl rfl ?_
                          refine T_ld 166 (.int (i32 1)) rfl (fun _ => rfl) ?_
                          refine T_iadd 167 rfl rfl ?_
                          refine T_ld 169 (.int (i32 (m.1 70))) rfl (fun _ => rfl) ?_
                          refine T_call 172 250 [.ref 189, .int (i32 ((y584 - y625) + 1)), .int (i32 (m.1 70))] [] rfl (fun _ => rfl) rfl (c_unit w (mO m [(7, y748), (8, y750), (9, y752), (10, 0), (11, y771), (12, y758), (28, y773), (69, (m.1 69)), (70, (m.1 70)), (71, (m.1 71)), (72, (m.1 72)), (75, (m.1 75))] [(65, F775), (66, F777), (67, F779), (68, F781)]) c N D (by omega) (Ty_mO hT rfl rfl ⟨g749, g751, g753, ⟨(by omega : (0 : Int) ≤ 0), (by omega : (0 : Int) ≤ 8)⟩, g772, g759, g774, f69, f70, f71, f72, f75, trivial⟩ ⟨G776, G778, G780, G782, trivial⟩) ((y584 - y625) + 1) (m.1 70) (r32 (by omega) (by omega)) (r32 (by omega) (by omega)) (show 0 ≤ ((y584 - y625) + 1) ∧ ((y584 - y625) + 1) ≤ 1024 by omega) (show 0 ≤ (m.1 70) ∧ (m.1 70) ≤ 4000 by omega)) (fun rr790 k791 => ?_)
                          obtain ⟨y792, y794, y796, y798, g793, g795, g797, g799, h800, rfl⟩ := k791
                          refine ⟨_, _, rfl, ?_⟩
                          refine T_nf (st' := []) (l' := [(7, y748), (8, y750), (9, y752), (10, 0), (11, y771), (12, y758), (28, y773), (69, y792), (70, y794), (71, y796), (72, y798), (75, (m.1 75))]) (a' := [(65, F775), (66, F777), (67, F779), (68, F781)]) rfl rfl rfl rfl rfl ?_
                          replace h800 : y792 = ((y584 - y625) + 1) := h800
                          have u801 : (m.1 8) + 1 ≤ y750 := by omega
                          have hAgC : agr (m.2 65) F775 (m.1 28) := by first | exact agr_r _ _ | exact hAgC | exact agr_t hAgC hAg (by omega)
                          have hXE : XS F775 F779 (m.2 76) (m.2 78) (m.2 79) (m.2 80) B y773 (m.1 73) (m.1 74) 1 := XS_of hXS hEX (by rw [show ar 405 = 1 from rfl]; omega)
                          refine T_goto 224 rfl (fun _ => rfl) ?_
                          refine T_ret rfl (fun _ => rfl) ?_
                          exact ⟨y748, y750, y752, 0, y771, y758, y773, y792, y794, y796, y798, (m.1 75), F775, F777, F779, F781, g749, g751, g753, ⟨by omega, by omega⟩, g772, g759, g774, g793, g795, g797, g799, f75, G776, G778, G780, G782, (by omega), (by first | (first | exact hLx | (intro h9; exfalso; omega)) | (exfalso; omega)), (fun _ => ⟨(by omega), (by omega), (by omega), (by first | (exact hXE) | (exfalso; omega)), (by first | (exact hAgC) | (exfalso; omega))⟩), rfl⟩
                        · skip
                          clear c784
                          clear h783
                          have hf802 : 1 ≤ y769 := by omega
                          clear g757
                          refine Tm_lv (a := [(0, .ref 189), (1, .int (i32 y576)), (2, .long (i64 y584)), (4, .long (i64 y625)), (6, .int (i32 (m.1 70)))]) rfl rfl ⟨rfl, rfl, rfl, rfl, rfl, trivial⟩ ?_
                          exact J159_200 y576 y584 y625 y748 y750 y752 y769 y771 y758 y773 F775 F777 F779 F781 (r32 (by omega) (by omega)) (r64 (by omega) (by omega)) (r64 (by omega) (by omega)) g749 g751 g753 g770 g772 g759 g774 G776 G778 G780 G782 (by omega) (by omega) (by omega) (by omega) (by omega) (by omega)
                      · skip
                        replace h760 : LxP y748 y750 y752 (m.1 6) y754 := h760
                        have hLx := h760
                        clear h761
                        replace h762 : y639 ≤ y750 := h762
                        clear h763
                        have hf803 : 1 ≤ y754 := by omega
                        clear g638 g640 g642 g648 h649 u654 g740 u745 h762
                        refine Tm_lv (a := [(0, .ref 189), (1, .int (i32 y576)), (2, .long (i64 y584)), (4, .long (i64 y625))]) rfl rfl ⟨rfl, rfl, rfl, rfl, trivial⟩ ?_
                        exact J127_242 y576 y584 y625 y748 y750 y752 y754 y756 y758 (r32 (by omega) (by omega)) (r64 (by omega) (by omega)) (r64 (by omega) (by omega)) g749 g751 g753 g755 g757 g759 (by omega) (by omega) (by omega) (by omega)
                    · skip
                      clear c742
                      clear h741
                      have hf804 : 1 ≤ y737 := by omega
                      clear g646 h657a h657b h657c h657d h657e h658 h732a h732b h732c h732d h732e h733
                      refine Tm_lv (a := [(0, .ref 189), (1, .int (i32 y576)), (2, .long (i64 y584)), (4, .long (i64 y625))]) rfl rfl ⟨rfl, rfl, rfl, rfl, trivial⟩ ?_
                      exact J121_267 y576 y584 y625 y637 y639 y641 y737 y739 y647 (r32 (by omega) (by omega)) (r64 (by omega) (by omega)) (r64 (by omega) (by omega)) g638 g640 g642 g738 g740 g648 (by omega) (by omega) (by omega) (by omega)
                  · skip
                    have hl805 : y625 ≥ 0 := by omega
                    refine T_ld 97 (.long (i64 y625)) rfl (fun _ => rfl) ?_
                    refine T_ld 98 (.long (i64 y584)) rfl (fun _ => rfl) ?_
                    refine T_lcmp 99 rfl rfl (r64 (by omega) (by omega)) (r64 (by omega) (by omega)) (fun z806 h807 => ?_)
                    obtain ⟨h807a, h807b, h807c, h807d, h807e⟩ := h807
                    refine T_if 116 102 rfl rfl rfl (r32 (by omega) (by omega)) (fun (h808 : (0 : Int) < z806) => ?_) (fun (h808 : ¬ ((0 : Int) < z806)) => ?_)
                    · skip
                      have hl809 : y625 > y584 := by omega
                      refine T_ld 117 (.int (i32 0)) rfl (fun _ => rfl) ?_
                      refine T_ld 118 (.int (i32 y576)) rfl (fun _ => rfl) ?_
                      refine T_call 121 256 [.ref 189, .int (i32 0), .int (i32 y576)] [] rfl (fun _ => rfl) rfl (c_want w (mO m [(7, y637), (8, y639), (9, y641), (10, 0), (11, y645), (12, y647), (28, (m.1 28)), (69, (m.1 69)), (70, (m.1 70)), (71, (m.1 71)), (72, (m.1 72)), (75, (m.1 75))] [(65, (m.2 65)), (66, (m.2 66)), (67, (m.2 67)), (68, (m.2 68))]) c N D (by omega) (Ty_mO hT rfl rfl ⟨g638, g640, g642, ⟨(by omega : (0 : Int) ≤ 0), (by omega : (0 : Int) ≤ 8)⟩, g646, g648, f28, f69, f70, f71, f72, f75, trivial⟩ ⟨(hT.2.1 65), (hT.2.1 66), (hT.2.1 67), (hT.2.1 68), trivial⟩) 0 y576 ⟨by decide, by decide⟩ (r32 (by omega) (by omega)) (show 0 ≤ y576 ∧ y576 ≤ 4000 by omega) (fun _ => trivial)) (fun rr810 k811 => ?_)
                      obtain ⟨y812, y814, g813, g815, h816, c817, rfl⟩ := k811
                      refine ⟨_, _, rfl, ?_⟩
                      refine T_nf (st' := []) (l' := [(7, y637), (8, y639), (9, y641), (10, y812), (11, y814), (12, y647), (28, (m.1 28)), (69, (m.1 69)), (70, (m.1 70)), (71, (m.1 71)), (72, (m.1 72)), (75, (m.1 75))]) (a' := [(65, (m.2 65)), (66, (m.2 66)), (67, (m.2 67)), (68, (m.2 68))]) rfl rfl rfl rfl rfl ?_
                      by_cases hf818 : y812 = 0
                      · skip
                        subst hf818
                        replace h816 : (0 : Int) = 0 := h816 rfl
                        have c819 := c817 rfl
                        replace c819 : (0 : Int) ≠ 0 := c819
                        clear c817
                        have u820 : (m.1 8) + 1 ≤ y639 := by omega
                        have hAgC : agr (m.2 65) (m.2 65) (m.1 28) := by first | exact agr_r _ _ | exact hAgC | exact agr_t hAgC hAg (by omega)
                        clear g646 h657a h657b h657c h657d h657e h658 h732a h732b h732c h732d h732e h733 h807a h807b h807c h807d h807e h808 g813
                        refine T_ld 122 (.ref 189) rfl (fun _ => rfl) ?_
                        refine T_ld 124 (.int (i32 93)) rfl (fun _ => rfl) ?_
                        refine T_call 127 232 [.ref 189, .int (i32 93)] [] rfl (fun _ => rfl) rfl (c_need w (mO m [(7, y637), (8, y639), (9, y641), (10, 0), (11, y814), (12, y647), (28, (m.1 28)), (69, (m.1 69)), (70, (m.1 70)), (71, (m.1 71)), (72, (m.1 72)), (75, (m.1 75))] [(65, (m.2 65)), (66, (m.2 66)), (67, (m.2 67)), (68, (m.2 68))]) c N D (by omega) (Ty_mO hT rfl rfl ⟨g638, g640, g642, ⟨(by omega : (0 : Int) ≤ 0), (by omega : (0 : Int) ≤ 8)⟩, g815, g648, f28, f69, f70, f71, f72, f75, trivial⟩ ⟨(hT.2.1 65), (hT.2.1 66), (hT.2.1 67), (hT.2.1 68), trivial⟩) 93 ⟨by decide, by decide⟩ (show 1 ≤ (93 : Int) by omega) (show LxP y637 y639 y641 (m.1 6) (0 : Int) by first | exact hLx | (intro h9; exfalso; omega) | (intro h9; have h8 := hLx (by omega); omega))) (fun rr821 k822 => ?_)
                        obtain ⟨y823, y825, y827, y829, y831, y833, g824, g826, g828, g830, g832, g834, h835, h836, h837, h838, rfl⟩ := k822
                        refine ⟨_, _, rfl, ?_⟩
                        refine T_nf (st' := []) (l' := [(7, y823), (8, y825), (9, y827), (10, y829), (11, y831), (12, y833), (28, (m.1 28)), (69, (m.1 69)), (70, (m.1 70)), (71, (m.1 71)), (72, (m.1 72)), (75, (m.1 75))]) (a' := [(65, (m.2 65)), (66, (m.2 66)), (67, (m.2 67)), (68, (m.2 68))]) rfl rfl rfl rfl rfl ?_
                        by_cases hf839 : y829 = 0
                        · skip
                          subst hf839
                          replace h835 : LxP y823 y825 y827 (m.1 6) (0 : Int) := h835
                          have hLx := h835
                          replace h836 : (0 : Int) = 0 ∧ y637 = (93 : Int) := h836 rfl
                          replace h837 : y639 ≤ y825 := h837
                          replace h838 : y639 + y641 ≤ y825 := h838 rfl
                          have u840 : (m.1 8) + 1 ≤ y825 := by omega
                          have hAgC : agr (m.2 65) (m.2 65) (m.1 28) := by first | exact agr_r _ _ | exact hAgC | exact agr_t hAgC hAg (by omega)
                          clear g638 g640 g642 g648 h649 u654 g815 u820 g830 h836 h837 h838
                          refine T_gf 131 (.int (i32 0)) rfl rfl rfl rfl rfl rfl ?_
                          refine T_if 135 134 rfl rfl rfl ⟨by decide, by decide⟩ (fun _ => ?_) (fun h841 => absurd (show (0 : Int) ≤ 0 by decide) h841)
                          refine T_gf 139 (.int (i32 (m.1 70))) rfl rfl rfl rfl rfl rfl ?_
                          refine T_sto 141 [(6, .int (i32 (m.1 70))), (4, .long (i64 y625)), (2, .long (i64 y584)), (1, .int (i32 y576)), (0, .ref 189)] rfl (fun _ => rfl) ?_
                          have hAr : ar 405 ≤ 1 + lh (m.2 79) (m.2 80) (m.1 73) := by rw [show ar 405 = 1 from rfl]; omega
                          have hCk : CNk 405 y625 := by refine ⟨?_, ?_, ?_, ?_⟩ <;> omega
                          refine T_ld 142 (.ref 189) rfl (fun _ => rfl) ?_
                          refine T_ld 145 (.int (i32 405)) rfl (fun _ => rfl) ?_
                          refine T_ld 146 (.long (i64 y584)) rfl (fun _ => rfl) ?_
                          refine T_ld 148 (.long (i64 y625)) rfl (fun _ => rfl) ?_
                          refine T_lsub 149 rfl rfl ?_
                          refine T_l2i 150 rfl rfl ?_
                          refine T_ld 151 (.int (i32 1)) rfl (fun _ => rfl) ?_
                          refine T_iadd 152 rfl rfl ?_
                          refine T_ld 154 (.long (i64 y625)) rfl (fun _ => rfl) ?_
                          refine T_l2i 155 rfl rfl ?_
                          refine T_ld 156 (.long (i64 0)) rfl (fun _ => rfl) ?_
                          refine T_call 159 248 [.ref 189, .int (i32 405), .int (i32 ((y584 - y625) + 1)), .int (i32 y625), .long (i64 0)] [] rfl (fun _ => rfl) rfl (c_node w (mO m [(7, y823), (8, y825), (9, y827), (10, 0), (11, y831), (12, y833), (28, (m.1 28)), (69, (m.1 69)), (70, (m.1 70)), (71, (m.1 71)), (72, (m.1 72)), (75, (m.1 75))] [(65, (m.2 65)), (66, (m.2 66)), (67, (m.2 67)), (68, (m.2 68))]) c N D (by omega) (Ty_mO hT rfl rfl ⟨g824, g826, g828, ⟨(by omega : (0 : Int) ≤ 0), (by omega : (0 : Int) ≤ 8)⟩, g832, g834, f28, f69, f70, f71, f72, f75, trivial⟩ ⟨(hT.2.1 65), (hT.2.1 66), (hT.2.1 67), (hT.2.1 68), trivial⟩) 405 ((y584 - y625) + 1) y625 0 B (1 + lh (m.2 79) (m.2 80) (m.1 73)) ⟨by decide, by decide⟩ (r32 (by omega) (by omega)) (r32 (by omega) (by omega)) ⟨by decide, by decide⟩ (fun _ => ⟨(show 0 ≤ (405 : Int) ∧ (405 : Int) ≤ 408 by first | omega | decide), (show 0 ≤ ((y584 - y625) + 1) ∧ ((y584 - y625) + 1) ≤ 64 by first | omega | decide), (show 0 ≤ y625 ∧ y625 ≤ 191 by first | omega | decide), (show CNk (405 : Int) y625 by first | exact hCk | (refine ⟨?_, ?_, ?_, ?_⟩ <;> omega)), (show ar (405 : Int) ≤ (1 + lh (m.2 79) (m.2 80) (m.1 73)) by first | exact hAr | omega), (show EX (m.2 65) (m.2 67) B (m.1 28) (1 + lh (m.2 79) (m.2 80) (m.1 73)) by first | exact hEX | assumption)⟩)) (fun rr842 k843 => ?_)
                          obtain ⟨y844, y846, y848, F850, F852, F854, F856, g845, g847, g849, G851, G853, G855, G857, h858, c859, rfl⟩ := k843
                          refine ⟨_, _, rfl, ?_⟩
                          refine T_nf (st' := []) (l' := [(7, y823), (8, y825), (9, y827), (10, y844), (11, y846), (12, y833), (28, y848), (69, (m.1 69)), (70, (m.1 70)), (71, (m.1 71)), (72, (m.1 72)), (75, (m.1 75))]) (a' := [(65, F850), (66, F852), (67, F854), (68, F856)]) rfl rfl rfl rfl rfl ?_
                          by_cases hf860 : y844 = 0
                          · skip
                            subst hf860
                            replace h858 : (0 : Int) = 0 := h858 rfl
                            obtain ⟨c861, c862, c863⟩ := c859 rfl
                            replace c861 : y848 = (m.1 28) + 1 := c861
                            replace c862 : EX F850 F854 B y848 ((1 + lh (m.2 79) (m.2 80) (m.1 73)) + 1 - ar (405 : Int)) := c862
                            have hEX := c862
                            replace c863 : agr (m.2 65) F850 (m.1 28) := c863
                            have hAg := c863
                            clear c859
                            have u864 : (m.1 8) + 1 ≤ y825 := by omega
                            have hAgC : agr (m.2 65) F850 (m.1 28) := by first | exact agr_r _ _ | exact hAgC | exact agr_t hAgC hAg (by omega)
                            clear g832 g845
                            refine T_ld 160 (.ref 189) rfl (fun _ => rfl) ?_
                            refine T_ld 161 (.long (i64 y584)) rfl (fun _ => rfl) ?_
                            refine T_ld 163 (.long (i64 y625)) rfl (fun _ => rfl) ?_
                            refine T_lsub 164 rfl rfl ?_
                            refine T_l2i 165 rfl rfl ?_
                            refine T_ld 166 (.int (i32 1)) rfl (fun _ => rfl) ?_
                            refine T_iadd 167 rfl rfl ?_
                            refine T_ld 169 (.int (i32 (m.1 70))) rfl (fun _ => rfl) ?_
                            refine T_call 172 250 [.ref 189, .int (i32 ((y584 - y625) + 1)), .int (i32 (m.1 70))] [] rfl (fun _ => rfl) rfl (c_unit w (mO m [(7, y823), (8, y825), (9, y827), (10, 0), (11, y846), (12, y833), (28, y848), (69, (m.1 69)), (70, (m.1 70)), (71, (m.1 71)), (72, (m.1 72)), (75, (m.1 75))] [(65, F850), (66, F852), (67, F854), (68, F856)]) c N D (by omega) (Ty_mO hT rfl rfl ⟨g824, g826, g828, ⟨(by omega : (0 : Int) ≤ 0), (by omega : (0 : Int) ≤ 8)⟩, g847, g834, g849, f69, f70, f71, f72, f75, trivial⟩ ⟨G851, G853, G855, G857, trivial⟩) ((y584 - y625) + 1) (m.1 70) (r32 (by omega) (by omega)) (r32 (by omega) (by omega)) (show 0 ≤ ((y584 - y625) + 1) ∧ ((y584 - y625) + 1) ≤ 1024 by omega) (show 0 ≤ (m.1 70) ∧ (m.1 70) ≤ 4000 by omega)) (fun rr865 k866 => ?_)
                            obtain ⟨y867, y869, y871, y873, g868, g870, g872, g874, h875, rfl⟩ := k866
                            refine ⟨_, _, rfl, ?_⟩
                            refine T_nf (st' := []) (l' := [(7, y823), (8, y825), (9, y827), (10, 0), (11, y846), (12, y833), (28, y848), (69, y867), (70, y869), (71, y871), (72, y873), (75, (m.1 75))]) (a' := [(65, F850), (66, F852), (67, F854), (68, F856)]) rfl rfl rfl rfl rfl ?_
                            replace h875 : y867 = ((y584 - y625) + 1) := h875
                            have u876 : (m.1 8) + 1 ≤ y825 := by omega
                            have hAgC : agr (m.2 65) F850 (m.1 28) := by first | exact agr_r _ _ | exact hAgC | exact agr_t hAgC hAg (by omega)
                            have hXE : XS F850 F854 (m.2 76) (m.2 78) (m.2 79) (m.2 80) B y848 (m.1 73) (m.1 74) 1 := XS_of hXS hEX (by rw [show ar 405 = 1 from rfl]; omega)
                            refine T_goto 224 rfl (fun _ => rfl) ?_
                            refine T_ret rfl (fun _ => rfl) ?_
                            exact ⟨y823, y825, y827, 0, y846, y833, y848, y867, y869, y871, y873, (m.1 75), F850, F852, F854, F856, g824, g826, g828, ⟨by omega, by omega⟩, g847, g834, g849, g868, g870, g872, g874, f75, G851, G853, G855, G857, (by omega), (by first | (first | exact hLx | (intro h9; exfalso; omega)) | (exfalso; omega)), (fun _ => ⟨(by omega), (by omega), (by omega), (by first | (exact hXE) | (exfalso; omega)), (by first | (exact hAgC) | (exfalso; omega))⟩), rfl⟩
                          · skip
                            clear c859
                            clear h858
                            have hf877 : 1 ≤ y844 := by omega
                            clear g832
                            refine Tm_lv (a := [(0, .ref 189), (1, .int (i32 y576)), (2, .long (i64 y584)), (4, .long (i64 y625)), (6, .int (i32 (m.1 70)))]) rfl rfl ⟨rfl, rfl, rfl, rfl, rfl, trivial⟩ ?_
                            exact J159_200 y576 y584 y625 y823 y825 y827 y844 y846 y833 y848 F850 F852 F854 F856 (r32 (by omega) (by omega)) (r64 (by omega) (by omega)) (r64 (by omega) (by omega)) g824 g826 g828 g845 g847 g834 g849 G851 G853 G855 G857 (by omega) (by omega) (by omega) (by omega) (by omega) (by omega)
                        · skip
                          replace h835 : LxP y823 y825 y827 (m.1 6) y829 := h835
                          have hLx := h835
                          clear h836
                          replace h837 : y639 ≤ y825 := h837
                          clear h838
                          have hf878 : 1 ≤ y829 := by omega
                          clear g638 g640 g642 g648 h649 u654 g815 u820 h837
                          refine Tm_lv (a := [(0, .ref 189), (1, .int (i32 y576)), (2, .long (i64 y584)), (4, .long (i64 y625))]) rfl rfl ⟨rfl, rfl, rfl, rfl, trivial⟩ ?_
                          exact J127_242 y576 y584 y625 y823 y825 y827 y829 y831 y833 (r32 (by omega) (by omega)) (r64 (by omega) (by omega)) (r64 (by omega) (by omega)) g824 g826 g828 g830 g832 g834 (by omega) (by omega) (by omega) (by omega)
                      · skip
                        clear c817
                        clear h816
                        have hf879 : 1 ≤ y812 := by omega
                        clear g646 h657a h657b h657c h657d h657e h658 h732a h732b h732c h732d h732e h733 h807a h807b h807c h807d h807e h808
                        refine Tm_lv (a := [(0, .ref 189), (1, .int (i32 y576)), (2, .long (i64 y584)), (4, .long (i64 y625))]) rfl rfl ⟨rfl, rfl, rfl, rfl, trivial⟩ ?_
                        exact J121_267 y576 y584 y625 y637 y639 y641 y812 y814 y647 (r32 (by omega) (by omega)) (r64 (by omega) (by omega)) (r64 (by omega) (by omega)) g638 g640 g642 g813 g815 g648 (by omega) (by omega) (by omega) (by omega)
                    · skip
                      have hl880 : y625 ≤ y584 := by omega
                      refine T_ld 103 (.long (i64 y584)) rfl (fun _ => rfl) ?_
                      refine T_gf 107 (.int (i32 (m.1 69))) rfl rfl rfl rfl rfl rfl ?_
                      refine T_i2l 108 rfl rfl (r32 (by omega) (by omega)) ?_
                      refine T_lcmp 109 rfl rfl (r64 (by omega) (by omega)) (r64 (by omega) (by omega)) (fun z881 h882 => ?_)
                      obtain ⟨h882a, h882b, h882c, h882d, h882e⟩ := h882
                      refine T_if 116 112 rfl rfl rfl (r32 (by omega) (by omega)) (fun (h883 : (0 : Int) ≤ z881) => ?_) (fun (h883 : ¬ ((0 : Int) ≤ z881)) => ?_)
                      · skip
                        have hl884 : y584 ≥ (m.1 69) := by omega
                        refine T_ld 117 (.int (i32 0)) rfl (fun _ => rfl) ?_
                        refine T_ld 118 (.int (i32 y576)) rfl (fun _ => rfl) ?_
                        refine T_call 121 256 [.ref 189, .int (i32 0), .int (i32 y576)] [] rfl (fun _ => rfl) rfl (c_want w (mO m [(7, y637), (8, y639), (9, y641), (10, 0), (11, y645), (12, y647), (28, (m.1 28)), (69, (m.1 69)), (70, (m.1 70)), (71, (m.1 71)), (72, (m.1 72)), (75, (m.1 75))] [(65, (m.2 65)), (66, (m.2 66)), (67, (m.2 67)), (68, (m.2 68))]) c N D (by omega) (Ty_mO hT rfl rfl ⟨g638, g640, g642, ⟨(by omega : (0 : Int) ≤ 0), (by omega : (0 : Int) ≤ 8)⟩, g646, g648, f28, f69, f70, f71, f72, f75, trivial⟩ ⟨(hT.2.1 65), (hT.2.1 66), (hT.2.1 67), (hT.2.1 68), trivial⟩) 0 y576 ⟨by decide, by decide⟩ (r32 (by omega) (by omega)) (show 0 ≤ y576 ∧ y576 ≤ 4000 by omega) (fun _ => trivial)) (fun rr885 k886 => ?_)
                        obtain ⟨y887, y889, g888, g890, h891, c892, rfl⟩ := k886
                        refine ⟨_, _, rfl, ?_⟩
                        refine T_nf (st' := []) (l' := [(7, y637), (8, y639), (9, y641), (10, y887), (11, y889), (12, y647), (28, (m.1 28)), (69, (m.1 69)), (70, (m.1 70)), (71, (m.1 71)), (72, (m.1 72)), (75, (m.1 75))]) (a' := [(65, (m.2 65)), (66, (m.2 66)), (67, (m.2 67)), (68, (m.2 68))]) rfl rfl rfl rfl rfl ?_
                        by_cases hf893 : y887 = 0
                        · skip
                          subst hf893
                          replace h891 : (0 : Int) = 0 := h891 rfl
                          have c894 := c892 rfl
                          replace c894 : (0 : Int) ≠ 0 := c894
                          clear c892
                          have u895 : (m.1 8) + 1 ≤ y639 := by omega
                          have hAgC : agr (m.2 65) (m.2 65) (m.1 28) := by first | exact agr_r _ _ | exact hAgC | exact agr_t hAgC hAg (by omega)
                          clear g646 h657a h657b h657c h657d h657e h658 h732a h732b h732c h732d h732e h733 h807a h807b h807c h807d h807e h808 h882a h882b h882c h882d h882e h883 g888
                          refine T_ld 122 (.ref 189) rfl (fun _ => rfl) ?_
                          refine T_ld 124 (.int (i32 93)) rfl (fun _ => rfl) ?_
                          refine T_call 127 232 [.ref 189, .int (i32 93)] [] rfl (fun _ => rfl) rfl (c_need w (mO m [(7, y637), (8, y639), (9, y641), (10, 0), (11, y889), (12, y647), (28, (m.1 28)), (69, (m.1 69)), (70, (m.1 70)), (71, (m.1 71)), (72, (m.1 72)), (75, (m.1 75))] [(65, (m.2 65)), (66, (m.2 66)), (67, (m.2 67)), (68, (m.2 68))]) c N D (by omega) (Ty_mO hT rfl rfl ⟨g638, g640, g642, ⟨(by omega : (0 : Int) ≤ 0), (by omega : (0 : Int) ≤ 8)⟩, g890, g648, f28, f69, f70, f71, f72, f75, trivial⟩ ⟨(hT.2.1 65), (hT.2.1 66), (hT.2.1 67), (hT.2.1 68), trivial⟩) 93 ⟨by decide, by decide⟩ (show 1 ≤ (93 : Int) by omega) (show LxP y637 y639 y641 (m.1 6) (0 : Int) by first | exact hLx | (intro h9; exfalso; omega) | (intro h9; have h8 := hLx (by omega); omega))) (fun rr896 k897 => ?_)
                          obtain ⟨y898, y900, y902, y904, y906, y908, g899, g901, g903, g905, g907, g909, h910, h911, h912, h913, rfl⟩ := k897
                          refine ⟨_, _, rfl, ?_⟩
                          refine T_nf (st' := []) (l' := [(7, y898), (8, y900), (9, y902), (10, y904), (11, y906), (12, y908), (28, (m.1 28)), (69, (m.1 69)), (70, (m.1 70)), (71, (m.1 71)), (72, (m.1 72)), (75, (m.1 75))]) (a' := [(65, (m.2 65)), (66, (m.2 66)), (67, (m.2 67)), (68, (m.2 68))]) rfl rfl rfl rfl rfl ?_
                          by_cases hf914 : y904 = 0
                          · skip
                            subst hf914
                            replace h910 : LxP y898 y900 y902 (m.1 6) (0 : Int) := h910
                            have hLx := h910
                            replace h911 : (0 : Int) = 0 ∧ y637 = (93 : Int) := h911 rfl
                            replace h912 : y639 ≤ y900 := h912
                            replace h913 : y639 + y641 ≤ y900 := h913 rfl
                            have u915 : (m.1 8) + 1 ≤ y900 := by omega
                            have hAgC : agr (m.2 65) (m.2 65) (m.1 28) := by first | exact agr_r _ _ | exact hAgC | exact agr_t hAgC hAg (by omega)
                            clear g638 g640 g642 g648 h649 u654 g890 u895 g905 h911 h912 h913
                            refine T_gf 131 (.int (i32 0)) rfl rfl rfl rfl rfl rfl ?_
                            refine T_if 135 134 rfl rfl rfl ⟨by decide, by decide⟩ (fun _ => ?_) (fun h916 => absurd (show (0 : Int) ≤ 0 by decide) h916)
                            refine T_gf 139 (.int (i32 (m.1 70))) rfl rfl rfl rfl rfl rfl ?_
                            refine T_sto 141 [(6, .int (i32 (m.1 70))), (4, .long (i64 y625)), (2, .long (i64 y584)), (1, .int (i32 y576)), (0, .ref 189)] rfl (fun _ => rfl) ?_
                            have hAr : ar 405 ≤ 1 + lh (m.2 79) (m.2 80) (m.1 73) := by rw [show ar 405 = 1 from rfl]; omega
                            have hCk : CNk 405 y625 := by refine ⟨?_, ?_, ?_, ?_⟩ <;> omega
                            refine T_ld 142 (.ref 189) rfl (fun _ => rfl) ?_
                            refine T_ld 145 (.int (i32 405)) rfl (fun _ => rfl) ?_
                            refine T_ld 146 (.long (i64 y584)) rfl (fun _ => rfl) ?_
                            refine T_ld 148 (.long (i64 y625)) rfl (fun _ => rfl) ?_
                            refine T_lsub 149 rfl rfl ?_
                            refine T_l2i 150 rfl rfl ?_
                            refine T_ld 151 (.int (i32 1)) rfl (fun _ => rfl) ?_
                            refine T_iadd 152 rfl rfl ?_
                            refine T_ld 154 (.long (i64 y625)) rfl (fun _ => rfl) ?_
                            refine T_l2i 155 rfl rfl ?_
                            refine T_ld 156 (.long (i64 0)) rfl (fun _ => rfl) ?_
                            refine T_call 159 248 [.ref 189, .int (i32 405), .int (i32 ((y584 - y625) + 1)), .int (i32 y625), .long (i64 0)] [] rfl (fun _ => rfl) rfl (c_node w (mO m [(7, y898), (8, y900), (9, y902), (10, 0), (11, y906), (12, y908), (28, (m.1 28)), (69, (m.1 69)), (70, (m.1 70)), (71, (m.1 71)), (72, (m.1 72)), (75, (m.1 75))] [(65, (m.2 65)), (66, (m.2 66)), (67, (m.2 67)), (68, (m.2 68))]) c N D (by omega) (Ty_mO hT rfl rfl ⟨g899, g901, g903, ⟨(by omega : (0 : Int) ≤ 0), (by omega : (0 : Int) ≤ 8)⟩, g907, g909, f28, f69, f70, f71, f72, f75, trivial⟩ ⟨(hT.2.1 65), (hT.2.1 66), (hT.2.1 67), (hT.2.1 68), trivial⟩) 405 ((y584 - y625) + 1) y625 0 B (1 + lh (m.2 79) (m.2 80) (m.1 73)) ⟨by decide, by decide⟩ (r32 (by omega) (by omega)) (r32 (by omega) (by omega)) ⟨by decide, by decide⟩ (fun _ => ⟨(show 0 ≤ (405 : Int) ∧ (405 : Int) ≤ 408 by first | omega | decide), (show 0 ≤ ((y584 - y625) + 1) ∧ ((y584 - y625) + 1) ≤ 64 by first | omega | decide), (show 0 ≤ y625 ∧ y625 ≤ 191 by first | omega | decide), (show CNk (405 : Int) y625 by first | exact hCk | (refine ⟨?_, ?_, ?_, ?_⟩ <;> omega)), (show ar (405 : Int) ≤ (1 + lh (m.2 79) (m.2 80) (m.1 73)) by first | exact hAr | omega), (show EX (m.2 65) (m.2 67) B (m.1 28) (1 + lh (m.2 79) (m.2 80) (m.1 73)) by first | exact hEX | assumption)⟩)) (fun rr917 k918 => ?_)
                            obtain ⟨y919, y921, y923, F925, F927, F929, F931, g920, g922, g924, G926, G928, G930, G932, h933, c934, rfl⟩ := k918
                            refine ⟨_, _, rfl, ?_⟩
                            refine T_nf (st' := []) (l' := [(7, y898), (8, y900), (9, y902), (10, y919), (11, y921), (12, y908), (28, y923), (69, (m.1 69)), (70, (m.1 70)), (71, (m.1 71)), (72, (m.1 72)), (75, (m.1 75))]) (a' := [(65, F925), (66, F927), (67, F929), (68, F931)]) rfl rfl rfl rfl rfl ?_
                            by_cases hf935 : y919 = 0
                            · skip
                              subst hf935
                              replace h933 : (0 : Int) = 0 := h933 rfl
                              obtain ⟨c936, c937, c938⟩ := c934 rfl
                              replace c936 : y923 = (m.1 28) + 1 := c936
                              replace c937 : EX F925 F929 B y923 ((1 + lh (m.2 79) (m.2 80) (m.1 73)) + 1 - ar (405 : Int)) := c937
                              have hEX := c937
                              replace c938 : agr (m.2 65) F925 (m.1 28) := c938
                              have hAg := c938
                              clear c934
                              have u939 : (m.1 8) + 1 ≤ y900 := by omega
                              have hAgC : agr (m.2 65) F925 (m.1 28) := by first | exact agr_r _ _ | exact hAgC | exact agr_t hAgC hAg (by omega)
                              clear g907 g920
                              refine T_ld 160 (.ref 189) rfl (fun _ => rfl) ?_
                              refine T_ld 161 (.long (i64 y584)) rfl (fun _ => rfl) ?_
                              refine T_ld 163 (.long (i64 y625)) rfl (fun _ => rfl) ?_
                              refine T_lsub 164 rfl rfl ?_
                              refine T_l2i 165 rfl rfl ?_
                              refine T_ld 166 (.int (i32 1)) rfl (fun _ => rfl) ?_
                              refine T_iadd 167 rfl rfl ?_
                              refine T_ld 169 (.int (i32 (m.1 70))) rfl (fun _ => rfl) ?_
                              refine T_call 172 250 [.ref 189, .int (i32 ((y584 - y625) + 1)), .int (i32 (m.1 70))] [] rfl (fun _ => rfl) rfl (c_unit w (mO m [(7, y898), (8, y900), (9, y902), (10, 0), (11, y921), (12, y908), (28, y923), (69, (m.1 69)), (70, (m.1 70)), (71, (m.1 71)), (72, (m.1 72)), (75, (m.1 75))] [(65, F925), (66, F927), (67, F929), (68, F931)]) c N D (by omega) (Ty_mO hT rfl rfl ⟨g899, g901, g903, ⟨(by omega : (0 : Int) ≤ 0), (by omega : (0 : Int) ≤ 8)⟩, g922, g909, g924, f69, f70, f71, f72, f75, trivial⟩ ⟨G926, G928, G930, G932, trivial⟩) ((y584 - y625) + 1) (m.1 70) (r32 (by omega) (by omega)) (r32 (by omega) (by omega)) (show 0 ≤ ((y584 - y625) + 1) ∧ ((y584 - y625) + 1) ≤ 1024 by omega) (show 0 ≤ (m.1 70) ∧ (m.1 70) ≤ 4000 by omega)) (fun rr940 k941 => ?_)
                              obtain ⟨y942, y944, y946, y948, g943, g945, g947, g949, h950, rfl⟩ := k941
                              refine ⟨_, _, rfl, ?_⟩
                              refine T_nf (st' := []) (l' := [(7, y898), (8, y900), (9, y902), (10, 0), (11, y921), (12, y908), (28, y923), (69, y942), (70, y944), (71, y946), (72, y948), (75, (m.1 75))]) (a' := [(65, F925), (66, F927), (67, F929), (68, F931)]) rfl rfl rfl rfl rfl ?_
                              replace h950 : y942 = ((y584 - y625) + 1) := h950
                              have u951 : (m.1 8) + 1 ≤ y900 := by omega
                              have hAgC : agr (m.2 65) F925 (m.1 28) := by first | exact agr_r _ _ | exact hAgC | exact agr_t hAgC hAg (by omega)
                              have hXE : XS F925 F929 (m.2 76) (m.2 78) (m.2 79) (m.2 80) B y923 (m.1 73) (m.1 74) 1 := XS_of hXS hEX (by rw [show ar 405 = 1 from rfl]; omega)
                              refine T_goto 224 rfl (fun _ => rfl) ?_
                              refine T_ret rfl (fun _ => rfl) ?_
                              exact ⟨y898, y900, y902, 0, y921, y908, y923, y942, y944, y946, y948, (m.1 75), F925, F927, F929, F931, g899, g901, g903, ⟨by omega, by omega⟩, g922, g909, g924, g943, g945, g947, g949, f75, G926, G928, G930, G932, (by omega), (by first | (first | exact hLx | (intro h9; exfalso; omega)) | (exfalso; omega)), (fun _ => ⟨(by omega), (by omega), (by omega), (by first | (exact hXE) | (exfalso; omega)), (by first | (exact hAgC) | (exfalso; omega))⟩), rfl⟩
                            · skip
                              clear c934
                              clear h933
                              have hf952 : 1 ≤ y919 := by omega
                              clear g907
                              refine Tm_lv (a := [(0, .ref 189), (1, .int (i32 y576)), (2, .long (i64 y584)), (4, .long (i64 y625)), (6, .int (i32 (m.1 70)))]) rfl rfl ⟨rfl, rfl, rfl, rfl, rfl, trivial⟩ ?_
                              exact J159_200 y576 y584 y625 y898 y900 y902 y919 y921 y908 y923 F925 F927 F929 F931 (r32 (by omega) (by omega)) (r64 (by omega) (by omega)) (r64 (by omega) (by omega)) g899 g901 g903 g920 g922 g909 g924 G926 G928 G930 G932 (by omega) (by omega) (by omega) (by omega) (by omega) (by omega)
                          · skip
                            replace h910 : LxP y898 y900 y902 (m.1 6) y904 := h910
                            have hLx := h910
                            clear h911
                            replace h912 : y639 ≤ y900 := h912
                            clear h913
                            have hf953 : 1 ≤ y904 := by omega
                            clear g638 g640 g642 g648 h649 u654 g890 u895 h912
                            refine Tm_lv (a := [(0, .ref 189), (1, .int (i32 y576)), (2, .long (i64 y584)), (4, .long (i64 y625))]) rfl rfl ⟨rfl, rfl, rfl, rfl, trivial⟩ ?_
                            exact J127_242 y576 y584 y625 y898 y900 y902 y904 y906 y908 (r32 (by omega) (by omega)) (r64 (by omega) (by omega)) (r64 (by omega) (by omega)) g899 g901 g903 g905 g907 g909 (by omega) (by omega) (by omega) (by omega)
                        · skip
                          clear c892
                          clear h891
                          have hf954 : 1 ≤ y887 := by omega
                          clear g646 h657a h657b h657c h657d h657e h658 h732a h732b h732c h732d h732e h733 h807a h807b h807c h807d h807e h808 h882a h882b h882c h882d h882e h883
                          refine Tm_lv (a := [(0, .ref 189), (1, .int (i32 y576)), (2, .long (i64 y584)), (4, .long (i64 y625))]) rfl rfl ⟨rfl, rfl, rfl, rfl, trivial⟩ ?_
                          exact J121_267 y576 y584 y625 y637 y639 y641 y887 y889 y647 (r32 (by omega) (by omega)) (r64 (by omega) (by omega)) (r64 (by omega) (by omega)) g638 g640 g642 g888 g890 g648 (by omega) (by omega) (by omega) (by omega)
                      · skip
                        have hl955 : y584 < (m.1 69) := by omega
                        refine T_ld 113 (.int (i32 1)) rfl (fun _ => rfl) ?_
                        refine T_goto 117 rfl (fun _ => rfl) ?_
                        refine T_ld 118 (.int (i32 y576)) rfl (fun _ => rfl) ?_
                        refine T_call 121 256 [.ref 189, .int (i32 1), .int (i32 y576)] [] rfl (fun _ => rfl) rfl (c_want w (mO m [(7, y637), (8, y639), (9, y641), (10, 0), (11, y645), (12, y647), (28, (m.1 28)), (69, (m.1 69)), (70, (m.1 70)), (71, (m.1 71)), (72, (m.1 72)), (75, (m.1 75))] [(65, (m.2 65)), (66, (m.2 66)), (67, (m.2 67)), (68, (m.2 68))]) c N D (by omega) (Ty_mO hT rfl rfl ⟨g638, g640, g642, ⟨(by omega : (0 : Int) ≤ 0), (by omega : (0 : Int) ≤ 8)⟩, g646, g648, f28, f69, f70, f71, f72, f75, trivial⟩ ⟨(hT.2.1 65), (hT.2.1 66), (hT.2.1 67), (hT.2.1 68), trivial⟩) 1 y576 ⟨by decide, by decide⟩ (r32 (by omega) (by omega)) (show 0 ≤ y576 ∧ y576 ≤ 4000 by omega) (fun _ => trivial)) (fun rr956 k957 => ?_)
                        obtain ⟨y958, y960, g959, g961, h962, c963, rfl⟩ := k957
                        refine ⟨_, _, rfl, ?_⟩
                        refine T_nf (st' := []) (l' := [(7, y637), (8, y639), (9, y641), (10, y958), (11, y960), (12, y647), (28, (m.1 28)), (69, (m.1 69)), (70, (m.1 70)), (71, (m.1 71)), (72, (m.1 72)), (75, (m.1 75))]) (a' := [(65, (m.2 65)), (66, (m.2 66)), (67, (m.2 67)), (68, (m.2 68))]) rfl rfl rfl rfl rfl ?_
                        by_cases hf964 : y958 = 0
                        · skip
                          subst hf964
                          replace h962 : (0 : Int) = 0 := h962 rfl
                          have c965 := c963 rfl
                          replace c965 : (1 : Int) ≠ 0 := c965
                          clear c963
                          have u966 : (m.1 8) + 1 ≤ y639 := by omega
                          have hAgC : agr (m.2 65) (m.2 65) (m.1 28) := by first | exact agr_r _ _ | exact hAgC | exact agr_t hAgC hAg (by omega)
                          clear g646 h657a h657b h657c h657d h657e h658 h732a h732b h732c h732d h732e h733 h807a h807b h807c h807d h807e h808 h882a h882b h882c h882d h882e h883 g959
                          refine T_ld 122 (.ref 189) rfl (fun _ => rfl) ?_
                          refine T_ld 124 (.int (i32 93)) rfl (fun _ => rfl) ?_
                          refine T_call 127 232 [.ref 189, .int (i32 93)] [] rfl (fun _ => rfl) rfl (c_need w (mO m [(7, y637), (8, y639), (9, y641), (10, 0), (11, y960), (12, y647), (28, (m.1 28)), (69, (m.1 69)), (70, (m.1 70)), (71, (m.1 71)), (72, (m.1 72)), (75, (m.1 75))] [(65, (m.2 65)), (66, (m.2 66)), (67, (m.2 67)), (68, (m.2 68))]) c N D (by omega) (Ty_mO hT rfl rfl ⟨g638, g640, g642, ⟨(by omega : (0 : Int) ≤ 0), (by omega : (0 : Int) ≤ 8)⟩, g961, g648, f28, f69, f70, f71, f72, f75, trivial⟩ ⟨(hT.2.1 65), (hT.2.1 66), (hT.2.1 67), (hT.2.1 68), trivial⟩) 93 ⟨by decide, by decide⟩ (show 1 ≤ (93 : Int) by omega) (show LxP y637 y639 y641 (m.1 6) (0 : Int) by first | exact hLx | (intro h9; exfalso; omega) | (intro h9; have h8 := hLx (by omega); omega))) (fun rr967 k968 => ?_)
                          obtain ⟨y969, y971, y973, y975, y977, y979, g970, g972, g974, g976, g978, g980, h981, h982, h983, h984, rfl⟩ := k968
                          refine ⟨_, _, rfl, ?_⟩
                          refine T_nf (st' := []) (l' := [(7, y969), (8, y971), (9, y973), (10, y975), (11, y977), (12, y979), (28, (m.1 28)), (69, (m.1 69)), (70, (m.1 70)), (71, (m.1 71)), (72, (m.1 72)), (75, (m.1 75))]) (a' := [(65, (m.2 65)), (66, (m.2 66)), (67, (m.2 67)), (68, (m.2 68))]) rfl rfl rfl rfl rfl ?_
                          by_cases hf985 : y975 = 0
                          · skip
                            subst hf985
                            replace h981 : LxP y969 y971 y973 (m.1 6) (0 : Int) := h981
                            have hLx := h981
                            replace h982 : (0 : Int) = 0 ∧ y637 = (93 : Int) := h982 rfl
                            replace h983 : y639 ≤ y971 := h983
                            replace h984 : y639 + y641 ≤ y971 := h984 rfl
                            have u986 : (m.1 8) + 1 ≤ y971 := by omega
                            have hAgC : agr (m.2 65) (m.2 65) (m.1 28) := by first | exact agr_r _ _ | exact hAgC | exact agr_t hAgC hAg (by omega)
                            clear g638 g640 g642 g648 h649 u654 g961 u966 g976 h982 h983 h984
                            refine T_gf 131 (.int (i32 0)) rfl rfl rfl rfl rfl rfl ?_
                            refine T_if 135 134 rfl rfl rfl ⟨by decide, by decide⟩ (fun _ => ?_) (fun h987 => absurd (show (0 : Int) ≤ 0 by decide) h987)
                            refine T_gf 139 (.int (i32 (m.1 70))) rfl rfl rfl rfl rfl rfl ?_
                            refine T_sto 141 [(6, .int (i32 (m.1 70))), (4, .long (i64 y625)), (2, .long (i64 y584)), (1, .int (i32 y576)), (0, .ref 189)] rfl (fun _ => rfl) ?_
                            have hAr : ar 405 ≤ 1 + lh (m.2 79) (m.2 80) (m.1 73) := by rw [show ar 405 = 1 from rfl]; omega
                            have hCk : CNk 405 y625 := by refine ⟨?_, ?_, ?_, ?_⟩ <;> omega
                            refine T_ld 142 (.ref 189) rfl (fun _ => rfl) ?_
                            refine T_ld 145 (.int (i32 405)) rfl (fun _ => rfl) ?_
                            refine T_ld 146 (.long (i64 y584)) rfl (fun _ => rfl) ?_
                            refine T_ld 148 (.long (i64 y625)) rfl (fun _ => rfl) ?_
                            refine T_lsub 149 rfl rfl ?_
                            refine T_l2i 150 rfl rfl ?_
                            refine T_ld 151 (.int (i32 1)) rfl (fun _ => rfl) ?_
                            refine T_iadd 152 rfl rfl ?_
                            refine T_ld 154 (.long (i64 y625)) rfl (fun _ => rfl) ?_
                            refine T_l2i 155 rfl rfl ?_
                            refine T_ld 156 (.long (i64 0)) rfl (fun _ => rfl) ?_
                            refine T_call 159 248 [.ref 189, .int (i32 405), .int (i32 ((y584 - y625) + 1)), .int (i32 y625), .long (i64 0)] [] rfl (fun _ => rfl) rfl (c_node w (mO m [(7, y969), (8, y971), (9, y973), (10, 0), (11, y977), (12, y979), (28, (m.1 28)), (69, (m.1 69)), (70, (m.1 70)), (71, (m.1 71)), (72, (m.1 72)), (75, (m.1 75))] [(65, (m.2 65)), (66, (m.2 66)), (67, (m.2 67)), (68, (m.2 68))]) c N D (by omega) (Ty_mO hT rfl rfl ⟨g970, g972, g974, ⟨(by omega : (0 : Int) ≤ 0), (by omega : (0 : Int) ≤ 8)⟩, g978, g980, f28, f69, f70, f71, f72, f75, trivial⟩ ⟨(hT.2.1 65), (hT.2.1 66), (hT.2.1 67), (hT.2.1 68), trivial⟩) 405 ((y584 - y625) + 1) y625 0 B (1 + lh (m.2 79) (m.2 80) (m.1 73)) ⟨by decide, by decide⟩ (r32 (by omega) (by omega)) (r32 (by omega) (by omega)) ⟨by decide, by decide⟩ (fun _ => ⟨(show 0 ≤ (405 : Int) ∧ (405 : Int) ≤ 408 by first | omega | decide), (show 0 ≤ ((y584 - y625) + 1) ∧ ((y584 - y625) + 1) ≤ 64 by first | omega | decide), (show 0 ≤ y625 ∧ y625 ≤ 191 by first | omega | decide), (show CNk (405 : Int) y625 by first | exact hCk | (refine ⟨?_, ?_, ?_, ?_⟩ <;> omega)), (show ar (405 : Int) ≤ (1 + lh (m.2 79) (m.2 80) (m.1 73)) by first | exact hAr | omega), (show EX (m.2 65) (m.2 67) B (m.1 28) (1 + lh (m.2 79) (m.2 80) (m.1 73)) by first | exact hEX | assumption)⟩)) (fun rr988 k989 => ?_)
                            obtain ⟨y990, y992, y994, F996, F998, F1000, F1002, g991, g993, g995, G997, G999, G1001, G1003, h1004, c1005, rfl⟩ := k989
                            refine ⟨_, _, rfl, ?_⟩
                            refine T_nf (st' := []) (l' := [(7, y969), (8, y971), (9, y973), (10, y990), (11, y992), (12, y979), (28, y994), (69, (m.1 69)), (70, (m.1 70)), (71, (m.1 71)), (72, (m.1 72)), (75, (m.1 75))]) (a' := [(65, F996), (66, F998), (67, F1000), (68, F1002)]) rfl rfl rfl rfl rfl ?_
                            by_cases hf1006 : y990 = 0
                            · skip
                              subst hf1006
                              replace h1004 : (0 : Int) = 0 := h1004 rfl
                              obtain ⟨c1007, c1008, c1009⟩ := c1005 rfl
                              replace c1007 : y994 = (m.1 28) + 1 := c1007
                              replace c1008 : EX F996 F1000 B y994 ((1 + lh (m.2 79) (m.2 80) (m.1 73)) + 1 - ar (405 : Int)) := c1008
                              have hEX := c1008
                              replace c1009 : agr (m.2 65) F996 (m.1 28) := c1009
                              have hAg := c1009
                              clear c1005
                              have u1010 : (m.1 8) + 1 ≤ y971 := by omega
                              have hAgC : agr (m.2 65) F996 (m.1 28) := by first | exact agr_r _ _ | exact hAgC | exact agr_t hAgC hAg (by omega)
                              clear g978 g991
                              refine T_ld 160 (.ref 189) rfl (fun _ => rfl) ?_
                              refine T_ld 161 (.long (i64 y584)) rfl (fun _ => rfl) ?_
                              refine T_ld 163 (.long (i64 y625)) rfl (fun _ => rfl) ?_
                              refine T_lsub 164 rfl rfl ?_
                              refine T_l2i 165 rfl rfl ?_
                              refine T_ld 166 (.int (i32 1)) rfl (fun _ => rfl) ?_
                              refine T_iadd 167 rfl rfl ?_
                              refine T_ld 169 (.int (i32 (m.1 70))) rfl (fun _ => rfl) ?_
                              refine T_call 172 250 [.ref 189, .int (i32 ((y584 - y625) + 1)), .int (i32 (m.1 70))] [] rfl (fun _ => rfl) rfl (c_unit w (mO m [(7, y969), (8, y971), (9, y973), (10, 0), (11, y992), (12, y979), (28, y994), (69, (m.1 69)), (70, (m.1 70)), (71, (m.1 71)), (72, (m.1 72)), (75, (m.1 75))] [(65, F996), (66, F998), (67, F1000), (68, F1002)]) c N D (by omega) (Ty_mO hT rfl rfl ⟨g970, g972, g974, ⟨(by omega : (0 : Int) ≤ 0), (by omega : (0 : Int) ≤ 8)⟩, g993, g980, g995, f69, f70, f71, f72, f75, trivial⟩ ⟨G997, G999, G1001, G1003, trivial⟩) ((y584 - y625) + 1) (m.1 70) (r32 (by omega) (by omega)) (r32 (by omega) (by omega)) (show 0 ≤ ((y584 - y625) + 1) ∧ ((y584 - y625) + 1) ≤ 1024 by omega) (show 0 ≤ (m.1 70) ∧ (m.1 70) ≤ 4000 by omega)) (fun rr1011 k1012 => ?_)
                              obtain ⟨y1013, y1015, y1017, y1019, g1014, g1016, g1018, g1020, h1021, rfl⟩ := k1012
                              refine ⟨_, _, rfl, ?_⟩
                              refine T_nf (st' := []) (l' := [(7, y969), (8, y971), (9, y973), (10, 0), (11, y992), (12, y979), (28, y994), (69, y1013), (70, y1015), (71, y1017), (72, y1019), (75, (m.1 75))]) (a' := [(65, F996), (66, F998), (67, F1000), (68, F1002)]) rfl rfl rfl rfl rfl ?_
                              replace h1021 : y1013 = ((y584 - y625) + 1) := h1021
                              have u1022 : (m.1 8) + 1 ≤ y971 := by omega
                              have hAgC : agr (m.2 65) F996 (m.1 28) := by first | exact agr_r _ _ | exact hAgC | exact agr_t hAgC hAg (by omega)
                              have hXE : XS F996 F1000 (m.2 76) (m.2 78) (m.2 79) (m.2 80) B y994 (m.1 73) (m.1 74) 1 := XS_of hXS hEX (by rw [show ar 405 = 1 from rfl]; omega)
                              refine T_goto 224 rfl (fun _ => rfl) ?_
                              refine T_ret rfl (fun _ => rfl) ?_
                              exact ⟨y969, y971, y973, 0, y992, y979, y994, y1013, y1015, y1017, y1019, (m.1 75), F996, F998, F1000, F1002, g970, g972, g974, ⟨by omega, by omega⟩, g993, g980, g995, g1014, g1016, g1018, g1020, f75, G997, G999, G1001, G1003, (by omega), (by first | (first | exact hLx | (intro h9; exfalso; omega)) | (exfalso; omega)), (fun _ => ⟨(by omega), (by omega), (by omega), (by first | (exact hXE) | (exfalso; omega)), (by first | (exact hAgC) | (exfalso; omega))⟩), rfl⟩
                            · skip
                              clear c1005
                              clear h1004
                              have hf1023 : 1 ≤ y990 := by omega
                              clear g978
                              refine Tm_lv (a := [(0, .ref 189), (1, .int (i32 y576)), (2, .long (i64 y584)), (4, .long (i64 y625)), (6, .int (i32 (m.1 70)))]) rfl rfl ⟨rfl, rfl, rfl, rfl, rfl, trivial⟩ ?_
                              exact J159_200 y576 y584 y625 y969 y971 y973 y990 y992 y979 y994 F996 F998 F1000 F1002 (r32 (by omega) (by omega)) (r64 (by omega) (by omega)) (r64 (by omega) (by omega)) g970 g972 g974 g991 g993 g980 g995 G997 G999 G1001 G1003 (by omega) (by omega) (by omega) (by omega) (by omega) (by omega)
                          · skip
                            replace h981 : LxP y969 y971 y973 (m.1 6) y975 := h981
                            have hLx := h981
                            clear h982
                            replace h983 : y639 ≤ y971 := h983
                            clear h984
                            have hf1024 : 1 ≤ y975 := by omega
                            clear g638 g640 g642 g648 h649 u654 g961 u966 h983
                            refine Tm_lv (a := [(0, .ref 189), (1, .int (i32 y576)), (2, .long (i64 y584)), (4, .long (i64 y625))]) rfl rfl ⟨rfl, rfl, rfl, rfl, trivial⟩ ?_
                            exact J127_242 y576 y584 y625 y969 y971 y973 y975 y977 y979 (r32 (by omega) (by omega)) (r64 (by omega) (by omega)) (r64 (by omega) (by omega)) g970 g972 g974 g976 g978 g980 (by omega) (by omega) (by omega) (by omega)
                        · skip
                          clear c963
                          clear h962
                          have hf1025 : 1 ≤ y958 := by omega
                          clear g646 h657a h657b h657c h657d h657e h658 h732a h732b h732c h732d h732e h733 h807a h807b h807c h807d h807e h808 h882a h882b h882c h882d h882e h883
                          refine Tm_lv (a := [(0, .ref 189), (1, .int (i32 y576)), (2, .long (i64 y584)), (4, .long (i64 y625))]) rfl rfl ⟨rfl, rfl, rfl, rfl, trivial⟩ ?_
                          exact J121_267 y576 y584 y625 y637 y639 y641 y958 y960 y647 (r32 (by omega) (by omega)) (r64 (by omega) (by omega)) (r64 (by omega) (by omega)) g638 g640 g642 g959 g961 g648 (by omega) (by omega) (by omega) (by omega)
              · skip
                replace h649 : LxP y637 y639 y641 (m.1 6) y643 := h649
                have hLx := h649
                clear h650
                replace h651 : y617 ≤ y639 := h651
                clear h652
                have hf1026 : 1 ≤ y643 := by omega
                clear g616 g618 g620 g624 h627 u632 h634 h651
                refine Tm_lv (a := [(0, .ref 189), (1, .int (i32 y576)), (2, .long (i64 y584)), (4, .long (i64 y625))]) rfl rfl ⟨rfl, rfl, rfl, rfl, trivial⟩ ?_
                exact J74_310 y576 y584 y625 y637 y639 y641 y643 y645 y647 (r32 (by omega) (by omega)) (r64 (by omega) (by omega)) (r64 (by omega) (by omega)) g638 g640 g642 g644 g646 g648 (by omega) (by omega) (by omega) (by omega)
            · skip
              refine T_ld 61 (.ref 189) rfl (fun _ => rfl) ?_
              refine T_call 64 226 [.ref 189] [] rfl (fun _ => rfl) rfl (c_bad w (mO m [(7, y615), (8, y617), (9, y619), (10, 0), (11, y623), (12, y625), (28, (m.1 28)), (69, (m.1 69)), (70, (m.1 70)), (71, (m.1 71)), (72, (m.1 72)), (75, (m.1 75))] [(65, (m.2 65)), (66, (m.2 66)), (67, (m.2 67)), (68, (m.2 68))]) c N D (by omega) (Ty_mO hT rfl rfl ⟨g616, g618, g620, ⟨(by omega : (0 : Int) ≤ 0), (by omega : (0 : Int) ≤ 8)⟩, g624, g626, f28, f69, f70, f71, f72, f75, trivial⟩ ⟨(hT.2.1 65), (hT.2.1 66), (hT.2.1 67), (hT.2.1 68), trivial⟩) ) (fun rr1027 k1028 => ?_)
              obtain ⟨y1029, y1031, g1030, g1032, h1033, rfl⟩ := k1028
              refine ⟨_, _, rfl, ?_⟩
              refine T_nf (st' := []) (l' := [(7, y615), (8, y617), (9, y619), (10, y1029), (11, y1031), (12, y625), (28, (m.1 28)), (69, (m.1 69)), (70, (m.1 70)), (71, (m.1 71)), (72, (m.1 72)), (75, (m.1 75))]) (a' := [(65, (m.2 65)), (66, (m.2 66)), (67, (m.2 67)), (68, (m.2 68))]) rfl rfl rfl rfl rfl ?_
              replace h1033 : (0 < (0 : Int) → y1029 = (0 : Int) ∧ y1031 = y623) ∧ ((0 : Int) ≤ 0 → y1029 = 1 ∧ y1031 = y617) := h1033
              have hf1034 : 1 ≤ y1029 := by omega
              clear g624 h1033
              refine T_gf 68 (.long (i64 y625)) rfl rfl rfl rfl rfl rfl ?_
              refine T_sto 70 [(4, .long (i64 y625)), (2, .long (i64 y584)), (1, .int (i32 y576)), (0, .ref 189)] rfl (fun _ => rfl) ?_
              refine T_ld 71 (.ref 189) rfl (fun _ => rfl) ?_
              refine T_call 74 212 [.ref 189] [] rfl (fun _ => rfl) rfl (c_next w (mO m [(7, y615), (8, y617), (9, y619), (10, y1029), (11, y1031), (12, y625), (28, (m.1 28)), (69, (m.1 69)), (70, (m.1 70)), (71, (m.1 71)), (72, (m.1 72)), (75, (m.1 75))] [(65, (m.2 65)), (66, (m.2 66)), (67, (m.2 67)), (68, (m.2 68))]) c N D (by omega) (Ty_mO hT rfl rfl ⟨g616, g618, g620, g1030, g1032, g626, f28, f69, f70, f71, f72, f75, trivial⟩ ⟨(hT.2.1 65), (hT.2.1 66), (hT.2.1 67), (hT.2.1 68), trivial⟩) (show y1029 = 0 → y617 + y619 ≤ (m.1 6) by first | omega | (intro h9; have h8 := hLx h9; omega))) (fun rr1035 k1036 => ?_)
              obtain ⟨y1037, y1039, y1041, y1043, y1045, y1047, g1038, g1040, g1042, g1044, g1046, g1048, h1049, h1050, h1051, h1052, rfl⟩ := k1036
              refine ⟨_, _, rfl, ?_⟩
              refine T_nf (st' := []) (l' := [(7, y1037), (8, y1039), (9, y1041), (10, y1043), (11, y1045), (12, y1047), (28, (m.1 28)), (69, (m.1 69)), (70, (m.1 70)), (71, (m.1 71)), (72, (m.1 72)), (75, (m.1 75))]) (a' := [(65, (m.2 65)), (66, (m.2 66)), (67, (m.2 67)), (68, (m.2 68))]) rfl rfl rfl rfl rfl ?_
              replace h1049 : LxP y1037 y1039 y1041 (m.1 6) y1043 := h1049
              replace h1050 : y1043 = 0 → y1029 = 0 := h1050
              replace h1051 : y617 ≤ y1039 := h1051
              replace h1052 : y1043 = 0 → y617 + y619 ≤ y1039 := h1052
              have hf1053 : 1 ≤ y1043 := by omega
              clear h1050
              clear h1052
              have hLx := h1049
              clear g616 g618 g620 h627 u632 h634 g1030 g1032 hf1034 h1051
              refine Tm_lv (a := [(0, .ref 189), (1, .int (i32 y576)), (2, .long (i64 y584)), (4, .long (i64 y625))]) rfl rfl ⟨rfl, rfl, rfl, rfl, trivial⟩ ?_
              exact J74_310 y576 y584 y625 y1037 y1039 y1041 y1043 y1045 y1047 (r32 (by omega) (by omega)) (r64 (by omega) (by omega)) (r64 (by omega) (by omega)) g1038 g1040 g1042 g1044 g1046 g1048 (by omega) (by omega) (by omega) (by omega)
          · skip
            replace h627 : LxP y615 y617 y619 (m.1 6) y621 := h627
            have hLx := h627
            clear h628
            replace h629 : y597 ≤ y617 := h629
            clear h630
            have hf1054 : 1 ≤ y621 := by omega
            clear g596 g598 g600 g604 g606 h607 h609 u612 h629
            refine Tm_lv (a := [(0, .ref 189), (1, .int (i32 y576)), (2, .long (i64 y584))]) rfl rfl ⟨rfl, rfl, rfl, trivial⟩ ?_
            exact J45_353 y576 y584 y615 y617 y619 y621 y623 y625 (r32 (by omega) (by omega)) (r64 (by omega) (by omega)) g616 g618 g620 g622 g624 g626 (by omega) (by omega) (by omega) (by omega)
        · skip
          replace h607 : LxP y595 y597 y599 (m.1 6) y601 := h607
          have hLx := h607
          clear h608
          replace h609 : y576 ≤ y597 := h609
          clear h610
          have hf1055 : 1 ≤ y601 := by omega
          clear g575 g579 g583 h586 h592
          refine Tm_lv (a := [(0, .ref 189), (1, .int (i32 y576)), (2, .long (i64 y584))]) rfl rfl ⟨rfl, rfl, rfl, trivial⟩ ?_
          exact J39_395 y576 y584 y595 y597 y599 y601 y603 y605 (r32 (by omega) (by omega)) (r64 (by omega) (by omega)) g596 g598 g600 g602 g604 g606 (by omega) (by omega) (by omega) (by omega)
      · skip
        refine T_ld 27 (.ref 189) rfl (fun _ => rfl) ?_
        refine T_call 30 226 [.ref 189] [] rfl (fun _ => rfl) rfl (c_bad w (mO m [(7, y574), (8, y576), (9, y578), (10, 0), (11, y582), (12, y584), (28, (m.1 28)), (69, (m.1 69)), (70, (m.1 70)), (71, (m.1 71)), (72, (m.1 72)), (75, (m.1 75))] [(65, (m.2 65)), (66, (m.2 66)), (67, (m.2 67)), (68, (m.2 68))]) c N D (by omega) (Ty_mO hT rfl rfl ⟨g575, g577, g579, ⟨(by omega : (0 : Int) ≤ 0), (by omega : (0 : Int) ≤ 8)⟩, g583, g585, f28, f69, f70, f71, f72, f75, trivial⟩ ⟨(hT.2.1 65), (hT.2.1 66), (hT.2.1 67), (hT.2.1 68), trivial⟩) ) (fun rr1056 k1057 => ?_)
        obtain ⟨y1058, y1060, g1059, g1061, h1062, rfl⟩ := k1057
        refine ⟨_, _, rfl, ?_⟩
        refine T_nf (st' := []) (l' := [(7, y574), (8, y576), (9, y578), (10, y1058), (11, y1060), (12, y584), (28, (m.1 28)), (69, (m.1 69)), (70, (m.1 70)), (71, (m.1 71)), (72, (m.1 72)), (75, (m.1 75))]) (a' := [(65, (m.2 65)), (66, (m.2 66)), (67, (m.2 67)), (68, (m.2 68))]) rfl rfl rfl rfl rfl ?_
        replace h1062 : (0 < (0 : Int) → y1058 = (0 : Int) ∧ y1060 = y582) ∧ ((0 : Int) ≤ 0 → y1058 = 1 ∧ y1060 = y576) := h1062
        have hf1063 : 1 ≤ y1058 := by omega
        clear g583 h1062
        refine Tm_lv (a := [(0, .ref 189), (1, .int (i32 y576))]) rfl rfl ⟨rfl, rfl, trivial⟩ ?_
        exact J30_435 y576 y574 y576 y578 y1058 y1060 y584 (r32 (by omega) (by omega)) g575 g577 g579 g1059 g1061 g585 (by omega) (by omega) (by omega) (by omega)
    · skip
      replace h586 : LxP y574 y576 y578 (m.1 6) y580 := h586
      have hLx := h586
      clear h587
      replace h588 : (m.1 8) ≤ y576 := h588
      clear h589
      have hf1064 : 1 ≤ y580 := by omega
      refine T_gf 17 (.int (i32 y576)) rfl rfl rfl rfl rfl rfl ?_
      refine T_sto 18 [(1, .int (i32 y576)), (0, .ref 189)] rfl (fun _ => rfl) ?_
      refine T_gf 22 (.int (i32 y574)) rfl rfl rfl rfl rfl rfl ?_
      refine T_ld 23 (.int (i32 2)) rfl (fun _ => rfl) ?_
      refine T_icmp 30 26 rfl rfl rfl (r32 (by omega) (by omega)) ⟨by decide, by decide⟩ (fun (h1065 : y574 = 2) => ?_) (fun (h1065 : ¬ (y574 = 2)) => ?_)
      · skip
        refine T_gf 34 (.long (i64 y584)) rfl rfl rfl rfl rfl rfl ?_
        refine T_sto 35 [(2, .long (i64 y584)), (1, .int (i32 y576)), (0, .ref 189)] rfl (fun _ => rfl) ?_
        refine T_ld 36 (.ref 189) rfl (fun _ => rfl) ?_
        refine T_call 39 212 [.ref 189] [] rfl (fun _ => rfl) rfl (c_next w (mO m [(7, y574), (8, y576), (9, y578), (10, y580), (11, y582), (12, y584), (28, (m.1 28)), (69, (m.1 69)), (70, (m.1 70)), (71, (m.1 71)), (72, (m.1 72)), (75, (m.1 75))] [(65, (m.2 65)), (66, (m.2 66)), (67, (m.2 67)), (68, (m.2 68))]) c N D (by omega) (Ty_mO hT rfl rfl ⟨g575, g577, g579, g581, g583, g585, f28, f69, f70, f71, f72, f75, trivial⟩ ⟨(hT.2.1 65), (hT.2.1 66), (hT.2.1 67), (hT.2.1 68), trivial⟩) (show y580 = 0 → y576 + y578 ≤ (m.1 6) by first | omega | (intro h9; have h8 := hLx h9; omega))) (fun rr1066 k1067 => ?_)
        obtain ⟨y1068, y1070, y1072, y1074, y1076, y1078, g1069, g1071, g1073, g1075, g1077, g1079, h1080, h1081, h1082, h1083, rfl⟩ := k1067
        refine ⟨_, _, rfl, ?_⟩
        refine T_nf (st' := []) (l' := [(7, y1068), (8, y1070), (9, y1072), (10, y1074), (11, y1076), (12, y1078), (28, (m.1 28)), (69, (m.1 69)), (70, (m.1 70)), (71, (m.1 71)), (72, (m.1 72)), (75, (m.1 75))]) (a' := [(65, (m.2 65)), (66, (m.2 66)), (67, (m.2 67)), (68, (m.2 68))]) rfl rfl rfl rfl rfl ?_
        replace h1080 : LxP y1068 y1070 y1072 (m.1 6) y1074 := h1080
        replace h1081 : y1074 = 0 → y580 = 0 := h1081
        replace h1082 : y576 ≤ y1070 := h1082
        replace h1083 : y1074 = 0 → y576 + y578 ≤ y1070 := h1083
        have hf1084 : 1 ≤ y1074 := by omega
        clear h1081
        clear h1083
        have hLx := h1080
        clear g575 g579 g581 g583 h586 hf1064 h1065
        refine Tm_lv (a := [(0, .ref 189), (1, .int (i32 y576)), (2, .long (i64 y584))]) rfl rfl ⟨rfl, rfl, rfl, trivial⟩ ?_
        exact J39_395 y576 y584 y1068 y1070 y1072 y1074 y1076 y1078 (r32 (by omega) (by omega)) (r64 (by omega) (by omega)) g1069 g1071 g1073 g1075 g1077 g1079 (by omega) (by omega) (by omega) (by omega)
      · skip
        refine T_ld 27 (.ref 189) rfl (fun _ => rfl) ?_
        refine T_call 30 226 [.ref 189] [] rfl (fun _ => rfl) rfl (c_bad w (mO m [(7, y574), (8, y576), (9, y578), (10, y580), (11, y582), (12, y584), (28, (m.1 28)), (69, (m.1 69)), (70, (m.1 70)), (71, (m.1 71)), (72, (m.1 72)), (75, (m.1 75))] [(65, (m.2 65)), (66, (m.2 66)), (67, (m.2 67)), (68, (m.2 68))]) c N D (by omega) (Ty_mO hT rfl rfl ⟨g575, g577, g579, g581, g583, g585, f28, f69, f70, f71, f72, f75, trivial⟩ ⟨(hT.2.1 65), (hT.2.1 66), (hT.2.1 67), (hT.2.1 68), trivial⟩) ) (fun rr1085 k1086 => ?_)
        obtain ⟨y1087, y1089, g1088, g1090, h1091, rfl⟩ := k1086
        refine ⟨_, _, rfl, ?_⟩
        refine T_nf (st' := []) (l' := [(7, y574), (8, y576), (9, y578), (10, y1087), (11, y1089), (12, y584), (28, (m.1 28)), (69, (m.1 69)), (70, (m.1 70)), (71, (m.1 71)), (72, (m.1 72)), (75, (m.1 75))]) (a' := [(65, (m.2 65)), (66, (m.2 66)), (67, (m.2 67)), (68, (m.2 68))]) rfl rfl rfl rfl rfl ?_
        replace h1091 : (0 < y580 → y1087 = y580 ∧ y1089 = y582) ∧ (y580 ≤ 0 → y1087 = 1 ∧ y1089 = y576) := h1091
        have hf1092 : 1 ≤ y1087 := by omega
        clear g581 g583 h586 hf1064 h1091
        refine Tm_lv (a := [(0, .ref 189), (1, .int (i32 y576))]) rfl rfl ⟨rfl, rfl, trivial⟩ ?_
        exact J30_435 y576 y574 y576 y578 y1087 y1089 y584 (r32 (by omega) (by omega)) g575 g577 g579 g1088 g1090 g585 (by omega) (by omega) (by omega) (by omega)
