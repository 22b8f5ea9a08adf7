def Q_takeName (m : mR) (c : Nat → Option am_C) (N : Nat) (p : Int) (B : Int) (h : Int) : ag_Re af_T → Prop := fun R => ∃ (y7 : Int) (y8 : Int) (y9 : Int) (y10 : Int) (y11 : Int) (y12 : Int) (y28 : Int) (y69 : Int) (y70 : Int) (y71 : Int) (y72 : Int) (y75 : Int) (F65 : Int → Int) (F66 : Int → Int) (F67 : Int → Int) (F68 : Int → Int), (0 ≤ y7 ∧ y7 ≤ 330) ∧ (0 ≤ y8 ∧ y8 ≤ 4000) ∧ (0 ≤ y9 ∧ y9 ≤ 4000) ∧ (0 ≤ y10 ∧ y10 ≤ 8) ∧ ((-1) ≤ y11 ∧ y11 ≤ 4000) ∧ ((-9223372036854775808) ≤ y12 ∧ y12 ≤ 9223372036854775807) ∧ (0 ≤ y28 ∧ y28 ≤ 800) ∧ (0 ≤ y69 ∧ y69 ≤ 1024) ∧ (0 ≤ y70 ∧ y70 ≤ 4000) ∧ (0 ≤ y71 ∧ y71 ≤ 1) ∧ ((-9223372036854775808) ≤ y72 ∧ y72 ≤ 9223372036854775807) ∧ (0 ≤ y75 ∧ y75 ≤ 3) ∧ (∀ j, 0 ≤ F65 j ∧ F65 j ≤ 408) ∧ (∀ j, 0 ≤ F66 j ∧ F66 j ≤ 64) ∧ (∀ j, 0 ≤ F67 j ∧ F67 j ≤ 191) ∧ (∀ j, (-9223372036854775808) ≤ F68 j ∧ F68 j ≤ 9223372036854775807) ∧ (y10 = 0 → (m.1 10) = 0) ∧ (LxP y7 y8 y9 (m.1 6) y10) ∧ (y10 = 0 → ((m.1 8) + 1 ≤ y8) ∧ (y75 = 1) ∧ (y69 ≤ 64) ∧ (y28 = (m.1 28) + 1) ∧ (EX F65 F67 B y28 (h + 1)) ∧ (agr (m.2 65) F65 (m.1 28))) ∧ R = (.inl (none), (mhp (mO m [(7, y7), (8, y8), (9, y9), (10, y10), (11, y11), (12, y12), (28, y28), (69, y69), (70, y70), (71, y71), (72, y72), (75, y75)] [(65, F65), (66, F66), (67, F67), (68, F68)]) c, N), 0, 0)
set_option maxHeartbeats 8000000 in
theorem c_takeName (w : wX) (m : mR) (c : Nat → Option am_C) (N D : Nat) (hD : 7 ≤ D) (hT : Ty m) (p : Int) (B : Int) (h : Int) (qp : R32 p) (hLx0 : LxP (m.1 7) (m.1 8) (m.1 9) (m.1 6) (m.1 10)) (hNM0 : ∀ k, (m.2 14) k + (m.2 15) k ≤ 4000) (hFA0 : ∀ k, (m.2 31) k + (m.2 32) k ≤ 4000) (hPA0 : ∀ k, (m.2 47) k + (m.2 48) k ≤ 4000) (p4 : 0 ≤ p ∧ p ≤ 4000) (hf0 : m.1 10 = 0) (hC : (PN (m.1 13) (m.1 19) (m.1 20) (m.1 21) (m.1 22) (m.1 23) (m.1 25) (m.1 26) (m.2 16) (m.2 17)) ∧ ((m.1 7) = 1) ∧ (EX (m.2 65) (m.2 67) B (m.1 28) h) ∧ (0 ≤ h)) : TC w D 251 [.ref 189, .int (i32 p)] (mhp m c, N) (Q_takeName m c N p B h) := by
  obtain ⟨D, rfl⟩ : ∃ k, D = k + 1 := ⟨D - 1, by omega⟩
  obtain ⟨qpa, qpb⟩ := id qp
  have hLx := hLx0
  have hNM := hNM0
  have hFA := hFA0
  have hPA := hPA0
  have f7 : 0 ≤ m.1 7 ∧ m.1 7 ≤ 330 := hT.1 7
  have f8 : 0 ≤ m.1 8 ∧ m.1 8 ≤ 4000 := hT.1 8
  have f9 : 0 ≤ m.1 9 ∧ m.1 9 ≤ 4000 := hT.1 9
  have f10 : 0 ≤ m.1 10 ∧ m.1 10 ≤ 8 := hT.1 10
  have f11 : (-1) ≤ m.1 11 ∧ m.1 11 ≤ 4000 := hT.1 11
  have f12 : (-9223372036854775808) ≤ m.1 12 ∧ m.1 12 ≤ 9223372036854775807 := hT.1 12
  have f28 : 0 ≤ m.1 28 ∧ m.1 28 ≤ 800 := hT.1 28
  have f69 : 0 ≤ m.1 69 ∧ m.1 69 ≤ 1024 := hT.1 69
  have f70 : 0 ≤ m.1 70 ∧ m.1 70 ≤ 4000 := hT.1 70
  have f71 : 0 ≤ m.1 71 ∧ m.1 71 ≤ 1 := hT.1 71
  have f72 : (-9223372036854775808) ≤ m.1 72 ∧ m.1 72 ≤ 9223372036854775807 := hT.1 72
  have f75 : 0 ≤ m.1 75 ∧ m.1 75 ≤ 3 := hT.1 75
  have f25 : 0 ≤ m.1 25 ∧ m.1 25 ≤ 16 := hT.1 25
  have f22 : 0 ≤ m.1 22 ∧ m.1 22 ≤ 8 := hT.1 22
  have f19 : 0 ≤ m.1 19 ∧ m.1 19 ≤ 12 := hT.1 19
  have f20 : 0 ≤ m.1 20 ∧ m.1 20 ≤ 12 := hT.1 20
  have f21 : 0 ≤ m.1 21 ∧ m.1 21 ≤ 16 := hT.1 21
  have f13 : 0 ≤ m.1 13 ∧ m.1 13 ≤ 120 := hT.1 13
  have f6 : 0 ≤ m.1 6 ∧ m.1 6 ≤ 4000 := hT.1 6
  have f23 : 0 ≤ m.1 23 ∧ m.1 23 ≤ 16 := hT.1 23
  have f26 : 0 ≤ m.1 26 ∧ m.1 26 ≤ 8 := hT.1 26
  refine Tc_of rfl ?_
  show TT w D pm_251 (0, [(0, .ref 189), (1, .int (i32 p))], [], (mhp m c, N), 0, 0) (Q_takeName m c N p B h)
  rw [show (mhp m c, N) = (mhp (mO m [(7, (m.1 7)), (8, (m.1 8)), (9, (m.1 9)), (10, (m.1 10)), (11, (m.1 11)), (12, (m.1 12)), (28, (m.1 28)), (69, (m.1 69)), (70, (m.1 70)), (71, (m.1 71)), (72, (m.1 72)), (75, (m.1 75))] [(65, (m.2 65)), (66, (m.2 66)), (67, (m.2 67)), (68, (m.2 68))]) c, N) from congrArg (fun M => (mhp M c, N)) (mO_pad m [7, 8, 9, 10, 11, 12, 28, 69, 70, 71, 72, 75] [65, 66, 67, 68])]
  obtain ⟨pPN, c1, hEX, c2⟩ := hC
  have J150_87 : ∀ (v71 : Int) (v72 : Int) (v73 : Int) (v74 : Int) (v75 : Int) (y76 : Int) (y77 : Int) (y78 : Int) (y79 : Int) (y80 : Int) (y81 : Int) (y82 : Int) (F83 : Int → Int) (F84 : Int → Int) (F85 : Int → Int) (F86 : Int → Int), (R32 v71) → (R32 v72) → (R32 v73) → (R32 v74) → (R32 v75) → (0 ≤ y76 ∧ y76 ≤ 330) → (0 ≤ y77 ∧ y77 ≤ 4000) → (0 ≤ y78 ∧ y78 ≤ 4000) → (0 ≤ y79 ∧ y79 ≤ 8) → ((-1) ≤ y80 ∧ y80 ≤ 4000) → ((-9223372036854775808) ≤ y81 ∧ y81 ≤ 9223372036854775807) → (0 ≤ y82 ∧ y82 ≤ 800) → (∀ j, 0 ≤ F83 j ∧ F83 j ≤ 408) → (∀ j, 0 ≤ F84 j ∧ F84 j ≤ 64) → (∀ j, 0 ≤ F85 j ∧ F85 j ≤ 191) → (∀ j, (-9223372036854775808) ≤ F86 j ∧ F86 j ≤ 9223372036854775807) → ((-2147483648) ≤ v71) → (v71 ≤ 2147483647) → (0 ≤ v73) → (v73 ≤ 64) → (401 ≤ v74) → (v74 ≤ 403) → (1 ≤ y79) → (y79 ≤ 8) → TT w D pm_251 (150, [(0, .ref 189), (1, .int (i32 p)), (2, .int (i32 v71)), (3, .int (i32 v72)), (4, .int (i32 v73)), (5, .int (i32 v74)), (6, .int (i32 v75))], [], (mhp (mO m [(7, y76), (8, y77), (9, y78), (10, y79), (11, y80), (12, y81), (28, y82), (69, (m.1 69)), (70, (m.1 70)), (71, (m.1 71)), (72, (m.1 72)), (75, (m.1 75))] [(65, F83), (66, F84), (67, F85), (68, F86)]) c, N), 0, 0) (Q_takeName m c N p B h) := by
    intro v71 v72 v73 v74 v75 y76 y77 y78 y79 y80 y81 y82 F83 F84 F85 F86 q88 q89 q90 q91 q92 q93 q94 q95 q96 q97 q98 q99 q100 q101 q102 q103 i104 i105 i106 i107 i108 i109 i110 i111
    obtain ⟨q88a, q88b⟩ := id q88
    obtain ⟨q89a, q89b⟩ := id q89
    obtain ⟨q90a, q90b⟩ := id q90
    obtain ⟨q91a, q91b⟩ := id q91
    obtain ⟨q92a, q92b⟩ := id q92
    refine T_ld 151 (.ref 189) rfl (fun _ => rfl) ?_
    refine T_ld 153 (.int (i32 v73)) rfl (fun _ => rfl) ?_
    refine T_ld 154 (.int (i32 p)) rfl (fun _ => rfl) ?_
    refine T_call 157 249 [.ref 189, .int (i32 v73), .int (i32 p)] [] rfl (fun _ => rfl) rfl (c_atom w (mO m [(7, y76), (8, y77), (9, y78), (10, y79), (11, y80), (12, y81), (28, y82), (69, (m.1 69)), (70, (m.1 70)), (71, (m.1 71)), (72, (m.1 72)), (75, (m.1 75))] [(65, F83), (66, F84), (67, F85), (68, F86)]) c N D (by omega) (Ty_mO hT rfl rfl ⟨q93, q94, q95, q96, q97, q98, q99, f69, f70, f71, f72, f75, trivial⟩ ⟨q100, q101, q102, q103, trivial⟩) v73 p (r32 (by omega) (by omega)) (r32 (by omega) (by omega)) (show 0 ≤ v73 ∧ v73 ≤ 64 by omega) (show 0 ≤ p ∧ p ≤ 4000 by omega)) (fun r113 k114 => ?_)
    obtain ⟨y115, y117, y119, y121, y123, g116, g118, g120, g122, g124, h125, rfl⟩ := k114
    refine ⟨_, _, rfl, ?_⟩
    refine T_nf (st' := []) (l' := [(7, y76), (8, y77), (9, y78), (10, y79), (11, y80), (12, y81), (28, y82), (69, y115), (70, y117), (71, y119), (72, y121), (75, y123)]) (a' := [(65, F83), (66, F84), (67, F85), (68, F86)]) rfl rfl rfl rfl rfl ?_
    replace h125 : y79 = 0 → y123 = 1 ∧ y115 = v73 := h125
    refine T_ret rfl (fun _ => rfl) ?_
    exact ⟨y76, y77, y78, y79, y80, y81, y82, y115, y117, y119, y121, y123, F83, F84, F85, F86, q93, q94, q95, q96, q97, q98, q99, g116, g118, g120, g122, g124, q100, q101, q102, q103, (by omega), (by first | (first | exact hLx | (intro h9; exfalso; omega)) | (exfalso; omega)), (fun h => absurd h (by omega)), rfl⟩
  have J109_136 : ∀ (v126 : Int) (v127 : Int) (v128 : Int) (s129 : Int) (y130 : Int) (y131 : Int) (y132 : Int) (y133 : Int) (y134 : Int) (y135 : Int), (R32 v126) → (R32 v127) → (R32 v128) → (R32 s129) → (0 ≤ y130 ∧ y130 ≤ 330) → (0 ≤ y131 ∧ y131 ≤ 4000) → (0 ≤ y132 ∧ y132 ≤ 4000) → (0 ≤ y133 ∧ y133 ≤ 8) → ((-1) ≤ y134 ∧ y134 ≤ 4000) → ((-9223372036854775808) ≤ y135 ∧ y135 ≤ 9223372036854775807) → ((-2147483648) ≤ v126) → (v126 ≤ (-1)) → (2 ≤ v127) → (v127 ≤ 2) → (0 ≤ s129) → (s129 ≤ 191) → (1 ≤ y133) → (y133 ≤ 8) → TT w D pm_251 (109, [(0, .ref 189), (1, .int (i32 p)), (2, .int (i32 v126)), (3, .int (i32 v127)), (4, .int (i32 1)), (5, .int (i32 401)), (6, .int (i32 v128))], [.int (i32 s129)], (mhp (mO m [(7, y130), (8, y131), (9, y132), (10, y133), (11, y134), (12, y135), (28, (m.1 28)), (69, (m.1 69)), (70, (m.1 70)), (71, (m.1 71)), (72, (m.1 72)), (75, (m.1 75))] [(65, (m.2 65)), (66, (m.2 66)), (67, (m.2 67)), (68, (m.2 68))]) c, N), 0, 0) (Q_takeName m c N p B h) := by
    intro v126 v127 v128 s129 y130 y131 y132 y133 y134 y135 q137 q138 q139 q140 q141 q142 q143 q144 q145 q146 i147 i148 i149 i150 i151 i152 i153 i154
    obtain ⟨q137a, q137b⟩ := id q137
    obtain ⟨q138a, q138b⟩ := id q138
    obtain ⟨q139a, q139b⟩ := id q139
    obtain ⟨q140a, q140b⟩ := id q140
    refine T_sto 111 [(6, .int (i32 s129)), (0, .ref 189), (1, .int (i32 p)), (2, .int (i32 v126)), (3, .int (i32 v127)), (4, .int (i32 1)), (5, .int (i32 401))] rfl (fun _ => rfl) ?_
    refine T_gf 115 (.int (i32 y133)) rfl rfl rfl rfl rfl rfl ?_
    refine T_if 139 118 rfl rfl rfl (r32 (by omega) (by omega)) (fun (h156 : y133 ≠ 0) => ?_) (fun (h156 : ¬ (y133 ≠ 0)) => by exfalso; omega)
    refine T_ld 140 (.ref 189) rfl (fun _ => rfl) ?_
    refine T_ld 142 (.int (i32 401)) rfl (fun _ => rfl) ?_
    refine T_ld 144 (.int (i32 1)) rfl (fun _ => rfl) ?_
    refine T_ld 146 (.int (i32 s129)) rfl (fun _ => rfl) ?_
    refine T_ld 147 (.long (i64 0)) rfl (fun _ => rfl) ?_
    refine T_call 150 248 [.ref 189, .int (i32 401), .int (i32 1), .int (i32 s129), .long (i64 0)] [] rfl (fun _ => rfl) rfl (c_node w (mO m [(7, y130), (8, y131), (9, y132), (10, y133), (11, y134), (12, y135), (28, (m.1 28)), (69, (m.1 69)), (70, (m.1 70)), (71, (m.1 71)), (72, (m.1 72)), (75, (m.1 75))] [(65, (m.2 65)), (66, (m.2 66)), (67, (m.2 67)), (68, (m.2 68))]) c N D (by omega) (Ty_mO hT rfl rfl ⟨q141, q142, q143, q144, q145, q146, f28, f69, f70, f71, f72, f75, trivial⟩ ⟨(hT.2.1 65), (hT.2.1 66), (hT.2.1 67), (hT.2.1 68), trivial⟩) 401 1 s129 0 ($B) h ⟨by decide, by decide⟩ ⟨by decide, by decide⟩ (r32 (by omega) (by omega)) ⟨by decide, by decide⟩ (fun h => absurd h (by omega))) (fun r157 k158 => ?_)
    obtain ⟨y159, y161, y163, F165, F167, F169, F171, g160, g162, g164, G166, G168, G170, G172, h173, c174, rfl⟩ := k158
    refine ⟨_, _, rfl, ?_⟩
    refine T_nf (st' := []) (l' := [(7, y130), (8, y131), (9, y132), (10, y159), (11, y161), (12, y135), (28, y163), (69, (m.1 69)), (70, (m.1 70)), (71, (m.1 71)), (72, (m.1 72)), (75, (m.1 75))]) (a' := [(65, F165), (66, F167), (67, F169), (68, F171)]) rfl rfl rfl rfl rfl ?_
    replace h173 : y159 = 0 → y133 = 0 := h173
    have hf175 : 1 ≤ y159 := by omega
    clear c174
    clear h173
    clear q139a q139b q139 q144 q145 i153 i154 h156
    refine Tm_lv (a := [(0, .ref 189), (1, .int (i32 p)), (2, .int (i32 v126)), (3, .int (i32 v127)), (4, .int (i32 1)), (5, .int (i32 401)), (6, .int (i32 s129))]) rfl rfl ⟨rfl, rfl, rfl, rfl, rfl, rfl, rfl, trivial⟩ ?_
    exact J150_87 v126 v127 1 401 s129 y130 y131 y132 y159 y161 y135 y163 F165 F167 F169 F171 (r32 (by omega) (by omega)) (r32 (by omega) (by omega)) ⟨by decide, by decide⟩ ⟨by decide, by decide⟩ (r32 (by omega) (by omega)) q141 q142 q143 g160 g162 q146 g164 G166 G168 G170 G172 (by omega) (by omega) (by omega) (by omega) (by omega) (by omega) (by omega) (by omega)
  have J103_185 : ∀ (v176 : Int) (v177 : Int) (v178 : Int) (y179 : Int) (y180 : Int) (y181 : Int) (y182 : Int) (y183 : Int) (y184 : Int), (R32 v176) → (R32 v177) → (R32 v178) → (0 ≤ y179 ∧ y179 ≤ 330) → (0 ≤ y180 ∧ y180 ≤ 4000) → (0 ≤ y181 ∧ y181 ≤ 4000) → (0 ≤ y182 ∧ y182 ≤ 8) → ((-1) ≤ y183 ∧ y183 ≤ 4000) → ((-9223372036854775808) ≤ y184 ∧ y184 ≤ 9223372036854775807) → ((-2147483648) ≤ v176) → (v176 ≤ (-1)) → (2 ≤ v177) → (v177 ≤ 2) → (1 ≤ y182) → (y182 ≤ 8) → TT w D pm_251 (103, [(0, .ref 189), (1, .int (i32 p)), (2, .int (i32 v176)), (3, .int (i32 v177)), (4, .int (i32 1)), (5, .int (i32 401)), (6, .int (i32 v178))], [], (mhp (mO m [(7, y179), (8, y180), (9, y181), (10, y182), (11, y183), (12, y184), (28, (m.1 28)), (69, (m.1 69)), (70, (m.1 70)), (71, (m.1 71)), (72, (m.1 72)), (75, (m.1 75))] [(65, (m.2 65)), (66, (m.2 66)), (67, (m.2 67)), (68, (m.2 68))]) c, N), 0, 0) (Q_takeName m c N p B h) := by
    intro v176 v177 v178 y179 y180 y181 y182 y183 y184 q186 q187 q188 q189 q190 q191 q192 q193 q194 i195 i196 i197 i198 i199 i200
    obtain ⟨q186a, q186b⟩ := id q186
    obtain ⟨q187a, q187b⟩ := id q187
    obtain ⟨q188a, q188b⟩ := id q188
    refine T_ld 104 (.ref 189) rfl (fun _ => rfl) ?_
    refine T_ld 106 (.int (i32 v178)) rfl (fun _ => rfl) ?_
    refine T_call 109 253 [.ref 189, .int (i32 v178)] [] rfl (fun _ => rfl) rfl (c_takeField w (mO m [(7, y179), (8, y180), (9, y181), (10, y182), (11, y183), (12, y184), (28, (m.1 28)), (69, (m.1 69)), (70, (m.1 70)), (71, (m.1 71)), (72, (m.1 72)), (75, (m.1 75))] [(65, (m.2 65)), (66, (m.2 66)), (67, (m.2 67)), (68, (m.2 68))]) c N D (by omega) (Ty_mO hT rfl rfl ⟨q189, q190, q191, q192, q193, q194, f28, f69, f70, f71, f72, f75, trivial⟩ ⟨(hT.2.1 65), (hT.2.1 66), (hT.2.1 67), (hT.2.1 68), trivial⟩) v178 (r32 (by omega) (by omega)) (show LxP y179 y180 y181 (m.1 6) y182 by first | exact hLx | (intro h9; exfalso; omega)) (show ∀ k, (m.2 31) k + (m.2 32) k ≤ 4000 by assumption) (show 0 ≤ v178 ∧ v178 ≤ 11 by omega) (fun h => absurd h (by omega))) (fun r202 k203 => ?_)
    obtain ⟨y204, y206, y208, y210, y212, y214, tf, g205, g207, g209, g211, g213, g215, g216, h217, h218, c219, rfl⟩ := k203
    refine ⟨_, _, rfl, ?_⟩
    refine T_nf (st' := [.int (i32 tf)]) (l' := [(7, y204), (8, y206), (9, y208), (10, y210), (11, y212), (12, y214), (28, (m.1 28)), (69, (m.1 69)), (70, (m.1 70)), (71, (m.1 71)), (72, (m.1 72)), (75, (m.1 75))]) (a' := [(65, (m.2 65)), (66, (m.2 66)), (67, (m.2 67)), (68, (m.2 68))]) rfl rfl rfl rfl rfl ?_
    obtain ⟨g216a, g216b⟩ := g216
    replace h217 : y210 = 0 → y182 = 0 := h217
    replace h218 : LxP y204 y206 y208 (m.1 6) y210 := h218
    have hf220 : 1 ≤ y210 := by omega
    clear c219
    clear h217
    have hLx := h218
    clear q189 q190 q191 q192 q193 q194 i199 i200
    exact J109_136 v176 v177 v178 tf y204 y206 y208 y210 y212 y214 (r32 (by omega) (by omega)) (r32 (by omega) (by omega)) (r32 (by omega) (by omega)) (r32 (by omega) (by omega)) g205 g207 g209 g211 g213 g215 (by omega) (by omega) (by omega) (by omega) (by omega) (by omega) (by omega) (by omega)
  refine T_ld 1 (.ref 189) rfl (fun _ => rfl) ?_
  have h7 := hLx (by omega)
  refine T_call 4 252 [.ref 189] [] rfl (fun _ => rfl) rfl (c_parameterHere w (mO m [(7, (m.1 7)), (8, (m.1 8)), (9, (m.1 9)), (10, (m.1 10)), (11, (m.1 11)), (12, (m.1 12)), (28, (m.1 28)), (69, (m.1 69)), (70, (m.1 70)), (71, (m.1 71)), (72, (m.1 72)), (75, (m.1 75))] [(65, (m.2 65)), (66, (m.2 66)), (67, (m.2 67)), (68, (m.2 68))]) c N D (by omega) (Ty_mO hT rfl rfl ⟨f7, f8, f9, f10, f11, f12, f28, f69, f70, f71, f72, f75, trivial⟩ ⟨(hT.2.1 65), (hT.2.1 66), (hT.2.1 67), (hT.2.1 68), trivial⟩) (show 1 ≤ (m.1 9) ∧ (m.1 8) + (m.1 9) ≤ (m.1 6) by first | omega | (have h8 := hLx (by omega); omega)) (show ∀ k, (m.2 47) k + (m.2 48) k ≤ 4000 by exact hPA)) (fun r221 k222 => ?_)
  obtain ⟨pq, g223, h224, rfl⟩ := k222
  refine ⟨_, _, rfl, ?_⟩
  refine T_nf (st' := [.int (i32 pq)]) (l' := [(7, (m.1 7)), (8, (m.1 8)), (9, (m.1 9)), (10, (m.1 10)), (11, (m.1 11)), (12, (m.1 12)), (28, (m.1 28)), (69, (m.1 69)), (70, (m.1 70)), (71, (m.1 71)), (72, (m.1 72)), (75, (m.1 75))]) (a' := [(65, (m.2 65)), (66, (m.2 66)), (67, (m.2 67)), (68, (m.2 68))]) rfl rfl rfl rfl rfl ?_
  obtain ⟨g223a, g223b⟩ := g223
  replace h224 : -1 ≤ pq ∧ pq ≤ 63 := h224
  have u225 : (m.1 8) ≤ (m.1 8) := by omega
  refine T_sto 5 [(2, .int (i32 pq)), (0, .ref 189), (1, .int (i32 p))] rfl (fun _ => rfl) ?_
  refine T_ld 6 (.ref 189) rfl (fun _ => rfl) ?_
  refine T_call 9 227 [.ref 189] [] rfl (fun _ => rfl) rfl (c_sortHere w (mO m [(7, (m.1 7)), (8, (m.1 8)), (9, (m.1 9)), (10, (m.1 10)), (11, (m.1 11)), (12, (m.1 12)), (28, (m.1 28)), (69, (m.1 69)), (70, (m.1 70)), (71, (m.1 71)), (72, (m.1 72)), (75, (m.1 75))] [(65, (m.2 65)), (66, (m.2 66)), (67, (m.2 67)), (68, (m.2 68))]) c N D (by omega) (Ty_mO hT rfl rfl ⟨f7, f8, f9, f10, f11, f12, f28, f69, f70, f71, f72, f75, trivial⟩ ⟨(hT.2.1 65), (hT.2.1 66), (hT.2.1 67), (hT.2.1 68), trivial⟩) (show 1 ≤ (m.1 9) ∧ (m.1 8) + (m.1 9) ≤ (m.1 6) by first | omega | (have h8 := hLx (by omega); omega)) (show ∀ k, (m.2 14) k + (m.2 15) k ≤ 4000 by first | exact hNM | exact p1)) (fun r226 k227 => ?_)
  obtain ⟨so, g228, h229, h230, rfl⟩ := k227
  refine ⟨_, _, rfl, ?_⟩
  refine T_nf (st' := [.int (i32 so)]) (l' := [(7, (m.1 7)), (8, (m.1 8)), (9, (m.1 9)), (10, (m.1 10)), (11, (m.1 11)), (12, (m.1 12)), (28, (m.1 28)), (69, (m.1 69)), (70, (m.1 70)), (71, (m.1 71)), (72, (m.1 72)), (75, (m.1 75))]) (a' := [(65, (m.2 65)), (66, (m.2 66)), (67, (m.2 67)), (68, (m.2 68))]) rfl rfl rfl rfl rfl ?_
  obtain ⟨g228a, g228b⟩ := g228
  replace h229 : ∃ g k, isGH (m.2 4) (m.1 8) (m.1 9) g ∧ (g < 0 → isFH (m.2 4) (m.2 14) (m.2 15) (m.1 8) (m.1 9) (m.1 13) k) ∧ so = sortV (m.2 16) g k := h229
  have hSo := h229
  replace h230 : -1 ≤ so ∧ so ≤ 7 := h230
  have u231 : (m.1 8) ≤ (m.1 8) := by omega
  refine T_sto 10 [(3, .int (i32 so)), (2, .int (i32 pq)), (0, .ref 189), (1, .int (i32 p))] rfl (fun _ => rfl) ?_
  refine T_ld 11 (.int (i32 1)) rfl (fun _ => rfl) ?_
  refine T_sto 13 [(4, .int (i32 1)), (3, .int (i32 so)), (2, .int (i32 pq)), (0, .ref 189), (1, .int (i32 p))] rfl (fun _ => rfl) ?_
  refine T_ld 16 (.int (i32 403)) rfl (fun _ => rfl) ?_
  refine T_sto 18 [(5, .int (i32 403)), (4, .int (i32 1)), (3, .int (i32 so)), (2, .int (i32 pq)), (0, .ref 189), (1, .int (i32 p))] rfl (fun _ => rfl) ?_
  refine T_ld 19 (.int (i32 0)) rfl (fun _ => rfl) ?_
  refine T_sto 21 [(6, .int (i32 0)), (5, .int (i32 403)), (4, .int (i32 1)), (3, .int (i32 so)), (2, .int (i32 pq)), (0, .ref 189), (1, .int (i32 p))] rfl (fun _ => rfl) ?_
  refine T_ld 22 (.int (i32 pq)) rfl (fun _ => rfl) ?_
  refine T_if 45 25 rfl rfl rfl (r32 (by omega) (by omega)) (fun (h232 : pq < 0) => ?_) (fun (h232 : ¬ (pq < 0)) => ?_)
  · skip
    refine T_ld 46 (.int (i32 so)) rfl (fun _ => rfl) ?_
    refine T_ld 47 (.int (i32 3)) rfl (fun _ => rfl) ?_
    refine T_icmp 77 50 rfl rfl rfl (r32 (by omega) (by omega)) ⟨by decide, by decide⟩ (fun (h233 : so ≠ 3) => ?_) (fun (h233 : ¬ (so ≠ 3)) => ?_)
    · skip
      refine T_ld 78 (.int (i32 so)) rfl (fun _ => rfl) ?_
      refine T_ld 79 (.int (i32 2)) rfl (fun _ => rfl) ?_
      refine T_icmp 129 82 rfl rfl rfl (r32 (by omega) (by omega)) ⟨by decide, by decide⟩ (fun (h234 : so ≠ 2) => ?_) (fun (h234 : ¬ (so ≠ 2)) => ?_)
      · skip
        refine T_ld 130 (.ref 189) rfl (fun _ => rfl) ?_
        refine T_ld 132 (.int (i32 6)) rfl (fun _ => rfl) ?_
        refine T_gf 136 (.int (i32 (m.1 8))) rfl rfl rfl rfl rfl rfl ?_
        refine T_call 139 222 [.ref 189, .int (i32 6), .int (i32 (m.1 8))] [] rfl (fun _ => rfl) rfl (c_wrong w (mO m [(7, (m.1 7)), (8, (m.1 8)), (9, (m.1 9)), (10, (m.1 10)), (11, (m.1 11)), (12, (m.1 12)), (28, (m.1 28)), (69, (m.1 69)), (70, (m.1 70)), (71, (m.1 71)), (72, (m.1 72)), (75, (m.1 75))] [(65, (m.2 65)), (66, (m.2 66)), (67, (m.2 67)), (68, (m.2 68))]) c N D (by omega) (Ty_mO hT rfl rfl ⟨f7, f8, f9, f10, f11, f12, f28, f69, f70, f71, f72, f75, trivial⟩ ⟨(hT.2.1 65), (hT.2.1 66), (hT.2.1 67), (hT.2.1 68), trivial⟩) 6 (m.1 8) ⟨by decide, by decide⟩ (r32 (by omega) (by omega)) (show 1 ≤ 6 ∧ 6 ≤ 8 by omega) (show 0 ≤ (m.1 8) ∧ (m.1 8) ≤ 4000 by omega)) (fun r235 k236 => ?_)
        obtain ⟨y237, y239, g238, g240, h241, rfl⟩ := k236
        refine ⟨_, _, rfl, ?_⟩
        refine T_nf (st' := []) (l' := [(7, (m.1 7)), (8, (m.1 8)), (9, (m.1 9)), (10, y237), (11, y239), (12, (m.1 12)), (28, (m.1 28)), (69, (m.1 69)), (70, (m.1 70)), (71, (m.1 71)), (72, (m.1 72)), (75, (m.1 75))]) (a' := [(65, (m.2 65)), (66, (m.2 66)), (67, (m.2 67)), (68, (m.2 68))]) rfl rfl rfl rfl rfl ?_
        replace h241 : (0 < (m.1 10) → y237 = (m.1 10) ∧ y239 = (m.1 11)) ∧ ((m.1 10) ≤ 0 → y237 = 6 ∧ y239 = (m.1 8)) := h241
        have hf242 : 1 ≤ y237 := by omega
        refine T_ld 140 (.ref 189) rfl (fun _ => rfl) ?_
        refine T_ld 142 (.int (i32 403)) rfl (fun _ => rfl) ?_
        refine T_ld 144 (.int (i32 1)) rfl (fun _ => rfl) ?_
        refine T_ld 146 (.int (i32 0)) rfl (fun _ => rfl) ?_
        refine T_ld 147 (.long (i64 0)) rfl (fun _ => rfl) ?_
        refine T_call 150 248 [.ref 189, .int (i32 403), .int (i32 1), .int (i32 0), .long (i64 0)] [] rfl (fun _ => rfl) rfl (c_node w (mO m [(7, (m.1 7)), (8, (m.1 8)), (9, (m.1 9)), (10, y237), (11, y239), (12, (m.1 12)), (28, (m.1 28)), (69, (m.1 69)), (70, (m.1 70)), (71, (m.1 71)), (72, (m.1 72)), (75, (m.1 75))] [(65, (m.2 65)), (66, (m.2 66)), (67, (m.2 67)), (68, (m.2 68))]) c N D (by omega) (Ty_mO hT rfl rfl ⟨f7, f8, f9, g238, g240, f12, f28, f69, f70, f71, f72, f75, trivial⟩ ⟨(hT.2.1 65), (hT.2.1 66), (hT.2.1 67), (hT.2.1 68), trivial⟩) 403 1 0 0 ($B) h ⟨by decide, by decide⟩ ⟨by decide, by decide⟩ ⟨by decide, by decide⟩ ⟨by decide, by decide⟩ (fun h => absurd h (by omega))) (fun r243 k244 => ?_)
        obtain ⟨y245, y247, y249, F251, F253, F255, F257, g246, g248, g250, G252, G254, G256, G258, h259, c260, rfl⟩ := k244
        refine ⟨_, _, rfl, ?_⟩
        refine T_nf (st' := []) (l' := [(7, (m.1 7)), (8, (m.1 8)), (9, (m.1 9)), (10, y245), (11, y247), (12, (m.1 12)), (28, y249), (69, (m.1 69)), (70, (m.1 70)), (71, (m.1 71)), (72, (m.1 72)), (75, (m.1 75))]) (a' := [(65, F251), (66, F253), (67, F255), (68, F257)]) rfl rfl rfl rfl rfl ?_
        replace h259 : y245 = 0 → y237 = 0 := h259
        have hf261 : 1 ≤ y245 := by omega
        clear c260
        clear h259
        clear g238 g240 hf242 h241
        refine Tm_lv (a := [(0, .ref 189), (1, .int (i32 p)), (2, .int (i32 pq)), (3, .int (i32 so)), (4, .int (i32 1)), (5, .int (i32 403)), (6, .int (i32 0))]) rfl rfl ⟨rfl, rfl, rfl, rfl, rfl, rfl, rfl, trivial⟩ ?_
        exact J150_87 pq so 1 403 0 (m.1 7) (m.1 8) (m.1 9) y245 y247 (m.1 12) y249 F251 F253 F255 F257 (r32 (by omega) (by omega)) (r32 (by omega) (by omega)) ⟨by decide, by decide⟩ ⟨by decide, by decide⟩ ⟨by decide, by decide⟩ f7 f8 f9 g246 g248 f12 g250 G252 G254 G256 G258 (by omega) (by omega) (by omega) (by omega) (by omega) (by omega) (by omega) (by omega)
      · skip
        refine T_ld 85 (.int (i32 401)) rfl (fun _ => rfl) ?_
        refine T_sto 87 [(5, .int (i32 401)), (6, .int (i32 0)), (4, .int (i32 1)), (3, .int (i32 so)), (2, .int (i32 pq)), (0, .ref 189), (1, .int (i32 p))] rfl (fun _ => rfl) ?_
        refine T_ld 88 (.ref 189) rfl (fun _ => rfl) ?_
        refine T_call 91 237 [.ref 189] [] rfl (fun _ => rfl) rfl (c_whichHere w (mO m [(7, (m.1 7)), (8, (m.1 8)), (9, (m.1 9)), (10, (m.1 10)), (11, (m.1 11)), (12, (m.1 12)), (28, (m.1 28)), (69, (m.1 69)), (70, (m.1 70)), (71, (m.1 71)), (72, (m.1 72)), (75, (m.1 75))] [(65, (m.2 65)), (66, (m.2 66)), (67, (m.2 67)), (68, (m.2 68))]) c N D (by omega) (Ty_mO hT rfl rfl ⟨f7, f8, f9, f10, f11, f12, f28, f69, f70, f71, f72, f75, trivial⟩ ⟨(hT.2.1 65), (hT.2.1 66), (hT.2.1 67), (hT.2.1 68), trivial⟩) (show 1 ≤ (m.1 9) ∧ (m.1 8) + (m.1 9) ≤ (m.1 6) by first | omega | (have h8 := hLx (by omega); omega)) (show ∀ k, (m.2 14) k + (m.2 15) k ≤ 4000 by first | exact hNM | exact p1) (show ∀ g k, isGH (m.2 4) (m.1 8) (m.1 9) g → g < 0 → isFH (m.2 4) (m.2 14) (m.2 15) (m.1 8) (m.1 9) (m.1 13) k → 0 ≤ k by exact old_ok hSo (by omega))) (fun r262 k263 => ?_)
        obtain ⟨wi, g264, h265, rfl⟩ := k263
        refine ⟨_, _, rfl, ?_⟩
        refine T_nf (st' := [.int (i32 wi)]) (l' := [(7, (m.1 7)), (8, (m.1 8)), (9, (m.1 9)), (10, (m.1 10)), (11, (m.1 11)), (12, (m.1 12)), (28, (m.1 28)), (69, (m.1 69)), (70, (m.1 70)), (71, (m.1 71)), (72, (m.1 72)), (75, (m.1 75))]) (a' := [(65, (m.2 65)), (66, (m.2 66)), (67, (m.2 67)), (68, (m.2 68))]) rfl rfl rfl rfl rfl ?_
        obtain ⟨g264a, g264b⟩ := g264
        replace h265 : ∃ g k, isGH (m.2 4) (m.1 8) (m.1 9) g ∧ (g < 0 → isFH (m.2 4) (m.2 14) (m.2 15) (m.1 8) (m.1 9) (m.1 13) k) ∧ wi = whichV (m.2 17) g k := h265
        have hWi := h265
        have u266 : (m.1 8) ≤ (m.1 8) := by omega
        obtain ⟨hw0, hw1⟩ : 0 ≤ wi ∧ wi < (m.1 20) := old_rg hSo hWi (by omega) (by omega) (by omega) (PNl_2 pPN) (by omega)
        refine T_sto 93 [(6, .int (i32 wi)), (5, .int (i32 401)), (4, .int (i32 1)), (3, .int (i32 so)), (2, .int (i32 pq)), (0, .ref 189), (1, .int (i32 p))] rfl (fun _ => rfl) ?_
        refine T_ld 94 (.ref 189) rfl (fun _ => rfl) ?_
        refine T_call 97 212 [.ref 189] [] rfl (fun _ => rfl) rfl (c_next w (mO m [(7, (m.1 7)), (8, (m.1 8)), (9, (m.1 9)), (10, (m.1 10)), (11, (m.1 11)), (12, (m.1 12)), (28, (m.1 28)), (69, (m.1 69)), (70, (m.1 70)), (71, (m.1 71)), (72, (m.1 72)), (75, (m.1 75))] [(65, (m.2 65)), (66, (m.2 66)), (67, (m.2 67)), (68, (m.2 68))]) c N D (by omega) (Ty_mO hT rfl rfl ⟨f7, f8, f9, f10, f11, f12, f28, f69, f70, f71, f72, f75, trivial⟩ ⟨(hT.2.1 65), (hT.2.1 66), (hT.2.1 67), (hT.2.1 68), trivial⟩) (show (m.1 10) = 0 → (m.1 8) + (m.1 9) ≤ (m.1 6) by first | omega | (intro h9; have h8 := hLx h9; omega))) (fun r267 k268 => ?_)
        obtain ⟨y269, y271, y273, y275, y277, y279, g270, g272, g274, g276, g278, g280, h281, h282, h283, h284, rfl⟩ := k268
        refine ⟨_, _, rfl, ?_⟩
        refine T_nf (st' := []) (l' := [(7, y269), (8, y271), (9, y273), (10, y275), (11, y277), (12, y279), (28, (m.1 28)), (69, (m.1 69)), (70, (m.1 70)), (71, (m.1 71)), (72, (m.1 72)), (75, (m.1 75))]) (a' := [(65, (m.2 65)), (66, (m.2 66)), (67, (m.2 67)), (68, (m.2 68))]) rfl rfl rfl rfl rfl ?_
        by_cases hf285 : y275 = 0
        · skip
          subst hf285
          replace h281 : LxP y269 y271 y273 (m.1 6) 0 := h281
          have hLx := h281
          replace h282 : (m.1 10) = 0 := h282 rfl
          replace h283 : (m.1 8) ≤ y271 := h283
          replace h284 : (m.1 8) + (m.1 9) ≤ y271 := h284 rfl
          have u286 : (m.1 8) ≤ y271 := by omega
          clear g276
          refine T_ld 98 (.ref 189) rfl (fun _ => rfl) ?_
          refine T_ld 100 (.int (i32 46)) rfl (fun _ => rfl) ?_
          refine T_call 103 232 [.ref 189, .int (i32 46)] [] rfl (fun _ => rfl) rfl (c_need w (mO m [(7, y269), (8, y271), (9, y273), (10, 0), (11, y277), (12, y279), (28, (m.1 28)), (69, (m.1 69)), (70, (m.1 70)), (71, (m.1 71)), (72, (m.1 72)), (75, (m.1 75))] [(65, (m.2 65)), (66, (m.2 66)), (67, (m.2 67)), (68, (m.2 68))]) c N D (by omega) (Ty_mO hT rfl rfl ⟨g270, g272, g274, ⟨(by omega : (0 : Int) ≤ 0), (by omega : (0 : Int) ≤ 8)⟩, g278, g280, f28, f69, f70, f71, f72, f75, trivial⟩ ⟨(hT.2.1 65), (hT.2.1 66), (hT.2.1 67), (hT.2.1 68), trivial⟩) 46 ⟨by decide, by decide⟩ (show 1 ≤ 46 by omega) (show LxP y269 y271 y273 (m.1 6) 0 by first | exact hLx | (intro h9; exfalso; omega) | (intro h9; have h8 := hLx (by omega); omega))) (fun r287 k288 => ?_)
          obtain ⟨y289, y291, y293, y295, y297, y299, g290, g292, g294, g296, g298, g300, h301, h302, h303, h304, rfl⟩ := k288
          refine ⟨_, _, rfl, ?_⟩
          refine T_nf (st' := []) (l' := [(7, y289), (8, y291), (9, y293), (10, y295), (11, y297), (12, y299), (28, (m.1 28)), (69, (m.1 69)), (70, (m.1 70)), (71, (m.1 71)), (72, (m.1 72)), (75, (m.1 75))]) (a' := [(65, (m.2 65)), (66, (m.2 66)), (67, (m.2 67)), (68, (m.2 68))]) rfl rfl rfl rfl rfl ?_
          by_cases hf305 : y295 = 0
          · skip
            subst hf305
            replace h301 : LxP y289 y291 y293 (m.1 6) 0 := h301
            have hLx := h301
            replace h302 : 0 = 0 ∧ y269 = 46 := h302 rfl
            replace h303 : y271 ≤ y291 := h303
            replace h304 : y271 + y273 ≤ y291 := h304 rfl
            have u306 : (m.1 8) ≤ y291 := by omega
            clear g270 g272 g274 g278 g280 h281 h283 h284 u286 g296 h302 h303 h304
            refine T_ld 104 (.ref 189) rfl (fun _ => rfl) ?_
            refine T_ld 106 (.int (i32 wi)) rfl (fun _ => rfl) ?_
            refine T_call 109 253 [.ref 189, .int (i32 wi)] [] rfl (fun _ => rfl) rfl (c_takeField w (mO m [(7, y289), (8, y291), (9, y293), (10, 0), (11, y297), (12, y299), (28, (m.1 28)), (69, (m.1 69)), (70, (m.1 70)), (71, (m.1 71)), (72, (m.1 72)), (75, (m.1 75))] [(65, (m.2 65)), (66, (m.2 66)), (67, (m.2 67)), (68, (m.2 68))]) c N D (by omega) (Ty_mO hT rfl rfl ⟨g290, g292, g294, ⟨(by omega : (0 : Int) ≤ 0), (by omega : (0 : Int) ≤ 8)⟩, g298, g300, f28, f69, f70, f71, f72, f75, trivial⟩ ⟨(hT.2.1 65), (hT.2.1 66), (hT.2.1 67), (hT.2.1 68), trivial⟩) wi (r32 (by omega) (by omega)) (show LxP y289 y291 y293 (m.1 6) 0 by first | exact hLx | (intro h9; exfalso; omega)) (show ∀ k, (m.2 31) k + (m.2 32) k ≤ 4000 by assumption) (show 0 ≤ wi ∧ wi ≤ 11 by omega) (fun _ => trivial)) (fun r307 k308 => ?_)
            obtain ⟨y309, y311, y313, y315, y317, y319, tf, g310, g312, g314, g316, g318, g320, g321, h322, h323, c324, rfl⟩ := k308
            refine ⟨_, _, rfl, ?_⟩
            refine T_nf (st' := [.int (i32 tf)]) (l' := [(7, y309), (8, y311), (9, y313), (10, y315), (11, y317), (12, y319), (28, (m.1 28)), (69, (m.1 69)), (70, (m.1 70)), (71, (m.1 71)), (72, (m.1 72)), (75, (m.1 75))]) (a' := [(65, (m.2 65)), (66, (m.2 66)), (67, (m.2 67)), (68, (m.2 68))]) rfl rfl rfl rfl rfl ?_
            obtain ⟨g321a, g321b⟩ := g321
            by_cases hf325 : y315 = 0
            · skip
              subst hf325
              replace h322 : 0 = 0 := h322 rfl
              replace h323 : LxP y309 y311 y313 (m.1 6) 0 := h323
              have hLx := h323
              obtain ⟨c326, c327⟩ := c324 rfl
              replace c326 : y291 + 1 ≤ y311 := c326
              replace c327 : y289 = 1 := c327
              have u328 : (m.1 8) ≤ y311 := by omega
              clear g290 g292 g294 g298 g300 h301 u306 g316 c326 c327
              refine T_sto 111 [(6, .int (i32 tf)), (5, .int (i32 401)), (4, .int (i32 1)), (3, .int (i32 so)), (2, .int (i32 pq)), (0, .ref 189), (1, .int (i32 p))] rfl (fun _ => rfl) ?_
              refine T_gf 115 (.int (i32 0)) rfl rfl rfl rfl rfl rfl ?_
              refine T_if 139 118 rfl rfl rfl ⟨by decide, by decide⟩ (fun h329 => absurd (show (0 : Int) ≠ 0 from h329) (by decide)) (fun _ => ?_)
              refine T_ld 119 (.ref 189) rfl (fun _ => rfl) ?_
              refine T_ld 121 (.int (i32 tf)) rfl (fun _ => rfl) ?_
              refine T_call 124 254 [.ref 189, .int (i32 tf)] [] rfl (fun _ => rfl) rfl (c_bitsOfField w (mO m [(7, y309), (8, y311), (9, y313), (10, 0), (11, y317), (12, y319), (28, (m.1 28)), (69, (m.1 69)), (70, (m.1 70)), (71, (m.1 71)), (72, (m.1 72)), (75, (m.1 75))] [(65, (m.2 65)), (66, (m.2 66)), (67, (m.2 67)), (68, (m.2 68))]) c N D (by omega) (Ty_mO hT rfl rfl ⟨g310, g312, g314, ⟨(by omega : (0 : Int) ≤ 0), (by omega : (0 : Int) ≤ 8)⟩, g318, g320, f28, f69, f70, f71, f72, f75, trivial⟩ ⟨(hT.2.1 65), (hT.2.1 66), (hT.2.1 67), (hT.2.1 68), trivial⟩) tf (r32 (by omega) (by omega)) (show 0 ≤ tf ∧ tf ≤ 191 by omega)) (fun r330 k331 => ?_)
              obtain ⟨x332, g333, rfl⟩ := k331
              refine ⟨_, _, rfl, ?_⟩
              refine T_nf (st' := [.int (i32 x332)]) (l' := [(7, y309), (8, y311), (9, y313), (10, 0), (11, y317), (12, y319), (28, (m.1 28)), (69, (m.1 69)), (70, (m.1 70)), (71, (m.1 71)), (72, (m.1 72)), (75, (m.1 75))]) (a' := [(65, (m.2 65)), (66, (m.2 66)), (67, (m.2 67)), (68, (m.2 68))]) rfl rfl rfl rfl rfl ?_
              obtain ⟨g333a, g333b⟩ := g333
              have u334 : (m.1 8) ≤ y311 := by omega
              clear g264a g264b h265
              refine T_sto 126 [(4, .int (i32 x332)), (6, .int (i32 tf)), (5, .int (i32 401)), (3, .int (i32 so)), (2, .int (i32 pq)), (0, .ref 189), (1, .int (i32 p))] rfl (fun _ => rfl) ?_
              refine T_goto 139 rfl (fun _ => rfl) ?_
              have hA : ar 401 = 0 := by first | (have e : 401 = 403 := by omega) | skip; first | (rw [show 401 = 403 by omega]; decide) | (rw [show 401 = 402 by omega]; decide) | (rw [show 401 = 401 by omega]; decide)
              have hAr : ar 401 ≤ h := by omega
              have hCk : CNk 401 tf := by refine ⟨?_, ?_, ?_, ?_⟩ <;> omega
              refine T_ld 140 (.ref 189) rfl (fun _ => rfl) ?_
              refine T_ld 142 (.int (i32 401)) rfl (fun _ => rfl) ?_
              refine T_ld 144 (.int (i32 x332)) rfl (fun _ => rfl) ?_
              refine T_ld 146 (.int (i32 tf)) rfl (fun _ => rfl) ?_
              refine T_ld 147 (.long (i64 0)) rfl (fun _ => rfl) ?_
              refine T_call 150 248 [.ref 189, .int (i32 401), .int (i32 x332), .int (i32 tf), .long (i64 0)] [] rfl (fun _ => rfl) rfl (c_node w (mO m [(7, y309), (8, y311), (9, y313), (10, 0), (11, y317), (12, y319), (28, (m.1 28)), (69, (m.1 69)), (70, (m.1 70)), (71, (m.1 71)), (72, (m.1 72)), (75, (m.1 75))] [(65, (m.2 65)), (66, (m.2 66)), (67, (m.2 67)), (68, (m.2 68))]) c N D (by omega) (Ty_mO hT rfl rfl ⟨g310, g312, g314, ⟨(by omega : (0 : Int) ≤ 0), (by omega : (0 : Int) ≤ 8)⟩, g318, g320, f28, f69, f70, f71, f72, f75, trivial⟩ ⟨(hT.2.1 65), (hT.2.1 66), (hT.2.1 67), (hT.2.1 68), trivial⟩) 401 x332 tf 0 ($B) h ⟨by decide, by decide⟩ (r32 (by omega) (by omega)) (r32 (by omega) (by omega)) ⟨by decide, by decide⟩ (fun _ => ⟨(show 0 ≤ 401 ∧ 401 ≤ 408 by first | omega | decide), (show 0 ≤ x332 ∧ x332 ≤ 64 by first | omega | decide), (show 0 ≤ tf ∧ tf ≤ 191 by first | omega | decide), (show CNk 401 tf by first | exact hCk | (refine ⟨?_, ?_, ?_, ?_⟩ <;> omega)), (show ar 401 ≤ h by first | exact hAr | omega), (show EX (m.2 65) (m.2 67) ($B) (m.1 28) h by first | exact hEX | assumption)⟩)) (fun r335 k336 => ?_)
              obtain ⟨y337, y339, y341, F343, F345, F347, F349, g338, g340, g342, G344, G346, G348, G350, h351, c352, rfl⟩ := k336
              refine ⟨_, _, rfl, ?_⟩
              refine T_nf (st' := []) (l' := [(7, y309), (8, y311), (9, y313), (10, y337), (11, y339), (12, y319), (28, y341), (69, (m.1 69)), (70, (m.1 70)), (71, (m.1 71)), (72, (m.1 72)), (75, (m.1 75))]) (a' := [(65, F343), (66, F345), (67, F347), (68, F349)]) rfl rfl rfl rfl rfl ?_
              by_cases hf353 : y337 = 0
              · skip
                subst hf353
                replace h351 : 0 = 0 := h351 rfl
                obtain ⟨c354, c355, c356⟩ := c352 rfl
                replace c354 : y341 = (m.1 28) + 1 := c354
                replace c355 : EX F343 F347 ($B) y341 (h + 1 - ar 401) := c355
                have hEX := c355
                replace c356 : agr (m.2 65) F343 (m.1 28) := c356
                have hAg := c356
                have u357 : (m.1 8) ≤ y311 := by omega
                clear g318 g338
                refine T_ld 151 (.ref 189) rfl (fun _ => rfl) ?_
                refine T_ld 153 (.int (i32 x332)) rfl (fun _ => rfl) ?_
                refine T_ld 154 (.int (i32 p)) rfl (fun _ => rfl) ?_
                refine T_call 157 249 [.ref 189, .int (i32 x332), .int (i32 p)] [] rfl (fun _ => rfl) rfl (c_atom w (mO m [(7, y309), (8, y311), (9, y313), (10, 0), (11, y339), (12, y319), (28, y341), (69, (m.1 69)), (70, (m.1 70)), (71, (m.1 71)), (72, (m.1 72)), (75, (m.1 75))] [(65, F343), (66, F345), (67, F347), (68, F349)]) c N D (by omega) (Ty_mO hT rfl rfl ⟨g310, g312, g314, ⟨(by omega : (0 : Int) ≤ 0), (by omega : (0 : Int) ≤ 8)⟩, g340, g320, g342, f69, f70, f71, f72, f75, trivial⟩ ⟨G344, G346, G348, G350, trivial⟩) x332 p (r32 (by omega) (by omega)) (r32 (by omega) (by omega)) (show 0 ≤ x332 ∧ x332 ≤ 64 by omega) (show 0 ≤ p ∧ p ≤ 4000 by omega)) (fun r358 k359 => ?_)
                obtain ⟨y360, y362, y364, y366, y368, g361, g363, g365, g367, g369, h370, rfl⟩ := k359
                refine ⟨_, _, rfl, ?_⟩
                refine T_nf (st' := []) (l' := [(7, y309), (8, y311), (9, y313), (10, 0), (11, y339), (12, y319), (28, y341), (69, y360), (70, y362), (71, y364), (72, y366), (75, y368)]) (a' := [(65, F343), (66, F345), (67, F347), (68, F349)]) rfl rfl rfl rfl rfl ?_
                replace h370 : 0 = 0 → y368 = 1 ∧ y360 = x332 := h370
                have u371 : (m.1 8) ≤ y311 := by omega
                refine T_ret rfl (fun _ => rfl) ?_
                exact ⟨y309, y311, y313, 0, y339, y319, y341, y360, y362, y364, y366, y368, F343, F345, F347, F349, g310, g312, g314, ⟨by omega, by omega⟩, g340, g320, g342, g361, g363, g365, g367, g369, G344, G346, G348, G350, (by omega), (by first | (first | exact hLx | (intro h9; exfalso; omega)) | (exfalso; omega)), (fun _ => ⟨(by omega), (by omega), (by omega), (by omega), (by first | (exact EX_w hEX (by omega)) | (exfalso; omega)), (by first | (exact hAg) | (exfalso; omega))⟩), rfl⟩
              · skip
                clear c352
                clear h351
                have hf372 : 1 ≤ y337 := by omega
                clear g318
                refine Tm_lv (a := [(0, .ref 189), (1, .int (i32 p)), (2, .int (i32 pq)), (3, .int (i32 so)), (4, .int (i32 x332)), (5, .int (i32 401)), (6, .int (i32 tf))]) rfl rfl ⟨rfl, rfl, rfl, rfl, rfl, rfl, rfl, trivial⟩ ?_
                exact J150_87 pq so x332 401 tf y309 y311 y313 y337 y339 y319 y341 F343 F345 F347 F349 (r32 (by omega) (by omega)) (r32 (by omega) (by omega)) (r32 (by omega) (by omega)) ⟨by decide, by decide⟩ (r32 (by omega) (by omega)) g310 g312 g314 g338 g340 g320 g342 G344 G346 G348 G350 (by omega) (by omega) (by omega) (by omega) (by omega) (by omega) (by omega) (by omega)
            · skip
              clear c324
              clear h322
              replace h323 : LxP y309 y311 y313 (m.1 6) y315 := h323
              have hLx := h323
              have hf373 : 1 ≤ y315 := by omega
              clear g290 g292 g294 g298 g300 h301 u306
              refine Tm_lv (a := [(0, .ref 189), (1, .int (i32 p)), (2, .int (i32 pq)), (3, .int (i32 so)), (4, .int (i32 1)), (5, .int (i32 401)), (6, .int (i32 wi))]) rfl rfl ⟨rfl, rfl, rfl, rfl, rfl, rfl, rfl, trivial⟩ ?_
              exact J109_136 pq so wi tf y309 y311 y313 y315 y317 y319 (r32 (by omega) (by omega)) (r32 (by omega) (by omega)) (r32 (by omega) (by omega)) (r32 (by omega) (by omega)) g310 g312 g314 g316 g318 g320 (by omega) (by omega) (by omega) (by omega) (by omega) (by omega) (by omega) (by omega)
          · skip
            replace h301 : LxP y289 y291 y293 (m.1 6) y295 := h301
            have hLx := h301
            clear h302
            replace h303 : y271 ≤ y291 := h303
            clear h304
            have hf374 : 1 ≤ y295 := by omega
            clear g270 g272 g274 g278 g280 h281 h283 h284 u286 h303
            refine Tm_lv (a := [(0, .ref 189), (1, .int (i32 p)), (2, .int (i32 pq)), (3, .int (i32 so)), (4, .int (i32 1)), (5, .int (i32 401)), (6, .int (i32 wi))]) rfl rfl ⟨rfl, rfl, rfl, rfl, rfl, rfl, rfl, trivial⟩ ?_
            exact J103_185 pq so wi y289 y291 y293 y295 y297 y299 (r32 (by omega) (by omega)) (r32 (by omega) (by omega)) (r32 (by omega) (by omega)) g290 g292 g294 g296 g298 g300 (by omega) (by omega) (by omega) (by omega) (by omega) (by omega)
        · skip
          replace h281 : LxP y269 y271 y273 (m.1 6) y275 := h281
          have hLx := h281
          clear h282
          replace h283 : (m.1 8) ≤ y271 := h283
          clear h284
          have hf375 : 1 ≤ y275 := by omega
          refine T_ld 98 (.ref 189) rfl (fun _ => rfl) ?_
          refine T_ld 100 (.int (i32 46)) rfl (fun _ => rfl) ?_
          refine T_call 103 232 [.ref 189, .int (i32 46)] [] rfl (fun _ => rfl) rfl (c_need w (mO m [(7, y269), (8, y271), (9, y273), (10, y275), (11, y277), (12, y279), (28, (m.1 28)), (69, (m.1 69)), (70, (m.1 70)), (71, (m.1 71)), (72, (m.1 72)), (75, (m.1 75))] [(65, (m.2 65)), (66, (m.2 66)), (67, (m.2 67)), (68, (m.2 68))]) c N D (by omega) (Ty_mO hT rfl rfl ⟨g270, g272, g274, g276, g278, g280, f28, f69, f70, f71, f72, f75, trivial⟩ ⟨(hT.2.1 65), (hT.2.1 66), (hT.2.1 67), (hT.2.1 68), trivial⟩) 46 ⟨by decide, by decide⟩ (show 1 ≤ 46 by omega) (show LxP y269 y271 y273 (m.1 6) y275 by first | exact hLx | (intro h9; exfalso; omega) | (intro h9; have h8 := hLx (by omega); omega))) (fun r376 k377 => ?_)
          obtain ⟨y378, y380, y382, y384, y386, y388, g379, g381, g383, g385, g387, g389, h390, h391, h392, h393, rfl⟩ := k377
          refine ⟨_, _, rfl, ?_⟩
          refine T_nf (st' := []) (l' := [(7, y378), (8, y380), (9, y382), (10, y384), (11, y386), (12, y388), (28, (m.1 28)), (69, (m.1 69)), (70, (m.1 70)), (71, (m.1 71)), (72, (m.1 72)), (75, (m.1 75))]) (a' := [(65, (m.2 65)), (66, (m.2 66)), (67, (m.2 67)), (68, (m.2 68))]) rfl rfl rfl rfl rfl ?_
          replace h390 : LxP y378 y380 y382 (m.1 6) y384 := h390
          replace h391 : y384 = 0 → y275 = 0 ∧ y269 = 46 := h391
          replace h392 : y271 ≤ y380 := h392
          replace h393 : y384 = 0 → y271 + y273 ≤ y380 := h393
          have hf394 : 1 ≤ y384 := by omega
          clear h391
          clear h393
          have hLx := h390
          clear g270 g272 g274 g276 g278 g280 h281 h283 hf375 h392
          refine Tm_lv (a := [(0, .ref 189), (1, .int (i32 p)), (2, .int (i32 pq)), (3, .int (i32 so)), (4, .int (i32 1)), (5, .int (i32 401)), (6, .int (i32 wi))]) rfl rfl ⟨rfl, rfl, rfl, rfl, rfl, rfl, rfl, trivial⟩ ?_
          exact J103_185 pq so wi y378 y380 y382 y384 y386 y388 (r32 (by omega) (by omega)) (r32 (by omega) (by omega)) (r32 (by omega) (by omega)) g379 g381 g383 g385 g387 g389 (by omega) (by omega) (by omega) (by omega) (by omega) (by omega)
    · skip
      refine T_ld 53 (.int (i32 402)) rfl (fun _ => rfl) ?_
      refine T_sto 55 [(5, .int (i32 402)), (6, .int (i32 0)), (4, .int (i32 1)), (3, .int (i32 so)), (2, .int (i32 pq)), (0, .ref 189), (1, .int (i32 p))] rfl (fun _ => rfl) ?_
      refine T_ld 56 (.ref 189) rfl (fun _ => rfl) ?_
      refine T_call 59 237 [.ref 189] [] rfl (fun _ => rfl) rfl (c_whichHere w (mO m [(7, (m.1 7)), (8, (m.1 8)), (9, (m.1 9)), (10, (m.1 10)), (11, (m.1 11)), (12, (m.1 12)), (28, (m.1 28)), (69, (m.1 69)), (70, (m.1 70)), (71, (m.1 71)), (72, (m.1 72)), (75, (m.1 75))] [(65, (m.2 65)), (66, (m.2 66)), (67, (m.2 67)), (68, (m.2 68))]) c N D (by omega) (Ty_mO hT rfl rfl ⟨f7, f8, f9, f10, f11, f12, f28, f69, f70, f71, f72, f75, trivial⟩ ⟨(hT.2.1 65), (hT.2.1 66), (hT.2.1 67), (hT.2.1 68), trivial⟩) (show 1 ≤ (m.1 9) ∧ (m.1 8) + (m.1 9) ≤ (m.1 6) by first | omega | (have h8 := hLx (by omega); omega)) (show ∀ k, (m.2 14) k + (m.2 15) k ≤ 4000 by first | exact hNM | exact p1) (show ∀ g k, isGH (m.2 4) (m.1 8) (m.1 9) g → g < 0 → isFH (m.2 4) (m.2 14) (m.2 15) (m.1 8) (m.1 9) (m.1 13) k → 0 ≤ k by exact old_ok hSo (by omega))) (fun r395 k396 => ?_)
      obtain ⟨wi, g397, h398, rfl⟩ := k396
      refine ⟨_, _, rfl, ?_⟩
      refine T_nf (st' := [.int (i32 wi)]) (l' := [(7, (m.1 7)), (8, (m.1 8)), (9, (m.1 9)), (10, (m.1 10)), (11, (m.1 11)), (12, (m.1 12)), (28, (m.1 28)), (69, (m.1 69)), (70, (m.1 70)), (71, (m.1 71)), (72, (m.1 72)), (75, (m.1 75))]) (a' := [(65, (m.2 65)), (66, (m.2 66)), (67, (m.2 67)), (68, (m.2 68))]) rfl rfl rfl rfl rfl ?_
      obtain ⟨g397a, g397b⟩ := g397
      replace h398 : ∃ g k, isGH (m.2 4) (m.1 8) (m.1 9) g ∧ (g < 0 → isFH (m.2 4) (m.2 14) (m.2 15) (m.1 8) (m.1 9) (m.1 13) k) ∧ wi = whichV (m.2 17) g k := h398
      have hWi := h398
      have u399 : (m.1 8) ≤ (m.1 8) := by omega
      obtain ⟨hw0, hw1⟩ : 0 ≤ wi ∧ wi < (m.1 21) := old_rg hSo hWi (by omega) (by omega) (by omega) (PNl_3 pPN) (by omega)
      have pmt := pPN.2.1
      refine T_sto 61 [(6, .int (i32 wi)), (5, .int (i32 402)), (4, .int (i32 1)), (3, .int (i32 so)), (2, .int (i32 pq)), (0, .ref 189), (1, .int (i32 p))] rfl (fun _ => rfl) ?_
      refine T_gf 65 (.ref 205) rfl rfl rfl rfl rfl rfl ?_
      refine T_ld 67 (.int (i32 wi)) rfl (fun _ => rfl) ?_
      refine T_iald 68 35 (m.2 35) rfl rfl rfl (by omega) (show wi < (16 : Int) by omega) rfl ?_
      have e400 : 0 ≤ m.2 35 wi ∧ m.2 35 wi ≤ 64 := hT.2.1 35 wi
      refine T_sto 70 [(4, .int (i32 ((m.2 35) wi))), (6, .int (i32 wi)), (5, .int (i32 402)), (3, .int (i32 so)), (2, .int (i32 pq)), (0, .ref 189), (1, .int (i32 p))] rfl (fun _ => rfl) ?_
      refine T_ld 71 (.ref 189) rfl (fun _ => rfl) ?_
      refine T_call 74 212 [.ref 189] [] rfl (fun _ => rfl) rfl (c_next w (mO m [(7, (m.1 7)), (8, (m.1 8)), (9, (m.1 9)), (10, (m.1 10)), (11, (m.1 11)), (12, (m.1 12)), (28, (m.1 28)), (69, (m.1 69)), (70, (m.1 70)), (71, (m.1 71)), (72, (m.1 72)), (75, (m.1 75))] [(65, (m.2 65)), (66, (m.2 66)), (67, (m.2 67)), (68, (m.2 68))]) c N D (by omega) (Ty_mO hT rfl rfl ⟨f7, f8, f9, f10, f11, f12, f28, f69, f70, f71, f72, f75, trivial⟩ ⟨(hT.2.1 65), (hT.2.1 66), (hT.2.1 67), (hT.2.1 68), trivial⟩) (show (m.1 10) = 0 → (m.1 8) + (m.1 9) ≤ (m.1 6) by first | omega | (intro h9; have h8 := hLx h9; omega))) (fun r401 k402 => ?_)
      obtain ⟨y403, y405, y407, y409, y411, y413, g404, g406, g408, g410, g412, g414, h415, h416, h417, h418, rfl⟩ := k402
      refine ⟨_, _, rfl, ?_⟩
      refine T_nf (st' := []) (l' := [(7, y403), (8, y405), (9, y407), (10, y409), (11, y411), (12, y413), (28, (m.1 28)), (69, (m.1 69)), (70, (m.1 70)), (71, (m.1 71)), (72, (m.1 72)), (75, (m.1 75))]) (a' := [(65, (m.2 65)), (66, (m.2 66)), (67, (m.2 67)), (68, (m.2 68))]) rfl rfl rfl rfl rfl ?_
      by_cases hf419 : y409 = 0
      · skip
        subst hf419
        replace h415 : LxP y403 y405 y407 (m.1 6) 0 := h415
        have hLx := h415
        replace h416 : (m.1 10) = 0 := h416 rfl
        replace h417 : (m.1 8) ≤ y405 := h417
        replace h418 : (m.1 8) + (m.1 9) ≤ y405 := h418 rfl
        have u420 : (m.1 8) ≤ y405 := by omega
        clear g410
        refine T_goto 139 rfl (fun _ => rfl) ?_
        have hA : ar 402 = 0 := by first | (have e : 402 = 403 := by omega) | skip; first | (rw [show 402 = 403 by omega]; decide) | (rw [show 402 = 402 by omega]; decide) | (rw [show 402 = 401 by omega]; decide)
        have hAr : ar 402 ≤ h := by omega
        have hCk : CNk 402 wi := by refine ⟨?_, ?_, ?_, ?_⟩ <;> omega
        refine T_ld 140 (.ref 189) rfl (fun _ => rfl) ?_
        refine T_ld 142 (.int (i32 402)) rfl (fun _ => rfl) ?_
        refine T_ld 144 (.int (i32 ((m.2 35) wi))) rfl (fun _ => rfl) ?_
        refine T_ld 146 (.int (i32 wi)) rfl (fun _ => rfl) ?_
        refine T_ld 147 (.long (i64 0)) rfl (fun _ => rfl) ?_
        refine T_call 150 248 [.ref 189, .int (i32 402), .int (i32 ((m.2 35) wi)), .int (i32 wi), .long (i64 0)] [] rfl (fun _ => rfl) rfl (c_node w (mO m [(7, y403), (8, y405), (9, y407), (10, 0), (11, y411), (12, y413), (28, (m.1 28)), (69, (m.1 69)), (70, (m.1 70)), (71, (m.1 71)), (72, (m.1 72)), (75, (m.1 75))] [(65, (m.2 65)), (66, (m.2 66)), (67, (m.2 67)), (68, (m.2 68))]) c N D (by omega) (Ty_mO hT rfl rfl ⟨g404, g406, g408, ⟨(by omega : (0 : Int) ≤ 0), (by omega : (0 : Int) ≤ 8)⟩, g412, g414, f28, f69, f70, f71, f72, f75, trivial⟩ ⟨(hT.2.1 65), (hT.2.1 66), (hT.2.1 67), (hT.2.1 68), trivial⟩) 402 ((m.2 35) wi) wi 0 ($B) h ⟨by decide, by decide⟩ (r32 (by omega) (by omega)) (r32 (by omega) (by omega)) ⟨by decide, by decide⟩ (fun _ => ⟨(show 0 ≤ 402 ∧ 402 ≤ 408 by first | omega | decide), (show 0 ≤ ((m.2 35) wi) ∧ ((m.2 35) wi) ≤ 64 by first | omega | decide), (show 0 ≤ wi ∧ wi ≤ 191 by first | omega | decide), (show CNk 402 wi by first | exact hCk | (refine ⟨?_, ?_, ?_, ?_⟩ <;> omega)), (show ar 402 ≤ h by first | exact hAr | omega), (show EX (m.2 65) (m.2 67) ($B) (m.1 28) h by first | exact hEX | assumption)⟩)) (fun r421 k422 => ?_)
        obtain ⟨y423, y425, y427, F429, F431, F433, F435, g424, g426, g428, G430, G432, G434, G436, h437, c438, rfl⟩ := k422
        refine ⟨_, _, rfl, ?_⟩
        refine T_nf (st' := []) (l' := [(7, y403), (8, y405), (9, y407), (10, y423), (11, y425), (12, y413), (28, y427), (69, (m.1 69)), (70, (m.1 70)), (71, (m.1 71)), (72, (m.1 72)), (75, (m.1 75))]) (a' := [(65, F429), (66, F431), (67, F433), (68, F435)]) rfl rfl rfl rfl rfl ?_
        by_cases hf439 : y423 = 0
        · skip
          subst hf439
          replace h437 : 0 = 0 := h437 rfl
          obtain ⟨c440, c441, c442⟩ := c438 rfl
          replace c440 : y427 = (m.1 28) + 1 := c440
          replace c441 : EX F429 F433 ($B) y427 (h + 1 - ar 402) := c441
          have hEX := c441
          replace c442 : agr (m.2 65) F429 (m.1 28) := c442
          have hAg := c442
          have u443 : (m.1 8) ≤ y405 := by omega
          clear g412 g424
          refine T_ld 151 (.ref 189) rfl (fun _ => rfl) ?_
          refine T_ld 153 (.int (i32 ((m.2 35) wi))) rfl (fun _ => rfl) ?_
          refine T_ld 154 (.int (i32 p)) rfl (fun _ => rfl) ?_
          refine T_call 157 249 [.ref 189, .int (i32 ((m.2 35) wi)), .int (i32 p)] [] rfl (fun _ => rfl) rfl (c_atom w (mO m [(7, y403), (8, y405), (9, y407), (10, 0), (11, y425), (12, y413), (28, y427), (69, (m.1 69)), (70, (m.1 70)), (71, (m.1 71)), (72, (m.1 72)), (75, (m.1 75))] [(65, F429), (66, F431), (67, F433), (68, F435)]) c N D (by omega) (Ty_mO hT rfl rfl ⟨g404, g406, g408, ⟨(by omega : (0 : Int) ≤ 0), (by omega : (0 : Int) ≤ 8)⟩, g426, g414, g428, f69, f70, f71, f72, f75, trivial⟩ ⟨G430, G432, G434, G436, trivial⟩) ((m.2 35) wi) p (r32 (by omega) (by omega)) (r32 (by omega) (by omega)) (show 0 ≤ ((m.2 35) wi) ∧ ((m.2 35) wi) ≤ 64 by omega) (show 0 ≤ p ∧ p ≤ 4000 by omega)) (fun r444 k445 => ?_)
          obtain ⟨y446, y448, y450, y452, y454, g447, g449, g451, g453, g455, h456, rfl⟩ := k445
          refine ⟨_, _, rfl, ?_⟩
          refine T_nf (st' := []) (l' := [(7, y403), (8, y405), (9, y407), (10, 0), (11, y425), (12, y413), (28, y427), (69, y446), (70, y448), (71, y450), (72, y452), (75, y454)]) (a' := [(65, F429), (66, F431), (67, F433), (68, F435)]) rfl rfl rfl rfl rfl ?_
          replace h456 : 0 = 0 → y454 = 1 ∧ y446 = ((m.2 35) wi) := h456
          have u457 : (m.1 8) ≤ y405 := by omega
          refine T_ret rfl (fun _ => rfl) ?_
          exact ⟨y403, y405, y407, 0, y425, y413, y427, y446, y448, y450, y452, y454, F429, F431, F433, F435, g404, g406, g408, ⟨by omega, by omega⟩, g426, g414, g428, g447, g449, g451, g453, g455, G430, G432, G434, G436, (by omega), (by first | (first | exact hLx | (intro h9; exfalso; omega)) | (exfalso; omega)), (fun _ => ⟨(by omega), (by omega), (by omega), (by omega), (by first | (exact EX_w hEX (by omega)) | (exfalso; omega)), (by first | (exact hAg) | (exfalso; omega))⟩), rfl⟩
        · skip
          clear c438
          clear h437
          have hf458 : 1 ≤ y423 := by omega
          clear g412
          refine Tm_lv (a := [(0, .ref 189), (1, .int (i32 p)), (2, .int (i32 pq)), (3, .int (i32 so)), (4, .int (i32 ((m.2 35) wi))), (5, .int (i32 402)), (6, .int (i32 wi))]) rfl rfl ⟨rfl, rfl, rfl, rfl, rfl, rfl, rfl, trivial⟩ ?_
          exact J150_87 pq so ((m.2 35) wi) 402 wi y403 y405 y407 y423 y425 y413 y427 F429 F431 F433 F435 (r32 (by omega) (by omega)) (r32 (by omega) (by omega)) (r32 (by omega) (by omega)) ⟨by decide, by decide⟩ (r32 (by omega) (by omega)) g404 g406 g408 g424 g426 g414 g428 G430 G432 G434 G436 (by omega) (by omega) (by omega) (by omega) (by omega) (by omega) (by omega) (by omega)
      · skip
        replace h415 : LxP y403 y405 y407 (m.1 6) y409 := h415
        have hLx := h415
        clear h416
        replace h417 : (m.1 8) ≤ y405 := h417
        clear h418
        have hf459 : 1 ≤ y409 := by omega
        refine T_goto 139 rfl (fun _ => rfl) ?_
        refine T_ld 140 (.ref 189) rfl (fun _ => rfl) ?_
        refine T_ld 142 (.int (i32 402)) rfl (fun _ => rfl) ?_
        refine T_ld 144 (.int (i32 ((m.2 35) wi))) rfl (fun _ => rfl) ?_
        refine T_ld 146 (.int (i32 wi)) rfl (fun _ => rfl) ?_
        refine T_ld 147 (.long (i64 0)) rfl (fun _ => rfl) ?_
        refine T_call 150 248 [.ref 189, .int (i32 402), .int (i32 ((m.2 35) wi)), .int (i32 wi), .long (i64 0)] [] rfl (fun _ => rfl) rfl (c_node w (mO m [(7, y403), (8, y405), (9, y407), (10, y409), (11, y411), (12, y413), (28, (m.1 28)), (69, (m.1 69)), (70, (m.1 70)), (71, (m.1 71)), (72, (m.1 72)), (75, (m.1 75))] [(65, (m.2 65)), (66, (m.2 66)), (67, (m.2 67)), (68, (m.2 68))]) c N D (by omega) (Ty_mO hT rfl rfl ⟨g404, g406, g408, g410, g412, g414, f28, f69, f70, f71, f72, f75, trivial⟩ ⟨(hT.2.1 65), (hT.2.1 66), (hT.2.1 67), (hT.2.1 68), trivial⟩) 402 ((m.2 35) wi) wi 0 ($B) h ⟨by decide, by decide⟩ (r32 (by omega) (by omega)) (r32 (by omega) (by omega)) ⟨by decide, by decide⟩ (fun h => absurd h (by omega))) (fun r460 k461 => ?_)
        obtain ⟨y462, y464, y466, F468, F470, F472, F474, g463, g465, g467, G469, G471, G473, G475, h476, c477, rfl⟩ := k461
        refine ⟨_, _, rfl, ?_⟩
        refine T_nf (st' := []) (l' := [(7, y403), (8, y405), (9, y407), (10, y462), (11, y464), (12, y413), (28, y466), (69, (m.1 69)), (70, (m.1 70)), (71, (m.1 71)), (72, (m.1 72)), (75, (m.1 75))]) (a' := [(65, F468), (66, F470), (67, F472), (68, F474)]) rfl rfl rfl rfl rfl ?_
        replace h476 : y462 = 0 → y409 = 0 := h476
        have hf478 : 1 ≤ y462 := by omega
        clear c477
        clear h476
        clear g410 g412 h415 hf459
        refine Tm_lv (a := [(0, .ref 189), (1, .int (i32 p)), (2, .int (i32 pq)), (3, .int (i32 so)), (4, .int (i32 ((m.2 35) wi))), (5, .int (i32 402)), (6, .int (i32 wi))]) rfl rfl ⟨rfl, rfl, rfl, rfl, rfl, rfl, rfl, trivial⟩ ?_
        exact J150_87 pq so ((m.2 35) wi) 402 wi y403 y405 y407 y462 y464 y413 y466 F468 F470 F472 F474 (r32 (by omega) (by omega)) (r32 (by omega) (by omega)) (r32 (by omega) (by omega)) ⟨by decide, by decide⟩ (r32 (by omega) (by omega)) g404 g406 g408 g463 g465 g414 g467 G469 G471 G473 G475 (by omega) (by omega) (by omega) (by omega) (by omega) (by omega) (by omega) (by omega)
  · skip
    refine T_gf 29 (.ref 219) rfl rfl rfl rfl rfl rfl ?_
    refine T_ld 30 (.int (i32 pq)) rfl (fun _ => rfl) ?_
    refine T_iald 31 49 (m.2 49) rfl rfl rfl (by omega) (show pq < (64 : Int) by omega) rfl ?_
    have e479 : 0 ≤ m.2 49 pq ∧ m.2 49 pq ≤ 64 := hT.2.1 49 pq
    refine T_sto 33 [(4, .int (i32 ((m.2 49) pq))), (6, .int (i32 0)), (5, .int (i32 403)), (3, .int (i32 so)), (2, .int (i32 pq)), (0, .ref 189), (1, .int (i32 p))] rfl (fun _ => rfl) ?_
    refine T_ld 34 (.int (i32 pq)) rfl (fun _ => rfl) ?_
    refine T_ld 35 (.int (i32 4)) rfl (fun _ => rfl) ?_
    refine T_irem 36 rfl rfl (by omega) (by omega) (by omega) (by omega) ?_
    refine T_sto 38 [(6, .int (i32 (pq % 4))), (4, .int (i32 ((m.2 49) pq))), (5, .int (i32 403)), (3, .int (i32 so)), (2, .int (i32 pq)), (0, .ref 189), (1, .int (i32 p))] rfl (fun _ => rfl) ?_
    refine T_ld 39 (.ref 189) rfl (fun _ => rfl) ?_
    refine T_call 42 212 [.ref 189] [] rfl (fun _ => rfl) rfl (c_next w (mO m [(7, (m.1 7)), (8, (m.1 8)), (9, (m.1 9)), (10, (m.1 10)), (11, (m.1 11)), (12, (m.1 12)), (28, (m.1 28)), (69, (m.1 69)), (70, (m.1 70)), (71, (m.1 71)), (72, (m.1 72)), (75, (m.1 75))] [(65, (m.2 65)), (66, (m.2 66)), (67, (m.2 67)), (68, (m.2 68))]) c N D (by omega) (Ty_mO hT rfl rfl ⟨f7, f8, f9, f10, f11, f12, f28, f69, f70, f71, f72, f75, trivial⟩ ⟨(hT.2.1 65), (hT.2.1 66), (hT.2.1 67), (hT.2.1 68), trivial⟩) (show (m.1 10) = 0 → (m.1 8) + (m.1 9) ≤ (m.1 6) by first | omega | (intro h9; have h8 := hLx h9; omega))) (fun r480 k481 => ?_)
    obtain ⟨y482, y484, y486, y488, y490, y492, g483, g485, g487, g489, g491, g493, h494, h495, h496, h497, rfl⟩ := k481
    refine ⟨_, _, rfl, ?_⟩
    refine T_nf (st' := []) (l' := [(7, y482), (8, y484), (9, y486), (10, y488), (11, y490), (12, y492), (28, (m.1 28)), (69, (m.1 69)), (70, (m.1 70)), (71, (m.1 71)), (72, (m.1 72)), (75, (m.1 75))]) (a' := [(65, (m.2 65)), (66, (m.2 66)), (67, (m.2 67)), (68, (m.2 68))]) rfl rfl rfl rfl rfl ?_
    by_cases hf498 : y488 = 0
    · skip
      subst hf498
      replace h494 : LxP y482 y484 y486 (m.1 6) 0 := h494
      have hLx := h494
      replace h495 : (m.1 10) = 0 := h495 rfl
      replace h496 : (m.1 8) ≤ y484 := h496
      replace h497 : (m.1 8) + (m.1 9) ≤ y484 := h497 rfl
      have u499 : (m.1 8) ≤ y484 := by omega
      clear g489
      refine T_goto 139 rfl (fun _ => rfl) ?_
      have hA : ar 403 = 0 := by first | (have e : 403 = 403 := by omega) | skip; first | (rw [show 403 = 403 by omega]; decide) | (rw [show 403 = 402 by omega]; decide) | (rw [show 403 = 401 by omega]; decide)
      have hAr : ar 403 ≤ h := by omega
      have hCk : CNk 403 (pq % 4) := by refine ⟨?_, ?_, ?_, ?_⟩ <;> omega
      refine T_ld 140 (.ref 189) rfl (fun _ => rfl) ?_
      refine T_ld 142 (.int (i32 403)) rfl (fun _ => rfl) ?_
      refine T_ld 144 (.int (i32 ((m.2 49) pq))) rfl (fun _ => rfl) ?_
      refine T_ld 146 (.int (i32 (pq % 4))) rfl (fun _ => rfl) ?_
      refine T_ld 147 (.long (i64 0)) rfl (fun _ => rfl) ?_
      refine T_call 150 248 [.ref 189, .int (i32 403), .int (i32 ((m.2 49) pq)), .int (i32 (pq % 4)), .long (i64 0)] [] rfl (fun _ => rfl) rfl (c_node w (mO m [(7, y482), (8, y484), (9, y486), (10, 0), (11, y490), (12, y492), (28, (m.1 28)), (69, (m.1 69)), (70, (m.1 70)), (71, (m.1 71)), (72, (m.1 72)), (75, (m.1 75))] [(65, (m.2 65)), (66, (m.2 66)), (67, (m.2 67)), (68, (m.2 68))]) c N D (by omega) (Ty_mO hT rfl rfl ⟨g483, g485, g487, ⟨(by omega : (0 : Int) ≤ 0), (by omega : (0 : Int) ≤ 8)⟩, g491, g493, f28, f69, f70, f71, f72, f75, trivial⟩ ⟨(hT.2.1 65), (hT.2.1 66), (hT.2.1 67), (hT.2.1 68), trivial⟩) 403 ((m.2 49) pq) (pq % 4) 0 ($B) h ⟨by decide, by decide⟩ (r32 (by omega) (by omega)) (r32 (by omega) (by omega)) ⟨by decide, by decide⟩ (fun _ => ⟨(show 0 ≤ 403 ∧ 403 ≤ 408 by first | omega | decide), (show 0 ≤ ((m.2 49) pq) ∧ ((m.2 49) pq) ≤ 64 by first | omega | decide), (show 0 ≤ (pq % 4) ∧ (pq % 4) ≤ 191 by first | omega | decide), (show CNk 403 (pq % 4) by first | exact hCk | (refine ⟨?_, ?_, ?_, ?_⟩ <;> omega)), (show ar 403 ≤ h by first | exact hAr | omega), (show EX (m.2 65) (m.2 67) ($B) (m.1 28) h by first | exact hEX | assumption)⟩)) (fun r500 k501 => ?_)
      obtain ⟨y502, y504, y506, F508, F510, F512, F514, g503, g505, g507, G509, G511, G513, G515, h516, c517, rfl⟩ := k501
      refine ⟨_, _, rfl, ?_⟩
      refine T_nf (st' := []) (l' := [(7, y482), (8, y484), (9, y486), (10, y502), (11, y504), (12, y492), (28, y506), (69, (m.1 69)), (70, (m.1 70)), (71, (m.1 71)), (72, (m.1 72)), (75, (m.1 75))]) (a' := [(65, F508), (66, F510), (67, F512), (68, F514)]) rfl rfl rfl rfl rfl ?_
      by_cases hf518 : y502 = 0
      · skip
        subst hf518
        replace h516 : 0 = 0 := h516 rfl
        obtain ⟨c519, c520, c521⟩ := c517 rfl
        replace c519 : y506 = (m.1 28) + 1 := c519
        replace c520 : EX F508 F512 ($B) y506 (h + 1 - ar 403) := c520
        have hEX := c520
        replace c521 : agr (m.2 65) F508 (m.1 28) := c521
        have hAg := c521
        have u522 : (m.1 8) ≤ y484 := by omega
        clear g491 g503
        refine T_ld 151 (.ref 189) rfl (fun _ => rfl) ?_
        refine T_ld 153 (.int (i32 ((m.2 49) pq))) rfl (fun _ => rfl) ?_
        refine T_ld 154 (.int (i32 p)) rfl (fun _ => rfl) ?_
        refine T_call 157 249 [.ref 189, .int (i32 ((m.2 49) pq)), .int (i32 p)] [] rfl (fun _ => rfl) rfl (c_atom w (mO m [(7, y482), (8, y484), (9, y486), (10, 0), (11, y504), (12, y492), (28, y506), (69, (m.1 69)), (70, (m.1 70)), (71, (m.1 71)), (72, (m.1 72)), (75, (m.1 75))] [(65, F508), (66, F510), (67, F512), (68, F514)]) c N D (by omega) (Ty_mO hT rfl rfl ⟨g483, g485, g487, ⟨(by omega : (0 : Int) ≤ 0), (by omega : (0 : Int) ≤ 8)⟩, g505, g493, g507, f69, f70, f71, f72, f75, trivial⟩ ⟨G509, G511, G513, G515, trivial⟩) ((m.2 49) pq) p (r32 (by omega) (by omega)) (r32 (by omega) (by omega)) (show 0 ≤ ((m.2 49) pq) ∧ ((m.2 49) pq) ≤ 64 by omega) (show 0 ≤ p ∧ p ≤ 4000 by omega)) (fun r523 k524 => ?_)
        obtain ⟨y525, y527, y529, y531, y533, g526, g528, g530, g532, g534, h535, rfl⟩ := k524
        refine ⟨_, _, rfl, ?_⟩
        refine T_nf (st' := []) (l' := [(7, y482), (8, y484), (9, y486), (10, 0), (11, y504), (12, y492), (28, y506), (69, y525), (70, y527), (71, y529), (72, y531), (75, y533)]) (a' := [(65, F508), (66, F510), (67, F512), (68, F514)]) rfl rfl rfl rfl rfl ?_
        replace h535 : 0 = 0 → y533 = 1 ∧ y525 = ((m.2 49) pq) := h535
        have u536 : (m.1 8) ≤ y484 := by omega
        refine T_ret rfl (fun _ => rfl) ?_
        exact ⟨y482, y484, y486, 0, y504, y492, y506, y525, y527, y529, y531, y533, F508, F510, F512, F514, g483, g485, g487, ⟨by omega, by omega⟩, g505, g493, g507, g526, g528, g530, g532, g534, G509, G511, G513, G515, (by omega), (by first | (first | exact hLx | (intro h9; exfalso; omega)) | (exfalso; omega)), (fun _ => ⟨(by omega), (by omega), (by omega), (by omega), (by first | (exact EX_w hEX (by omega)) | (exfalso; omega)), (by first | (exact hAg) | (exfalso; omega))⟩), rfl⟩
      · skip
        clear c517
        clear h516
        have hf537 : 1 ≤ y502 := by omega
        clear g491
        refine Tm_lv (a := [(0, .ref 189), (1, .int (i32 p)), (2, .int (i32 pq)), (3, .int (i32 so)), (4, .int (i32 ((m.2 49) pq))), (5, .int (i32 403)), (6, .int (i32 (pq % 4)))]) rfl rfl ⟨rfl, rfl, rfl, rfl, rfl, rfl, rfl, trivial⟩ ?_
        exact J150_87 pq so ((m.2 49) pq) 403 (pq % 4) y482 y484 y486 y502 y504 y492 y506 F508 F510 F512 F514 (r32 (by omega) (by omega)) (r32 (by omega) (by omega)) (r32 (by omega) (by omega)) ⟨by decide, by decide⟩ (r32 (by omega) (by omega)) g483 g485 g487 g503 g505 g493 g507 G509 G511 G513 G515 (by omega) (by omega) (by omega) (by omega) (by omega) (by omega) (by omega) (by omega)
    · skip
      replace h494 : LxP y482 y484 y486 (m.1 6) y488 := h494
      have hLx := h494
      clear h495
      replace h496 : (m.1 8) ≤ y484 := h496
      clear h497
      have hf538 : 1 ≤ y488 := by omega
      refine T_goto 139 rfl (fun _ => rfl) ?_
      refine T_ld 140 (.ref 189) rfl (fun _ => rfl) ?_
      refine T_ld 142 (.int (i32 403)) rfl (fun _ => rfl) ?_
      refine T_ld 144 (.int (i32 ((m.2 49) pq))) rfl (fun _ => rfl) ?_
      refine T_ld 146 (.int (i32 (pq % 4))) rfl (fun _ => rfl) ?_
      refine T_ld 147 (.long (i64 0)) rfl (fun _ => rfl) ?_
      refine T_call 150 248 [.ref 189, .int (i32 403), .int (i32 ((m.2 49) pq)), .int (i32 (pq % 4)), .long (i64 0)] [] rfl (fun _ => rfl) rfl (c_node w (mO m [(7, y482), (8, y484), (9, y486), (10, y488), (11, y490), (12, y492), (28, (m.1 28)), (69, (m.1 69)), (70, (m.1 70)), (71, (m.1 71)), (72, (m.1 72)), (75, (m.1 75))] [(65, (m.2 65)), (66, (m.2 66)), (67, (m.2 67)), (68, (m.2 68))]) c N D (by omega) (Ty_mO hT rfl rfl ⟨g483, g485, g487, g489, g491, g493, f28, f69, f70, f71, f72, f75, trivial⟩ ⟨(hT.2.1 65), (hT.2.1 66), (hT.2.1 67), (hT.2.1 68), trivial⟩) 403 ((m.2 49) pq) (pq % 4) 0 ($B) h ⟨by decide, by decide⟩ (r32 (by omega) (by omega)) (r32 (by omega) (by omega)) ⟨by decide, by decide⟩ (fun h => absurd h (by omega))) (fun r539 k540 => ?_)
      obtain ⟨y541, y543, y545, F547, F549, F551, F553, g542, g544, g546, G548, G550, G552, G554, h555, c556, rfl⟩ := k540
      refine ⟨_, _, rfl, ?_⟩
      refine T_nf (st' := []) (l' := [(7, y482), (8, y484), (9, y486), (10, y541), (11, y543), (12, y492), (28, y545), (69, (m.1 69)), (70, (m.1 70)), (71, (m.1 71)), (72, (m.1 72)), (75, (m.1 75))]) (a' := [(65, F547), (66, F549), (67, F551), (68, F553)]) rfl rfl rfl rfl rfl ?_
      replace h555 : y541 = 0 → y488 = 0 := h555
      have hf557 : 1 ≤ y541 := by omega
      clear c556
      clear h555
      clear g489 g491 h494 hf538
      refine Tm_lv (a := [(0, .ref 189), (1, .int (i32 p)), (2, .int (i32 pq)), (3, .int (i32 so)), (4, .int (i32 ((m.2 49) pq))), (5, .int (i32 403)), (6, .int (i32 (pq % 4)))]) rfl rfl ⟨rfl, rfl, rfl, rfl, rfl, rfl, rfl, trivial⟩ ?_
      exact J150_87 pq so ((m.2 49) pq) 403 (pq % 4) y482 y484 y486 y541 y543 y492 y545 F547 F549 F551 F553 (r32 (by omega) (by omega)) (r32 (by omega) (by omega)) (r32 (by omega) (by omega)) ⟨by decide, by decide⟩ (r32 (by omega) (by omega)) g483 g485 g487 g542 g544 g493 g546 G548 G550 G552 G554 (by omega) (by omega) (by omega) (by omega) (by omega) (by omega) (by omega) (by omega)
def Q_wantUnit (m : mR) (c : Nat → Option am_C) (N : Nat) (B : Int) : ag_Re af_T → Prop := fun R => ∃ (y7 : Int) (y8 : Int) (y9 : Int) (y10 : Int) (y11 : Int) (y12 : Int) (y28 : Int) (y69 : Int) (y70 : Int) (y71 : Int) (y72 : Int) (y73 : Int) (y74 : Int) (y75 : Int) (F65 : Int → Int) (F66 : Int → Int) (F67 : Int → Int) (F68 : Int → Int) (F76 : Int → Int) (F77 : Int → Int) (F78 : Int → Int) (F79 : Int → Int) (F80 : Int → Int), (0 ≤ y7 ∧ y7 ≤ 330) ∧ (0 ≤ y8 ∧ y8 ≤ 4000) ∧ (0 ≤ y9 ∧ y9 ≤ 4000) ∧ (0 ≤ y10 ∧ y10 ≤ 8) ∧ ((-1) ≤ y11 ∧ y11 ≤ 4000) ∧ ((-9223372036854775808) ≤ y12 ∧ y12 ≤ 9223372036854775807) ∧ (0 ≤ y28 ∧ y28 ≤ 800) ∧ (0 ≤ y69 ∧ y69 ≤ 1024) ∧ (0 ≤ y70 ∧ y70 ≤ 4000) ∧ (0 ≤ y71 ∧ y71 ≤ 1) ∧ ((-9223372036854775808) ≤ y72 ∧ y72 ≤ 9223372036854775807) ∧ (0 ≤ y73 ∧ y73 ≤ 60) ∧ (0 ≤ y74 ∧ y74 ≤ 24) ∧ (0 ≤ y75 ∧ y75 ≤ 3) ∧ (∀ j, 0 ≤ F65 j ∧ F65 j ≤ 408) ∧ (∀ j, 0 ≤ F66 j ∧ F66 j ≤ 64) ∧ (∀ j, 0 ≤ F67 j ∧ F67 j ≤ 191) ∧ (∀ j, (-9223372036854775808) ≤ F68 j ∧ F68 j ≤ 9223372036854775807) ∧ (∀ j, 0 ≤ F76 j ∧ F76 j ≤ 2) ∧ (∀ j, 0 ≤ F77 j ∧ F77 j ≤ 4000) ∧ (∀ j, 0 ≤ F78 j ∧ F78 j ≤ 330) ∧ (∀ j, 0 ≤ F79 j ∧ F79 j ≤ 2) ∧ (∀ j, (-1) ≤ F80 j ∧ F80 j ≤ 330) ∧ (y10 = 0 → (m.1 10) = 0) ∧ (LxP y7 y8 y9 (m.1 6) y10) ∧ (y10 = 0 → ((m.1 8) + 1 ≤ y8) ∧ (y75 = 0 ∨ (y75 = 1 ∧ y69 ≤ 64)) ∧ (1 ≤ y73) ∧ ((m.1 28) ≤ y28) ∧ (XS F65 F67 F76 F78 F79 F80 B y28 y73 y74 (um y75)) ∧ (agr (m.2 65) F65 (m.1 28))) ∧ R = (.inl (none), (mhp (mO m [(7, y7), (8, y8), (9, y9), (10, y10), (11, y11), (12, y12), (28, y28), (69, y69), (70, y70), (71, y71), (72, y72), (73, y73), (74, y74), (75, y75)] [(65, F65), (66, F66), (67, F67), (68, F68), (76, F76), (77, F77), (78, F78), (79, F79), (80, F80)]) c, N), 0, 0)
set_option maxHeartbeats 8000000 in
theorem c_wantUnit (w : wX) (m : mR) (c : Nat → Option am_C) (N D : Nat) (hD : 8 ≤ D) (hT : Ty m) (B : Int) (hLx0 : LxP (m.1 7) (m.1 8) (m.1 9) (m.1 6) (m.1 10)) (hNM0 : ∀ k, (m.2 14) k + (m.2 15) k ≤ 4000) (hFA0 : ∀ k, (m.2 31) k + (m.2 32) k ≤ 4000) (hPA0 : ∀ k, (m.2 47) k + (m.2 48) k ≤ 4000) (hf0 : m.1 10 = 0) (hC : (PN (m.1 13) (m.1 19) (m.1 20) (m.1 21) (m.1 22) (m.1 23) (m.1 25) (m.1 26) (m.2 16) (m.2 17)) ∧ (XS (m.2 65) (m.2 67) (m.2 76) (m.2 78) (m.2 79) (m.2 80) B (m.1 28) (m.1 73) (m.1 74) 0) ∧ (1 ≤ (m.1 73)) ∧ ((m.1 75) = 0)) : TC w D 247 [.ref 189] (mhp m c, N) (Q_wantUnit m c N B) := by
  obtain ⟨D, rfl⟩ : ∃ k, D = k + 1 := ⟨D - 1, by omega⟩
  have hLx := hLx0
  have hNM := hNM0
  have hFA := hFA0
  have hPA := hPA0
  have f7 : 0 ≤ m.1 7 ∧ m.1 7 ≤ 330 := hT.1 7
  have f8 : 0 ≤ m.1 8 ∧ m.1 8 ≤ 4000 := hT.1 8
  have f9 : 0 ≤ m.1 9 ∧ m.1 9 ≤ 4000 := hT.1 9
  have f10 : 0 ≤ m.1 10 ∧ m.1 10 ≤ 8 := hT.1 10
  have f11 : (-1) ≤ m.1 11 ∧ m.1 11 ≤ 4000 := hT.1 11
  have f12 : (-9223372036854775808) ≤ m.1 12 ∧ m.1 12 ≤ 9223372036854775807 := hT.1 12
  have f28 : 0 ≤ m.1 28 ∧ m.1 28 ≤ 800 := hT.1 28
  have f69 : 0 ≤ m.1 69 ∧ m.1 69 ≤ 1024 := hT.1 69
  have f70 : 0 ≤ m.1 70 ∧ m.1 70 ≤ 4000 := hT.1 70
  have f71 : 0 ≤ m.1 71 ∧ m.1 71 ≤ 1 := hT.1 71
  have f72 : (-9223372036854775808) ≤ m.1 72 ∧ m.1 72 ≤ 9223372036854775807 := hT.1 72
  have f73 : 0 ≤ m.1 73 ∧ m.1 73 ≤ 60 := hT.1 73
  have f74 : 0 ≤ m.1 74 ∧ m.1 74 ≤ 24 := hT.1 74
  have f75 : 0 ≤ m.1 75 ∧ m.1 75 ≤ 3 := hT.1 75
  have f25 : 0 ≤ m.1 25 ∧ m.1 25 ≤ 16 := hT.1 25
  have f22 : 0 ≤ m.1 22 ∧ m.1 22 ≤ 8 := hT.1 22
  have f19 : 0 ≤ m.1 19 ∧ m.1 19 ≤ 12 := hT.1 19
  have f20 : 0 ≤ m.1 20 ∧ m.1 20 ≤ 12 := hT.1 20
  have f21 : 0 ≤ m.1 21 ∧ m.1 21 ≤ 16 := hT.1 21
  have f13 : 0 ≤ m.1 13 ∧ m.1 13 ≤ 120 := hT.1 13
  have f6 : 0 ≤ m.1 6 ∧ m.1 6 ≤ 4000 := hT.1 6
  have f23 : 0 ≤ m.1 23 ∧ m.1 23 ≤ 16 := hT.1 23
  have f26 : 0 ≤ m.1 26 ∧ m.1 26 ≤ 8 := hT.1 26
  refine Tc_of rfl ?_
  show TT w D pm_247 (0, [(0, .ref 189)], [], (mhp m c, N), 0, 0) (Q_wantUnit m c N B)
  rw [show (mhp m c, N) = (mhp (mO m [(7, (m.1 7)), (8, (m.1 8)), (9, (m.1 9)), (10, (m.1 10)), (11, (m.1 11)), (12, (m.1 12)), (28, (m.1 28)), (69, (m.1 69)), (70, (m.1 70)), (71, (m.1 71)), (72, (m.1 72)), (73, (m.1 73)), (74, (m.1 74)), (75, (m.1 75))] [(65, (m.2 65)), (66, (m.2 66)), (67, (m.2 67)), (68, (m.2 68)), (76, (m.2 76)), (77, (m.2 77)), (78, (m.2 78)), (79, (m.2 79)), (80, (m.2 80))]) c, N) from congrArg (fun M => (mhp M c, N)) (mO_pad m [7, 8, 9, 10, 11, 12, 28, 69, 70, 71, 72, 73, 74, 75] [65, 66, 67, 68, 76, 77, 78, 79, 80])]
  obtain ⟨pPN, hXS, c1, c2⟩ := hC
  have hb := OS_hi hXS.1.2
  have hEX := hXS.1.1
  have hl0 : 0 ≤ lh (m.2 79) (m.2 80) (m.1 73) := lh_0 (hT.2.1 79) _ _
  have J212_117 : ∀ (y103 : Int) (y104 : Int) (y105 : Int) (y106 : Int) (y107 : Int) (y108 : Int) (y109 : Int) (y110 : Int) (y111 : Int) (F112 : Int → Int) (F113 : Int → Int) (F114 : Int → Int) (F115 : Int → Int) (F116 : Int → Int), (0 ≤ y103 ∧ y103 ≤ 330) → (0 ≤ y104 ∧ y104 ≤ 4000) → (0 ≤ y105 ∧ y105 ≤ 4000) → (0 ≤ y106 ∧ y106 ≤ 8) → ((-1) ≤ y107 ∧ y107 ≤ 4000) → ((-9223372036854775808) ≤ y108 ∧ y108 ≤ 9223372036854775807) → (0 ≤ y109 ∧ y109 ≤ 60) → (0 ≤ y110 ∧ y110 ≤ 24) → (0 ≤ y111 ∧ y111 ≤ 3) → (∀ j, 0 ≤ F112 j ∧ F112 j ≤ 2) → (∀ j, 0 ≤ F113 j ∧ F113 j ≤ 4000) → (∀ j, 0 ≤ F114 j ∧ F114 j ≤ 330) → (∀ j, 0 ≤ F115 j ∧ F115 j ≤ 2) → (∀ j, (-1) ≤ F116 j ∧ F116 j ≤ 330) → (1 ≤ y106) → (y106 ≤ 8) → TT w D pm_247 (212, [(0, .ref 189), (1, .int (i32 (m.1 8)))], [], (mhp (mO m [(7, y103), (8, y104), (9, y105), (10, y106), (11, y107), (12, y108), (28, (m.1 28)), (69, (m.1 69)), (70, (m.1 70)), (71, (m.1 71)), (72, (m.1 72)), (73, y109), (74, y110), (75, y111)] [(65, (m.2 65)), (66, (m.2 66)), (67, (m.2 67)), (68, (m.2 68)), (76, F112), (77, F113), (78, F114), (79, F115), (80, F116)]) c, N), 0, 0) (Q_wantUnit m c N B) := by
    intro y103 y104 y105 y106 y107 y108 y109 y110 y111 F112 F113 F114 F115 F116 q118 q119 q120 q121 q122 q123 q124 q125 q126 q127 q128 q129 q130 q131 i132 i133
    refine T_goto 219 rfl (fun _ => rfl) ?_
    refine T_ret rfl (fun _ => rfl) ?_
    exact ⟨y103, y104, y105, y106, y107, y108, (m.1 28), (m.1 69), (m.1 70), (m.1 71), (m.1 72), y109, y110, y111, (m.2 65), (m.2 66), (m.2 67), (m.2 68), F112, F113, F114, F115, F116, q118, q119, q120, q121, q122, q123, f28, f69, f70, f71, f72, q124, q125, q126, (hT.2.1 65), (hT.2.1 66), (hT.2.1 67), (hT.2.1 68), q127, q128, q129, q130, q131, (by omega), (by first | (first | exact hLx | (intro h9; exfalso; omega)) | (exfalso; omega)), (fun h => absurd h (by omega)), rfl⟩
  have J179_147 : ∀ (v135 : Int) (y136 : Int) (y137 : Int) (y138 : Int) (y139 : Int) (y140 : Int) (y141 : Int) (y142 : Int) (F143 : Int → Int) (F144 : Int → Int) (F145 : Int → Int) (F146 : Int → Int), (R32 v135) → (0 ≤ y136 ∧ y136 ≤ 330) → (0 ≤ y137 ∧ y137 ≤ 4000) → (0 ≤ y138 ∧ y138 ≤ 4000) → (0 ≤ y139 ∧ y139 ≤ 8) → ((-1) ≤ y140 ∧ y140 ≤ 4000) → ((-9223372036854775808) ≤ y141 ∧ y141 ≤ 9223372036854775807) → (0 ≤ y142 ∧ y142 ≤ 800) → (∀ j, 0 ≤ F143 j ∧ F143 j ≤ 408) → (∀ j, 0 ≤ F144 j ∧ F144 j ≤ 64) → (∀ j, 0 ≤ F145 j ∧ F145 j ≤ 191) → (∀ j, (-9223372036854775808) ≤ F146 j ∧ F146 j ≤ 9223372036854775807) → (1 ≤ y139) → (y139 ≤ 8) → TT w D pm_247 (179, [(0, .ref 189), (1, .int (i32 (m.1 8))), (2, .int (i32 v135))], [], (mhp (mO m [(7, y136), (8, y137), (9, y138), (10, y139), (11, y140), (12, y141), (28, y142), (69, (m.1 69)), (70, (m.1 70)), (71, (m.1 71)), (72, (m.1 72)), (73, (m.1 73)), (74, (m.1 74)), (75, (m.1 75))] [(65, F143), (66, F144), (67, F145), (68, F146), (76, (m.2 76)), (77, (m.2 77)), (78, (m.2 78)), (79, (m.2 79)), (80, (m.2 80))]) c, N), 0, 0) (Q_wantUnit m c N B) := by
    intro v135 y136 y137 y138 y139 y140 y141 y142 F143 F144 F145 F146 q148 q149 q150 q151 q152 q153 q154 q155 q156 q157 q158 q159 i160 i161
    obtain ⟨q148a, q148b⟩ := id q148
    refine T_ld 180 (.ref 189) rfl (fun _ => rfl) ?_
    refine T_ld 181 (.int (i32 1)) rfl (fun _ => rfl) ?_
    refine T_ld 182 (.int (i32 (m.1 8))) rfl (fun _ => rfl) ?_
    refine T_call 185 249 [.ref 189, .int (i32 1), .int (i32 (m.1 8))] [] rfl (fun _ => rfl) rfl (c_atom w (mO m [(7, y136), (8, y137), (9, y138), (10, y139), (11, y140), (12, y141), (28, y142), (69, (m.1 69)), (70, (m.1 70)), (71, (m.1 71)), (72, (m.1 72)), (73, (m.1 73)), (74, (m.1 74)), (75, (m.1 75))] [(65, F143), (66, F144), (67, F145), (68, F146), (76, (m.2 76)), (77, (m.2 77)), (78, (m.2 78)), (79, (m.2 79)), (80, (m.2 80))]) c N D (by omega) (Ty_mO hT rfl rfl ⟨q149, q150, q151, q152, q153, q154, q155, f69, f70, f71, f72, f73, f74, f75, trivial⟩ ⟨q156, q157, q158, q159, (hT.2.1 76), (hT.2.1 77), (hT.2.1 78), (hT.2.1 79), (hT.2.1 80), trivial⟩) 1 (m.1 8) ⟨by decide, by decide⟩ (r32 (by omega) (by omega)) (show 0 ≤ 1 ∧ 1 ≤ 64 by omega) (show 0 ≤ (m.1 8) ∧ (m.1 8) ≤ 4000 by omega)) (fun r163 k164 => ?_)
    obtain ⟨y165, y167, y169, y171, y173, g166, g168, g170, g172, g174, h175, rfl⟩ := k164
    refine ⟨_, _, rfl, ?_⟩
    refine T_nf (st' := []) (l' := [(7, y136), (8, y137), (9, y138), (10, y139), (11, y140), (12, y141), (28, y142), (69, y165), (70, y167), (71, y169), (72, y171), (73, (m.1 73)), (74, (m.1 74)), (75, y173)]) (a' := [(65, F143), (66, F144), (67, F145), (68, F146), (76, (m.2 76)), (77, (m.2 77)), (78, (m.2 78)), (79, (m.2 79)), (80, (m.2 80))]) rfl rfl rfl rfl rfl ?_
    replace h175 : y139 = 0 → y173 = 1 ∧ y165 = 1 := h175
    refine T_goto 219 rfl (fun _ => rfl) ?_
    refine T_ret rfl (fun _ => rfl) ?_
    exact ⟨y136, y137, y138, y139, y140, y141, y142, y165, y167, y169, y171, (m.1 73), (m.1 74), y173, F143, F144, F145, F146, (m.2 76), (m.2 77), (m.2 78), (m.2 79), (m.2 80), q149, q150, q151, q152, q153, q154, q155, g166, g168, g170, g172, f73, f74, g174, q156, q157, q158, q159, (hT.2.1 76), (hT.2.1 77), (hT.2.1 78), (hT.2.1 79), (hT.2.1 80), (by omega), (by first | (first | exact hLx | (intro h9; exfalso; omega)) | (exfalso; omega)), (fun h => absurd h (by omega)), rfl⟩
  have J168_183 : ∀ (s176 : Int) (y177 : Int) (y178 : Int) (y179 : Int) (y180 : Int) (y181 : Int) (y182 : Int), (R32 s176) → (0 ≤ y177 ∧ y177 ≤ 330) → (0 ≤ y178 ∧ y178 ≤ 4000) → (0 ≤ y179 ∧ y179 ≤ 4000) → (0 ≤ y180 ∧ y180 ≤ 8) → ((-1) ≤ y181 ∧ y181 ≤ 4000) → ((-9223372036854775808) ≤ y182 ∧ y182 ≤ 9223372036854775807) → (1 ≤ y180) → (y180 ≤ 8) → TT w D pm_247 (168, [(0, .ref 189), (1, .int (i32 (m.1 8)))], [.int (i32 s176)], (mhp (mO m [(7, y177), (8, y178), (9, y179), (10, y180), (11, y181), (12, y182), (28, (m.1 28)), (69, (m.1 69)), (70, (m.1 70)), (71, (m.1 71)), (72, (m.1 72)), (73, (m.1 73)), (74, (m.1 74)), (75, (m.1 75))] [(65, (m.2 65)), (66, (m.2 66)), (67, (m.2 67)), (68, (m.2 68)), (76, (m.2 76)), (77, (m.2 77)), (78, (m.2 78)), (79, (m.2 79)), (80, (m.2 80))]) c, N), 0, 0) (Q_wantUnit m c N B) := by
    intro s176 y177 y178 y179 y180 y181 y182 q184 q185 q186 q187 q188 q189 q190 i191 i192
    obtain ⟨q184a, q184b⟩ := id q184
    refine T_sto 169 [(2, .int (i32 s176)), (0, .ref 189), (1, .int (i32 (m.1 8)))] rfl (fun _ => rfl) ?_
    refine T_ld 170 (.ref 189) rfl (fun _ => rfl) ?_
    refine T_ld 173 (.int (i32 404)) rfl (fun _ => rfl) ?_
    refine T_ld 174 (.int (i32 1)) rfl (fun _ => rfl) ?_
    refine T_ld 175 (.int (i32 s176)) rfl (fun _ => rfl) ?_
    refine T_ld 176 (.long (i64 0)) rfl (fun _ => rfl) ?_
    refine T_call 179 248 [.ref 189, .int (i32 404), .int (i32 1), .int (i32 s176), .long (i64 0)] [] rfl (fun _ => rfl) rfl (c_node w (mO m [(7, y177), (8, y178), (9, y179), (10, y180), (11, y181), (12, y182), (28, (m.1 28)), (69, (m.1 69)), (70, (m.1 70)), (71, (m.1 71)), (72, (m.1 72)), (73, (m.1 73)), (74, (m.1 74)), (75, (m.1 75))] [(65, (m.2 65)), (66, (m.2 66)), (67, (m.2 67)), (68, (m.2 68)), (76, (m.2 76)), (77, (m.2 77)), (78, (m.2 78)), (79, (m.2 79)), (80, (m.2 80))]) c N D (by omega) (Ty_mO hT rfl rfl ⟨q185, q186, q187, q188, q189, q190, f28, f69, f70, f71, f72, f73, f74, f75, trivial⟩ ⟨(hT.2.1 65), (hT.2.1 66), (hT.2.1 67), (hT.2.1 68), (hT.2.1 76), (hT.2.1 77), (hT.2.1 78), (hT.2.1 79), (hT.2.1 80), trivial⟩) 404 1 s176 0 ($B) (0 + lh (m.2 79) (m.2 80) (m.1 73)) ⟨by decide, by decide⟩ ⟨by decide, by decide⟩ (r32 (by omega) (by omega)) ⟨by decide, by decide⟩ (fun h => absurd h (by omega))) (fun r194 k195 => ?_)
    obtain ⟨y196, y198, y200, F202, F204, F206, F208, g197, g199, g201, G203, G205, G207, G209, h210, c211, rfl⟩ := k195
    refine ⟨_, _, rfl, ?_⟩
    refine T_nf (st' := []) (l' := [(7, y177), (8, y178), (9, y179), (10, y196), (11, y198), (12, y182), (28, y200), (69, (m.1 69)), (70, (m.1 70)), (71, (m.1 71)), (72, (m.1 72)), (73, (m.1 73)), (74, (m.1 74)), (75, (m.1 75))]) (a' := [(65, F202), (66, F204), (67, F206), (68, F208), (76, (m.2 76)), (77, (m.2 77)), (78, (m.2 78)), (79, (m.2 79)), (80, (m.2 80))]) rfl rfl rfl rfl rfl ?_
    replace h210 : y196 = 0 → y180 = 0 := h210
    have hf212 : 1 ≤ y196 := by omega
    clear c211
    clear h210
    clear q188 q189 i191 i192
    refine Tm_lv (a := [(0, .ref 189), (1, .int (i32 (m.1 8))), (2, .int (i32 s176))]) rfl rfl ⟨rfl, rfl, rfl, trivial⟩ ?_
    exact J179_147 s176 y177 y178 y179 y196 y198 y182 y200 F202 F204 F206 F208 (r32 (by omega) (by omega)) q185 q186 q187 g197 g199 q190 g201 G203 G205 G207 G209 (by omega) (by omega)
  have J113_224 : ∀ (y213 : Int) (y214 : Int) (y215 : Int) (y216 : Int) (y217 : Int) (y218 : Int) (y219 : Int) (F220 : Int → Int) (F221 : Int → Int) (F222 : Int → Int) (F223 : Int → Int), (0 ≤ y213 ∧ y213 ≤ 330) → (0 ≤ y214 ∧ y214 ≤ 4000) → (0 ≤ y215 ∧ y215 ≤ 4000) → (0 ≤ y216 ∧ y216 ≤ 8) → ((-1) ≤ y217 ∧ y217 ≤ 4000) → ((-9223372036854775808) ≤ y218 ∧ y218 ≤ 9223372036854775807) → (0 ≤ y219 ∧ y219 ≤ 800) → (∀ j, 0 ≤ F220 j ∧ F220 j ≤ 408) → (∀ j, 0 ≤ F221 j ∧ F221 j ≤ 64) → (∀ j, 0 ≤ F222 j ∧ F222 j ≤ 191) → (∀ j, (-9223372036854775808) ≤ F223 j ∧ F223 j ≤ 9223372036854775807) → (1 ≤ y216) → (y216 ≤ 8) → TT w D pm_247 (113, [(0, .ref 189), (1, .int (i32 (m.1 8))), (2, .long (i64 (m.1 12)))], [], (mhp (mO m [(7, y213), (8, y214), (9, y215), (10, y216), (11, y217), (12, y218), (28, y219), (69, (m.1 69)), (70, (m.1 70)), (71, (m.1 71)), (72, (m.1 72)), (73, (m.1 73)), (74, (m.1 74)), (75, (m.1 75))] [(65, F220), (66, F221), (67, F222), (68, F223), (76, (m.2 76)), (77, (m.2 77)), (78, (m.2 78)), (79, (m.2 79)), (80, (m.2 80))]) c, N), 0, 0) (Q_wantUnit m c N B) := by
    intro y213 y214 y215 y216 y217 y218 y219 F220 F221 F222 F223 q225 q226 q227 q228 q229 q230 q231 q232 q233 q234 q235 i236 i237
    refine T_ld 114 (.ref 189) rfl (fun _ => rfl) ?_
    refine T_ld 116 (.int (i32 64)) rfl (fun _ => rfl) ?_
    refine T_ld 117 (.int (i32 (m.1 8))) rfl (fun _ => rfl) ?_
    refine T_call 120 249 [.ref 189, .int (i32 64), .int (i32 (m.1 8))] [] rfl (fun _ => rfl) rfl (c_atom w (mO m [(7, y213), (8, y214), (9, y215), (10, y216), (11, y217), (12, y218), (28, y219), (69, (m.1 69)), (70, (m.1 70)), (71, (m.1 71)), (72, (m.1 72)), (73, (m.1 73)), (74, (m.1 74)), (75, (m.1 75))] [(65, F220), (66, F221), (67, F222), (68, F223), (76, (m.2 76)), (77, (m.2 77)), (78, (m.2 78)), (79, (m.2 79)), (80, (m.2 80))]) c N D (by omega) (Ty_mO hT rfl rfl ⟨q225, q226, q227, q228, q229, q230, q231, f69, f70, f71, f72, f73, f74, f75, trivial⟩ ⟨q232, q233, q234, q235, (hT.2.1 76), (hT.2.1 77), (hT.2.1 78), (hT.2.1 79), (hT.2.1 80), trivial⟩) 64 (m.1 8) ⟨by decide, by decide⟩ (r32 (by omega) (by omega)) (show 0 ≤ 64 ∧ 64 ≤ 64 by omega) (show 0 ≤ (m.1 8) ∧ (m.1 8) ≤ 4000 by omega)) (fun r239 k240 => ?_)
    obtain ⟨y241, y243, y245, y247, y249, g242, g244, g246, g248, g250, h251, rfl⟩ := k240
    refine ⟨_, _, rfl, ?_⟩
    refine T_nf (st' := []) (l' := [(7, y213), (8, y214), (9, y215), (10, y216), (11, y217), (12, y218), (28, y219), (69, y241), (70, y243), (71, y245), (72, y247), (73, (m.1 73)), (74, (m.1 74)), (75, y249)]) (a' := [(65, F220), (66, F221), (67, F222), (68, F223), (76, (m.2 76)), (77, (m.2 77)), (78, (m.2 78)), (79, (m.2 79)), (80, (m.2 80))]) rfl rfl rfl rfl rfl ?_
    replace h251 : y216 = 0 → y249 = 1 ∧ y241 = 64 := h251
    refine T_ld 121 (.ref 189) rfl (fun _ => rfl) ?_
    refine T_ld 122 (.int (i32 1)) rfl (fun _ => rfl) ?_
    refine T_pf (l' := [(7, y213), (8, y214), (9, y215), (10, y216), (11, y217), (12, y218), (28, y219), (69, y241), (70, y243), (71, 1), (72, y247), (73, (m.1 73)), (74, (m.1 74)), (75, y249)]) 125 1 rfl rfl rfl rfl rfl rfl ?_
    refine T_ld 126 (.ref 189) rfl (fun _ => rfl) ?_
    refine T_ld 127 (.long (i64 (m.1 12))) rfl (fun _ => rfl) ?_
    refine T_pf (l' := [(7, y213), (8, y214), (9, y215), (10, y216), (11, y217), (12, y218), (28, y219), (69, y241), (70, y243), (71, 1), (72, (m.1 12)), (73, (m.1 73)), (74, (m.1 74)), (75, y249)]) 130 (m.1 12) rfl rfl rfl rfl rfl rfl ?_
    have g252 : (-9223372036854775808) ≤ (m.1 12) ∧ (m.1 12) ≤ 9223372036854775807 := ⟨by omega, by omega⟩
    refine T_goto 219 rfl (fun _ => rfl) ?_
    refine T_ret rfl (fun _ => rfl) ?_
    exact ⟨y213, y214, y215, y216, y217, y218, y219, y241, y243, 1, (m.1 12), (m.1 73), (m.1 74), y249, F220, F221, F222, F223, (m.2 76), (m.2 77), (m.2 78), (m.2 79), (m.2 80), q225, q226, q227, q228, q229, q230, q231, g242, g244, ⟨by omega, by omega⟩, g252, f73, f74, g250, q232, q233, q234, q235, (hT.2.1 76), (hT.2.1 77), (hT.2.1 78), (hT.2.1 79), (hT.2.1 80), (by omega), (by first | (first | exact hLx | (intro h9; exfalso; omega)) | (exfalso; omega)), (fun h => absurd h (by omega)), rfl⟩
  have J82_265 : ∀ (y253 : Int) (y254 : Int) (y255 : Int) (y256 : Int) (y257 : Int) (y258 : Int) (y259 : Int) (F260 : Int → Int) (F261 : Int → Int) (F262 : Int → Int) (F263 : Int → Int) (F264 : Int → Int), (0 ≤ y253 ∧ y253 ≤ 330) → (0 ≤ y254 ∧ y254 ≤ 4000) → (0 ≤ y255 ∧ y255 ≤ 4000) → (0 ≤ y256 ∧ y256 ≤ 8) → ((-1) ≤ y257 ∧ y257 ≤ 4000) → ((-9223372036854775808) ≤ y258 ∧ y258 ≤ 9223372036854775807) → (0 ≤ y259 ∧ y259 ≤ 60) → (∀ j, 0 ≤ F260 j ∧ F260 j ≤ 2) → (∀ j, 0 ≤ F261 j ∧ F261 j ≤ 4000) → (∀ j, 0 ≤ F262 j ∧ F262 j ≤ 330) → (∀ j, 0 ≤ F263 j ∧ F263 j ≤ 2) → (∀ j, (-1) ≤ F264 j ∧ F264 j ≤ 330) → (1 ≤ y256) → (y256 ≤ 8) → TT w D pm_247 (82, [(0, .ref 189), (1, .int (i32 (m.1 8)))], [], (mhp (mO m [(7, y253), (8, y254), (9, y255), (10, y256), (11, y257), (12, y258), (28, (m.1 28)), (69, (m.1 69)), (70, (m.1 70)), (71, (m.1 71)), (72, (m.1 72)), (73, y259), (74, (m.1 74) + 1), (75, (m.1 75))] [(65, (m.2 65)), (66, (m.2 66)), (67, (m.2 67)), (68, (m.2 68)), (76, F260), (77, F261), (78, F262), (79, F263), (80, F264)]) c, N), 0, 0) (Q_wantUnit m c N B) := by
    intro y253 y254 y255 y256 y257 y258 y259 F260 F261 F262 F263 F264 q266 q267 q268 q269 q270 q271 q272 q273 q274 q275 q276 q277 i278 i279
    refine T_goto 219 rfl (fun _ => rfl) ?_
    refine T_ret rfl (fun _ => rfl) ?_
    exact ⟨y253, y254, y255, y256, y257, y258, (m.1 28), (m.1 69), (m.1 70), (m.1 71), (m.1 72), y259, (m.1 74) + 1, (m.1 75), (m.2 65), (m.2 66), (m.2 67), (m.2 68), F260, F261, F262, F263, F264, q266, q267, q268, q269, q270, q271, f28, f69, f70, f71, f72, q272, ⟨by omega, by omega⟩, f75, (hT.2.1 65), (hT.2.1 66), (hT.2.1 67), (hT.2.1 68), q273, q274, q275, q276, q277, (by omega), (by first | (first | exact hLx | (intro h9; exfalso; omega)) | (exfalso; omega)), (fun h => absurd h (by omega)), rfl⟩
  have J50_283 : ∀ (y281 : Int) (y282 : Int), (0 ≤ y281 ∧ y281 ≤ 8) → ((-1) ≤ y282 ∧ y282 ≤ 4000) → (1 ≤ y281) → (y281 ≤ 8) → TT w D pm_247 (50, [(0, .ref 189), (1, .int (i32 (m.1 8)))], [], (mhp (mO m [(7, (m.1 7)), (8, (m.1 8)), (9, (m.1 9)), (10, y281), (11, y282), (12, (m.1 12)), (28, (m.1 28)), (69, (m.1 69)), (70, (m.1 70)), (71, (m.1 71)), (72, (m.1 72)), (73, (m.1 73)), (74, (m.1 74)), (75, (m.1 75))] [(65, (m.2 65)), (66, (m.2 66)), (67, (m.2 67)), (68, (m.2 68)), (76, (m.2 76)), (77, (m.2 77)), (78, (m.2 78)), (79, (m.2 79)), (80, (m.2 80))]) c, N), 0, 0) (Q_wantUnit m c N B) := by
    intro y281 y282 q284 q285 i286 i287
    refine T_gf 54 (.int (i32 y281)) rfl rfl rfl rfl rfl rfl ?_
    refine T_if 58 57 rfl rfl rfl (r32 (by omega) (by omega)) (fun (h289 : y281 ≤ 0) => by exfalso; omega) (fun (h289 : ¬ (y281 ≤ 0)) => ?_)
    refine T_ret rfl (fun _ => rfl) ?_
    exact ⟨(m.1 7), (m.1 8), (m.1 9), y281, y282, (m.1 12), (m.1 28), (m.1 69), (m.1 70), (m.1 71), (m.1 72), (m.1 73), (m.1 74), (m.1 75), (m.2 65), (m.2 66), (m.2 67), (m.2 68), (m.2 76), (m.2 77), (m.2 78), (m.2 79), (m.2 80), f7, f8, f9, q284, q285, f12, f28, f69, f70, f71, f72, f73, f74, f75, (hT.2.1 65), (hT.2.1 66), (hT.2.1 67), (hT.2.1 68), (hT.2.1 76), (hT.2.1 77), (hT.2.1 78), (hT.2.1 79), (hT.2.1 80), (by omega), (by first | (first | exact hLx | (intro h9; exfalso; omega)) | (exfalso; omega)), (fun h => absurd h (by omega)), rfl⟩
  refine T_gf 4 (.int (i32 (m.1 8))) rfl rfl rfl rfl rfl rfl ?_
  refine T_sto 5 [(1, .int (i32 (m.1 8))), (0, .ref 189)] rfl (fun _ => rfl) ?_
  refine T_gf 9 (.int (i32 (m.1 7))) rfl rfl rfl rfl rfl rfl ?_
  refine T_ld 11 (.int (i32 126)) rfl (fun _ => rfl) ?_
  refine T_icmp 32 14 rfl rfl rfl (r32 (by omega) (by omega)) ⟨by decide, by decide⟩ (fun (h290 : (m.1 7) = 126) => ?_) (fun (h290 : ¬ ((m.1 7) = 126)) => ?_)
  · skip
    refine T_gf 36 (.int (i32 (m.1 74))) rfl rfl rfl rfl rfl rfl ?_
    refine T_ld 38 (.int (i32 24)) rfl (fun _ => rfl) ?_
    refine T_icmp 50 41 rfl rfl rfl (r32 (by omega) (by omega)) ⟨by decide, by decide⟩ (fun (h291 : (m.1 74) ≠ 24) => ?_) (fun (h291 : ¬ ((m.1 74) ≠ 24)) => ?_)
    · skip
      refine T_gf 54 (.int (i32 (m.1 10))) rfl rfl rfl rfl rfl rfl ?_
      refine T_if 58 57 rfl rfl rfl (r32 (by omega) (by omega)) (fun (h292 : (m.1 10) ≤ 0) => ?_) (fun (h292 : ¬ ((m.1 10) ≤ 0)) => by exfalso; omega)
      refine T_ld 59 (.ref 189) rfl (fun _ => rfl) ?_
      refine T_ld 60 (.ref 189) rfl (fun _ => rfl) ?_
      refine T_gf1 63 (.int (i32 (m.1 74))) rfl rfl rfl rfl ?_
      refine T_ld 64 (.int (i32 1)) rfl (fun _ => rfl) ?_
      refine T_iadd 65 rfl rfl ?_
      refine T_pf (l' := [(7, (m.1 7)), (8, (m.1 8)), (9, (m.1 9)), (10, (m.1 10)), (11, (m.1 11)), (12, (m.1 12)), (28, (m.1 28)), (69, (m.1 69)), (70, (m.1 70)), (71, (m.1 71)), (72, (m.1 72)), (73, (m.1 73)), (74, (m.1 74) + 1), (75, (m.1 75))]) 68 ((m.1 74) + 1) rfl rfl rfl rfl rfl rfl ?_
      have g293 : 0 ≤ (m.1 74) + 1 ∧ (m.1 74) + 1 ≤ 24 := ⟨by omega, by omega⟩
      refine T_ld 69 (.ref 189) rfl (fun _ => rfl) ?_
      refine T_ld 70 (.int (i32 1)) rfl (fun _ => rfl) ?_
      refine T_ld 71 (.int (i32 (m.1 8))) rfl (fun _ => rfl) ?_
      refine T_gf 75 (.int (i32 (m.1 7))) rfl rfl rfl rfl rfl rfl ?_
      refine T_call 78 246 [.ref 189, .int (i32 1), .int (i32 (m.1 8)), .int (i32 (m.1 7))] [] rfl (fun _ => rfl) rfl (c_open w (mO m [(7, (m.1 7)), (8, (m.1 8)), (9, (m.1 9)), (10, (m.1 10)), (11, (m.1 11)), (12, (m.1 12)), (28, (m.1 28)), (69, (m.1 69)), (70, (m.1 70)), (71, (m.1 71)), (72, (m.1 72)), (73, (m.1 73)), (74, (m.1 74) + 1), (75, (m.1 75))] [(65, (m.2 65)), (66, (m.2 66)), (67, (m.2 67)), (68, (m.2 68)), (76, (m.2 76)), (77, (m.2 77)), (78, (m.2 78)), (79, (m.2 79)), (80, (m.2 80))]) c N D (by omega) (Ty_mO hT rfl rfl ⟨f7, f8, f9, f10, f11, f12, f28, f69, f70, f71, f72, f73, g293, f75, trivial⟩ ⟨(hT.2.1 65), (hT.2.1 66), (hT.2.1 67), (hT.2.1 68), (hT.2.1 76), (hT.2.1 77), (hT.2.1 78), (hT.2.1 79), (hT.2.1 80), trivial⟩) 1 (m.1 8) (m.1 7) ⟨by decide, by decide⟩ (r32 (by omega) (by omega)) (r32 (by omega) (by omega)) (show (m.1 73) ≤ 59 by omega) (show 0 ≤ 1 ∧ 1 ≤ 2 by omega) (show 0 ≤ (m.1 8) ∧ (m.1 8) ≤ 4000 by omega) (show 0 ≤ (m.1 7) ∧ (m.1 7) ≤ 330 by omega)) (fun r294 k295 => ?_)
      obtain ⟨y296, F298, F300, F302, F304, F306, g297, G299, G301, G303, G305, G307, h308, h309, h310, h311, h312, h313, rfl⟩ := k295
      refine ⟨_, _, rfl, ?_⟩
      refine T_nf (st' := []) (l' := [(7, (m.1 7)), (8, (m.1 8)), (9, (m.1 9)), (10, (m.1 10)), (11, (m.1 11)), (12, (m.1 12)), (28, (m.1 28)), (69, (m.1 69)), (70, (m.1 70)), (71, (m.1 71)), (72, (m.1 72)), (73, y296), (74, (m.1 74) + 1), (75, (m.1 75))]) (a' := [(65, (m.2 65)), (66, (m.2 66)), (67, (m.2 67)), (68, (m.2 68)), (76, F298), (77, F300), (78, F302), (79, F304), (80, F306)]) rfl rfl rfl rfl rfl ?_
      replace h308 : y296 = (m.1 73) + 1 := h308
      replace h309 : F298 = upI (m.2 76) (m.1 73) 1 := h309
      have hO1 := h309
      replace h310 : F302 = upI (m.2 78) (m.1 73) (m.1 7) := h310
      have hO2 := h310
      replace h311 : F304 = upI (m.2 79) (m.1 73) 0 := h311
      have hO3 := h311
      replace h312 : ∀ j, j < 9 * (m.1 73) → F306 j = (m.2 80) j := h312
      have hW1 := h312
      replace h313 : ∀ j, 9 * (m.1 73) ≤ j → j < 9 * (m.1 73) + 9 → F306 j = -1 := h313
      have hW2 := h313
      have u314 : (m.1 8) ≤ (m.1 8) := by omega
      have hAgC : agr (m.2 65) (m.2 65) (m.1 28) := by first | exact agr_r _ _ | exact hAgC | exact agr_t hAgC hAg (by omega)
      refine T_ld 79 (.ref 189) rfl (fun _ => rfl) ?_
      refine T_call 82 212 [.ref 189] [] rfl (fun _ => rfl) rfl (c_next w (mO m [(7, (m.1 7)), (8, (m.1 8)), (9, (m.1 9)), (10, (m.1 10)), (11, (m.1 11)), (12, (m.1 12)), (28, (m.1 28)), (69, (m.1 69)), (70, (m.1 70)), (71, (m.1 71)), (72, (m.1 72)), (73, y296), (74, (m.1 74) + 1), (75, (m.1 75))] [(65, (m.2 65)), (66, (m.2 66)), (67, (m.2 67)), (68, (m.2 68)), (76, F298), (77, F300), (78, F302), (79, F304), (80, F306)]) c N D (by omega) (Ty_mO hT rfl rfl ⟨f7, f8, f9, f10, f11, f12, f28, f69, f70, f71, f72, g297, g293, f75, trivial⟩ ⟨(hT.2.1 65), (hT.2.1 66), (hT.2.1 67), (hT.2.1 68), G299, G301, G303, G305, G307, trivial⟩) (show (m.1 10) = 0 → (m.1 8) + (m.1 9) ≤ (m.1 6) by first | omega | (intro h9; have h8 := hLx h9; omega))) (fun r315 k316 => ?_)
      obtain ⟨y317, y319, y321, y323, y325, y327, g318, g320, g322, g324, g326, g328, h329, h330, h331, h332, rfl⟩ := k316
      refine ⟨_, _, rfl, ?_⟩
      refine T_nf (st' := []) (l' := [(7, y317), (8, y319), (9, y321), (10, y323), (11, y325), (12, y327), (28, (m.1 28)), (69, (m.1 69)), (70, (m.1 70)), (71, (m.1 71)), (72, (m.1 72)), (73, y296), (74, (m.1 74) + 1), (75, (m.1 75))]) (a' := [(65, (m.2 65)), (66, (m.2 66)), (67, (m.2 67)), (68, (m.2 68)), (76, F298), (77, F300), (78, F302), (79, F304), (80, F306)]) rfl rfl rfl rfl rfl ?_
      by_cases hf333 : y323 = 0
      · skip
        subst hf333
        replace h329 : LxP y317 y319 y321 (m.1 6) 0 := h329
        have hLx := h329
        replace h330 : (m.1 10) = 0 := h330 rfl
        replace h331 : (m.1 8) ≤ y319 := h331
        replace h332 : (m.1 8) + (m.1 9) ≤ y319 := h332 rfl
        have u334 : (m.1 8) ≤ y319 := by omega
        have hAgC : agr (m.2 65) (m.2 65) (m.1 28) := by first | exact agr_r _ _ | exact hAgC | exact agr_t hAgC hAg (by omega)
        clear g324
        have hXE : XS (m.2 65) (m.2 67) F298 F302 F304 F306 $B (m.1 28) y296 ((m.1 74) + 1) (um (m.1 75)) := by
          rw [hO1, hO2, hO3, show um (m.1 75) = 0 from if_pos (by omega)]
          exact XS_pre hXS (by omega) (by omega) hW1 hW2
        refine T_goto 219 rfl (fun _ => rfl) ?_
        refine T_ret rfl (fun _ => rfl) ?_
        exact ⟨y317, y319, y321, 0, y325, y327, (m.1 28), (m.1 69), (m.1 70), (m.1 71), (m.1 72), y296, (m.1 74) + 1, (m.1 75), (m.2 65), (m.2 66), (m.2 67), (m.2 68), F298, F300, F302, F304, F306, g318, g320, g322, ⟨by omega, by omega⟩, g326, g328, f28, f69, f70, f71, f72, g297, g293, f75, (hT.2.1 65), (hT.2.1 66), (hT.2.1 67), (hT.2.1 68), G299, G301, G303, G305, G307, (by omega), (by first | (first | exact hLx | (intro h9; exfalso; omega)) | (exfalso; omega)), (fun _ => ⟨(by omega), (by omega), (by omega), (by omega), (by first | (exact hXE) | (exfalso; omega)), (by first | (exact hAgC) | (exfalso; omega))⟩), rfl⟩
      · skip
        replace h329 : LxP y317 y319 y321 (m.1 6) y323 := h329
        have hLx := h329
        clear h330
        replace h331 : (m.1 8) ≤ y319 := h331
        clear h332
        have hf335 : 1 ≤ y323 := by omega
        refine Tm_lv (a := [(0, .ref 189), (1, .int (i32 (m.1 8)))]) rfl rfl ⟨rfl, rfl, trivial⟩ ?_
        exact J82_265 y317 y319 y321 y323 y325 y327 y296 F298 F300 F302 F304 F306 g318 g320 g322 g324 g326 g328 g297 G299 G301 G303 G305 G307 (by omega) (by omega)
    · skip
      refine T_ld 42 (.ref 189) rfl (fun _ => rfl) ?_
      refine T_ld 43 (.int (i32 4)) rfl (fun _ => rfl) ?_
      refine T_gf 47 (.int (i32 (m.1 8))) rfl rfl rfl rfl rfl rfl ?_
      refine T_call 50 222 [.ref 189, .int (i32 4), .int (i32 (m.1 8))] [] rfl (fun _ => rfl) rfl (c_wrong w (mO m [(7, (m.1 7)), (8, (m.1 8)), (9, (m.1 9)), (10, (m.1 10)), (11, (m.1 11)), (12, (m.1 12)), (28, (m.1 28)), (69, (m.1 69)), (70, (m.1 70)), (71, (m.1 71)), (72, (m.1 72)), (73, (m.1 73)), (74, (m.1 74)), (75, (m.1 75))] [(65, (m.2 65)), (66, (m.2 66)), (67, (m.2 67)), (68, (m.2 68)), (76, (m.2 76)), (77, (m.2 77)), (78, (m.2 78)), (79, (m.2 79)), (80, (m.2 80))]) c N D (by omega) (Ty_mO hT rfl rfl ⟨f7, f8, f9, f10, f11, f12, f28, f69, f70, f71, f72, f73, f74, f75, trivial⟩ ⟨(hT.2.1 65), (hT.2.1 66), (hT.2.1 67), (hT.2.1 68), (hT.2.1 76), (hT.2.1 77), (hT.2.1 78), (hT.2.1 79), (hT.2.1 80), trivial⟩) 4 (m.1 8) ⟨by decide, by decide⟩ (r32 (by omega) (by omega)) (show 1 ≤ 4 ∧ 4 ≤ 8 by omega) (show 0 ≤ (m.1 8) ∧ (m.1 8) ≤ 4000 by omega)) (fun r336 k337 => ?_)
      obtain ⟨y338, y340, g339, g341, h342, rfl⟩ := k337
      refine ⟨_, _, rfl, ?_⟩
      refine T_nf (st' := []) (l' := [(7, (m.1 7)), (8, (m.1 8)), (9, (m.1 9)), (10, y338), (11, y340), (12, (m.1 12)), (28, (m.1 28)), (69, (m.1 69)), (70, (m.1 70)), (71, (m.1 71)), (72, (m.1 72)), (73, (m.1 73)), (74, (m.1 74)), (75, (m.1 75))]) (a' := [(65, (m.2 65)), (66, (m.2 66)), (67, (m.2 67)), (68, (m.2 68)), (76, (m.2 76)), (77, (m.2 77)), (78, (m.2 78)), (79, (m.2 79)), (80, (m.2 80))]) rfl rfl rfl rfl rfl ?_
      replace h342 : (0 < (m.1 10) → y338 = (m.1 10) ∧ y340 = (m.1 11)) ∧ ((m.1 10) ≤ 0 → y338 = 4 ∧ y340 = (m.1 8)) := h342
      have hf343 : 1 ≤ y338 := by omega
      refine Tm_lv (a := [(0, .ref 189), (1, .int (i32 (m.1 8)))]) rfl rfl ⟨rfl, rfl, trivial⟩ ?_
      exact J50_283 y338 y340 g339 g341 (by omega) (by omega)
  · skip
    refine T_gf 18 (.int (i32 (m.1 7))) rfl rfl rfl rfl rfl rfl ?_
    refine T_ld 20 (.int (i32 33)) rfl (fun _ => rfl) ?_
    refine T_icmp 32 23 rfl rfl rfl (r32 (by omega) (by omega)) ⟨by decide, by decide⟩ (fun (h344 : (m.1 7) = 33) => ?_) (fun (h344 : ¬ ((m.1 7) = 33)) => ?_)
    · skip
      refine T_gf 36 (.int (i32 (m.1 74))) rfl rfl rfl rfl rfl rfl ?_
      refine T_ld 38 (.int (i32 24)) rfl (fun _ => rfl) ?_
      refine T_icmp 50 41 rfl rfl rfl (r32 (by omega) (by omega)) ⟨by decide, by decide⟩ (fun (h345 : (m.1 74) ≠ 24) => ?_) (fun (h345 : ¬ ((m.1 74) ≠ 24)) => ?_)
      · skip
        refine T_gf 54 (.int (i32 (m.1 10))) rfl rfl rfl rfl rfl rfl ?_
        refine T_if 58 57 rfl rfl rfl (r32 (by omega) (by omega)) (fun (h346 : (m.1 10) ≤ 0) => ?_) (fun (h346 : ¬ ((m.1 10) ≤ 0)) => by exfalso; omega)
        refine T_ld 59 (.ref 189) rfl (fun _ => rfl) ?_
        refine T_ld 60 (.ref 189) rfl (fun _ => rfl) ?_
        refine T_gf1 63 (.int (i32 (m.1 74))) rfl rfl rfl rfl ?_
        refine T_ld 64 (.int (i32 1)) rfl (fun _ => rfl) ?_
        refine T_iadd 65 rfl rfl ?_
        refine T_pf (l' := [(7, (m.1 7)), (8, (m.1 8)), (9, (m.1 9)), (10, (m.1 10)), (11, (m.1 11)), (12, (m.1 12)), (28, (m.1 28)), (69, (m.1 69)), (70, (m.1 70)), (71, (m.1 71)), (72, (m.1 72)), (73, (m.1 73)), (74, (m.1 74) + 1), (75, (m.1 75))]) 68 ((m.1 74) + 1) rfl rfl rfl rfl rfl rfl ?_
        have g347 : 0 ≤ (m.1 74) + 1 ∧ (m.1 74) + 1 ≤ 24 := ⟨by omega, by omega⟩
        refine T_ld 69 (.ref 189) rfl (fun _ => rfl) ?_
        refine T_ld 70 (.int (i32 1)) rfl (fun _ => rfl) ?_
        refine T_ld 71 (.int (i32 (m.1 8))) rfl (fun _ => rfl) ?_
        refine T_gf 75 (.int (i32 (m.1 7))) rfl rfl rfl rfl rfl rfl ?_
        refine T_call 78 246 [.ref 189, .int (i32 1), .int (i32 (m.1 8)), .int (i32 (m.1 7))] [] rfl (fun _ => rfl) rfl (c_open w (mO m [(7, (m.1 7)), (8, (m.1 8)), (9, (m.1 9)), (10, (m.1 10)), (11, (m.1 11)), (12, (m.1 12)), (28, (m.1 28)), (69, (m.1 69)), (70, (m.1 70)), (71, (m.1 71)), (72, (m.1 72)), (73, (m.1 73)), (74, (m.1 74) + 1), (75, (m.1 75))] [(65, (m.2 65)), (66, (m.2 66)), (67, (m.2 67)), (68, (m.2 68)), (76, (m.2 76)), (77, (m.2 77)), (78, (m.2 78)), (79, (m.2 79)), (80, (m.2 80))]) c N D (by omega) (Ty_mO hT rfl rfl ⟨f7, f8, f9, f10, f11, f12, f28, f69, f70, f71, f72, f73, g347, f75, trivial⟩ ⟨(hT.2.1 65), (hT.2.1 66), (hT.2.1 67), (hT.2.1 68), (hT.2.1 76), (hT.2.1 77), (hT.2.1 78), (hT.2.1 79), (hT.2.1 80), trivial⟩) 1 (m.1 8) (m.1 7) ⟨by decide, by decide⟩ (r32 (by omega) (by omega)) (r32 (by omega) (by omega)) (show (m.1 73) ≤ 59 by omega) (show 0 ≤ 1 ∧ 1 ≤ 2 by omega) (show 0 ≤ (m.1 8) ∧ (m.1 8) ≤ 4000 by omega) (show 0 ≤ (m.1 7) ∧ (m.1 7) ≤ 330 by omega)) (fun r348 k349 => ?_)
        obtain ⟨y350, F352, F354, F356, F358, F360, g351, G353, G355, G357, G359, G361, h362, h363, h364, h365, h366, h367, rfl⟩ := k349
        refine ⟨_, _, rfl, ?_⟩
        refine T_nf (st' := []) (l' := [(7, (m.1 7)), (8, (m.1 8)), (9, (m.1 9)), (10, (m.1 10)), (11, (m.1 11)), (12, (m.1 12)), (28, (m.1 28)), (69, (m.1 69)), (70, (m.1 70)), (71, (m.1 71)), (72, (m.1 72)), (73, y350), (74, (m.1 74) + 1), (75, (m.1 75))]) (a' := [(65, (m.2 65)), (66, (m.2 66)), (67, (m.2 67)), (68, (m.2 68)), (76, F352), (77, F354), (78, F356), (79, F358), (80, F360)]) rfl rfl rfl rfl rfl ?_
        replace h362 : y350 = (m.1 73) + 1 := h362
        replace h363 : F352 = upI (m.2 76) (m.1 73) 1 := h363
        have hO1 := h363
        replace h364 : F356 = upI (m.2 78) (m.1 73) (m.1 7) := h364
        have hO2 := h364
        replace h365 : F358 = upI (m.2 79) (m.1 73) 0 := h365
        have hO3 := h365
        replace h366 : ∀ j, j < 9 * (m.1 73) → F360 j = (m.2 80) j := h366
        have hW1 := h366
        replace h367 : ∀ j, 9 * (m.1 73) ≤ j → j < 9 * (m.1 73) + 9 → F360 j = -1 := h367
        have hW2 := h367
        have u368 : (m.1 8) ≤ (m.1 8) := by omega
        have hAgC : agr (m.2 65) (m.2 65) (m.1 28) := by first | exact agr_r _ _ | exact hAgC | exact agr_t hAgC hAg (by omega)
        refine T_ld 79 (.ref 189) rfl (fun _ => rfl) ?_
        refine T_call 82 212 [.ref 189] [] rfl (fun _ => rfl) rfl (c_next w (mO m [(7, (m.1 7)), (8, (m.1 8)), (9, (m.1 9)), (10, (m.1 10)), (11, (m.1 11)), (12, (m.1 12)), (28, (m.1 28)), (69, (m.1 69)), (70, (m.1 70)), (71, (m.1 71)), (72, (m.1 72)), (73, y350), (74, (m.1 74) + 1), (75, (m.1 75))] [(65, (m.2 65)), (66, (m.2 66)), (67, (m.2 67)), (68, (m.2 68)), (76, F352), (77, F354), (78, F356), (79, F358), (80, F360)]) c N D (by omega) (Ty_mO hT rfl rfl ⟨f7, f8, f9, f10, f11, f12, f28, f69, f70, f71, f72, g351, g347, f75, trivial⟩ ⟨(hT.2.1 65), (hT.2.1 66), (hT.2.1 67), (hT.2.1 68), G353, G355, G357, G359, G361, trivial⟩) (show (m.1 10) = 0 → (m.1 8) + (m.1 9) ≤ (m.1 6) by first | omega | (intro h9; have h8 := hLx h9; omega))) (fun r369 k370 => ?_)
        obtain ⟨y371, y373, y375, y377, y379, y381, g372, g374, g376, g378, g380, g382, h383, h384, h385, h386, rfl⟩ := k370
        refine ⟨_, _, rfl, ?_⟩
        refine T_nf (st' := []) (l' := [(7, y371), (8, y373), (9, y375), (10, y377), (11, y379), (12, y381), (28, (m.1 28)), (69, (m.1 69)), (70, (m.1 70)), (71, (m.1 71)), (72, (m.1 72)), (73, y350), (74, (m.1 74) + 1), (75, (m.1 75))]) (a' := [(65, (m.2 65)), (66, (m.2 66)), (67, (m.2 67)), (68, (m.2 68)), (76, F352), (77, F354), (78, F356), (79, F358), (80, F360)]) rfl rfl rfl rfl rfl ?_
        by_cases hf387 : y377 = 0
        · skip
          subst hf387
          replace h383 : LxP y371 y373 y375 (m.1 6) 0 := h383
          have hLx := h383
          replace h384 : (m.1 10) = 0 := h384 rfl
          replace h385 : (m.1 8) ≤ y373 := h385
          replace h386 : (m.1 8) + (m.1 9) ≤ y373 := h386 rfl
          have u388 : (m.1 8) ≤ y373 := by omega
          have hAgC : agr (m.2 65) (m.2 65) (m.1 28) := by first | exact agr_r _ _ | exact hAgC | exact agr_t hAgC hAg (by omega)
          clear g378
          have hXE : XS (m.2 65) (m.2 67) F352 F356 F358 F360 $B (m.1 28) y350 ((m.1 74) + 1) (um (m.1 75)) := by
            rw [hO1, hO2, hO3, show um (m.1 75) = 0 from if_pos (by omega)]
            exact XS_pre hXS (by omega) (by omega) hW1 hW2
          refine T_goto 219 rfl (fun _ => rfl) ?_
          refine T_ret rfl (fun _ => rfl) ?_
          exact ⟨y371, y373, y375, 0, y379, y381, (m.1 28), (m.1 69), (m.1 70), (m.1 71), (m.1 72), y350, (m.1 74) + 1, (m.1 75), (m.2 65), (m.2 66), (m.2 67), (m.2 68), F352, F354, F356, F358, F360, g372, g374, g376, ⟨by omega, by omega⟩, g380, g382, f28, f69, f70, f71, f72, g351, g347, f75, (hT.2.1 65), (hT.2.1 66), (hT.2.1 67), (hT.2.1 68), G353, G355, G357, G359, G361, (by omega), (by first | (first | exact hLx | (intro h9; exfalso; omega)) | (exfalso; omega)), (fun _ => ⟨(by omega), (by omega), (by omega), (by omega), (by first | (exact hXE) | (exfalso; omega)), (by first | (exact hAgC) | (exfalso; omega))⟩), rfl⟩
        · skip
          replace h383 : LxP y371 y373 y375 (m.1 6) y377 := h383
          have hLx := h383
          clear h384
          replace h385 : (m.1 8) ≤ y373 := h385
          clear h386
          have hf389 : 1 ≤ y377 := by omega
          refine Tm_lv (a := [(0, .ref 189), (1, .int (i32 (m.1 8)))]) rfl rfl ⟨rfl, rfl, trivial⟩ ?_
          exact J82_265 y371 y373 y375 y377 y379 y381 y350 F352 F354 F356 F358 F360 g372 g374 g376 g378 g380 g382 g351 G353 G355 G357 G359 G361 (by omega) (by omega)
      · skip
        refine T_ld 42 (.ref 189) rfl (fun _ => rfl) ?_
        refine T_ld 43 (.int (i32 4)) rfl (fun _ => rfl) ?_
        refine T_gf 47 (.int (i32 (m.1 8))) rfl rfl rfl rfl rfl rfl ?_
        refine T_call 50 222 [.ref 189, .int (i32 4), .int (i32 (m.1 8))] [] rfl (fun _ => rfl) rfl (c_wrong w (mO m [(7, (m.1 7)), (8, (m.1 8)), (9, (m.1 9)), (10, (m.1 10)), (11, (m.1 11)), (12, (m.1 12)), (28, (m.1 28)), (69, (m.1 69)), (70, (m.1 70)), (71, (m.1 71)), (72, (m.1 72)), (73, (m.1 73)), (74, (m.1 74)), (75, (m.1 75))] [(65, (m.2 65)), (66, (m.2 66)), (67, (m.2 67)), (68, (m.2 68)), (76, (m.2 76)), (77, (m.2 77)), (78, (m.2 78)), (79, (m.2 79)), (80, (m.2 80))]) c N D (by omega) (Ty_mO hT rfl rfl ⟨f7, f8, f9, f10, f11, f12, f28, f69, f70, f71, f72, f73, f74, f75, trivial⟩ ⟨(hT.2.1 65), (hT.2.1 66), (hT.2.1 67), (hT.2.1 68), (hT.2.1 76), (hT.2.1 77), (hT.2.1 78), (hT.2.1 79), (hT.2.1 80), trivial⟩) 4 (m.1 8) ⟨by decide, by decide⟩ (r32 (by omega) (by omega)) (show 1 ≤ 4 ∧ 4 ≤ 8 by omega) (show 0 ≤ (m.1 8) ∧ (m.1 8) ≤ 4000 by omega)) (fun r390 k391 => ?_)
        obtain ⟨y392, y394, g393, g395, h396, rfl⟩ := k391
        refine ⟨_, _, rfl, ?_⟩
        refine T_nf (st' := []) (l' := [(7, (m.1 7)), (8, (m.1 8)), (9, (m.1 9)), (10, y392), (11, y394), (12, (m.1 12)), (28, (m.1 28)), (69, (m.1 69)), (70, (m.1 70)), (71, (m.1 71)), (72, (m.1 72)), (73, (m.1 73)), (74, (m.1 74)), (75, (m.1 75))]) (a' := [(65, (m.2 65)), (66, (m.2 66)), (67, (m.2 67)), (68, (m.2 68)), (76, (m.2 76)), (77, (m.2 77)), (78, (m.2 78)), (79, (m.2 79)), (80, (m.2 80))]) rfl rfl rfl rfl rfl ?_
        replace h396 : (0 < (m.1 10) → y392 = (m.1 10) ∧ y394 = (m.1 11)) ∧ ((m.1 10) ≤ 0 → y392 = 4 ∧ y394 = (m.1 8)) := h396
        have hf397 : 1 ≤ y392 := by omega
        refine Tm_lv (a := [(0, .ref 189), (1, .int (i32 (m.1 8)))]) rfl rfl ⟨rfl, rfl, trivial⟩ ?_
        exact J50_283 y392 y394 g393 g395 (by omega) (by omega)
    · skip
      refine T_gf 27 (.int (i32 (m.1 7))) rfl rfl rfl rfl rfl rfl ?_
      refine T_ld 29 (.int (i32 45)) rfl (fun _ => rfl) ?_
      refine T_icmp 85 32 rfl rfl rfl (r32 (by omega) (by omega)) ⟨by decide, by decide⟩ (fun (h398 : (m.1 7) ≠ 45) => ?_) (fun (h398 : ¬ ((m.1 7) ≠ 45)) => ?_)
      · skip
        refine T_gf 89 (.int (i32 (m.1 7))) rfl rfl rfl rfl rfl rfl ?_
        refine T_ld 90 (.int (i32 2)) rfl (fun _ => rfl) ?_
        refine T_icmp 133 93 rfl rfl rfl (r32 (by omega) (by omega)) ⟨by decide, by decide⟩ (fun (h399 : (m.1 7) ≠ 2) => ?_) (fun (h399 : ¬ ((m.1 7) ≠ 2)) => ?_)
        · skip
          refine T_gf 137 (.int (i32 (m.1 7))) rfl rfl rfl rfl rfl rfl ?_
          refine T_ld 138 (.int (i32 1)) rfl (fun _ => rfl) ?_
          refine T_icmp 149 141 rfl rfl rfl (r32 (by omega) (by omega)) ⟨by decide, by decide⟩ (fun (h400 : (m.1 7) ≠ 1) => ?_) (fun (h400 : ¬ ((m.1 7) ≠ 1)) => ?_)
          · skip
            refine T_gf 153 (.int (i32 (m.1 7))) rfl rfl rfl rfl rfl rfl ?_
            refine T_ld 156 (.int (i32 329)) rfl (fun _ => rfl) ?_
            refine T_icmp 188 159 rfl rfl rfl (r32 (by omega) (by omega)) ⟨by decide, by decide⟩ (fun (h401 : (m.1 7) ≠ 329) => ?_) (fun (h401 : ¬ ((m.1 7) ≠ 329)) => ?_)
            · skip
              refine T_gf 192 (.int (i32 (m.1 7))) rfl rfl rfl rfl rfl rfl ?_
              refine T_ld 194 (.int (i32 40)) rfl (fun _ => rfl) ?_
              refine T_icmp 215 197 rfl rfl rfl (r32 (by omega) (by omega)) ⟨by decide, by decide⟩ (fun (h402 : (m.1 7) ≠ 40) => ?_) (fun (h402 : ¬ ((m.1 7) ≠ 40)) => ?_)
              · skip
                refine T_ld 216 (.ref 189) rfl (fun _ => rfl) ?_
                refine T_call 219 226 [.ref 189] [] rfl (fun _ => rfl) rfl (c_bad w (mO m [(7, (m.1 7)), (8, (m.1 8)), (9, (m.1 9)), (10, (m.1 10)), (11, (m.1 11)), (12, (m.1 12)), (28, (m.1 28)), (69, (m.1 69)), (70, (m.1 70)), (71, (m.1 71)), (72, (m.1 72)), (73, (m.1 73)), (74, (m.1 74)), (75, (m.1 75))] [(65, (m.2 65)), (66, (m.2 66)), (67, (m.2 67)), (68, (m.2 68)), (76, (m.2 76)), (77, (m.2 77)), (78, (m.2 78)), (79, (m.2 79)), (80, (m.2 80))]) c N D (by omega) (Ty_mO hT rfl rfl ⟨f7, f8, f9, f10, f11, f12, f28, f69, f70, f71, f72, f73, f74, f75, trivial⟩ ⟨(hT.2.1 65), (hT.2.1 66), (hT.2.1 67), (hT.2.1 68), (hT.2.1 76), (hT.2.1 77), (hT.2.1 78), (hT.2.1 79), (hT.2.1 80), trivial⟩) ) (fun r403 k404 => ?_)
                obtain ⟨y405, y407, g406, g408, h409, rfl⟩ := k404
                refine ⟨_, _, rfl, ?_⟩
                refine T_nf (st' := []) (l' := [(7, (m.1 7)), (8, (m.1 8)), (9, (m.1 9)), (10, y405), (11, y407), (12, (m.1 12)), (28, (m.1 28)), (69, (m.1 69)), (70, (m.1 70)), (71, (m.1 71)), (72, (m.1 72)), (73, (m.1 73)), (74, (m.1 74)), (75, (m.1 75))]) (a' := [(65, (m.2 65)), (66, (m.2 66)), (67, (m.2 67)), (68, (m.2 68)), (76, (m.2 76)), (77, (m.2 77)), (78, (m.2 78)), (79, (m.2 79)), (80, (m.2 80))]) rfl rfl rfl rfl rfl ?_
                replace h409 : (0 < (m.1 10) → y405 = (m.1 10) ∧ y407 = (m.1 11)) ∧ ((m.1 10) ≤ 0 → y405 = 1 ∧ y407 = (m.1 8)) := h409
                have hf410 : 1 ≤ y405 := by omega
                refine T_ret rfl (fun _ => rfl) ?_
                exact ⟨(m.1 7), (m.1 8), (m.1 9), y405, y407, (m.1 12), (m.1 28), (m.1 69), (m.1 70), (m.1 71), (m.1 72), (m.1 73), (m.1 74), (m.1 75), (m.2 65), (m.2 66), (m.2 67), (m.2 68), (m.2 76), (m.2 77), (m.2 78), (m.2 79), (m.2 80), f7, f8, f9, g406, g408, f12, f28, f69, f70, f71, f72, f73, f74, f75, (hT.2.1 65), (hT.2.1 66), (hT.2.1 67), (hT.2.1 68), (hT.2.1 76), (hT.2.1 77), (hT.2.1 78), (hT.2.1 79), (hT.2.1 80), (by omega), (by first | (first | exact hLx | (intro h9; exfalso; omega)) | (exfalso; omega)), (fun h => absurd h (by omega)), rfl⟩
              · skip
                refine T_ld 198 (.ref 189) rfl (fun _ => rfl) ?_
                refine T_ld 199 (.int (i32 2)) rfl (fun _ => rfl) ?_
                refine T_ld 200 (.int (i32 (m.1 8))) rfl (fun _ => rfl) ?_
                refine T_ld 201 (.int (i32 0)) rfl (fun _ => rfl) ?_
                refine T_call 204 246 [.ref 189, .int (i32 2), .int (i32 (m.1 8)), .int (i32 0)] [] rfl (fun _ => rfl) rfl (c_open w (mO m [(7, (m.1 7)), (8, (m.1 8)), (9, (m.1 9)), (10, (m.1 10)), (11, (m.1 11)), (12, (m.1 12)), (28, (m.1 28)), (69, (m.1 69)), (70, (m.1 70)), (71, (m.1 71)), (72, (m.1 72)), (73, (m.1 73)), (74, (m.1 74)), (75, (m.1 75))] [(65, (m.2 65)), (66, (m.2 66)), (67, (m.2 67)), (68, (m.2 68)), (76, (m.2 76)), (77, (m.2 77)), (78, (m.2 78)), (79, (m.2 79)), (80, (m.2 80))]) c N D (by omega) (Ty_mO hT rfl rfl ⟨f7, f8, f9, f10, f11, f12, f28, f69, f70, f71, f72, f73, f74, f75, trivial⟩ ⟨(hT.2.1 65), (hT.2.1 66), (hT.2.1 67), (hT.2.1 68), (hT.2.1 76), (hT.2.1 77), (hT.2.1 78), (hT.2.1 79), (hT.2.1 80), trivial⟩) 2 (m.1 8) 0 ⟨by decide, by decide⟩ (r32 (by omega) (by omega)) ⟨by decide, by decide⟩ (show (m.1 73) ≤ 59 by omega) (show 0 ≤ 2 ∧ 2 ≤ 2 by omega) (show 0 ≤ (m.1 8) ∧ (m.1 8) ≤ 4000 by omega) (show 0 ≤ 0 ∧ 0 ≤ 330 by omega)) (fun r411 k412 => ?_)
                obtain ⟨y413, F415, F417, F419, F421, F423, g414, G416, G418, G420, G422, G424, h425, h426, h427, h428, h429, h430, rfl⟩ := k412
                refine ⟨_, _, rfl, ?_⟩
                refine T_nf (st' := []) (l' := [(7, (m.1 7)), (8, (m.1 8)), (9, (m.1 9)), (10, (m.1 10)), (11, (m.1 11)), (12, (m.1 12)), (28, (m.1 28)), (69, (m.1 69)), (70, (m.1 70)), (71, (m.1 71)), (72, (m.1 72)), (73, y413), (74, (m.1 74)), (75, (m.1 75))]) (a' := [(65, (m.2 65)), (66, (m.2 66)), (67, (m.2 67)), (68, (m.2 68)), (76, F415), (77, F417), (78, F419), (79, F421), (80, F423)]) rfl rfl rfl rfl rfl ?_
                replace h425 : y413 = (m.1 73) + 1 := h425
                replace h426 : F415 = upI (m.2 76) (m.1 73) 2 := h426
                have hO1 := h426
                replace h427 : F419 = upI (m.2 78) (m.1 73) 0 := h427
                have hO2 := h427
                replace h428 : F421 = upI (m.2 79) (m.1 73) 0 := h428
                have hO3 := h428
                replace h429 : ∀ j, j < 9 * (m.1 73) → F423 j = (m.2 80) j := h429
                have hW1 := h429
                replace h430 : ∀ j, 9 * (m.1 73) ≤ j → j < 9 * (m.1 73) + 9 → F423 j = -1 := h430
                have hW2 := h430
                have u431 : (m.1 8) ≤ (m.1 8) := by omega
                have hAgC : agr (m.2 65) (m.2 65) (m.1 28) := by first | exact agr_r _ _ | exact hAgC | exact agr_t hAgC hAg (by omega)
                refine T_ld 205 (.ref 189) rfl (fun _ => rfl) ?_
                refine T_call 208 212 [.ref 189] [] rfl (fun _ => rfl) rfl (c_next w (mO m [(7, (m.1 7)), (8, (m.1 8)), (9, (m.1 9)), (10, (m.1 10)), (11, (m.1 11)), (12, (m.1 12)), (28, (m.1 28)), (69, (m.1 69)), (70, (m.1 70)), (71, (m.1 71)), (72, (m.1 72)), (73, y413), (74, (m.1 74)), (75, (m.1 75))] [(65, (m.2 65)), (66, (m.2 66)), (67, (m.2 67)), (68, (m.2 68)), (76, F415), (77, F417), (78, F419), (79, F421), (80, F423)]) c N D (by omega) (Ty_mO hT rfl rfl ⟨f7, f8, f9, f10, f11, f12, f28, f69, f70, f71, f72, g414, f74, f75, trivial⟩ ⟨(hT.2.1 65), (hT.2.1 66), (hT.2.1 67), (hT.2.1 68), G416, G418, G420, G422, G424, trivial⟩) (show (m.1 10) = 0 → (m.1 8) + (m.1 9) ≤ (m.1 6) by first | omega | (intro h9; have h8 := hLx h9; omega))) (fun r432 k433 => ?_)
                obtain ⟨y434, y436, y438, y440, y442, y444, g435, g437, g439, g441, g443, g445, h446, h447, h448, h449, rfl⟩ := k433
                refine ⟨_, _, rfl, ?_⟩
                refine T_nf (st' := []) (l' := [(7, y434), (8, y436), (9, y438), (10, y440), (11, y442), (12, y444), (28, (m.1 28)), (69, (m.1 69)), (70, (m.1 70)), (71, (m.1 71)), (72, (m.1 72)), (73, y413), (74, (m.1 74)), (75, (m.1 75))]) (a' := [(65, (m.2 65)), (66, (m.2 66)), (67, (m.2 67)), (68, (m.2 68)), (76, F415), (77, F417), (78, F419), (79, F421), (80, F423)]) rfl rfl rfl rfl rfl ?_
                by_cases hf450 : y440 = 0
                · skip
                  subst hf450
                  replace h446 : LxP y434 y436 y438 (m.1 6) 0 := h446
                  have hLx := h446
                  replace h447 : (m.1 10) = 0 := h447 rfl
                  replace h448 : (m.1 8) ≤ y436 := h448
                  replace h449 : (m.1 8) + (m.1 9) ≤ y436 := h449 rfl
                  have u451 : (m.1 8) ≤ y436 := by omega
                  have hAgC : agr (m.2 65) (m.2 65) (m.1 28) := by first | exact agr_r _ _ | exact hAgC | exact agr_t hAgC hAg (by omega)
                  clear g441
                  have hXT : XT (m.2 65) (m.2 67) F415 F419 F421 F423 $B (m.1 28) y413 (m.1 74) 0 := by
                    rw [hO1, hO2, hO3]
                    exact XT_bra hXS (by omega) hW1 hW2
                  have hTop : y413 = 0 ∨ F415 (y413 - 1) = 2 ∨ (F415 (y413 - 1) = 0 ∧ F421 (y413 - 1) = 2) := Or.inr (Or.inl (by rw [hO1, show y413 - 1 = (m.1 73) by omega, upI_s]))
                  refine T_ld 209 (.ref 189) rfl (fun _ => rfl) ?_
                  refine T_call 212 245 [.ref 189] [] rfl (fun _ => rfl) rfl (c_beginChoice w (mO m [(7, y434), (8, y436), (9, y438), (10, 0), (11, y442), (12, y444), (28, (m.1 28)), (69, (m.1 69)), (70, (m.1 70)), (71, (m.1 71)), (72, (m.1 72)), (73, y413), (74, (m.1 74)), (75, (m.1 75))] [(65, (m.2 65)), (66, (m.2 66)), (67, (m.2 67)), (68, (m.2 68)), (76, F415), (77, F417), (78, F419), (79, F421), (80, F423)]) c N D (by omega) (Ty_mO hT rfl rfl ⟨g435, g437, g439, ⟨(by omega : (0 : Int) ≤ 0), (by omega : (0 : Int) ≤ 8)⟩, g443, g445, f28, f69, f70, f71, f72, g414, f74, f75, trivial⟩ ⟨(hT.2.1 65), (hT.2.1 66), (hT.2.1 67), (hT.2.1 68), G416, G418, G420, G422, G424, trivial⟩) ($B) 0 (fun _ => ⟨(show XT (m.2 65) (m.2 67) F415 F419 F421 F423 ($B) (m.1 28) y413 (m.1 74) 0 by first | exact hXT | exact hXS.1), (show y413 = 0 ∨ F415 (y413 - 1) = 2 ∨ (F415 (y413 - 1) = 0 ∧ F421 (y413 - 1) = 2) by first | exact hTop | omega)⟩)) (fun r452 k453 => ?_)
                  obtain ⟨y454, y456, y458, y460, y462, F464, F466, F468, F470, F472, g455, g457, g459, g461, g463, G465, G467, G469, G471, G473, h474, c475, rfl⟩ := k453
                  refine ⟨_, _, rfl, ?_⟩
                  refine T_nf (st' := []) (l' := [(7, y434), (8, y436), (9, y438), (10, y454), (11, y456), (12, y444), (28, (m.1 28)), (69, (m.1 69)), (70, (m.1 70)), (71, (m.1 71)), (72, (m.1 72)), (73, y458), (74, y460), (75, y462)]) (a' := [(65, (m.2 65)), (66, (m.2 66)), (67, (m.2 67)), (68, (m.2 68)), (76, F464), (77, F466), (78, F468), (79, F470), (80, F472)]) rfl rfl rfl rfl rfl ?_
                  by_cases hf476 : y454 = 0
                  · skip
                    subst hf476
                    replace h474 : 0 = 0 := h474 rfl
                    obtain ⟨c477, c478, c479⟩ := c475 rfl
                    replace c477 : XS (m.2 65) (m.2 67) F464 F468 F470 F472 ($B) (m.1 28) y458 y460 0 := c477
                    have hXS := c477
                    replace c478 : y458 = y413 + 1 := c478
                    replace c479 : y462 = 0 := c479
                    have u480 : (m.1 8) ≤ y436 := by omega
                    have hAgC : agr (m.2 65) (m.2 65) (m.1 28) := by first | exact agr_r _ _ | exact hAgC | exact agr_t hAgC hAg (by omega)
                    clear g414 h425 h426 h427 h428 h429 h430 g443 g455 c478
                    have hXE : XS (m.2 65) (m.2 67) F464 F468 F470 F472 $B (m.1 28) y458 y460 (um y462) := by
                      rw [show um y462 = 0 from if_pos (by omega)]
                      exact hXS
                    refine T_goto 219 rfl (fun _ => rfl) ?_
                    refine T_ret rfl (fun _ => rfl) ?_
                    exact ⟨y434, y436, y438, 0, y456, y444, (m.1 28), (m.1 69), (m.1 70), (m.1 71), (m.1 72), y458, y460, y462, (m.2 65), (m.2 66), (m.2 67), (m.2 68), F464, F466, F468, F470, F472, g435, g437, g439, ⟨by omega, by omega⟩, g457, g445, f28, f69, f70, f71, f72, g459, g461, g463, (hT.2.1 65), (hT.2.1 66), (hT.2.1 67), (hT.2.1 68), G465, G467, G469, G471, G473, (by omega), (by first | (first | exact hLx | (intro h9; exfalso; omega)) | (exfalso; omega)), (fun _ => ⟨(by omega), (by omega), (by omega), (by omega), (by first | (exact hXE) | (exfalso; omega)), (by first | (exact hAgC) | (exfalso; omega))⟩), rfl⟩
                  · skip
                    clear c475
                    clear h474
                    have hf481 : 1 ≤ y454 := by omega
                    clear g414 h425 h426 h427 h428 h429 h430 g443
                    refine Tm_lv (a := [(0, .ref 189), (1, .int (i32 (m.1 8)))]) rfl rfl ⟨rfl, rfl, trivial⟩ ?_
                    exact J212_117 y434 y436 y438 y454 y456 y444 y458 y460 y462 F464 F466 F468 F470 F472 g435 g437 g439 g455 g457 g445 g459 g461 g463 G465 G467 G469 G471 G473 (by omega) (by omega)
                · skip
                  replace h446 : LxP y434 y436 y438 (m.1 6) y440 := h446
                  have hLx := h446
                  clear h447
                  replace h448 : (m.1 8) ≤ y436 := h448
                  clear h449
                  have hf482 : 1 ≤ y440 := by omega
                  refine T_ld 209 (.ref 189) rfl (fun _ => rfl) ?_
                  refine T_call 212 245 [.ref 189] [] rfl (fun _ => rfl) rfl (c_beginChoice w (mO m [(7, y434), (8, y436), (9, y438), (10, y440), (11, y442), (12, y444), (28, (m.1 28)), (69, (m.1 69)), (70, (m.1 70)), (71, (m.1 71)), (72, (m.1 72)), (73, y413), (74, (m.1 74)), (75, (m.1 75))] [(65, (m.2 65)), (66, (m.2 66)), (67, (m.2 67)), (68, (m.2 68)), (76, F415), (77, F417), (78, F419), (79, F421), (80, F423)]) c N D (by omega) (Ty_mO hT rfl rfl ⟨g435, g437, g439, g441, g443, g445, f28, f69, f70, f71, f72, g414, f74, f75, trivial⟩ ⟨(hT.2.1 65), (hT.2.1 66), (hT.2.1 67), (hT.2.1 68), G416, G418, G420, G422, G424, trivial⟩) ($B) 0 (fun h => absurd h (by omega))) (fun r483 k484 => ?_)
                  obtain ⟨y485, y487, y489, y491, y493, F495, F497, F499, F501, F503, g486, g488, g490, g492, g494, G496, G498, G500, G502, G504, h505, c506, rfl⟩ := k484
                  refine ⟨_, _, rfl, ?_⟩
                  refine T_nf (st' := []) (l' := [(7, y434), (8, y436), (9, y438), (10, y485), (11, y487), (12, y444), (28, (m.1 28)), (69, (m.1 69)), (70, (m.1 70)), (71, (m.1 71)), (72, (m.1 72)), (73, y489), (74, y491), (75, y493)]) (a' := [(65, (m.2 65)), (66, (m.2 66)), (67, (m.2 67)), (68, (m.2 68)), (76, F495), (77, F497), (78, F499), (79, F501), (80, F503)]) rfl rfl rfl rfl rfl ?_
                  replace h505 : y485 = 0 → y440 = 0 := h505
                  have hf507 : 1 ≤ y485 := by omega
                  clear c506
                  clear h505
                  clear g414 h425 h426 h427 h428 h429 h430 g441 g443 h446 hf482
                  refine Tm_lv (a := [(0, .ref 189), (1, .int (i32 (m.1 8)))]) rfl rfl ⟨rfl, rfl, trivial⟩ ?_
                  exact J212_117 y434 y436 y438 y485 y487 y444 y489 y491 y493 F495 F497 F499 F501 F503 g435 g437 g439 g486 g488 g445 g490 g492 g494 G496 G498 G500 G502 G504 (by omega) (by omega)
            · skip
              refine T_ld 160 (.ref 189) rfl (fun _ => rfl) ?_
              refine T_call 163 212 [.ref 189] [] rfl (fun _ => rfl) rfl (c_next w (mO m [(7, (m.1 7)), (8, (m.1 8)), (9, (m.1 9)), (10, (m.1 10)), (11, (m.1 11)), (12, (m.1 12)), (28, (m.1 28)), (69, (m.1 69)), (70, (m.1 70)), (71, (m.1 71)), (72, (m.1 72)), (73, (m.1 73)), (74, (m.1 74)), (75, (m.1 75))] [(65, (m.2 65)), (66, (m.2 66)), (67, (m.2 67)), (68, (m.2 68)), (76, (m.2 76)), (77, (m.2 77)), (78, (m.2 78)), (79, (m.2 79)), (80, (m.2 80))]) c N D (by omega) (Ty_mO hT rfl rfl ⟨f7, f8, f9, f10, f11, f12, f28, f69, f70, f71, f72, f73, f74, f75, trivial⟩ ⟨(hT.2.1 65), (hT.2.1 66), (hT.2.1 67), (hT.2.1 68), (hT.2.1 76), (hT.2.1 77), (hT.2.1 78), (hT.2.1 79), (hT.2.1 80), trivial⟩) (show (m.1 10) = 0 → (m.1 8) + (m.1 9) ≤ (m.1 6) by first | omega | (intro h9; have h8 := hLx h9; omega))) (fun r508 k509 => ?_)
              obtain ⟨y510, y512, y514, y516, y518, y520, g511, g513, g515, g517, g519, g521, h522, h523, h524, h525, rfl⟩ := k509
              refine ⟨_, _, rfl, ?_⟩
              refine T_nf (st' := []) (l' := [(7, y510), (8, y512), (9, y514), (10, y516), (11, y518), (12, y520), (28, (m.1 28)), (69, (m.1 69)), (70, (m.1 70)), (71, (m.1 71)), (72, (m.1 72)), (73, (m.1 73)), (74, (m.1 74)), (75, (m.1 75))]) (a' := [(65, (m.2 65)), (66, (m.2 66)), (67, (m.2 67)), (68, (m.2 68)), (76, (m.2 76)), (77, (m.2 77)), (78, (m.2 78)), (79, (m.2 79)), (80, (m.2 80))]) rfl rfl rfl rfl rfl ?_
              by_cases hf526 : y516 = 0
              · skip
                subst hf526
                replace h522 : LxP y510 y512 y514 (m.1 6) 0 := h522
                have hLx := h522
                replace h523 : (m.1 10) = 0 := h523 rfl
                replace h524 : (m.1 8) ≤ y512 := h524
                replace h525 : (m.1 8) + (m.1 9) ≤ y512 := h525 rfl
                have u527 : (m.1 8) ≤ y512 := by omega
                have hAgC : agr (m.2 65) (m.2 65) (m.1 28) := by first | exact agr_r _ _ | exact hAgC | exact agr_t hAgC hAg (by omega)
                clear g517
                refine T_ld 164 (.ref 189) rfl (fun _ => rfl) ?_
                refine T_ld 165 (.int (i32 2)) rfl (fun _ => rfl) ?_
                have hOL : 0 = 0 → ∀ k, 0 ≤ k → k < (m.1 13) → (m.2 16) k = 2 → 0 ≤ (m.2 17) k ∧ (m.2 17) k < 12 := fun _ k h1 h2 h3 => by
                  have h4 := PNl_2 pPN k h1 h2 h3
                  omega
                refine T_call 168 236 [.ref 189, .int (i32 2)] [] rfl (fun _ => rfl) rfl (c_oldName w (mO m [(7, y510), (8, y512), (9, y514), (10, 0), (11, y518), (12, y520), (28, (m.1 28)), (69, (m.1 69)), (70, (m.1 70)), (71, (m.1 71)), (72, (m.1 72)), (73, (m.1 73)), (74, (m.1 74)), (75, (m.1 75))] [(65, (m.2 65)), (66, (m.2 66)), (67, (m.2 67)), (68, (m.2 68)), (76, (m.2 76)), (77, (m.2 77)), (78, (m.2 78)), (79, (m.2 79)), (80, (m.2 80))]) c N D (by omega) (Ty_mO hT rfl rfl ⟨g511, g513, g515, ⟨(by omega : (0 : Int) ≤ 0), (by omega : (0 : Int) ≤ 8)⟩, g519, g521, f28, f69, f70, f71, f72, f73, f74, f75, trivial⟩ ⟨(hT.2.1 65), (hT.2.1 66), (hT.2.1 67), (hT.2.1 68), (hT.2.1 76), (hT.2.1 77), (hT.2.1 78), (hT.2.1 79), (hT.2.1 80), trivial⟩) 2 0 ⟨by decide, by decide⟩ (show LxP y510 y512 y514 (m.1 6) 0 by first | exact hLx | (intro h9; exfalso; omega) | (intro h9; have h8 := hLx (by omega); omega)) (show ∀ k, (m.2 14) k + (m.2 15) k ≤ 4000 by first | exact p1 | exact hNM) (show 1 ≤ 2 ∧ 2 ≤ 7 ∧ 2 ≠ 5 by omega) (show 0 ≤ 16 by omega) (show 0 = 0 → ∀ k, 0 ≤ k → k < (m.1 13) → (m.2 16) k = 2 → 0 ≤ (m.2 17) k ∧ (m.2 17) k < 0 by first | exact hOL | (intro h; exfalso; omega)) (show 2 = 3 → 3 ≤ 0 by omega)) (fun r528 k529 => ?_)
                obtain ⟨y530, y532, y534, y536, y538, y540, oo, g531, g533, g535, g537, g539, g541, g542, h543, h544, h545, h546, h547, h548, rfl⟩ := k529
                refine ⟨_, _, rfl, ?_⟩
                refine T_nf (st' := [.int (i32 oo)]) (l' := [(7, y530), (8, y532), (9, y534), (10, y536), (11, y538), (12, y540), (28, (m.1 28)), (69, (m.1 69)), (70, (m.1 70)), (71, (m.1 71)), (72, (m.1 72)), (73, (m.1 73)), (74, (m.1 74)), (75, (m.1 75))]) (a' := [(65, (m.2 65)), (66, (m.2 66)), (67, (m.2 67)), (68, (m.2 68)), (76, (m.2 76)), (77, (m.2 77)), (78, (m.2 78)), (79, (m.2 79)), (80, (m.2 80))]) rfl rfl rfl rfl rfl ?_
                obtain ⟨g542a, g542b⟩ := g542
                by_cases hf549 : y536 = 0
                · skip
                  subst hf549
                  replace h543 : LxP y530 y532 y534 (m.1 6) 0 := h543
                  have hLx := h543
                  replace h544 : y512 ≤ y532 := h544
                  replace h545 : 0 = 0 ∧ y512 + y514 ≤ y532 := h545 rfl
                  replace h546 : y510 = 1 := h546 rfl
                  replace h547 : 0 ≤ oo ∧ (oo < 0 ∨ oo = 0) := h547
                  replace h548 : oo < 0 := h548 rfl
                  have u550 : (m.1 8) ≤ y532 := by omega
                  have hAgC : agr (m.2 65) (m.2 65) (m.1 28) := by first | exact agr_r _ _ | exact hAgC | exact agr_t hAgC hAg (by omega)
                  clear g511 g513 g515 g519 g521 h522 h524 h525 u527 g537 h544 h545 h546
                  refine T_sto 169 [(2, .int (i32 oo)), (1, .int (i32 (m.1 8))), (0, .ref 189)] rfl (fun _ => rfl) ?_
                  have hAr : ar 404 ≤ 0 + lh (m.2 79) (m.2 80) (m.1 73) := by rw [show ar 404 = 0 from rfl]; omega
                  have hCk : CNk 404 oo := by refine ⟨?_, ?_, ?_, ?_⟩ <;> omega
                  refine T_ld 170 (.ref 189) rfl (fun _ => rfl) ?_
                  refine T_ld 173 (.int (i32 404)) rfl (fun _ => rfl) ?_
                  refine T_ld 174 (.int (i32 1)) rfl (fun _ => rfl) ?_
                  refine T_ld 175 (.int (i32 oo)) rfl (fun _ => rfl) ?_
                  refine T_ld 176 (.long (i64 0)) rfl (fun _ => rfl) ?_
                  refine T_call 179 248 [.ref 189, .int (i32 404), .int (i32 1), .int (i32 oo), .long (i64 0)] [] rfl (fun _ => rfl) rfl (c_node w (mO m [(7, y530), (8, y532), (9, y534), (10, 0), (11, y538), (12, y540), (28, (m.1 28)), (69, (m.1 69)), (70, (m.1 70)), (71, (m.1 71)), (72, (m.1 72)), (73, (m.1 73)), (74, (m.1 74)), (75, (m.1 75))] [(65, (m.2 65)), (66, (m.2 66)), (67, (m.2 67)), (68, (m.2 68)), (76, (m.2 76)), (77, (m.2 77)), (78, (m.2 78)), (79, (m.2 79)), (80, (m.2 80))]) c N D (by omega) (Ty_mO hT rfl rfl ⟨g531, g533, g535, ⟨(by omega : (0 : Int) ≤ 0), (by omega : (0 : Int) ≤ 8)⟩, g539, g541, f28, f69, f70, f71, f72, f73, f74, f75, trivial⟩ ⟨(hT.2.1 65), (hT.2.1 66), (hT.2.1 67), (hT.2.1 68), (hT.2.1 76), (hT.2.1 77), (hT.2.1 78), (hT.2.1 79), (hT.2.1 80), trivial⟩) 404 1 oo 0 ($B) (0 + lh (m.2 79) (m.2 80) (m.1 73)) ⟨by decide, by decide⟩ ⟨by decide, by decide⟩ (r32 (by omega) (by omega)) ⟨by decide, by decide⟩ (fun _ => ⟨(show 0 ≤ 404 ∧ 404 ≤ 408 by first | omega | decide), (show 0 ≤ 1 ∧ 1 ≤ 64 by first | omega | decide), (show 0 ≤ oo ∧ oo ≤ 191 by first | omega | decide), (show CNk 404 oo by first | exact hCk | (refine ⟨?_, ?_, ?_, ?_⟩ <;> omega)), (show ar 404 ≤ (0 + lh (m.2 79) (m.2 80) (m.1 73)) by first | exact hAr | omega), (show EX (m.2 65) (m.2 67) ($B) (m.1 28) (0 + lh (m.2 79) (m.2 80) (m.1 73)) by first | exact hEX | assumption)⟩)) (fun r551 k552 => ?_)
                  obtain ⟨y553, y555, y557, F559, F561, F563, F565, g554, g556, g558, G560, G562, G564, G566, h567, c568, rfl⟩ := k552
                  refine ⟨_, _, rfl, ?_⟩
                  refine T_nf (st' := []) (l' := [(7, y530), (8, y532), (9, y534), (10, y553), (11, y555), (12, y540), (28, y557), (69, (m.1 69)), (70, (m.1 70)), (71, (m.1 71)), (72, (m.1 72)), (73, (m.1 73)), (74, (m.1 74)), (75, (m.1 75))]) (a' := [(65, F559), (66, F561), (67, F563), (68, F565), (76, (m.2 76)), (77, (m.2 77)), (78, (m.2 78)), (79, (m.2 79)), (80, (m.2 80))]) rfl rfl rfl rfl rfl ?_
                  by_cases hf569 : y553 = 0
                  · skip
                    subst hf569
                    replace h567 : 0 = 0 := h567 rfl
                    obtain ⟨c570, c571, c572⟩ := c568 rfl
                    replace c570 : y557 = (m.1 28) + 1 := c570
                    replace c571 : EX F559 F563 ($B) y557 ((0 + lh (m.2 79) (m.2 80) (m.1 73)) + 1 - ar 404) := c571
                    have hEX := c571
                    replace c572 : agr (m.2 65) F559 (m.1 28) := c572
                    have hAg := c572
                    have u573 : (m.1 8) ≤ y532 := by omega
                    have hAgC : agr (m.2 65) F559 (m.1 28) := by first | exact agr_r _ _ | exact hAgC | exact agr_t hAgC hAg (by omega)
                    clear g539 g554
                    refine T_ld 180 (.ref 189) rfl (fun _ => rfl) ?_
                    refine T_ld 181 (.int (i32 1)) rfl (fun _ => rfl) ?_
                    refine T_ld 182 (.int (i32 (m.1 8))) rfl (fun _ => rfl) ?_
                    refine T_call 185 249 [.ref 189, .int (i32 1), .int (i32 (m.1 8))] [] rfl (fun _ => rfl) rfl (c_atom w (mO m [(7, y530), (8, y532), (9, y534), (10, 0), (11, y555), (12, y540), (28, y557), (69, (m.1 69)), (70, (m.1 70)), (71, (m.1 71)), (72, (m.1 72)), (73, (m.1 73)), (74, (m.1 74)), (75, (m.1 75))] [(65, F559), (66, F561), (67, F563), (68, F565), (76, (m.2 76)), (77, (m.2 77)), (78, (m.2 78)), (79, (m.2 79)), (80, (m.2 80))]) c N D (by omega) (Ty_mO hT rfl rfl ⟨g531, g533, g535, ⟨(by omega : (0 : Int) ≤ 0), (by omega : (0 : Int) ≤ 8)⟩, g556, g541, g558, f69, f70, f71, f72, f73, f74, f75, trivial⟩ ⟨G560, G562, G564, G566, (hT.2.1 76), (hT.2.1 77), (hT.2.1 78), (hT.2.1 79), (hT.2.1 80), trivial⟩) 1 (m.1 8) ⟨by decide, by decide⟩ (r32 (by omega) (by omega)) (show 0 ≤ 1 ∧ 1 ≤ 64 by omega) (show 0 ≤ (m.1 8) ∧ (m.1 8) ≤ 4000 by omega)) (fun r574 k575 => ?_)
                    obtain ⟨y576, y578, y580, y582, y584, g577, g579, g581, g583, g585, h586, rfl⟩ := k575
                    refine ⟨_, _, rfl, ?_⟩
                    refine T_nf (st' := []) (l' := [(7, y530), (8, y532), (9, y534), (10, 0), (11, y555), (12, y540), (28, y557), (69, y576), (70, y578), (71, y580), (72, y582), (73, (m.1 73)), (74, (m.1 74)), (75, y584)]) (a' := [(65, F559), (66, F561), (67, F563), (68, F565), (76, (m.2 76)), (77, (m.2 77)), (78, (m.2 78)), (79, (m.2 79)), (80, (m.2 80))]) rfl rfl rfl rfl rfl ?_
                    replace h586 : 0 = 0 → y584 = 1 ∧ y576 = 1 := h586
                    have u587 : (m.1 8) ≤ y532 := by omega
                    have hAgC : agr (m.2 65) F559 (m.1 28) := by first | exact agr_r _ _ | exact hAgC | exact agr_t hAgC hAg (by omega)
                    have hXE : XS F559 F563 (m.2 76) (m.2 78) (m.2 79) (m.2 80) $B y557 (m.1 73) (m.1 74) (um y584) := by
                      rw [show um y584 = 1 from if_neg (by omega)]
                      exact XS_of hXS hEX (by rw [show ar 404 = 0 from rfl]; omega)
                    refine T_goto 219 rfl (fun _ => rfl) ?_
                    refine T_ret rfl (fun _ => rfl) ?_
                    exact ⟨y530, y532, y534, 0, y555, y540, y557, y576, y578, y580, y582, (m.1 73), (m.1 74), y584, F559, F561, F563, F565, (m.2 76), (m.2 77), (m.2 78), (m.2 79), (m.2 80), g531, g533, g535, ⟨by omega, by omega⟩, g556, g541, g558, g577, g579, g581, g583, f73, f74, g585, G560, G562, G564, G566, (hT.2.1 76), (hT.2.1 77), (hT.2.1 78), (hT.2.1 79), (hT.2.1 80), (by omega), (by first | (first | exact hLx | (intro h9; exfalso; omega)) | (exfalso; omega)), (fun _ => ⟨(by omega), (by omega), (by omega), (by omega), (by first | (exact hXE) | (exfalso; omega)), (by first | (exact hAgC) | (exfalso; omega))⟩), rfl⟩
                  · skip
                    clear c568
                    clear h567
                    have hf588 : 1 ≤ y553 := by omega
                    clear g539
                    refine Tm_lv (a := [(0, .ref 189), (1, .int (i32 (m.1 8))), (2, .int (i32 oo))]) rfl rfl ⟨rfl, rfl, rfl, trivial⟩ ?_
                    exact J179_147 oo y530 y532 y534 y553 y555 y540 y557 F559 F561 F563 F565 (r32 (by omega) (by omega)) g531 g533 g535 g554 g556 g541 g558 G560 G562 G564 G566 (by omega) (by omega)
                · skip
                  replace h543 : LxP y530 y532 y534 (m.1 6) y536 := h543
                  have hLx := h543
                  replace h544 : y512 ≤ y532 := h544
                  clear h545
                  clear h546
                  replace h547 : 0 ≤ oo ∧ (oo < 0 ∨ oo = 0) := h547
                  clear h548
                  have hf589 : 1 ≤ y536 := by omega
                  clear g511 g513 g515 g519 g521 h522 h524 h525 u527 h544
                  refine Tm_lv (a := [(0, .ref 189), (1, .int (i32 (m.1 8)))]) rfl rfl ⟨rfl, rfl, trivial⟩ ?_
                  exact J168_183 oo y530 y532 y534 y536 y538 y540 (r32 (by omega) (by omega)) g531 g533 g535 g537 g539 g541 (by omega) (by omega)
              · skip
                replace h522 : LxP y510 y512 y514 (m.1 6) y516 := h522
                have hLx := h522
                clear h523
                replace h524 : (m.1 8) ≤ y512 := h524
                clear h525
                have hf590 : 1 ≤ y516 := by omega
                refine T_ld 164 (.ref 189) rfl (fun _ => rfl) ?_
                refine T_ld 165 (.int (i32 2)) rfl (fun _ => rfl) ?_
                refine T_call 168 236 [.ref 189, .int (i32 2)] [] rfl (fun _ => rfl) rfl (c_oldName w (mO m [(7, y510), (8, y512), (9, y514), (10, y516), (11, y518), (12, y520), (28, (m.1 28)), (69, (m.1 69)), (70, (m.1 70)), (71, (m.1 71)), (72, (m.1 72)), (73, (m.1 73)), (74, (m.1 74)), (75, (m.1 75))] [(65, (m.2 65)), (66, (m.2 66)), (67, (m.2 67)), (68, (m.2 68)), (76, (m.2 76)), (77, (m.2 77)), (78, (m.2 78)), (79, (m.2 79)), (80, (m.2 80))]) c N D (by omega) (Ty_mO hT rfl rfl ⟨g511, g513, g515, g517, g519, g521, f28, f69, f70, f71, f72, f73, f74, f75, trivial⟩ ⟨(hT.2.1 65), (hT.2.1 66), (hT.2.1 67), (hT.2.1 68), (hT.2.1 76), (hT.2.1 77), (hT.2.1 78), (hT.2.1 79), (hT.2.1 80), trivial⟩) 2 0 ⟨by decide, by decide⟩ (show LxP y510 y512 y514 (m.1 6) y516 by first | exact hLx | (intro h9; exfalso; omega) | (intro h9; have h8 := hLx (by omega); omega)) (show ∀ k, (m.2 14) k + (m.2 15) k ≤ 4000 by first | exact p1 | exact hNM) (show 1 ≤ 2 ∧ 2 ≤ 7 ∧ 2 ≠ 5 by omega) (show 0 ≤ 16 by omega) (show y516 = 0 → ∀ k, 0 ≤ k → k < (m.1 13) → (m.2 16) k = 2 → 0 ≤ (m.2 17) k ∧ (m.2 17) k < 0 by first | exact hOL | (intro h; exfalso; omega)) (show 2 = 3 → 3 ≤ 0 by omega)) (fun r591 k592 => ?_)
                obtain ⟨y593, y595, y597, y599, y601, y603, oo, g594, g596, g598, g600, g602, g604, g605, h606, h607, h608, h609, h610, h611, rfl⟩ := k592
                refine ⟨_, _, rfl, ?_⟩
                refine T_nf (st' := [.int (i32 oo)]) (l' := [(7, y593), (8, y595), (9, y597), (10, y599), (11, y601), (12, y603), (28, (m.1 28)), (69, (m.1 69)), (70, (m.1 70)), (71, (m.1 71)), (72, (m.1 72)), (73, (m.1 73)), (74, (m.1 74)), (75, (m.1 75))]) (a' := [(65, (m.2 65)), (66, (m.2 66)), (67, (m.2 67)), (68, (m.2 68)), (76, (m.2 76)), (77, (m.2 77)), (78, (m.2 78)), (79, (m.2 79)), (80, (m.2 80))]) rfl rfl rfl rfl rfl ?_
                obtain ⟨g605a, g605b⟩ := g605
                replace h606 : LxP y593 y595 y597 (m.1 6) y599 := h606
                replace h607 : y512 ≤ y595 := h607
                replace h608 : y599 = 0 → y516 = 0 ∧ y512 + y514 ≤ y595 := h608
                replace h609 : y599 = 0 → y510 = 1 := h609
                replace h610 : 0 ≤ oo ∧ (oo < 0 ∨ oo = 0) := h610
                replace h611 : y599 = 0 → oo < 0 := h611
                have hf612 : 1 ≤ y599 := by omega
                clear h608
                clear h609
                clear h611
                have hLx := h606
                clear g511 g513 g515 g517 g519 g521 h522 h524 hf590 h607
                refine Tm_lv (a := [(0, .ref 189), (1, .int (i32 (m.1 8)))]) rfl rfl ⟨rfl, rfl, trivial⟩ ?_
                exact J168_183 oo y593 y595 y597 y599 y601 y603 (r32 (by omega) (by omega)) g594 g596 g598 g600 g602 g604 (by omega) (by omega)
          · skip
            refine T_ld 142 (.ref 189) rfl (fun _ => rfl) ?_
            refine T_ld 143 (.int (i32 (m.1 8))) rfl (fun _ => rfl) ?_
            refine T_call 146 251 [.ref 189, .int (i32 (m.1 8))] [] rfl (fun _ => rfl) rfl (c_takeName w (mO m [(7, (m.1 7)), (8, (m.1 8)), (9, (m.1 9)), (10, (m.1 10)), (11, (m.1 11)), (12, (m.1 12)), (28, (m.1 28)), (69, (m.1 69)), (70, (m.1 70)), (71, (m.1 71)), (72, (m.1 72)), (73, (m.1 73)), (74, (m.1 74)), (75, (m.1 75))] [(65, (m.2 65)), (66, (m.2 66)), (67, (m.2 67)), (68, (m.2 68)), (76, (m.2 76)), (77, (m.2 77)), (78, (m.2 78)), (79, (m.2 79)), (80, (m.2 80))]) c N D (by omega) (Ty_mO hT rfl rfl ⟨f7, f8, f9, f10, f11, f12, f28, f69, f70, f71, f72, f73, f74, f75, trivial⟩ ⟨(hT.2.1 65), (hT.2.1 66), (hT.2.1 67), (hT.2.1 68), (hT.2.1 76), (hT.2.1 77), (hT.2.1 78), (hT.2.1 79), (hT.2.1 80), trivial⟩) (m.1 8) ($B) (0 + lh (m.2 79) (m.2 80) (m.1 73)) (r32 (by omega) (by omega)) (show LxP (m.1 7) (m.1 8) (m.1 9) (m.1 6) (m.1 10) by first | exact hLx | (intro h9; exfalso; omega)) (show ∀ k, (m.2 14) k + (m.2 15) k ≤ 4000 by assumption) (show ∀ k, (m.2 31) k + (m.2 32) k ≤ 4000 by assumption) (show ∀ k, (m.2 47) k + (m.2 48) k ≤ 4000 by assumption) (show 0 ≤ (m.1 8) ∧ (m.1 8) ≤ 4000 by omega) (show (m.1 10) = 0 by omega) ⟨(show PN (m.1 13) (m.1 19) (m.1 20) (m.1 21) (m.1 22) (m.1 23) (m.1 25) (m.1 26) (m.2 16) (m.2 17) by assumption), (show (m.1 7) = 1 by omega), (show EX (m.2 65) (m.2 67) ($B) (m.1 28) (0 + lh (m.2 79) (m.2 80) (m.1 73)) by exact hEX), (show 0 ≤ (0 + lh (m.2 79) (m.2 80) (m.1 73)) by omega)⟩) (fun r613 k614 => ?_)
            obtain ⟨y615, y617, y619, y621, y623, y625, y627, y629, y631, y633, y635, y637, F639, F641, F643, F645, g616, g618, g620, g622, g624, g626, g628, g630, g632, g634, g636, g638, G640, G642, G644, G646, h647, h648, c649, rfl⟩ := k614
            refine ⟨_, _, rfl, ?_⟩
            refine T_nf (st' := []) (l' := [(7, y615), (8, y617), (9, y619), (10, y621), (11, y623), (12, y625), (28, y627), (69, y629), (70, y631), (71, y633), (72, y635), (73, (m.1 73)), (74, (m.1 74)), (75, y637)]) (a' := [(65, F639), (66, F641), (67, F643), (68, F645), (76, (m.2 76)), (77, (m.2 77)), (78, (m.2 78)), (79, (m.2 79)), (80, (m.2 80))]) rfl rfl rfl rfl rfl ?_
            by_cases hf650 : y621 = 0
            · skip
              subst hf650
              replace h647 : (m.1 10) = 0 := h647 rfl
              replace h648 : LxP y615 y617 y619 (m.1 6) 0 := h648
              have hLx := h648
              obtain ⟨c651, c652, c653, c654, c655, c656⟩ := c649 rfl
              replace c651 : (m.1 8) + 1 ≤ y617 := c651
              replace c652 : y637 = 1 := c652
              replace c653 : y629 ≤ 64 := c653
              replace c654 : y627 = (m.1 28) + 1 := c654
              replace c655 : EX F639 F643 ($B) y627 ((0 + lh (m.2 79) (m.2 80) (m.1 73)) + 1) := c655
              have hEX := c655
              replace c656 : agr (m.2 65) F639 (m.1 28) := c656
              have hAg := c656
              have u657 : (m.1 8) ≤ y617 := by omega
              have hAgC : agr (m.2 65) F639 (m.1 28) := by first | exact agr_r _ _ | exact hAgC | exact agr_t hAgC hAg (by omega)
              clear g622
              have hXE : XS F639 F643 (m.2 76) (m.2 78) (m.2 79) (m.2 80) $B y627 (m.1 73) (m.1 74) (um y637) := by
                rw [show um y637 = 1 from if_neg (by omega)]
                exact XS_of hXS hEX (by omega)
              refine T_goto 219 rfl (fun _ => rfl) ?_
              refine T_ret rfl (fun _ => rfl) ?_
              exact ⟨y615, y617, y619, 0, y623, y625, y627, y629, y631, y633, y635, (m.1 73), (m.1 74), y637, F639, F641, F643, F645, (m.2 76), (m.2 77), (m.2 78), (m.2 79), (m.2 80), g616, g618, g620, ⟨by omega, by omega⟩, g624, g626, g628, g630, g632, g634, g636, f73, f74, g638, G640, G642, G644, G646, (hT.2.1 76), (hT.2.1 77), (hT.2.1 78), (hT.2.1 79), (hT.2.1 80), (by omega), (by first | (first | exact hLx | (intro h9; exfalso; omega)) | (exfalso; omega)), (fun _ => ⟨(by omega), (by omega), (by omega), (by omega), (by first | (exact hXE) | (exfalso; omega)), (by first | (exact hAgC) | (exfalso; omega))⟩), rfl⟩
            · skip
              clear c649
              clear h647
              replace h648 : LxP y615 y617 y619 (m.1 6) y621 := h648
              have hLx := h648
              have hf658 : 1 ≤ y621 := by omega
              refine T_goto 219 rfl (fun _ => rfl) ?_
              refine T_ret rfl (fun _ => rfl) ?_
              exact ⟨y615, y617, y619, y621, y623, y625, y627, y629, y631, y633, y635, (m.1 73), (m.1 74), y637, F639, F641, F643, F645, (m.2 76), (m.2 77), (m.2 78), (m.2 79), (m.2 80), g616, g618, g620, g622, g624, g626, g628, g630, g632, g634, g636, f73, f74, g638, G640, G642, G644, G646, (hT.2.1 76), (hT.2.1 77), (hT.2.1 78), (hT.2.1 79), (hT.2.1 80), (by omega), (by first | (first | exact hLx | (intro h9; exfalso; omega)) | (exfalso; omega)), (fun h => absurd h (by omega)), rfl⟩
        · skip
          refine T_gf 97 (.long (i64 (m.1 12))) rfl rfl rfl rfl rfl rfl ?_
          refine T_sto 98 [(2, .long (i64 (m.1 12))), (1, .int (i32 (m.1 8))), (0, .ref 189)] rfl (fun _ => rfl) ?_
          refine T_ld 99 (.ref 189) rfl (fun _ => rfl) ?_
          refine T_call 102 212 [.ref 189] [] rfl (fun _ => rfl) rfl (c_next w (mO m [(7, (m.1 7)), (8, (m.1 8)), (9, (m.1 9)), (10, (m.1 10)), (11, (m.1 11)), (12, (m.1 12)), (28, (m.1 28)), (69, (m.1 69)), (70, (m.1 70)), (71, (m.1 71)), (72, (m.1 72)), (73, (m.1 73)), (74, (m.1 74)), (75, (m.1 75))] [(65, (m.2 65)), (66, (m.2 66)), (67, (m.2 67)), (68, (m.2 68)), (76, (m.2 76)), (77, (m.2 77)), (78, (m.2 78)), (79, (m.2 79)), (80, (m.2 80))]) c N D (by omega) (Ty_mO hT rfl rfl ⟨f7, f8, f9, f10, f11, f12, f28, f69, f70, f71, f72, f73, f74, f75, trivial⟩ ⟨(hT.2.1 65), (hT.2.1 66), (hT.2.1 67), (hT.2.1 68), (hT.2.1 76), (hT.2.1 77), (hT.2.1 78), (hT.2.1 79), (hT.2.1 80), trivial⟩) (show (m.1 10) = 0 → (m.1 8) + (m.1 9) ≤ (m.1 6) by first | omega | (intro h9; have h8 := hLx h9; omega))) (fun r659 k660 => ?_)
          obtain ⟨y661, y663, y665, y667, y669, y671, g662, g664, g666, g668, g670, g672, h673, h674, h675, h676, rfl⟩ := k660
          refine ⟨_, _, rfl, ?_⟩
          refine T_nf (st' := []) (l' := [(7, y661), (8, y663), (9, y665), (10, y667), (11, y669), (12, y671), (28, (m.1 28)), (69, (m.1 69)), (70, (m.1 70)), (71, (m.1 71)), (72, (m.1 72)), (73, (m.1 73)), (74, (m.1 74)), (75, (m.1 75))]) (a' := [(65, (m.2 65)), (66, (m.2 66)), (67, (m.2 67)), (68, (m.2 68)), (76, (m.2 76)), (77, (m.2 77)), (78, (m.2 78)), (79, (m.2 79)), (80, (m.2 80))]) rfl rfl rfl rfl rfl ?_
          by_cases hf677 : y667 = 0
          · skip
            subst hf677
            replace h673 : LxP y661 y663 y665 (m.1 6) 0 := h673
            have hLx := h673
            replace h674 : (m.1 10) = 0 := h674 rfl
            replace h675 : (m.1 8) ≤ y663 := h675
            replace h676 : (m.1 8) + (m.1 9) ≤ y663 := h676 rfl
            have u678 : (m.1 8) ≤ y663 := by omega
            have hAgC : agr (m.2 65) (m.2 65) (m.1 28) := by first | exact agr_r _ _ | exact hAgC | exact agr_t hAgC hAg (by omega)
            clear g668
            have hAr : ar 400 ≤ 0 + lh (m.2 79) (m.2 80) (m.1 73) := by rw [show ar 400 = 0 from rfl]; omega
            have hCk : CNk 400 0 := by refine ⟨?_, ?_, ?_, ?_⟩ <;> omega
            refine T_ld 103 (.ref 189) rfl (fun _ => rfl) ?_
            refine T_ld 106 (.int (i32 400)) rfl (fun _ => rfl) ?_
            refine T_ld 108 (.int (i32 64)) rfl (fun _ => rfl) ?_
            refine T_ld 109 (.int (i32 0)) rfl (fun _ => rfl) ?_
            refine T_ld 110 (.long (i64 (m.1 12))) rfl (fun _ => rfl) ?_
            refine T_call 113 248 [.ref 189, .int (i32 400), .int (i32 64), .int (i32 0), .long (i64 (m.1 12))] [] rfl (fun _ => rfl) rfl (c_node w (mO m [(7, y661), (8, y663), (9, y665), (10, 0), (11, y669), (12, y671), (28, (m.1 28)), (69, (m.1 69)), (70, (m.1 70)), (71, (m.1 71)), (72, (m.1 72)), (73, (m.1 73)), (74, (m.1 74)), (75, (m.1 75))] [(65, (m.2 65)), (66, (m.2 66)), (67, (m.2 67)), (68, (m.2 68)), (76, (m.2 76)), (77, (m.2 77)), (78, (m.2 78)), (79, (m.2 79)), (80, (m.2 80))]) c N D (by omega) (Ty_mO hT rfl rfl ⟨g662, g664, g666, ⟨(by omega : (0 : Int) ≤ 0), (by omega : (0 : Int) ≤ 8)⟩, g670, g672, f28, f69, f70, f71, f72, f73, f74, f75, trivial⟩ ⟨(hT.2.1 65), (hT.2.1 66), (hT.2.1 67), (hT.2.1 68), (hT.2.1 76), (hT.2.1 77), (hT.2.1 78), (hT.2.1 79), (hT.2.1 80), trivial⟩) 400 64 0 (m.1 12) ($B) (0 + lh (m.2 79) (m.2 80) (m.1 73)) ⟨by decide, by decide⟩ ⟨by decide, by decide⟩ ⟨by decide, by decide⟩ (r64 (by omega) (by omega)) (fun _ => ⟨(show 0 ≤ 400 ∧ 400 ≤ 408 by first | omega | decide), (show 0 ≤ 64 ∧ 64 ≤ 64 by first | omega | decide), (show 0 ≤ 0 ∧ 0 ≤ 191 by first | omega | decide), (show CNk 400 0 by first | exact hCk | (refine ⟨?_, ?_, ?_, ?_⟩ <;> omega)), (show ar 400 ≤ (0 + lh (m.2 79) (m.2 80) (m.1 73)) by first | exact hAr | omega), (show EX (m.2 65) (m.2 67) ($B) (m.1 28) (0 + lh (m.2 79) (m.2 80) (m.1 73)) by first | exact hEX | assumption)⟩)) (fun r679 k680 => ?_)
            obtain ⟨y681, y683, y685, F687, F689, F691, F693, g682, g684, g686, G688, G690, G692, G694, h695, c696, rfl⟩ := k680
            refine ⟨_, _, rfl, ?_⟩
            refine T_nf (st' := []) (l' := [(7, y661), (8, y663), (9, y665), (10, y681), (11, y683), (12, y671), (28, y685), (69, (m.1 69)), (70, (m.1 70)), (71, (m.1 71)), (72, (m.1 72)), (73, (m.1 73)), (74, (m.1 74)), (75, (m.1 75))]) (a' := [(65, F687), (66, F689), (67, F691), (68, F693), (76, (m.2 76)), (77, (m.2 77)), (78, (m.2 78)), (79, (m.2 79)), (80, (m.2 80))]) rfl rfl rfl rfl rfl ?_
            by_cases hf697 : y681 = 0
            · skip
              subst hf697
              replace h695 : 0 = 0 := h695 rfl
              obtain ⟨c698, c699, c700⟩ := c696 rfl
              replace c698 : y685 = (m.1 28) + 1 := c698
              replace c699 : EX F687 F691 ($B) y685 ((0 + lh (m.2 79) (m.2 80) (m.1 73)) + 1 - ar 400) := c699
              have hEX := c699
              replace c700 : agr (m.2 65) F687 (m.1 28) := c700
              have hAg := c700
              have u701 : (m.1 8) ≤ y663 := by omega
              have hAgC : agr (m.2 65) F687 (m.1 28) := by first | exact agr_r _ _ | exact hAgC | exact agr_t hAgC hAg (by omega)
              clear g670 g682
              refine T_ld 114 (.ref 189) rfl (fun _ => rfl) ?_
              refine T_ld 116 (.int (i32 64)) rfl (fun _ => rfl) ?_
              refine T_ld 117 (.int (i32 (m.1 8))) rfl (fun _ => rfl) ?_
              refine T_call 120 249 [.ref 189, .int (i32 64), .int (i32 (m.1 8))] [] rfl (fun _ => rfl) rfl (c_atom w (mO m [(7, y661), (8, y663), (9, y665), (10, 0), (11, y683), (12, y671), (28, y685), (69, (m.1 69)), (70, (m.1 70)), (71, (m.1 71)), (72, (m.1 72)), (73, (m.1 73)), (74, (m.1 74)), (75, (m.1 75))] [(65, F687), (66, F689), (67, F691), (68, F693), (76, (m.2 76)), (77, (m.2 77)), (78, (m.2 78)), (79, (m.2 79)), (80, (m.2 80))]) c N D (by omega) (Ty_mO hT rfl rfl ⟨g662, g664, g666, ⟨(by omega : (0 : Int) ≤ 0), (by omega : (0 : Int) ≤ 8)⟩, g684, g672, g686, f69, f70, f71, f72, f73, f74, f75, trivial⟩ ⟨G688, G690, G692, G694, (hT.2.1 76), (hT.2.1 77), (hT.2.1 78), (hT.2.1 79), (hT.2.1 80), trivial⟩) 64 (m.1 8) ⟨by decide, by decide⟩ (r32 (by omega) (by omega)) (show 0 ≤ 64 ∧ 64 ≤ 64 by omega) (show 0 ≤ (m.1 8) ∧ (m.1 8) ≤ 4000 by omega)) (fun r702 k703 => ?_)
              obtain ⟨y704, y706, y708, y710, y712, g705, g707, g709, g711, g713, h714, rfl⟩ := k703
              refine ⟨_, _, rfl, ?_⟩
              refine T_nf (st' := []) (l' := [(7, y661), (8, y663), (9, y665), (10, 0), (11, y683), (12, y671), (28, y685), (69, y704), (70, y706), (71, y708), (72, y710), (73, (m.1 73)), (74, (m.1 74)), (75, y712)]) (a' := [(65, F687), (66, F689), (67, F691), (68, F693), (76, (m.2 76)), (77, (m.2 77)), (78, (m.2 78)), (79, (m.2 79)), (80, (m.2 80))]) rfl rfl rfl rfl rfl ?_
              replace h714 : 0 = 0 → y712 = 1 ∧ y704 = 64 := h714
              have u715 : (m.1 8) ≤ y663 := by omega
              have hAgC : agr (m.2 65) F687 (m.1 28) := by first | exact agr_r _ _ | exact hAgC | exact agr_t hAgC hAg (by omega)
              refine T_ld 121 (.ref 189) rfl (fun _ => rfl) ?_
              refine T_ld 122 (.int (i32 1)) rfl (fun _ => rfl) ?_
              refine T_pf (l' := [(7, y661), (8, y663), (9, y665), (10, 0), (11, y683), (12, y671), (28, y685), (69, y704), (70, y706), (71, 1), (72, y710), (73, (m.1 73)), (74, (m.1 74)), (75, y712)]) 125 1 rfl rfl rfl rfl rfl rfl ?_
              refine T_ld 126 (.ref 189) rfl (fun _ => rfl) ?_
              refine T_ld 127 (.long (i64 (m.1 12))) rfl (fun _ => rfl) ?_
              refine T_pf (l' := [(7, y661), (8, y663), (9, y665), (10, 0), (11, y683), (12, y671), (28, y685), (69, y704), (70, y706), (71, 1), (72, (m.1 12)), (73, (m.1 73)), (74, (m.1 74)), (75, y712)]) 130 (m.1 12) rfl rfl rfl rfl rfl rfl ?_
              have g716 : (-9223372036854775808) ≤ (m.1 12) ∧ (m.1 12) ≤ 9223372036854775807 := ⟨by omega, by omega⟩
              have hXE : XS F687 F691 (m.2 76) (m.2 78) (m.2 79) (m.2 80) $B y685 (m.1 73) (m.1 74) (um y712) := by
                rw [show um y712 = 1 from if_neg (by omega)]
                exact XS_of hXS hEX (by rw [show ar 400 = 0 from rfl]; omega)
              refine T_goto 219 rfl (fun _ => rfl) ?_
              refine T_ret rfl (fun _ => rfl) ?_
              exact ⟨y661, y663, y665, 0, y683, y671, y685, y704, y706, 1, (m.1 12), (m.1 73), (m.1 74), y712, F687, F689, F691, F693, (m.2 76), (m.2 77), (m.2 78), (m.2 79), (m.2 80), g662, g664, g666, ⟨by omega, by omega⟩, g684, g672, g686, g705, g707, ⟨by omega, by omega⟩, g716, f73, f74, g713, G688, G690, G692, G694, (hT.2.1 76), (hT.2.1 77), (hT.2.1 78), (hT.2.1 79), (hT.2.1 80), (by omega), (by first | (first | exact hLx | (intro h9; exfalso; omega)) | (exfalso; omega)), (fun _ => ⟨(by omega), (by omega), (by omega), (by omega), (by first | (exact hXE) | (exfalso; omega)), (by first | (exact hAgC) | (exfalso; omega))⟩), rfl⟩
            · skip
              clear c696
              clear h695
              have hf717 : 1 ≤ y681 := by omega
              clear g670
              refine Tm_lv (a := [(0, .ref 189), (1, .int (i32 (m.1 8))), (2, .long (i64 (m.1 12)))]) rfl rfl ⟨rfl, rfl, rfl, trivial⟩ ?_
              exact J113_224 y661 y663 y665 y681 y683 y671 y685 F687 F689 F691 F693 g662 g664 g666 g682 g684 g672 g686 G688 G690 G692 G694 (by omega) (by omega)
          · skip
            replace h673 : LxP y661 y663 y665 (m.1 6) y667 := h673
            have hLx := h673
            clear h674
            replace h675 : (m.1 8) ≤ y663 := h675
            clear h676
            have hf718 : 1 ≤ y667 := by omega
            refine T_ld 103 (.ref 189) rfl (fun _ => rfl) ?_
            refine T_ld 106 (.int (i32 400)) rfl (fun _ => rfl) ?_
            refine T_ld 108 (.int (i32 64)) rfl (fun _ => rfl) ?_
            refine T_ld 109 (.int (i32 0)) rfl (fun _ => rfl) ?_
            refine T_ld 110 (.long (i64 (m.1 12))) rfl (fun _ => rfl) ?_
            refine T_call 113 248 [.ref 189, .int (i32 400), .int (i32 64), .int (i32 0), .long (i64 (m.1 12))] [] rfl (fun _ => rfl) rfl (c_node w (mO m [(7, y661), (8, y663), (9, y665), (10, y667), (11, y669), (12, y671), (28, (m.1 28)), (69, (m.1 69)), (70, (m.1 70)), (71, (m.1 71)), (72, (m.1 72)), (73, (m.1 73)), (74, (m.1 74)), (75, (m.1 75))] [(65, (m.2 65)), (66, (m.2 66)), (67, (m.2 67)), (68, (m.2 68)), (76, (m.2 76)), (77, (m.2 77)), (78, (m.2 78)), (79, (m.2 79)), (80, (m.2 80))]) c N D (by omega) (Ty_mO hT rfl rfl ⟨g662, g664, g666, g668, g670, g672, f28, f69, f70, f71, f72, f73, f74, f75, trivial⟩ ⟨(hT.2.1 65), (hT.2.1 66), (hT.2.1 67), (hT.2.1 68), (hT.2.1 76), (hT.2.1 77), (hT.2.1 78), (hT.2.1 79), (hT.2.1 80), trivial⟩) 400 64 0 (m.1 12) ($B) (0 + lh (m.2 79) (m.2 80) (m.1 73)) ⟨by decide, by decide⟩ ⟨by decide, by decide⟩ ⟨by decide, by decide⟩ (r64 (by omega) (by omega)) (fun h => absurd h (by omega))) (fun r719 k720 => ?_)
            obtain ⟨y721, y723, y725, F727, F729, F731, F733, g722, g724, g726, G728, G730, G732, G734, h735, c736, rfl⟩ := k720
            refine ⟨_, _, rfl, ?_⟩
            refine T_nf (st' := []) (l' := [(7, y661), (8, y663), (9, y665), (10, y721), (11, y723), (12, y671), (28, y725), (69, (m.1 69)), (70, (m.1 70)), (71, (m.1 71)), (72, (m.1 72)), (73, (m.1 73)), (74, (m.1 74)), (75, (m.1 75))]) (a' := [(65, F727), (66, F729), (67, F731), (68, F733), (76, (m.2 76)), (77, (m.2 77)), (78, (m.2 78)), (79, (m.2 79)), (80, (m.2 80))]) rfl rfl rfl rfl rfl ?_
            replace h735 : y721 = 0 → y667 = 0 := h735
            have hf737 : 1 ≤ y721 := by omega
            clear c736
            clear h735
            clear g668 g670 h673 hf718
            refine Tm_lv (a := [(0, .ref 189), (1, .int (i32 (m.1 8))), (2, .long (i64 (m.1 12)))]) rfl rfl ⟨rfl, rfl, rfl, trivial⟩ ?_
            exact J113_224 y661 y663 y665 y721 y723 y671 y725 F727 F729 F731 F733 g662 g664 g666 g722 g724 g672 g726 G728 G730 G732 G734 (by omega) (by omega)
      · skip
        refine T_gf 36 (.int (i32 (m.1 74))) rfl rfl rfl rfl rfl rfl ?_
        refine T_ld 38 (.int (i32 24)) rfl (fun _ => rfl) ?_
        refine T_icmp 50 41 rfl rfl rfl (r32 (by omega) (by omega)) ⟨by decide, by decide⟩ (fun (h738 : (m.1 74) ≠ 24) => ?_) (fun (h738 : ¬ ((m.1 74) ≠ 24)) => ?_)
        · skip
          refine T_gf 54 (.int (i32 (m.1 10))) rfl rfl rfl rfl rfl rfl ?_
          refine T_if 58 57 rfl rfl rfl (r32 (by omega) (by omega)) (fun (h739 : (m.1 10) ≤ 0) => ?_) (fun (h739 : ¬ ((m.1 10) ≤ 0)) => by exfalso; omega)
          refine T_ld 59 (.ref 189) rfl (fun _ => rfl) ?_
          refine T_ld 60 (.ref 189) rfl (fun _ => rfl) ?_
          refine T_gf1 63 (.int (i32 (m.1 74))) rfl rfl rfl rfl ?_
          refine T_ld 64 (.int (i32 1)) rfl (fun _ => rfl) ?_
          refine T_iadd 65 rfl rfl ?_
          refine T_pf (l' := [(7, (m.1 7)), (8, (m.1 8)), (9, (m.1 9)), (10, (m.1 10)), (11, (m.1 11)), (12, (m.1 12)), (28, (m.1 28)), (69, (m.1 69)), (70, (m.1 70)), (71, (m.1 71)), (72, (m.1 72)), (73, (m.1 73)), (74, (m.1 74) + 1), (75, (m.1 75))]) 68 ((m.1 74) + 1) rfl rfl rfl rfl rfl rfl ?_
          have g740 : 0 ≤ (m.1 74) + 1 ∧ (m.1 74) + 1 ≤ 24 := ⟨by omega, by omega⟩
          refine T_ld 69 (.ref 189) rfl (fun _ => rfl) ?_
          refine T_ld 70 (.int (i32 1)) rfl (fun _ => rfl) ?_
          refine T_ld 71 (.int (i32 (m.1 8))) rfl (fun _ => rfl) ?_
          refine T_gf 75 (.int (i32 (m.1 7))) rfl rfl rfl rfl rfl rfl ?_
          refine T_call 78 246 [.ref 189, .int (i32 1), .int (i32 (m.1 8)), .int (i32 (m.1 7))] [] rfl (fun _ => rfl) rfl (c_open w (mO m [(7, (m.1 7)), (8, (m.1 8)), (9, (m.1 9)), (10, (m.1 10)), (11, (m.1 11)), (12, (m.1 12)), (28, (m.1 28)), (69, (m.1 69)), (70, (m.1 70)), (71, (m.1 71)), (72, (m.1 72)), (73, (m.1 73)), (74, (m.1 74) + 1), (75, (m.1 75))] [(65, (m.2 65)), (66, (m.2 66)), (67, (m.2 67)), (68, (m.2 68)), (76, (m.2 76)), (77, (m.2 77)), (78, (m.2 78)), (79, (m.2 79)), (80, (m.2 80))]) c N D (by omega) (Ty_mO hT rfl rfl ⟨f7, f8, f9, f10, f11, f12, f28, f69, f70, f71, f72, f73, g740, f75, trivial⟩ ⟨(hT.2.1 65), (hT.2.1 66), (hT.2.1 67), (hT.2.1 68), (hT.2.1 76), (hT.2.1 77), (hT.2.1 78), (hT.2.1 79), (hT.2.1 80), trivial⟩) 1 (m.1 8) (m.1 7) ⟨by decide, by decide⟩ (r32 (by omega) (by omega)) (r32 (by omega) (by omega)) (show (m.1 73) ≤ 59 by omega) (show 0 ≤ 1 ∧ 1 ≤ 2 by omega) (show 0 ≤ (m.1 8) ∧ (m.1 8) ≤ 4000 by omega) (show 0 ≤ (m.1 7) ∧ (m.1 7) ≤ 330 by omega)) (fun r741 k742 => ?_)
          obtain ⟨y743, F745, F747, F749, F751, F753, g744, G746, G748, G750, G752, G754, h755, h756, h757, h758, h759, h760, rfl⟩ := k742
          refine ⟨_, _, rfl, ?_⟩
          refine T_nf (st' := []) (l' := [(7, (m.1 7)), (8, (m.1 8)), (9, (m.1 9)), (10, (m.1 10)), (11, (m.1 11)), (12, (m.1 12)), (28, (m.1 28)), (69, (m.1 69)), (70, (m.1 70)), (71, (m.1 71)), (72, (m.1 72)), (73, y743), (74, (m.1 74) + 1), (75, (m.1 75))]) (a' := [(65, (m.2 65)), (66, (m.2 66)), (67, (m.2 67)), (68, (m.2 68)), (76, F745), (77, F747), (78, F749), (79, F751), (80, F753)]) rfl rfl rfl rfl rfl ?_
          replace h755 : y743 = (m.1 73) + 1 := h755
          replace h756 : F745 = upI (m.2 76) (m.1 73) 1 := h756
          have hO1 := h756
          replace h757 : F749 = upI (m.2 78) (m.1 73) (m.1 7) := h757
          have hO2 := h757
          replace h758 : F751 = upI (m.2 79) (m.1 73) 0 := h758
          have hO3 := h758
          replace h759 : ∀ j, j < 9 * (m.1 73) → F753 j = (m.2 80) j := h759
          have hW1 := h759
          replace h760 : ∀ j, 9 * (m.1 73) ≤ j → j < 9 * (m.1 73) + 9 → F753 j = -1 := h760
          have hW2 := h760
          have u761 : (m.1 8) ≤ (m.1 8) := by omega
          have hAgC : agr (m.2 65) (m.2 65) (m.1 28) := by first | exact agr_r _ _ | exact hAgC | exact agr_t hAgC hAg (by omega)
          refine T_ld 79 (.ref 189) rfl (fun _ => rfl) ?_
          refine T_call 82 212 [.ref 189] [] rfl (fun _ => rfl) rfl (c_next w (mO m [(7, (m.1 7)), (8, (m.1 8)), (9, (m.1 9)), (10, (m.1 10)), (11, (m.1 11)), (12, (m.1 12)), (28, (m.1 28)), (69, (m.1 69)), (70, (m.1 70)), (71, (m.1 71)), (72, (m.1 72)), (73, y743), (74, (m.1 74) + 1), (75, (m.1 75))] [(65, (m.2 65)), (66, (m.2 66)), (67, (m.2 67)), (68, (m.2 68)), (76, F745), (77, F747), (78, F749), (79, F751), (80, F753)]) c N D (by omega) (Ty_mO hT rfl rfl ⟨f7, f8, f9, f10, f11, f12, f28, f69, f70, f71, f72, g744, g740, f75, trivial⟩ ⟨(hT.2.1 65), (hT.2.1 66), (hT.2.1 67), (hT.2.1 68), G746, G748, G750, G752, G754, trivial⟩) (show (m.1 10) = 0 → (m.1 8) + (m.1 9) ≤ (m.1 6) by first | omega | (intro h9; have h8 := hLx h9; omega))) (fun r762 k763 => ?_)
          obtain ⟨y764, y766, y768, y770, y772, y774, g765, g767, g769, g771, g773, g775, h776, h777, h778, h779, rfl⟩ := k763
          refine ⟨_, _, rfl, ?_⟩
          refine T_nf (st' := []) (l' := [(7, y764), (8, y766), (9, y768), (10, y770), (11, y772), (12, y774), (28, (m.1 28)), (69, (m.1 69)), (70, (m.1 70)), (71, (m.1 71)), (72, (m.1 72)), (73, y743), (74, (m.1 74) + 1), (75, (m.1 75))]) (a' := [(65, (m.2 65)), (66, (m.2 66)), (67, (m.2 67)), (68, (m.2 68)), (76, F745), (77, F747), (78, F749), (79, F751), (80, F753)]) rfl rfl rfl rfl rfl ?_
          by_cases hf780 : y770 = 0
          · skip
            subst hf780
            replace h776 : LxP y764 y766 y768 (m.1 6) 0 := h776
            have hLx := h776
            replace h777 : (m.1 10) = 0 := h777 rfl
            replace h778 : (m.1 8) ≤ y766 := h778
            replace h779 : (m.1 8) + (m.1 9) ≤ y766 := h779 rfl
            have u781 : (m.1 8) ≤ y766 := by omega
            have hAgC : agr (m.2 65) (m.2 65) (m.1 28) := by first | exact agr_r _ _ | exact hAgC | exact agr_t hAgC hAg (by omega)
            clear g771
            have hXE : XS (m.2 65) (m.2 67) F745 F749 F751 F753 $B (m.1 28) y743 ((m.1 74) + 1) (um (m.1 75)) := by
              rw [hO1, hO2, hO3, show um (m.1 75) = 0 from if_pos (by omega)]
              exact XS_pre hXS (by omega) (by omega) hW1 hW2
            refine T_goto 219 rfl (fun _ => rfl) ?_
            refine T_ret rfl (fun _ => rfl) ?_
            exact ⟨y764, y766, y768, 0, y772, y774, (m.1 28), (m.1 69), (m.1 70), (m.1 71), (m.1 72), y743, (m.1 74) + 1, (m.1 75), (m.2 65), (m.2 66), (m.2 67), (m.2 68), F745, F747, F749, F751, F753, g765, g767, g769, ⟨by omega, by omega⟩, g773, g775, f28, f69, f70, f71, f72, g744, g740, f75, (hT.2.1 65), (hT.2.1 66), (hT.2.1 67), (hT.2.1 68), G746, G748, G750, G752, G754, (by omega), (by first | (first | exact hLx | (intro h9; exfalso; omega)) | (exfalso; omega)), (fun _ => ⟨(by omega), (by omega), (by omega), (by omega), (by first | (exact hXE) | (exfalso; omega)), (by first | (exact hAgC) | (exfalso; omega))⟩), rfl⟩
          · skip
            replace h776 : LxP y764 y766 y768 (m.1 6) y770 := h776
            have hLx := h776
            clear h777
            replace h778 : (m.1 8) ≤ y766 := h778
            clear h779
            have hf782 : 1 ≤ y770 := by omega
            refine Tm_lv (a := [(0, .ref 189), (1, .int (i32 (m.1 8)))]) rfl rfl ⟨rfl, rfl, trivial⟩ ?_
            exact J82_265 y764 y766 y768 y770 y772 y774 y743 F745 F747 F749 F751 F753 g765 g767 g769 g771 g773 g775 g744 G746 G748 G750 G752 G754 (by omega) (by omega)
        · skip
          refine T_ld 42 (.ref 189) rfl (fun _ => rfl) ?_
          refine T_ld 43 (.int (i32 4)) rfl (fun _ => rfl) ?_
          refine T_gf 47 (.int (i32 (m.1 8))) rfl rfl rfl rfl rfl rfl ?_
          refine T_call 50 222 [.ref 189, .int (i32 4), .int (i32 (m.1 8))] [] rfl (fun _ => rfl) rfl (c_wrong w (mO m [(7, (m.1 7)), (8, (m.1 8)), (9, (m.1 9)), (10, (m.1 10)), (11, (m.1 11)), (12, (m.1 12)), (28, (m.1 28)), (69, (m.1 69)), (70, (m.1 70)), (71, (m.1 71)), (72, (m.1 72)), (73, (m.1 73)), (74, (m.1 74)), (75, (m.1 75))] [(65, (m.2 65)), (66, (m.2 66)), (67, (m.2 67)), (68, (m.2 68)), (76, (m.2 76)), (77, (m.2 77)), (78, (m.2 78)), (79, (m.2 79)), (80, (m.2 80))]) c N D (by omega) (Ty_mO hT rfl rfl ⟨f7, f8, f9, f10, f11, f12, f28, f69, f70, f71, f72, f73, f74, f75, trivial⟩ ⟨(hT.2.1 65), (hT.2.1 66), (hT.2.1 67), (hT.2.1 68), (hT.2.1 76), (hT.2.1 77), (hT.2.1 78), (hT.2.1 79), (hT.2.1 80), trivial⟩) 4 (m.1 8) ⟨by decide, by decide⟩ (r32 (by omega) (by omega)) (show 1 ≤ 4 ∧ 4 ≤ 8 by omega) (show 0 ≤ (m.1 8) ∧ (m.1 8) ≤ 4000 by omega)) (fun r783 k784 => ?_)
          obtain ⟨y785, y787, g786, g788, h789, rfl⟩ := k784
          refine ⟨_, _, rfl, ?_⟩
          refine T_nf (st' := []) (l' := [(7, (m.1 7)), (8, (m.1 8)), (9, (m.1 9)), (10, y785), (11, y787), (12, (m.1 12)), (28, (m.1 28)), (69, (m.1 69)), (70, (m.1 70)), (71, (m.1 71)), (72, (m.1 72)), (73, (m.1 73)), (74, (m.1 74)), (75, (m.1 75))]) (a' := [(65, (m.2 65)), (66, (m.2 66)), (67, (m.2 67)), (68, (m.2 68)), (76, (m.2 76)), (77, (m.2 77)), (78, (m.2 78)), (79, (m.2 79)), (80, (m.2 80))]) rfl rfl rfl rfl rfl ?_
          replace h789 : (0 < (m.1 10) → y785 = (m.1 10) ∧ y787 = (m.1 11)) ∧ ((m.1 10) ≤ 0 → y785 = 4 ∧ y787 = (m.1 8)) := h789
          have hf790 : 1 ≤ y785 := by omega
          refine Tm_lv (a := [(0, .ref 189), (1, .int (i32 (m.1 8)))]) rfl rfl ⟨rfl, rfl, trivial⟩ ?_
          exact J50_283 y785 y787 g786 g788 (by omega) (by omega)
