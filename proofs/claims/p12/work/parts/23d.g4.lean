def Q_takeName (m : mR) (c : Nat → Option am_C) (N : Nat) (p : Int) (B : Int) (h : Int) : ag_Re af_T → Prop := fun R => ∃ (y7 : Int) (y8 : Int) (y9 : Int) (y10 : Int) (y11 : Int) (y12 : Int) (y28 : Int) (y69 : Int) (y70 : Int) (y71 : Int) (y72 : Int) (y75 : Int) (F65 : Int → Int) (F66 : Int → Int) (F67 : Int → Int) (F68 : Int → Int), (0 ≤ y7 ∧ y7 ≤ 330) ∧ (0 ≤ y8 ∧ y8 ≤ 4000) ∧ (0 ≤ y9 ∧ y9 ≤ 4000) ∧ (0 ≤ y10 ∧ y10 ≤ 8) ∧ ((-1) ≤ y11 ∧ y11 ≤ 4000) ∧ ((-9223372036854775808) ≤ y12 ∧ y12 ≤ 9223372036854775807) ∧ (0 ≤ y28 ∧ y28 ≤ 800) ∧ (0 ≤ y69 ∧ y69 ≤ 1024) ∧ (0 ≤ y70 ∧ y70 ≤ 4000) ∧ (0 ≤ y71 ∧ y71 ≤ 1) ∧ ((-9223372036854775808) ≤ y72 ∧ y72 ≤ 9223372036854775807) ∧ (0 ≤ y75 ∧ y75 ≤ 3) ∧ (∀ j, 0 ≤ F65 j ∧ F65 j ≤ 408) ∧ (∀ j, 0 ≤ F66 j ∧ F66 j ≤ 64) ∧ (∀ j, 0 ≤ F67 j ∧ F67 j ≤ 191) ∧ (∀ j, (-9223372036854775808) ≤ F68 j ∧ F68 j ≤ 9223372036854775807) ∧ (y10 = 0 → (m.1 10) = 0) ∧ (LxP y7 y8 y9 (m.1 6) y10) ∧ (y10 = 0 → ((m.1 8) + 1 ≤ y8) ∧ (y75 = 1) ∧ (y69 ≤ 64) ∧ (y28 = (m.1 28) + 1) ∧ (EX F65 F67 B y28 (h + 1)) ∧ (agr (m.2 65) F65 (m.1 28))) ∧ R = (.inl (none), (mhp (mO m [(7, y7), (8, y8), (9, y9), (10, y10), (11, y11), (12, y12), (28, y28), (69, y69), (70, y70), (71, y71), (72, y72), (75, y75)] [(65, F65), (66, F66), (67, F67), (68, F68)]) c, N), 0, 0)
set_option maxHeartbeats 8000000 in
theorem c_takeName (w : wX) (m : mR) (c : Nat → Option am_C) (N D : Nat) (hD : 7 ≤ D) (hT : Ty m) (p : Int) (B : Int) (h : Int) (qp : R32 p) (hLx0 : LxP (m.1 7) (m.1 8) (m.1 9) (m.1 6) (m.1 10)) (hNM0 : ∀ k, (m.2 14) k + (m.2 15) k ≤ 4000) (hFA0 : ∀ k, (m.2 31) k + (m.2 32) k ≤ 4000) (hPA0 : ∀ k, (m.2 47) k + (m.2 48) k ≤ 4000) (p4 : 0 ≤ p ∧ p ≤ 4000) (hf0 : m.1 10 = 0) (hC : (PN (m.1 13) (m.1 19) (m.1 20) (m.1 21) (m.1 22) (m.1 23) (m.1 25) (m.1 26) (m.2 16) (m.2 17)) ∧ ((m.1 7) = 1) ∧ (EX (m.2 65) (m.2 67) B (m.1 28) h) ∧ (0 ≤ h)) : TC w D 251 [.ref 189, .int (i32 p)] (mhp m c, N) (Q_takeName m c N p B h) := by
  obtain ⟨D, rfl⟩ : ∃ k, D = k + 1 := ⟨D - 1, by omega⟩
  obtain ⟨qpa, qpb⟩ := id qp
  have hLx := hLx0
  have hNM := hNM0
  have hFA := hFA0
  have hPA := hPA0
  have f7 : 0 ≤ m.1 7 ∧ m.1 7 ≤ 330 := hT.1 7
  have f8 : 0 ≤ m.1 8 ∧ m.1 8 ≤ 4000 := hT.1 8
  have f9 : 0 ≤ m.1 9 ∧ m.1 9 ≤ 4000 := hT.1 9
  have f10 : 0 ≤ m.1 10 ∧ m.1 10 ≤ 8 := hT.1 10
  have f11 : (-1) ≤ m.1 11 ∧ m.1 11 ≤ 4000 := hT.1 11
  have f12 : (-9223372036854775808) ≤ m.1 12 ∧ m.1 12 ≤ 9223372036854775807 := hT.1 12
  have f28 : 0 ≤ m.1 28 ∧ m.1 28 ≤ 800 := hT.1 28
  have f69 : 0 ≤ m.1 69 ∧ m.1 69 ≤ 1024 := hT.1 69
  have f70 : 0 ≤ m.1 70 ∧ m.1 70 ≤ 4000 := hT.1 70
  have f71 : 0 ≤ m.1 71 ∧ m.1 71 ≤ 1 := hT.1 71
  have f72 : (-9223372036854775808) ≤ m.1 72 ∧ m.1 72 ≤ 9223372036854775807 := hT.1 72
  have f75 : 0 ≤ m.1 75 ∧ m.1 75 ≤ 3 := hT.1 75
  have f25 : 0 ≤ m.1 25 ∧ m.1 25 ≤ 16 := hT.1 25
  have f22 : 0 ≤ m.1 22 ∧ m.1 22 ≤ 8 := hT.1 22
  have f19 : 0 ≤ m.1 19 ∧ m.1 19 ≤ 12 := hT.1 19
  have f20 : 0 ≤ m.1 20 ∧ m.1 20 ≤ 12 := hT.1 20
  have f21 : 0 ≤ m.1 21 ∧ m.1 21 ≤ 16 := hT.1 21
  have f13 : 0 ≤ m.1 13 ∧ m.1 13 ≤ 120 := hT.1 13
  have f6 : 0 ≤ m.1 6 ∧ m.1 6 ≤ 4000 := hT.1 6
  have f23 : 0 ≤ m.1 23 ∧ m.1 23 ≤ 16 := hT.1 23
  have f26 : 0 ≤ m.1 26 ∧ m.1 26 ≤ 8 := hT.1 26
  refine Tc_of rfl ?_
  show TT w D pm_251 (0, [(0, .ref 189), (1, .int (i32 p))], [], (mhp m c, N), 0, 0) (Q_takeName m c N p B h)
  rw [show (mhp m c, N) = (mhp (mO m [(7, (m.1 7)), (8, (m.1 8)), (9, (m.1 9)), (10, (m.1 10)), (11, (m.1 11)), (12, (m.1 12)), (28, (m.1 28)), (69, (m.1 69)), (70, (m.1 70)), (71, (m.1 71)), (72, (m.1 72)), (75, (m.1 75))] [(65, (m.2 65)), (66, (m.2 66)), (67, (m.2 67)), (68, (m.2 68))]) c, N) from congrArg (fun M => (mhp M c, N)) (mO_pad m [7, 8, 9, 10, 11, 12, 28, 69, 70, 71, 72, 75] [65, 66, 67, 68])]
  obtain ⟨pPN, c1, hEX, c2⟩ := hC
  have h7 := hLx (by omega)
  have pmt := pPN.2.1
  have J150_87 : ∀ (v71 : Int) (v72 : Int) (v73 : Int) (v74 : Int) (v75 : Int) (y76 : Int) (y77 : Int) (y78 : Int) (y79 : Int) (y80 : Int) (y81 : Int) (y82 : Int) (F83 : Int → Int) (F84 : Int → Int) (F85 : Int → Int) (F86 : Int → Int), (R32 v71) → (R32 v72) → (R32 v73) → (R32 v74) → (R32 v75) → (0 ≤ y76 ∧ y76 ≤ 330) → (0 ≤ y77 ∧ y77 ≤ 4000) → (0 ≤ y78 ∧ y78 ≤ 4000) → (0 ≤ y79 ∧ y79 ≤ 8) → ((-1) ≤ y80 ∧ y80 ≤ 4000) → ((-9223372036854775808) ≤ y81 ∧ y81 ≤ 9223372036854775807) → (0 ≤ y82 ∧ y82 ≤ 800) → (∀ j, 0 ≤ F83 j ∧ F83 j ≤ 408) → (∀ j, 0 ≤ F84 j ∧ F84 j ≤ 64) → (∀ j, 0 ≤ F85 j ∧ F85 j ≤ 191) → (∀ j, (-9223372036854775808) ≤ F86 j ∧ F86 j ≤ 9223372036854775807) → ((-2147483648) ≤ v71) → (v71 ≤ 2147483647) → (0 ≤ v73) → (v73 ≤ 64) → (401 ≤ v74) → (v74 ≤ 403) → (1 ≤ y79) → (y79 ≤ 8) → TT w D pm_251 (150, [(0, .ref 189), (1, .int (i32 p)), (2, .int (i32 v71)), (3, .int (i32 v72)), (4, .int (i32 v73)), (5, .int (i32 v74)), (6, .int (i32 v75))], [], (mhp (mO m [(7, y76), (8, y77), (9, y78), (10, y79), (11, y80), (12, y81), (28, y82), (69, (m.1 69)), (70, (m.1 70)), (71, (m.1 71)), (72, (m.1 72)), (75, (m.1 75))] [(65, F83), (66, F84), (67, F85), (68, F86)]) c, N), 0, 0) (Q_takeName m c N p B h) := by
    intro v71 v72 v73 v74 v75 y76 y77 y78 y79 y80 y81 y82 F83 F84 F85 F86 q88 q89 q90 q91 q92 q93 q94 q95 q96 q97 q98 q99 q100 q101 q102 q103 ic104 ic105 ic106 ic107 ic108 ic109 ic110 ic111
    obtain ⟨q88a, q88b⟩ := id q88
    obtain ⟨q89a, q89b⟩ := id q89
    obtain ⟨q90a, q90b⟩ := id q90
    obtain ⟨q91a, q91b⟩ := id q91
    obtain ⟨q92a, q92b⟩ := id q92
    refine T_ld 151 (.ref 189) rfl (fun _ => rfl) ?_
    refine T_ld 153 (.int (i32 v73)) rfl (fun _ => rfl) ?_
    refine T_ld 154 (.int (i32 p)) rfl (fun _ => rfl) ?_
    refine T_call 157 249 [.ref 189, .int (i32 v73), .int (i32 p)] [] rfl (fun _ => rfl) rfl (c_atom w (mO m [(7, y76), (8, y77), (9, y78), (10, y79), (11, y80), (12, y81), (28, y82), (69, (m.1 69)), (70, (m.1 70)), (71, (m.1 71)), (72, (m.1 72)), (75, (m.1 75))] [(65, F83), (66, F84), (67, F85), (68, F86)]) c N D (by omega) (Ty_mO hT rfl rfl ⟨q93, q94, q95, q96, q97, q98, q99, f69, f70, f71, f72, f75, trivial⟩ ⟨q100, q101, q102, q103, trivial⟩) v73 p (r32 (by omega) (by omega)) (r32 (by omega) (by omega)) (show 0 ≤ v73 ∧ v73 ≤ 64 by omega) (show 0 ≤ p ∧ p ≤ 4000 by omega)) (fun rr113 k114 => ?_)
    obtain ⟨y115, y117, y119, y121, y123, g116, g118, g120, g122, g124, h125, rfl⟩ := k114
    refine ⟨_, _, rfl, ?_⟩
    refine T_nf (st' := []) (l' := [(7, y76), (8, y77), (9, y78), (10, y79), (11, y80), (12, y81), (28, y82), (69, y115), (70, y117), (71, y119), (72, y121), (75, y123)]) (a' := [(65, F83), (66, F84), (67, F85), (68, F86)]) rfl rfl rfl rfl rfl ?_
    replace h125 : y79 = 0 → y123 = 1 ∧ y115 = v73 := h125
    refine T_ret rfl (fun _ => rfl) ?_
    exact ⟨y76, y77, y78, y79, y80, y81, y82, y115, y117, y119, y121, y123, F83, F84, F85, F86, q93, q94, q95, q96, q97, q98, q99, g116, g118, g120, g122, g124, q100, q101, q102, q103, (by omega), (by first | (first | exact hLx | (intro h9; exfalso; omega)) | (exfalso; omega)), (fun h => absurd h (by omega)), rfl⟩
  have J109_136 : ∀ (v126 : Int) (v127 : Int) (v128 : Int) (s129 : Int) (y130 : Int) (y131 : Int) (y132 : Int) (y133 : Int) (y134 : Int) (y135 : Int), (R32 v126) → (R32 v127) → (R32 v128) → (R32 s129) → (0 ≤ y130 ∧ y130 ≤ 330) → (0 ≤ y131 ∧ y131 ≤ 4000) → (0 ≤ y132 ∧ y132 ≤ 4000) → (0 ≤ y133 ∧ y133 ≤ 8) → ((-1) ≤ y134 ∧ y134 ≤ 4000) → ((-9223372036854775808) ≤ y135 ∧ y135 ≤ 9223372036854775807) → ((-2147483648) ≤ v126) → (v126 ≤ (-1)) → (2 ≤ v127) → (v127 ≤ 2) → (0 ≤ s129) → (s129 ≤ 191) → (1 ≤ y133) → (y133 ≤ 8) → TT w D pm_251 (109, [(0, .ref 189), (1, .int (i32 p)), (2, .int (i32 v126)), (3, .int (i32 v127)), (4, .int (i32 1)), (5, .int (i32 401)), (6, .int (i32 v128))], [.int (i32 s129)], (mhp (mO m [(7, y130), (8, y131), (9, y132), (10, y133), (11, y134), (12, y135), (28, (m.1 28)), (69, (m.1 69)), (70, (m.1 70)), (71, (m.1 71)), (72, (m.1 72)), (75, (m.1 75))] [(65, (m.2 65)), (66, (m.2 66)), (67, (m.2 67)), (68, (m.2 68))]) c, N), 0, 0) (Q_takeName m c N p B h) := by
    intro v126 v127 v128 s129 y130 y131 y132 y133 y134 y135 q137 q138 q139 q140 q141 q142 q143 q144 q145 q146 ic147 ic148 ic149 ic150 ic151 ic152 ic153 ic154
    obtain ⟨q137a, q137b⟩ := id q137
    obtain ⟨q138a, q138b⟩ := id q138
    obtain ⟨q139a, q139b⟩ := id q139
    obtain ⟨q140a, q140b⟩ := id q140
    refine T_sto 111 [(6, .int (i32 s129)), (0, .ref 189), (1, .int (i32 p)), (2, .int (i32 v126)), (3, .int (i32 v127)), (4, .int (i32 1)), (5, .int (i32 401))] rfl (fun _ => rfl) ?_
    refine T_gf 115 (.int (i32 y133)) rfl rfl rfl rfl rfl rfl ?_
    refine T_if 139 118 rfl rfl rfl (r32 (by omega) (by omega)) (fun (h156 : y133 ≠ 0) => ?_) (fun (h156 : ¬ (y133 ≠ 0)) => by exfalso; omega)
    refine T_ld 140 (.ref 189) rfl (fun _ => rfl) ?_
    refine T_ld 142 (.int (i32 401)) rfl (fun _ => rfl) ?_
    refine T_ld 144 (.int (i32 1)) rfl (fun _ => rfl) ?_
    refine T_ld 146 (.int (i32 s129)) rfl (fun _ => rfl) ?_
    refine T_ld 147 (.long (i64 0)) rfl (fun _ => rfl) ?_
    refine T_call 150 248 [.ref 189, .int (i32 401), .int (i32 1), .int (i32 s129), .long (i64 0)] [] rfl (fun _ => rfl) rfl (c_node w (mO m [(7, y130), (8, y131), (9, y132), (10, y133), (11, y134), (12, y135), (28, (m.1 28)), (69, (m.1 69)), (70, (m.1 70)), (71, (m.1 71)), (72, (m.1 72)), (75, (m.1 75))] [(65, (m.2 65)), (66, (m.2 66)), (67, (m.2 67)), (68, (m.2 68))]) c N D (by omega) (Ty_mO hT rfl rfl ⟨q141, q142, q143, q144, q145, q146, f28, f69, f70, f71, f72, f75, trivial⟩ ⟨(hT.2.1 65), (hT.2.1 66), (hT.2.1 67), (hT.2.1 68), trivial⟩) 401 1 s129 0 B h ⟨by decide, by decide⟩ ⟨by decide, by decide⟩ (r32 (by omega) (by omega)) ⟨by decide, by decide⟩ (fun (h : y133 = 0) => absurd h (by omega))) (fun rr157 k158 => ?_)
    obtain ⟨y159, y161, y163, F165, F167, F169, F171, g160, g162, g164, G166, G168, G170, G172, h173, c174, rfl⟩ := k158
    refine ⟨_, _, rfl, ?_⟩
    refine T_nf (st' := []) (l' := [(7, y130), (8, y131), (9, y132), (10, y159), (11, y161), (12, y135), (28, y163), (69, (m.1 69)), (70, (m.1 70)), (71, (m.1 71)), (72, (m.1 72)), (75, (m.1 75))]) (a' := [(65, F165), (66, F167), (67, F169), (68, F171)]) rfl rfl rfl rfl rfl ?_
    replace h173 : y159 = 0 → y133 = 0 := h173
    have hf175 : 1 ≤ y159 := by omega
    clear c174
    clear h173
    clear q139a q139b q139 q144 q145 ic153 ic154 h156
    refine Tm_lv (a := [(0, .ref 189), (1, .int (i32 p)), (2, .int (i32 v126)), (3, .int (i32 v127)), (4, .int (i32 1)), (5, .int (i32 401)), (6, .int (i32 s129))]) rfl rfl ⟨rfl, rfl, rfl, rfl, rfl, rfl, rfl, trivial⟩ ?_
    exact J150_87 v126 v127 1 401 s129 y130 y131 y132 y159 y161 y135 y163 F165 F167 F169 F171 (r32 (by omega) (by omega)) (r32 (by omega) (by omega)) ⟨by decide, by decide⟩ ⟨by decide, by decide⟩ (r32 (by omega) (by omega)) q141 q142 q143 g160 g162 q146 g164 G166 G168 G170 G172 (by omega) (by omega) (by omega) (by omega) (by omega) (by omega) (by omega) (by omega)
  have J103_185 : ∀ (v176 : Int) (v177 : Int) (v178 : Int) (y179 : Int) (y180 : Int) (y181 : Int) (y182 : Int) (y183 : Int) (y184 : Int), (R32 v176) → (R32 v177) → (R32 v178) → (0 ≤ y179 ∧ y179 ≤ 330) → (0 ≤ y180 ∧ y180 ≤ 4000) → (0 ≤ y181 ∧ y181 ≤ 4000) → (0 ≤ y182 ∧ y182 ≤ 8) → ((-1) ≤ y183 ∧ y183 ≤ 4000) → ((-9223372036854775808) ≤ y184 ∧ y184 ≤ 9223372036854775807) → ((-2147483648) ≤ v176) → (v176 ≤ (-1)) → (2 ≤ v177) → (v177 ≤ 2) → (1 ≤ y182) → (y182 ≤ 8) → (0 ≤ v178 ∧ v178 ≤ 11) → TT w D pm_251 (103, [(0, .ref 189), (1, .int (i32 p)), (2, .int (i32 v176)), (3, .int (i32 v177)), (4, .int (i32 1)), (5, .int (i32 401)), (6, .int (i32 v178))], [], (mhp (mO m [(7, y179), (8, y180), (9, y181), (10, y182), (11, y183), (12, y184), (28, (m.1 28)), (69, (m.1 69)), (70, (m.1 70)), (71, (m.1 71)), (72, (m.1 72)), (75, (m.1 75))] [(65, (m.2 65)), (66, (m.2 66)), (67, (m.2 67)), (68, (m.2 68))]) c, N), 0, 0) (Q_takeName m c N p B h) := by
    intro v176 v177 v178 y179 y180 y181 y182 y183 y184 q186 q187 q188 q189 q190 q191 q192 q193 q194 ic195 ic196 ic197 ic198 ic199 ic200 ic201
    obtain ⟨q186a, q186b⟩ := id q186
    obtain ⟨q187a, q187b⟩ := id q187
    obtain ⟨q188a, q188b⟩ := id q188
    refine T_ld 104 (.ref 189) rfl (fun _ => rfl) ?_
    refine T_ld 106 (.int (i32 v178)) rfl (fun _ => rfl) ?_
    refine T_call 109 253 [.ref 189, .int (i32 v178)] [] rfl (fun _ => rfl) rfl (c_takeField w (mO m [(7, y179), (8, y180), (9, y181), (10, y182), (11, y183), (12, y184), (28, (m.1 28)), (69, (m.1 69)), (70, (m.1 70)), (71, (m.1 71)), (72, (m.1 72)), (75, (m.1 75))] [(65, (m.2 65)), (66, (m.2 66)), (67, (m.2 67)), (68, (m.2 68))]) c N D (by omega) (Ty_mO hT rfl rfl ⟨q189, q190, q191, q192, q193, q194, f28, f69, f70, f71, f72, f75, trivial⟩ ⟨(hT.2.1 65), (hT.2.1 66), (hT.2.1 67), (hT.2.1 68), trivial⟩) v178 (r32 (by omega) (by omega)) (show LxP y179 y180 y181 (m.1 6) y182 by first | exact hLx | (intro h9; exfalso; omega)) (show ∀ k, (m.2 31) k + (m.2 32) k ≤ 4000 by assumption) (show 0 ≤ v178 ∧ v178 ≤ 11 by omega) (fun (h : y182 = 0) => absurd h (by omega))) (fun rr203 k204 => ?_)
    obtain ⟨y205, y207, y209, y211, y213, y215, tf, g206, g208, g210, g212, g214, g216, g217, h218, h219, c220, rfl⟩ := k204
    refine ⟨_, _, rfl, ?_⟩
    refine T_nf (st' := [.int (i32 tf)]) (l' := [(7, y205), (8, y207), (9, y209), (10, y211), (11, y213), (12, y215), (28, (m.1 28)), (69, (m.1 69)), (70, (m.1 70)), (71, (m.1 71)), (72, (m.1 72)), (75, (m.1 75))]) (a' := [(65, (m.2 65)), (66, (m.2 66)), (67, (m.2 67)), (68, (m.2 68))]) rfl rfl rfl rfl rfl ?_
    obtain ⟨g217a, g217b⟩ := g217
    replace h218 : y211 = 0 → y182 = 0 := h218
    replace h219 : LxP y205 y207 y209 (m.1 6) y211 := h219
    have hf221 : 1 ≤ y211 := by omega
    clear c220
    clear h218
    have hLx := h219
    clear q189 q190 q191 q192 q193 q194 ic199 ic200
    exact J109_136 v176 v177 v178 tf y205 y207 y209 y211 y213 y215 (r32 (by omega) (by omega)) (r32 (by omega) (by omega)) (r32 (by omega) (by omega)) (r32 (by omega) (by omega)) g206 g208 g210 g212 g214 g216 (by omega) (by omega) (by omega) (by omega) (by omega) (by omega) (by omega) (by omega)
  refine T_ld 1 (.ref 189) rfl (fun _ => rfl) ?_
  refine T_call 4 252 [.ref 189] [] rfl (fun _ => rfl) rfl (c_parameterHere w (mO m [(7, (m.1 7)), (8, (m.1 8)), (9, (m.1 9)), (10, (m.1 10)), (11, (m.1 11)), (12, (m.1 12)), (28, (m.1 28)), (69, (m.1 69)), (70, (m.1 70)), (71, (m.1 71)), (72, (m.1 72)), (75, (m.1 75))] [(65, (m.2 65)), (66, (m.2 66)), (67, (m.2 67)), (68, (m.2 68))]) c N D (by omega) (Ty_mO hT rfl rfl ⟨f7, f8, f9, f10, f11, f12, f28, f69, f70, f71, f72, f75, trivial⟩ ⟨(hT.2.1 65), (hT.2.1 66), (hT.2.1 67), (hT.2.1 68), trivial⟩) (show 1 ≤ (m.1 9) ∧ (m.1 8) + (m.1 9) ≤ (m.1 6) by first | omega | (have h8 := hLx (by omega); omega)) (show ∀ k, (m.2 47) k + (m.2 48) k ≤ 4000 by exact hPA)) (fun rr222 k223 => ?_)
  obtain ⟨pq, g224, h225, rfl⟩ := k223
  refine ⟨_, _, rfl, ?_⟩
  refine T_nf (st' := [.int (i32 pq)]) (l' := [(7, (m.1 7)), (8, (m.1 8)), (9, (m.1 9)), (10, (m.1 10)), (11, (m.1 11)), (12, (m.1 12)), (28, (m.1 28)), (69, (m.1 69)), (70, (m.1 70)), (71, (m.1 71)), (72, (m.1 72)), (75, (m.1 75))]) (a' := [(65, (m.2 65)), (66, (m.2 66)), (67, (m.2 67)), (68, (m.2 68))]) rfl rfl rfl rfl rfl ?_
  obtain ⟨g224a, g224b⟩ := g224
  replace h225 : -1 ≤ pq ∧ pq ≤ 63 := h225
  have u226 : (m.1 8) ≤ (m.1 8) := by omega
  refine T_sto 5 [(2, .int (i32 pq)), (0, .ref 189), (1, .int (i32 p))] rfl (fun _ => rfl) ?_
  refine T_ld 6 (.ref 189) rfl (fun _ => rfl) ?_
  refine T_call 9 227 [.ref 189] [] rfl (fun _ => rfl) rfl (c_sortHere w (mO m [(7, (m.1 7)), (8, (m.1 8)), (9, (m.1 9)), (10, (m.1 10)), (11, (m.1 11)), (12, (m.1 12)), (28, (m.1 28)), (69, (m.1 69)), (70, (m.1 70)), (71, (m.1 71)), (72, (m.1 72)), (75, (m.1 75))] [(65, (m.2 65)), (66, (m.2 66)), (67, (m.2 67)), (68, (m.2 68))]) c N D (by omega) (Ty_mO hT rfl rfl ⟨f7, f8, f9, f10, f11, f12, f28, f69, f70, f71, f72, f75, trivial⟩ ⟨(hT.2.1 65), (hT.2.1 66), (hT.2.1 67), (hT.2.1 68), trivial⟩) (show 1 ≤ (m.1 9) ∧ (m.1 8) + (m.1 9) ≤ (m.1 6) by first | omega | (have h8 := hLx (by omega); omega)) (show ∀ k, (m.2 14) k + (m.2 15) k ≤ 4000 by first | exact hNM | exact p1)) (fun rr227 k228 => ?_)
  obtain ⟨so, g229, h230, h231, rfl⟩ := k228
  refine ⟨_, _, rfl, ?_⟩
  refine T_nf (st' := [.int (i32 so)]) (l' := [(7, (m.1 7)), (8, (m.1 8)), (9, (m.1 9)), (10, (m.1 10)), (11, (m.1 11)), (12, (m.1 12)), (28, (m.1 28)), (69, (m.1 69)), (70, (m.1 70)), (71, (m.1 71)), (72, (m.1 72)), (75, (m.1 75))]) (a' := [(65, (m.2 65)), (66, (m.2 66)), (67, (m.2 67)), (68, (m.2 68))]) rfl rfl rfl rfl rfl ?_
  obtain ⟨g229a, g229b⟩ := g229
  replace h230 : ∃ g k, isGH (m.2 4) (m.1 8) (m.1 9) g ∧ (g < 0 → isFH (m.2 4) (m.2 14) (m.2 15) (m.1 8) (m.1 9) (m.1 13) k) ∧ so = sortV (m.2 16) g k := h230
  have hSo := h230
  replace h231 : -1 ≤ so ∧ so ≤ 7 := h231
  have u232 : (m.1 8) ≤ (m.1 8) := by omega
  refine T_sto 10 [(3, .int (i32 so)), (2, .int (i32 pq)), (0, .ref 189), (1, .int (i32 p))] rfl (fun _ => rfl) ?_
  refine T_ld 11 (.int (i32 1)) rfl (fun _ => rfl) ?_
  refine T_sto 13 [(4, .int (i32 1)), (3, .int (i32 so)), (2, .int (i32 pq)), (0, .ref 189), (1, .int (i32 p))] rfl (fun _ => rfl) ?_
  refine T_ld 16 (.int (i32 403)) rfl (fun _ => rfl) ?_
  refine T_sto 18 [(5, .int (i32 403)), (4, .int (i32 1)), (3, .int (i32 so)), (2, .int (i32 pq)), (0, .ref 189), (1, .int (i32 p))] rfl (fun _ => rfl) ?_
  refine T_ld 19 (.int (i32 0)) rfl (fun _ => rfl) ?_
  refine T_sto 21 [(6, .int (i32 0)), (5, .int (i32 403)), (4, .int (i32 1)), (3, .int (i32 so)), (2, .int (i32 pq)), (0, .ref 189), (1, .int (i32 p))] rfl (fun _ => rfl) ?_
  refine T_ld 22 (.int (i32 pq)) rfl (fun _ => rfl) ?_
  refine T_if 45 25 rfl rfl rfl (r32 (by omega) (by omega)) (fun (h233 : pq < 0) => ?_) (fun (h233 : ¬ (pq < 0)) => ?_)
  · skip
    refine T_ld 46 (.int (i32 so)) rfl (fun _ => rfl) ?_
    refine T_ld 47 (.int (i32 3)) rfl (fun _ => rfl) ?_
    refine T_icmp 77 50 rfl rfl rfl (r32 (by omega) (by omega)) ⟨by decide, by decide⟩ (fun (h234 : so ≠ 3) => ?_) (fun (h234 : ¬ (so ≠ 3)) => ?_)
    · skip
      refine T_ld 78 (.int (i32 so)) rfl (fun _ => rfl) ?_
      refine T_ld 79 (.int (i32 2)) rfl (fun _ => rfl) ?_
      refine T_icmp 129 82 rfl rfl rfl (r32 (by omega) (by omega)) ⟨by decide, by decide⟩ (fun (h235 : so ≠ 2) => ?_) (fun (h235 : ¬ (so ≠ 2)) => ?_)
      · skip
        refine T_ld 130 (.ref 189) rfl (fun _ => rfl) ?_
        refine T_ld 132 (.int (i32 6)) rfl (fun _ => rfl) ?_
        refine T_gf 136 (.int (i32 (m.1 8))) rfl rfl rfl rfl rfl rfl ?_
        refine T_call 139 222 [.ref 189, .int (i32 6), .int (i32 (m.1 8))] [] rfl (fun _ => rfl) rfl (c_wrong w (mO m [(7, (m.1 7)), (8, (m.1 8)), (9, (m.1 9)), (10, (m.1 10)), (11, (m.1 11)), (12, (m.1 12)), (28, (m.1 28)), (69, (m.1 69)), (70, (m.1 70)), (71, (m.1 71)), (72, (m.1 72)), (75, (m.1 75))] [(65, (m.2 65)), (66, (m.2 66)), (67, (m.2 67)), (68, (m.2 68))]) c N D (by omega) (Ty_mO hT rfl rfl ⟨f7, f8, f9, f10, f11, f12, f28, f69, f70, f71, f72, f75, trivial⟩ ⟨(hT.2.1 65), (hT.2.1 66), (hT.2.1 67), (hT.2.1 68), trivial⟩) 6 (m.1 8) ⟨by decide, by decide⟩ (r32 (by omega) (by omega)) (show 1 ≤ (6 : Int) ∧ (6 : Int) ≤ 8 by omega) (show 0 ≤ (m.1 8) ∧ (m.1 8) ≤ 4000 by omega)) (fun rr236 k237 => ?_)
        obtain ⟨y238, y240, g239, g241, h242, rfl⟩ := k237
        refine ⟨_, _, rfl, ?_⟩
        refine T_nf (st' := []) (l' := [(7, (m.1 7)), (8, (m.1 8)), (9, (m.1 9)), (10, y238), (11, y240), (12, (m.1 12)), (28, (m.1 28)), (69, (m.1 69)), (70, (m.1 70)), (71, (m.1 71)), (72, (m.1 72)), (75, (m.1 75))]) (a' := [(65, (m.2 65)), (66, (m.2 66)), (67, (m.2 67)), (68, (m.2 68))]) rfl rfl rfl rfl rfl ?_
        replace h242 : (0 < (m.1 10) → y238 = (m.1 10) ∧ y240 = (m.1 11)) ∧ ((m.1 10) ≤ 0 → y238 = (6 : Int) ∧ y240 = (m.1 8)) := h242
        have hf243 : 1 ≤ y238 := by omega
        refine T_ld 140 (.ref 189) rfl (fun _ => rfl) ?_
        refine T_ld 142 (.int (i32 403)) rfl (fun _ => rfl) ?_
        refine T_ld 144 (.int (i32 1)) rfl (fun _ => rfl) ?_
        refine T_ld 146 (.int (i32 0)) rfl (fun _ => rfl) ?_
        refine T_ld 147 (.long (i64 0)) rfl (fun _ => rfl) ?_
        refine T_call 150 248 [.ref 189, .int (i32 403), .int (i32 1), .int (i32 0), .long (i64 0)] [] rfl (fun _ => rfl) rfl (c_node w (mO m [(7, (m.1 7)), (8, (m.1 8)), (9, (m.1 9)), (10, y238), (11, y240), (12, (m.1 12)), (28, (m.1 28)), (69, (m.1 69)), (70, (m.1 70)), (71, (m.1 71)), (72, (m.1 72)), (75, (m.1 75))] [(65, (m.2 65)), (66, (m.2 66)), (67, (m.2 67)), (68, (m.2 68))]) c N D (by omega) (Ty_mO hT rfl rfl ⟨f7, f8, f9, g239, g241, f12, f28, f69, f70, f71, f72, f75, trivial⟩ ⟨(hT.2.1 65), (hT.2.1 66), (hT.2.1 67), (hT.2.1 68), trivial⟩) 403 1 0 0 B h ⟨by decide, by decide⟩ ⟨by decide, by decide⟩ ⟨by decide, by decide⟩ ⟨by decide, by decide⟩ (fun (h : y238 = 0) => absurd h (by omega))) (fun rr244 k245 => ?_)
        obtain ⟨y246, y248, y250, F252, F254, F256, F258, g247, g249, g251, G253, G255, G257, G259, h260, c261, rfl⟩ := k245
        refine ⟨_, _, rfl, ?_⟩
        refine T_nf (st' := []) (l' := [(7, (m.1 7)), (8, (m.1 8)), (9, (m.1 9)), (10, y246), (11, y248), (12, (m.1 12)), (28, y250), (69, (m.1 69)), (70, (m.1 70)), (71, (m.1 71)), (72, (m.1 72)), (75, (m.1 75))]) (a' := [(65, F252), (66, F254), (67, F256), (68, F258)]) rfl rfl rfl rfl rfl ?_
        replace h260 : y246 = 0 → y238 = 0 := h260
        have hf262 : 1 ≤ y246 := by omega
        clear c261
        clear h260
        clear g239 g241 hf243 h242
        refine Tm_lv (a := [(0, .ref 189), (1, .int (i32 p)), (2, .int (i32 pq)), (3, .int (i32 so)), (4, .int (i32 1)), (5, .int (i32 403)), (6, .int (i32 0))]) rfl rfl ⟨rfl, rfl, rfl, rfl, rfl, rfl, rfl, trivial⟩ ?_
        exact J150_87 pq so 1 403 0 (m.1 7) (m.1 8) (m.1 9) y246 y248 (m.1 12) y250 F252 F254 F256 F258 (r32 (by omega) (by omega)) (r32 (by omega) (by omega)) ⟨by decide, by decide⟩ ⟨by decide, by decide⟩ ⟨by decide, by decide⟩ f7 f8 f9 g247 g249 f12 g251 G253 G255 G257 G259 (by omega) (by omega) (by omega) (by omega) (by omega) (by omega) (by omega) (by omega)
      · skip
        refine T_ld 85 (.int (i32 401)) rfl (fun _ => rfl) ?_
        refine T_sto 87 [(5, .int (i32 401)), (6, .int (i32 0)), (4, .int (i32 1)), (3, .int (i32 so)), (2, .int (i32 pq)), (0, .ref 189), (1, .int (i32 p))] rfl (fun _ => rfl) ?_
        refine T_ld 88 (.ref 189) rfl (fun _ => rfl) ?_
        refine T_call 91 237 [.ref 189] [] rfl (fun _ => rfl) rfl (c_whichHere w (mO m [(7, (m.1 7)), (8, (m.1 8)), (9, (m.1 9)), (10, (m.1 10)), (11, (m.1 11)), (12, (m.1 12)), (28, (m.1 28)), (69, (m.1 69)), (70, (m.1 70)), (71, (m.1 71)), (72, (m.1 72)), (75, (m.1 75))] [(65, (m.2 65)), (66, (m.2 66)), (67, (m.2 67)), (68, (m.2 68))]) c N D (by omega) (Ty_mO hT rfl rfl ⟨f7, f8, f9, f10, f11, f12, f28, f69, f70, f71, f72, f75, trivial⟩ ⟨(hT.2.1 65), (hT.2.1 66), (hT.2.1 67), (hT.2.1 68), trivial⟩) (show 1 ≤ (m.1 9) ∧ (m.1 8) + (m.1 9) ≤ (m.1 6) by first | omega | (have h8 := hLx (by omega); omega)) (show ∀ k, (m.2 14) k + (m.2 15) k ≤ 4000 by first | exact hNM | exact p1) (show ∀ g k, isGH (m.2 4) (m.1 8) (m.1 9) g → g < 0 → isFH (m.2 4) (m.2 14) (m.2 15) (m.1 8) (m.1 9) (m.1 13) k → 0 ≤ k by exact old_ok hSo (by omega))) (fun rr263 k264 => ?_)
        obtain ⟨wi, g265, h266, rfl⟩ := k264
        refine ⟨_, _, rfl, ?_⟩
        refine T_nf (st' := [.int (i32 wi)]) (l' := [(7, (m.1 7)), (8, (m.1 8)), (9, (m.1 9)), (10, (m.1 10)), (11, (m.1 11)), (12, (m.1 12)), (28, (m.1 28)), (69, (m.1 69)), (70, (m.1 70)), (71, (m.1 71)), (72, (m.1 72)), (75, (m.1 75))]) (a' := [(65, (m.2 65)), (66, (m.2 66)), (67, (m.2 67)), (68, (m.2 68))]) rfl rfl rfl rfl rfl ?_
        obtain ⟨g265a, g265b⟩ := g265
        replace h266 : ∃ g k, isGH (m.2 4) (m.1 8) (m.1 9) g ∧ (g < 0 → isFH (m.2 4) (m.2 14) (m.2 15) (m.1 8) (m.1 9) (m.1 13) k) ∧ wi = whichV (m.2 17) g k := h266
        have hWi := h266
        have u267 : (m.1 8) ≤ (m.1 8) := by omega
        obtain ⟨hw0, hw1⟩ : 0 ≤ wi ∧ wi < (m.1 20) := old_rg hSo hWi (by omega) (by omega) (by omega) (PNl_2 pPN) (by omega)
        refine T_sto 93 [(6, .int (i32 wi)), (5, .int (i32 401)), (4, .int (i32 1)), (3, .int (i32 so)), (2, .int (i32 pq)), (0, .ref 189), (1, .int (i32 p))] rfl (fun _ => rfl) ?_
        refine T_ld 94 (.ref 189) rfl (fun _ => rfl) ?_
        refine T_call 97 212 [.ref 189] [] rfl (fun _ => rfl) rfl (c_next w (mO m [(7, (m.1 7)), (8, (m.1 8)), (9, (m.1 9)), (10, (m.1 10)), (11, (m.1 11)), (12, (m.1 12)), (28, (m.1 28)), (69, (m.1 69)), (70, (m.1 70)), (71, (m.1 71)), (72, (m.1 72)), (75, (m.1 75))] [(65, (m.2 65)), (66, (m.2 66)), (67, (m.2 67)), (68, (m.2 68))]) c N D (by omega) (Ty_mO hT rfl rfl ⟨f7, f8, f9, f10, f11, f12, f28, f69, f70, f71, f72, f75, trivial⟩ ⟨(hT.2.1 65), (hT.2.1 66), (hT.2.1 67), (hT.2.1 68), trivial⟩) (show (m.1 10) = 0 → (m.1 8) + (m.1 9) ≤ (m.1 6) by first | omega | (intro h9; have h8 := hLx h9; omega))) (fun rr268 k269 => ?_)
        obtain ⟨y270, y272, y274, y276, y278, y280, g271, g273, g275, g277, g279, g281, h282, h283, h284, h285, rfl⟩ := k269
        refine ⟨_, _, rfl, ?_⟩
        refine T_nf (st' := []) (l' := [(7, y270), (8, y272), (9, y274), (10, y276), (11, y278), (12, y280), (28, (m.1 28)), (69, (m.1 69)), (70, (m.1 70)), (71, (m.1 71)), (72, (m.1 72)), (75, (m.1 75))]) (a' := [(65, (m.2 65)), (66, (m.2 66)), (67, (m.2 67)), (68, (m.2 68))]) rfl rfl rfl rfl rfl ?_
        by_cases hf286 : y276 = 0
        · skip
          subst hf286
          replace h282 : LxP y270 y272 y274 (m.1 6) (0 : Int) := h282
          have hLx := h282
          replace h283 : (m.1 10) = 0 := h283 rfl
          replace h284 : (m.1 8) ≤ y272 := h284
          replace h285 : (m.1 8) + (m.1 9) ≤ y272 := h285 rfl
          have u287 : (m.1 8) + 1 ≤ y272 := by omega
          clear g277
          refine T_ld 98 (.ref 189) rfl (fun _ => rfl) ?_
          refine T_ld 100 (.int (i32 46)) rfl (fun _ => rfl) ?_
          refine T_call 103 232 [.ref 189, .int (i32 46)] [] rfl (fun _ => rfl) rfl (c_need w (mO m [(7, y270), (8, y272), (9, y274), (10, 0), (11, y278), (12, y280), (28, (m.1 28)), (69, (m.1 69)), (70, (m.1 70)), (71, (m.1 71)), (72, (m.1 72)), (75, (m.1 75))] [(65, (m.2 65)), (66, (m.2 66)), (67, (m.2 67)), (68, (m.2 68))]) c N D (by omega) (Ty_mO hT rfl rfl ⟨g271, g273, g275, ⟨(by omega : (0 : Int) ≤ 0), (by omega : (0 : Int) ≤ 8)⟩, g279, g281, f28, f69, f70, f71, f72, f75, trivial⟩ ⟨(hT.2.1 65), (hT.2.1 66), (hT.2.1 67), (hT.2.1 68), trivial⟩) 46 ⟨by decide, by decide⟩ (show 1 ≤ (46 : Int) by omega) (show LxP y270 y272 y274 (m.1 6) (0 : Int) by first | exact hLx | (intro h9; exfalso; omega) | (intro h9; have h8 := hLx (by omega); omega))) (fun rr288 k289 => ?_)
          obtain ⟨y290, y292, y294, y296, y298, y300, g291, g293, g295, g297, g299, g301, h302, h303, h304, h305, rfl⟩ := k289
          refine ⟨_, _, rfl, ?_⟩
          refine T_nf (st' := []) (l' := [(7, y290), (8, y292), (9, y294), (10, y296), (11, y298), (12, y300), (28, (m.1 28)), (69, (m.1 69)), (70, (m.1 70)), (71, (m.1 71)), (72, (m.1 72)), (75, (m.1 75))]) (a' := [(65, (m.2 65)), (66, (m.2 66)), (67, (m.2 67)), (68, (m.2 68))]) rfl rfl rfl rfl rfl ?_
          by_cases hf306 : y296 = 0
          · skip
            subst hf306
            replace h302 : LxP y290 y292 y294 (m.1 6) (0 : Int) := h302
            have hLx := h302
            replace h303 : (0 : Int) = 0 ∧ y270 = (46 : Int) := h303 rfl
            replace h304 : y272 ≤ y292 := h304
            replace h305 : y272 + y274 ≤ y292 := h305 rfl
            have u307 : (m.1 8) + 1 ≤ y292 := by omega
            clear g271 g273 g275 g279 g281 h282 h284 h285 u287 g297 h303 h304 h305
            refine T_ld 104 (.ref 189) rfl (fun _ => rfl) ?_
            refine T_ld 106 (.int (i32 wi)) rfl (fun _ => rfl) ?_
            refine T_call 109 253 [.ref 189, .int (i32 wi)] [] rfl (fun _ => rfl) rfl (c_takeField w (mO m [(7, y290), (8, y292), (9, y294), (10, 0), (11, y298), (12, y300), (28, (m.1 28)), (69, (m.1 69)), (70, (m.1 70)), (71, (m.1 71)), (72, (m.1 72)), (75, (m.1 75))] [(65, (m.2 65)), (66, (m.2 66)), (67, (m.2 67)), (68, (m.2 68))]) c N D (by omega) (Ty_mO hT rfl rfl ⟨g291, g293, g295, ⟨(by omega : (0 : Int) ≤ 0), (by omega : (0 : Int) ≤ 8)⟩, g299, g301, f28, f69, f70, f71, f72, f75, trivial⟩ ⟨(hT.2.1 65), (hT.2.1 66), (hT.2.1 67), (hT.2.1 68), trivial⟩) wi (r32 (by omega) (by omega)) (show LxP y290 y292 y294 (m.1 6) (0 : Int) by first | exact hLx | (intro h9; exfalso; omega)) (show ∀ k, (m.2 31) k + (m.2 32) k ≤ 4000 by assumption) (show 0 ≤ wi ∧ wi ≤ 11 by omega) (fun _ => trivial)) (fun rr308 k309 => ?_)
            obtain ⟨y310, y312, y314, y316, y318, y320, tf, g311, g313, g315, g317, g319, g321, g322, h323, h324, c325, rfl⟩ := k309
            refine ⟨_, _, rfl, ?_⟩
            refine T_nf (st' := [.int (i32 tf)]) (l' := [(7, y310), (8, y312), (9, y314), (10, y316), (11, y318), (12, y320), (28, (m.1 28)), (69, (m.1 69)), (70, (m.1 70)), (71, (m.1 71)), (72, (m.1 72)), (75, (m.1 75))]) (a' := [(65, (m.2 65)), (66, (m.2 66)), (67, (m.2 67)), (68, (m.2 68))]) rfl rfl rfl rfl rfl ?_
            obtain ⟨g322a, g322b⟩ := g322
            by_cases hf326 : y316 = 0
            · skip
              subst hf326
              replace h323 : (0 : Int) = 0 := h323 rfl
              replace h324 : LxP y310 y312 y314 (m.1 6) (0 : Int) := h324
              have hLx := h324
              obtain ⟨c327, c328⟩ := c325 rfl
              replace c327 : y292 + 1 ≤ y312 := c327
              replace c328 : y290 = 1 := c328
              clear c325
              have u329 : (m.1 8) + 1 ≤ y312 := by omega
              clear g291 g293 g295 g299 g301 h302 u307 g317 c327 c328
              refine T_sto 111 [(6, .int (i32 tf)), (5, .int (i32 401)), (4, .int (i32 1)), (3, .int (i32 so)), (2, .int (i32 pq)), (0, .ref 189), (1, .int (i32 p))] rfl (fun _ => rfl) ?_
              refine T_gf 115 (.int (i32 0)) rfl rfl rfl rfl rfl rfl ?_
              refine T_if 139 118 rfl rfl rfl ⟨by decide, by decide⟩ (fun h330 => absurd (show (0 : Int) ≠ 0 from h330) (by decide)) (fun _ => ?_)
              refine T_ld 119 (.ref 189) rfl (fun _ => rfl) ?_
              refine T_ld 121 (.int (i32 tf)) rfl (fun _ => rfl) ?_
              refine T_call 124 254 [.ref 189, .int (i32 tf)] [] rfl (fun _ => rfl) rfl (c_bitsOfField w (mO m [(7, y310), (8, y312), (9, y314), (10, 0), (11, y318), (12, y320), (28, (m.1 28)), (69, (m.1 69)), (70, (m.1 70)), (71, (m.1 71)), (72, (m.1 72)), (75, (m.1 75))] [(65, (m.2 65)), (66, (m.2 66)), (67, (m.2 67)), (68, (m.2 68))]) c N D (by omega) (Ty_mO hT rfl rfl ⟨g311, g313, g315, ⟨(by omega : (0 : Int) ≤ 0), (by omega : (0 : Int) ≤ 8)⟩, g319, g321, f28, f69, f70, f71, f72, f75, trivial⟩ ⟨(hT.2.1 65), (hT.2.1 66), (hT.2.1 67), (hT.2.1 68), trivial⟩) tf (r32 (by omega) (by omega)) (show 0 ≤ tf ∧ tf ≤ 191 by omega)) (fun rr331 k332 => ?_)
              obtain ⟨x333, g334, rfl⟩ := k332
              refine ⟨_, _, rfl, ?_⟩
              refine T_nf (st' := [.int (i32 x333)]) (l' := [(7, y310), (8, y312), (9, y314), (10, 0), (11, y318), (12, y320), (28, (m.1 28)), (69, (m.1 69)), (70, (m.1 70)), (71, (m.1 71)), (72, (m.1 72)), (75, (m.1 75))]) (a' := [(65, (m.2 65)), (66, (m.2 66)), (67, (m.2 67)), (68, (m.2 68))]) rfl rfl rfl rfl rfl ?_
              obtain ⟨g334a, g334b⟩ := g334
              have u335 : (m.1 8) + 1 ≤ y312 := by omega
              clear g265a g265b h266
              refine T_sto 126 [(4, .int (i32 x333)), (6, .int (i32 tf)), (5, .int (i32 401)), (3, .int (i32 so)), (2, .int (i32 pq)), (0, .ref 189), (1, .int (i32 p))] rfl (fun _ => rfl) ?_
              refine T_goto 139 rfl (fun _ => rfl) ?_
              have hA : ar (401 : Int) = 0 := ar_0 (by omega)
              have hAr : ar (401 : Int) ≤ h := by omega
              have hCk : CNk (401 : Int) tf := by refine ⟨?_, ?_, ?_, ?_⟩ <;> omega
              refine T_ld 140 (.ref 189) rfl (fun _ => rfl) ?_
              refine T_ld 142 (.int (i32 401)) rfl (fun _ => rfl) ?_
              refine T_ld 144 (.int (i32 x333)) rfl (fun _ => rfl) ?_
              refine T_ld 146 (.int (i32 tf)) rfl (fun _ => rfl) ?_
              refine T_ld 147 (.long (i64 0)) rfl (fun _ => rfl) ?_
              refine T_call 150 248 [.ref 189, .int (i32 401), .int (i32 x333), .int (i32 tf), .long (i64 0)] [] rfl (fun _ => rfl) rfl (c_node w (mO m [(7, y310), (8, y312), (9, y314), (10, 0), (11, y318), (12, y320), (28, (m.1 28)), (69, (m.1 69)), (70, (m.1 70)), (71, (m.1 71)), (72, (m.1 72)), (75, (m.1 75))] [(65, (m.2 65)), (66, (m.2 66)), (67, (m.2 67)), (68, (m.2 68))]) c N D (by omega) (Ty_mO hT rfl rfl ⟨g311, g313, g315, ⟨(by omega : (0 : Int) ≤ 0), (by omega : (0 : Int) ≤ 8)⟩, g319, g321, f28, f69, f70, f71, f72, f75, trivial⟩ ⟨(hT.2.1 65), (hT.2.1 66), (hT.2.1 67), (hT.2.1 68), trivial⟩) 401 x333 tf 0 B h ⟨by decide, by decide⟩ (r32 (by omega) (by omega)) (r32 (by omega) (by omega)) ⟨by decide, by decide⟩ (fun _ => ⟨(show 0 ≤ (401 : Int) ∧ (401 : Int) ≤ 408 by first | omega | decide), (show 0 ≤ x333 ∧ x333 ≤ 64 by first | omega | decide), (show 0 ≤ tf ∧ tf ≤ 191 by first | omega | decide), (show CNk (401 : Int) tf by first | exact hCk | (refine ⟨?_, ?_, ?_, ?_⟩ <;> omega)), (show ar (401 : Int) ≤ h by first | exact hAr | omega), (show EX (m.2 65) (m.2 67) B (m.1 28) h by first | exact hEX | assumption)⟩)) (fun rr336 k337 => ?_)
              obtain ⟨y338, y340, y342, F344, F346, F348, F350, g339, g341, g343, G345, G347, G349, G351, h352, c353, rfl⟩ := k337
              refine ⟨_, _, rfl, ?_⟩
              refine T_nf (st' := []) (l' := [(7, y310), (8, y312), (9, y314), (10, y338), (11, y340), (12, y320), (28, y342), (69, (m.1 69)), (70, (m.1 70)), (71, (m.1 71)), (72, (m.1 72)), (75, (m.1 75))]) (a' := [(65, F344), (66, F346), (67, F348), (68, F350)]) rfl rfl rfl rfl rfl ?_
              by_cases hf354 : y338 = 0
              · skip
                subst hf354
                replace h352 : (0 : Int) = 0 := h352 rfl
                obtain ⟨c355, c356, c357⟩ := c353 rfl
                replace c355 : y342 = (m.1 28) + 1 := c355
                replace c356 : EX F344 F348 B y342 (h + 1 - ar (401 : Int)) := c356
                have hEX := c356
                replace c357 : agr (m.2 65) F344 (m.1 28) := c357
                have hAg := c357
                clear c353
                have u358 : (m.1 8) + 1 ≤ y312 := by omega
                clear g319 g339
                refine T_ld 151 (.ref 189) rfl (fun _ => rfl) ?_
                refine T_ld 153 (.int (i32 x333)) rfl (fun _ => rfl) ?_
                refine T_ld 154 (.int (i32 p)) rfl (fun _ => rfl) ?_
                refine T_call 157 249 [.ref 189, .int (i32 x333), .int (i32 p)] [] rfl (fun _ => rfl) rfl (c_atom w (mO m [(7, y310), (8, y312), (9, y314), (10, 0), (11, y340), (12, y320), (28, y342), (69, (m.1 69)), (70, (m.1 70)), (71, (m.1 71)), (72, (m.1 72)), (75, (m.1 75))] [(65, F344), (66, F346), (67, F348), (68, F350)]) c N D (by omega) (Ty_mO hT rfl rfl ⟨g311, g313, g315, ⟨(by omega : (0 : Int) ≤ 0), (by omega : (0 : Int) ≤ 8)⟩, g341, g321, g343, f69, f70, f71, f72, f75, trivial⟩ ⟨G345, G347, G349, G351, trivial⟩) x333 p (r32 (by omega) (by omega)) (r32 (by omega) (by omega)) (show 0 ≤ x333 ∧ x333 ≤ 64 by omega) (show 0 ≤ p ∧ p ≤ 4000 by omega)) (fun rr359 k360 => ?_)
                obtain ⟨y361, y363, y365, y367, y369, g362, g364, g366, g368, g370, h371, rfl⟩ := k360
                refine ⟨_, _, rfl, ?_⟩
                refine T_nf (st' := []) (l' := [(7, y310), (8, y312), (9, y314), (10, 0), (11, y340), (12, y320), (28, y342), (69, y361), (70, y363), (71, y365), (72, y367), (75, y369)]) (a' := [(65, F344), (66, F346), (67, F348), (68, F350)]) rfl rfl rfl rfl rfl ?_
                replace h371 : (0 : Int) = 0 → y369 = 1 ∧ y361 = x333 := h371
                have u372 : (m.1 8) + 1 ≤ y312 := by omega
                refine T_ret rfl (fun _ => rfl) ?_
                exact ⟨y310, y312, y314, 0, y340, y320, y342, y361, y363, y365, y367, y369, F344, F346, F348, F350, g311, g313, g315, ⟨by omega, by omega⟩, g341, g321, g343, g362, g364, g366, g368, g370, G345, G347, G349, G351, (by omega), (by first | (first | exact hLx | (intro h9; exfalso; omega)) | (exfalso; omega)), (fun _ => ⟨(by omega), (by omega), (by omega), (by omega), (by first | (exact EX_w hEX (by omega)) | (exfalso; omega)), (by first | (exact hAg) | (exfalso; omega))⟩), rfl⟩
              · skip
                clear c353
                clear h352
                have hf373 : 1 ≤ y338 := by omega
                clear g319
                refine Tm_lv (a := [(0, .ref 189), (1, .int (i32 p)), (2, .int (i32 pq)), (3, .int (i32 so)), (4, .int (i32 x333)), (5, .int (i32 401)), (6, .int (i32 tf))]) rfl rfl ⟨rfl, rfl, rfl, rfl, rfl, rfl, rfl, trivial⟩ ?_
                exact J150_87 pq so x333 401 tf y310 y312 y314 y338 y340 y320 y342 F344 F346 F348 F350 (r32 (by omega) (by omega)) (r32 (by omega) (by omega)) (r32 (by omega) (by omega)) ⟨by decide, by decide⟩ (r32 (by omega) (by omega)) g311 g313 g315 g339 g341 g321 g343 G345 G347 G349 G351 (by omega) (by omega) (by omega) (by omega) (by omega) (by omega) (by omega) (by omega)
            · skip
              clear c325
              clear h323
              replace h324 : LxP y310 y312 y314 (m.1 6) y316 := h324
              have hLx := h324
              have hf374 : 1 ≤ y316 := by omega
              clear g291 g293 g295 g299 g301 h302 u307
              refine Tm_lv (a := [(0, .ref 189), (1, .int (i32 p)), (2, .int (i32 pq)), (3, .int (i32 so)), (4, .int (i32 1)), (5, .int (i32 401)), (6, .int (i32 wi))]) rfl rfl ⟨rfl, rfl, rfl, rfl, rfl, rfl, rfl, trivial⟩ ?_
              exact J109_136 pq so wi tf y310 y312 y314 y316 y318 y320 (r32 (by omega) (by omega)) (r32 (by omega) (by omega)) (r32 (by omega) (by omega)) (r32 (by omega) (by omega)) g311 g313 g315 g317 g319 g321 (by omega) (by omega) (by omega) (by omega) (by omega) (by omega) (by omega) (by omega)
          · skip
            replace h302 : LxP y290 y292 y294 (m.1 6) y296 := h302
            have hLx := h302
            clear h303
            replace h304 : y272 ≤ y292 := h304
            clear h305
            have hf375 : 1 ≤ y296 := by omega
            clear g271 g273 g275 g279 g281 h282 h284 h285 u287 h304
            refine Tm_lv (a := [(0, .ref 189), (1, .int (i32 p)), (2, .int (i32 pq)), (3, .int (i32 so)), (4, .int (i32 1)), (5, .int (i32 401)), (6, .int (i32 wi))]) rfl rfl ⟨rfl, rfl, rfl, rfl, rfl, rfl, rfl, trivial⟩ ?_
            exact J103_185 pq so wi y290 y292 y294 y296 y298 y300 (r32 (by omega) (by omega)) (r32 (by omega) (by omega)) (r32 (by omega) (by omega)) g291 g293 g295 g297 g299 g301 (by omega) (by omega) (by omega) (by omega) (by omega) (by omega) (by omega)
        · skip
          replace h282 : LxP y270 y272 y274 (m.1 6) y276 := h282
          have hLx := h282
          clear h283
          replace h284 : (m.1 8) ≤ y272 := h284
          clear h285
          have hf376 : 1 ≤ y276 := by omega
          refine T_ld 98 (.ref 189) rfl (fun _ => rfl) ?_
          refine T_ld 100 (.int (i32 46)) rfl (fun _ => rfl) ?_
          refine T_call 103 232 [.ref 189, .int (i32 46)] [] rfl (fun _ => rfl) rfl (c_need w (mO m [(7, y270), (8, y272), (9, y274), (10, y276), (11, y278), (12, y280), (28, (m.1 28)), (69, (m.1 69)), (70, (m.1 70)), (71, (m.1 71)), (72, (m.1 72)), (75, (m.1 75))] [(65, (m.2 65)), (66, (m.2 66)), (67, (m.2 67)), (68, (m.2 68))]) c N D (by omega) (Ty_mO hT rfl rfl ⟨g271, g273, g275, g277, g279, g281, f28, f69, f70, f71, f72, f75, trivial⟩ ⟨(hT.2.1 65), (hT.2.1 66), (hT.2.1 67), (hT.2.1 68), trivial⟩) 46 ⟨by decide, by decide⟩ (show 1 ≤ (46 : Int) by omega) (show LxP y270 y272 y274 (m.1 6) y276 by first | exact hLx | (intro h9; exfalso; omega) | (intro h9; have h8 := hLx (by omega); omega))) (fun rr377 k378 => ?_)
          obtain ⟨y379, y381, y383, y385, y387, y389, g380, g382, g384, g386, g388, g390, h391, h392, h393, h394, rfl⟩ := k378
          refine ⟨_, _, rfl, ?_⟩
          refine T_nf (st' := []) (l' := [(7, y379), (8, y381), (9, y383), (10, y385), (11, y387), (12, y389), (28, (m.1 28)), (69, (m.1 69)), (70, (m.1 70)), (71, (m.1 71)), (72, (m.1 72)), (75, (m.1 75))]) (a' := [(65, (m.2 65)), (66, (m.2 66)), (67, (m.2 67)), (68, (m.2 68))]) rfl rfl rfl rfl rfl ?_
          replace h391 : LxP y379 y381 y383 (m.1 6) y385 := h391
          replace h392 : y385 = 0 → y276 = 0 ∧ y270 = (46 : Int) := h392
          replace h393 : y272 ≤ y381 := h393
          replace h394 : y385 = 0 → y272 + y274 ≤ y381 := h394
          have hf395 : 1 ≤ y385 := by omega
          clear h392
          clear h394
          have hLx := h391
          clear g271 g273 g275 g277 g279 g281 h282 h284 hf376 h393
          refine Tm_lv (a := [(0, .ref 189), (1, .int (i32 p)), (2, .int (i32 pq)), (3, .int (i32 so)), (4, .int (i32 1)), (5, .int (i32 401)), (6, .int (i32 wi))]) rfl rfl ⟨rfl, rfl, rfl, rfl, rfl, rfl, rfl, trivial⟩ ?_
          exact J103_185 pq so wi y379 y381 y383 y385 y387 y389 (r32 (by omega) (by omega)) (r32 (by omega) (by omega)) (r32 (by omega) (by omega)) g380 g382 g384 g386 g388 g390 (by omega) (by omega) (by omega) (by omega) (by omega) (by omega) (by omega)
    · skip
      refine T_ld 53 (.int (i32 402)) rfl (fun _ => rfl) ?_
      refine T_sto 55 [(5, .int (i32 402)), (6, .int (i32 0)), (4, .int (i32 1)), (3, .int (i32 so)), (2, .int (i32 pq)), (0, .ref 189), (1, .int (i32 p))] rfl (fun _ => rfl) ?_
      refine T_ld 56 (.ref 189) rfl (fun _ => rfl) ?_
      refine T_call 59 237 [.ref 189] [] rfl (fun _ => rfl) rfl (c_whichHere w (mO m [(7, (m.1 7)), (8, (m.1 8)), (9, (m.1 9)), (10, (m.1 10)), (11, (m.1 11)), (12, (m.1 12)), (28, (m.1 28)), (69, (m.1 69)), (70, (m.1 70)), (71, (m.1 71)), (72, (m.1 72)), (75, (m.1 75))] [(65, (m.2 65)), (66, (m.2 66)), (67, (m.2 67)), (68, (m.2 68))]) c N D (by omega) (Ty_mO hT rfl rfl ⟨f7, f8, f9, f10, f11, f12, f28, f69, f70, f71, f72, f75, trivial⟩ ⟨(hT.2.1 65), (hT.2.1 66), (hT.2.1 67), (hT.2.1 68), trivial⟩) (show 1 ≤ (m.1 9) ∧ (m.1 8) + (m.1 9) ≤ (m.1 6) by first | omega | (have h8 := hLx (by omega); omega)) (show ∀ k, (m.2 14) k + (m.2 15) k ≤ 4000 by first | exact hNM | exact p1) (show ∀ g k, isGH (m.2 4) (m.1 8) (m.1 9) g → g < 0 → isFH (m.2 4) (m.2 14) (m.2 15) (m.1 8) (m.1 9) (m.1 13) k → 0 ≤ k by exact old_ok hSo (by omega))) (fun rr396 k397 => ?_)
      obtain ⟨wi, g398, h399, rfl⟩ := k397
      refine ⟨_, _, rfl, ?_⟩
      refine T_nf (st' := [.int (i32 wi)]) (l' := [(7, (m.1 7)), (8, (m.1 8)), (9, (m.1 9)), (10, (m.1 10)), (11, (m.1 11)), (12, (m.1 12)), (28, (m.1 28)), (69, (m.1 69)), (70, (m.1 70)), (71, (m.1 71)), (72, (m.1 72)), (75, (m.1 75))]) (a' := [(65, (m.2 65)), (66, (m.2 66)), (67, (m.2 67)), (68, (m.2 68))]) rfl rfl rfl rfl rfl ?_
      obtain ⟨g398a, g398b⟩ := g398
      replace h399 : ∃ g k, isGH (m.2 4) (m.1 8) (m.1 9) g ∧ (g < 0 → isFH (m.2 4) (m.2 14) (m.2 15) (m.1 8) (m.1 9) (m.1 13) k) ∧ wi = whichV (m.2 17) g k := h399
      have hWi := h399
      have u400 : (m.1 8) ≤ (m.1 8) := by omega
      obtain ⟨hw0, hw1⟩ : 0 ≤ wi ∧ wi < (m.1 21) := old_rg hSo hWi (by omega) (by omega) (by omega) (PNl_3 pPN) (by omega)
      refine T_sto 61 [(6, .int (i32 wi)), (5, .int (i32 402)), (4, .int (i32 1)), (3, .int (i32 so)), (2, .int (i32 pq)), (0, .ref 189), (1, .int (i32 p))] rfl (fun _ => rfl) ?_
      refine T_gf 65 (.ref 205) rfl rfl rfl rfl rfl rfl ?_
      refine T_ld 67 (.int (i32 wi)) rfl (fun _ => rfl) ?_
      refine T_iald 68 35 (m.2 35) rfl rfl rfl (by omega) (show wi < (16 : Int) by omega) rfl ?_
      have e401 : 0 ≤ m.2 35 wi ∧ m.2 35 wi ≤ 64 := hT.2.1 35 wi
      refine T_sto 70 [(4, .int (i32 ((m.2 35) wi))), (6, .int (i32 wi)), (5, .int (i32 402)), (3, .int (i32 so)), (2, .int (i32 pq)), (0, .ref 189), (1, .int (i32 p))] rfl (fun _ => rfl) ?_
      refine T_ld 71 (.ref 189) rfl (fun _ => rfl) ?_
      refine T_call 74 212 [.ref 189] [] rfl (fun _ => rfl) rfl (c_next w (mO m [(7, (m.1 7)), (8, (m.1 8)), (9, (m.1 9)), (10, (m.1 10)), (11, (m.1 11)), (12, (m.1 12)), (28, (m.1 28)), (69, (m.1 69)), (70, (m.1 70)), (71, (m.1 71)), (72, (m.1 72)), (75, (m.1 75))] [(65, (m.2 65)), (66, (m.2 66)), (67, (m.2 67)), (68, (m.2 68))]) c N D (by omega) (Ty_mO hT rfl rfl ⟨f7, f8, f9, f10, f11, f12, f28, f69, f70, f71, f72, f75, trivial⟩ ⟨(hT.2.1 65), (hT.2.1 66), (hT.2.1 67), (hT.2.1 68), trivial⟩) (show (m.1 10) = 0 → (m.1 8) + (m.1 9) ≤ (m.1 6) by first | omega | (intro h9; have h8 := hLx h9; omega))) (fun rr402 k403 => ?_)
      obtain ⟨y404, y406, y408, y410, y412, y414, g405, g407, g409, g411, g413, g415, h416, h417, h418, h419, rfl⟩ := k403
      refine ⟨_, _, rfl, ?_⟩
      refine T_nf (st' := []) (l' := [(7, y404), (8, y406), (9, y408), (10, y410), (11, y412), (12, y414), (28, (m.1 28)), (69, (m.1 69)), (70, (m.1 70)), (71, (m.1 71)), (72, (m.1 72)), (75, (m.1 75))]) (a' := [(65, (m.2 65)), (66, (m.2 66)), (67, (m.2 67)), (68, (m.2 68))]) rfl rfl rfl rfl rfl ?_
      by_cases hf420 : y410 = 0
      · skip
        subst hf420
        replace h416 : LxP y404 y406 y408 (m.1 6) (0 : Int) := h416
        have hLx := h416
        replace h417 : (m.1 10) = 0 := h417 rfl
        replace h418 : (m.1 8) ≤ y406 := h418
        replace h419 : (m.1 8) + (m.1 9) ≤ y406 := h419 rfl
        have u421 : (m.1 8) + 1 ≤ y406 := by omega
        clear g411
        refine T_goto 139 rfl (fun _ => rfl) ?_
        have hA : ar (402 : Int) = 0 := ar_0 (by omega)
        have hAr : ar (402 : Int) ≤ h := by omega
        have hCk : CNk (402 : Int) wi := by refine ⟨?_, ?_, ?_, ?_⟩ <;> omega
        refine T_ld 140 (.ref 189) rfl (fun _ => rfl) ?_
        refine T_ld 142 (.int (i32 402)) rfl (fun _ => rfl) ?_
        refine T_ld 144 (.int (i32 ((m.2 35) wi))) rfl (fun _ => rfl) ?_
        refine T_ld 146 (.int (i32 wi)) rfl (fun _ => rfl) ?_
        refine T_ld 147 (.long (i64 0)) rfl (fun _ => rfl) ?_
        refine T_call 150 248 [.ref 189, .int (i32 402), .int (i32 ((m.2 35) wi)), .int (i32 wi), .long (i64 0)] [] rfl (fun _ => rfl) rfl (c_node w (mO m [(7, y404), (8, y406), (9, y408), (10, 0), (11, y412), (12, y414), (28, (m.1 28)), (69, (m.1 69)), (70, (m.1 70)), (71, (m.1 71)), (72, (m.1 72)), (75, (m.1 75))] [(65, (m.2 65)), (66, (m.2 66)), (67, (m.2 67)), (68, (m.2 68))]) c N D (by omega) (Ty_mO hT rfl rfl ⟨g405, g407, g409, ⟨(by omega : (0 : Int) ≤ 0), (by omega : (0 : Int) ≤ 8)⟩, g413, g415, f28, f69, f70, f71, f72, f75, trivial⟩ ⟨(hT.2.1 65), (hT.2.1 66), (hT.2.1 67), (hT.2.1 68), trivial⟩) 402 ((m.2 35) wi) wi 0 B h ⟨by decide, by decide⟩ (r32 (by omega) (by omega)) (r32 (by omega) (by omega)) ⟨by decide, by decide⟩ (fun _ => ⟨(show 0 ≤ (402 : Int) ∧ (402 : Int) ≤ 408 by first | omega | decide), (show 0 ≤ ((m.2 35) wi) ∧ ((m.2 35) wi) ≤ 64 by first | omega | decide), (show 0 ≤ wi ∧ wi ≤ 191 by first | omega | decide), (show CNk (402 : Int) wi by first | exact hCk | (refine ⟨?_, ?_, ?_, ?_⟩ <;> omega)), (show ar (402 : Int) ≤ h by first | exact hAr | omega), (show EX (m.2 65) (m.2 67) B (m.1 28) h by first | exact hEX | assumption)⟩)) (fun rr422 k423 => ?_)
        obtain ⟨y424, y426, y428, F430, F432, F434, F436, g425, g427, g429, G431, G433, G435, G437, h438, c439, rfl⟩ := k423
        refine ⟨_, _, rfl, ?_⟩
        refine T_nf (st' := []) (l' := [(7, y404), (8, y406), (9, y408), (10, y424), (11, y426), (12, y414), (28, y428), (69, (m.1 69)), (70, (m.1 70)), (71, (m.1 71)), (72, (m.1 72)), (75, (m.1 75))]) (a' := [(65, F430), (66, F432), (67, F434), (68, F436)]) rfl rfl rfl rfl rfl ?_
        by_cases hf440 : y424 = 0
        · skip
          subst hf440
          replace h438 : (0 : Int) = 0 := h438 rfl
          obtain ⟨c441, c442, c443⟩ := c439 rfl
          replace c441 : y428 = (m.1 28) + 1 := c441
          replace c442 : EX F430 F434 B y428 (h + 1 - ar (402 : Int)) := c442
          have hEX := c442
          replace c443 : agr (m.2 65) F430 (m.1 28) := c443
          have hAg := c443
          clear c439
          have u444 : (m.1 8) + 1 ≤ y406 := by omega
          clear g413 g425
          refine T_ld 151 (.ref 189) rfl (fun _ => rfl) ?_
          refine T_ld 153 (.int (i32 ((m.2 35) wi))) rfl (fun _ => rfl) ?_
          refine T_ld 154 (.int (i32 p)) rfl (fun _ => rfl) ?_
          refine T_call 157 249 [.ref 189, .int (i32 ((m.2 35) wi)), .int (i32 p)] [] rfl (fun _ => rfl) rfl (c_atom w (mO m [(7, y404), (8, y406), (9, y408), (10, 0), (11, y426), (12, y414), (28, y428), (69, (m.1 69)), (70, (m.1 70)), (71, (m.1 71)), (72, (m.1 72)), (75, (m.1 75))] [(65, F430), (66, F432), (67, F434), (68, F436)]) c N D (by omega) (Ty_mO hT rfl rfl ⟨g405, g407, g409, ⟨(by omega : (0 : Int) ≤ 0), (by omega : (0 : Int) ≤ 8)⟩, g427, g415, g429, f69, f70, f71, f72, f75, trivial⟩ ⟨G431, G433, G435, G437, trivial⟩) ((m.2 35) wi) p (r32 (by omega) (by omega)) (r32 (by omega) (by omega)) (show 0 ≤ ((m.2 35) wi) ∧ ((m.2 35) wi) ≤ 64 by omega) (show 0 ≤ p ∧ p ≤ 4000 by omega)) (fun rr445 k446 => ?_)
          obtain ⟨y447, y449, y451, y453, y455, g448, g450, g452, g454, g456, h457, rfl⟩ := k446
          refine ⟨_, _, rfl, ?_⟩
          refine T_nf (st' := []) (l' := [(7, y404), (8, y406), (9, y408), (10, 0), (11, y426), (12, y414), (28, y428), (69, y447), (70, y449), (71, y451), (72, y453), (75, y455)]) (a' := [(65, F430), (66, F432), (67, F434), (68, F436)]) rfl rfl rfl rfl rfl ?_
          replace h457 : (0 : Int) = 0 → y455 = 1 ∧ y447 = ((m.2 35) wi) := h457
          have u458 : (m.1 8) + 1 ≤ y406 := by omega
          refine T_ret rfl (fun _ => rfl) ?_
          exact ⟨y404, y406, y408, 0, y426, y414, y428, y447, y449, y451, y453, y455, F430, F432, F434, F436, g405, g407, g409, ⟨by omega, by omega⟩, g427, g415, g429, g448, g450, g452, g454, g456, G431, G433, G435, G437, (by omega), (by first | (first | exact hLx | (intro h9; exfalso; omega)) | (exfalso; omega)), (fun _ => ⟨(by omega), (by omega), (by omega), (by omega), (by first | (exact EX_w hEX (by omega)) | (exfalso; omega)), (by first | (exact hAg) | (exfalso; omega))⟩), rfl⟩
        · skip
          clear c439
          clear h438
          have hf459 : 1 ≤ y424 := by omega
          clear g413
          refine Tm_lv (a := [(0, .ref 189), (1, .int (i32 p)), (2, .int (i32 pq)), (3, .int (i32 so)), (4, .int (i32 ((m.2 35) wi))), (5, .int (i32 402)), (6, .int (i32 wi))]) rfl rfl ⟨rfl, rfl, rfl, rfl, rfl, rfl, rfl, trivial⟩ ?_
          exact J150_87 pq so ((m.2 35) wi) 402 wi y404 y406 y408 y424 y426 y414 y428 F430 F432 F434 F436 (r32 (by omega) (by omega)) (r32 (by omega) (by omega)) (r32 (by omega) (by omega)) ⟨by decide, by decide⟩ (r32 (by omega) (by omega)) g405 g407 g409 g425 g427 g415 g429 G431 G433 G435 G437 (by omega) (by omega) (by omega) (by omega) (by omega) (by omega) (by omega) (by omega)
      · skip
        replace h416 : LxP y404 y406 y408 (m.1 6) y410 := h416
        have hLx := h416
        clear h417
        replace h418 : (m.1 8) ≤ y406 := h418
        clear h419
        have hf460 : 1 ≤ y410 := by omega
        refine T_goto 139 rfl (fun _ => rfl) ?_
        refine T_ld 140 (.ref 189) rfl (fun _ => rfl) ?_
        refine T_ld 142 (.int (i32 402)) rfl (fun _ => rfl) ?_
        refine T_ld 144 (.int (i32 ((m.2 35) wi))) rfl (fun _ => rfl) ?_
        refine T_ld 146 (.int (i32 wi)) rfl (fun _ => rfl) ?_
        refine T_ld 147 (.long (i64 0)) rfl (fun _ => rfl) ?_
        refine T_call 150 248 [.ref 189, .int (i32 402), .int (i32 ((m.2 35) wi)), .int (i32 wi), .long (i64 0)] [] rfl (fun _ => rfl) rfl (c_node w (mO m [(7, y404), (8, y406), (9, y408), (10, y410), (11, y412), (12, y414), (28, (m.1 28)), (69, (m.1 69)), (70, (m.1 70)), (71, (m.1 71)), (72, (m.1 72)), (75, (m.1 75))] [(65, (m.2 65)), (66, (m.2 66)), (67, (m.2 67)), (68, (m.2 68))]) c N D (by omega) (Ty_mO hT rfl rfl ⟨g405, g407, g409, g411, g413, g415, f28, f69, f70, f71, f72, f75, trivial⟩ ⟨(hT.2.1 65), (hT.2.1 66), (hT.2.1 67), (hT.2.1 68), trivial⟩) 402 ((m.2 35) wi) wi 0 B h ⟨by decide, by decide⟩ (r32 (by omega) (by omega)) (r32 (by omega) (by omega)) ⟨by decide, by decide⟩ (fun (h : y410 = 0) => absurd h (by omega))) (fun rr461 k462 => ?_)
        obtain ⟨y463, y465, y467, F469, F471, F473, F475, g464, g466, g468, G470, G472, G474, G476, h477, c478, rfl⟩ := k462
        refine ⟨_, _, rfl, ?_⟩
        refine T_nf (st' := []) (l' := [(7, y404), (8, y406), (9, y408), (10, y463), (11, y465), (12, y414), (28, y467), (69, (m.1 69)), (70, (m.1 70)), (71, (m.1 71)), (72, (m.1 72)), (75, (m.1 75))]) (a' := [(65, F469), (66, F471), (67, F473), (68, F475)]) rfl rfl rfl rfl rfl ?_
        replace h477 : y463 = 0 → y410 = 0 := h477
        have hf479 : 1 ≤ y463 := by omega
        clear c478
        clear h477
        clear g411 g413 h416 hf460
        refine Tm_lv (a := [(0, .ref 189), (1, .int (i32 p)), (2, .int (i32 pq)), (3, .int (i32 so)), (4, .int (i32 ((m.2 35) wi))), (5, .int (i32 402)), (6, .int (i32 wi))]) rfl rfl ⟨rfl, rfl, rfl, rfl, rfl, rfl, rfl, trivial⟩ ?_
        exact J150_87 pq so ((m.2 35) wi) 402 wi y404 y406 y408 y463 y465 y414 y467 F469 F471 F473 F475 (r32 (by omega) (by omega)) (r32 (by omega) (by omega)) (r32 (by omega) (by omega)) ⟨by decide, by decide⟩ (r32 (by omega) (by omega)) g405 g407 g409 g464 g466 g415 g468 G470 G472 G474 G476 (by omega) (by omega) (by omega) (by omega) (by omega) (by omega) (by omega) (by omega)
  · skip
    refine T_gf 29 (.ref 219) rfl rfl rfl rfl rfl rfl ?_
    refine T_ld 30 (.int (i32 pq)) rfl (fun _ => rfl) ?_
    refine T_iald 31 49 (m.2 49) rfl rfl rfl (by omega) (show pq < (64 : Int) by omega) rfl ?_
    have e480 : 0 ≤ m.2 49 pq ∧ m.2 49 pq ≤ 64 := hT.2.1 49 pq
    refine T_sto 33 [(4, .int (i32 ((m.2 49) pq))), (6, .int (i32 0)), (5, .int (i32 403)), (3, .int (i32 so)), (2, .int (i32 pq)), (0, .ref 189), (1, .int (i32 p))] rfl (fun _ => rfl) ?_
    refine T_ld 34 (.int (i32 pq)) rfl (fun _ => rfl) ?_
    refine T_ld 35 (.int (i32 4)) rfl (fun _ => rfl) ?_
    refine T_irem 36 rfl rfl (by omega) (by omega) (by omega) (by omega) ?_
    refine T_sto 38 [(6, .int (i32 (pq % 4))), (4, .int (i32 ((m.2 49) pq))), (5, .int (i32 403)), (3, .int (i32 so)), (2, .int (i32 pq)), (0, .ref 189), (1, .int (i32 p))] rfl (fun _ => rfl) ?_
    refine T_ld 39 (.ref 189) rfl (fun _ => rfl) ?_
    refine T_call 42 212 [.ref 189] [] rfl (fun _ => rfl) rfl (c_next w (mO m [(7, (m.1 7)), (8, (m.1 8)), (9, (m.1 9)), (10, (m.1 10)), (11, (m.1 11)), (12, (m.1 12)), (28, (m.1 28)), (69, (m.1 69)), (70, (m.1 70)), (71, (m.1 71)), (72, (m.1 72)), (75, (m.1 75))] [(65, (m.2 65)), (66, (m.2 66)), (67, (m.2 67)), (68, (m.2 68))]) c N D (by omega) (Ty_mO hT rfl rfl ⟨f7, f8, f9, f10, f11, f12, f28, f69, f70, f71, f72, f75, trivial⟩ ⟨(hT.2.1 65), (hT.2.1 66), (hT.2.1 67), (hT.2.1 68), trivial⟩) (show (m.1 10) = 0 → (m.1 8) + (m.1 9) ≤ (m.1 6) by first | omega | (intro h9; have h8 := hLx h9; omega))) (fun rr481 k482 => ?_)
    obtain ⟨y483, y485, y487, y489, y491, y493, g484, g486, g488, g490, g492, g494, h495, h496, h497, h498, rfl⟩ := k482
    refine ⟨_, _, rfl, ?_⟩
    refine T_nf (st' := []) (l' := [(7, y483), (8, y485), (9, y487), (10, y489), (11, y491), (12, y493), (28, (m.1 28)), (69, (m.1 69)), (70, (m.1 70)), (71, (m.1 71)), (72, (m.1 72)), (75, (m.1 75))]) (a' := [(65, (m.2 65)), (66, (m.2 66)), (67, (m.2 67)), (68, (m.2 68))]) rfl rfl rfl rfl rfl ?_
    by_cases hf499 : y489 = 0
    · skip
      subst hf499
      replace h495 : LxP y483 y485 y487 (m.1 6) (0 : Int) := h495
      have hLx := h495
      replace h496 : (m.1 10) = 0 := h496 rfl
      replace h497 : (m.1 8) ≤ y485 := h497
      replace h498 : (m.1 8) + (m.1 9) ≤ y485 := h498 rfl
      have u500 : (m.1 8) + 1 ≤ y485 := by omega
      clear g490
      refine T_goto 139 rfl (fun _ => rfl) ?_
      have hA : ar (403 : Int) = 0 := ar_0 (by omega)
      have hAr : ar (403 : Int) ≤ h := by omega
      have hCk : CNk (403 : Int) (pq % 4) := by refine ⟨?_, ?_, ?_, ?_⟩ <;> omega
      refine T_ld 140 (.ref 189) rfl (fun _ => rfl) ?_
      refine T_ld 142 (.int (i32 403)) rfl (fun _ => rfl) ?_
      refine T_ld 144 (.int (i32 ((m.2 49) pq))) rfl (fun _ => rfl) ?_
      refine T_ld 146 (.int (i32 (pq % 4))) rfl (fun _ => rfl) ?_
      refine T_ld 147 (.long (i64 0)) rfl (fun _ => rfl) ?_
      refine T_call 150 248 [.ref 189, .int (i32 403), .int (i32 ((m.2 49) pq)), .int (i32 (pq % 4)), .long (i64 0)] [] rfl (fun _ => rfl) rfl (c_node w (mO m [(7, y483), (8, y485), (9, y487), (10, 0), (11, y491), (12, y493), (28, (m.1 28)), (69, (m.1 69)), (70, (m.1 70)), (71, (m.1 71)), (72, (m.1 72)), (75, (m.1 75))] [(65, (m.2 65)), (66, (m.2 66)), (67, (m.2 67)), (68, (m.2 68))]) c N D (by omega) (Ty_mO hT rfl rfl ⟨g484, g486, g488, ⟨(by omega : (0 : Int) ≤ 0), (by omega : (0 : Int) ≤ 8)⟩, g492, g494, f28, f69, f70, f71, f72, f75, trivial⟩ ⟨(hT.2.1 65), (hT.2.1 66), (hT.2.1 67), (hT.2.1 68), trivial⟩) 403 ((m.2 49) pq) (pq % 4) 0 B h ⟨by decide, by decide⟩ (r32 (by omega) (by omega)) (r32 (by omega) (by omega)) ⟨by decide, by decide⟩ (fun _ => ⟨(show 0 ≤ (403 : Int) ∧ (403 : Int) ≤ 408 by first | omega | decide), (show 0 ≤ ((m.2 49) pq) ∧ ((m.2 49) pq) ≤ 64 by first | omega | decide), (show 0 ≤ (pq % 4) ∧ (pq % 4) ≤ 191 by first | omega | decide), (show CNk (403 : Int) (pq % 4) by first | exact hCk | (refine ⟨?_, ?_, ?_, ?_⟩ <;> omega)), (show ar (403 : Int) ≤ h by first | exact hAr | omega), (show EX (m.2 65) (m.2 67) B (m.1 28) h by first | exact hEX | assumption)⟩)) (fun rr501 k502 => ?_)
      obtain ⟨y503, y505, y507, F509, F511, F513, F515, g504, g506, g508, G510, G512, G514, G516, h517, c518, rfl⟩ := k502
      refine ⟨_, _, rfl, ?_⟩
      refine T_nf (st' := []) (l' := [(7, y483), (8, y485), (9, y487), (10, y503), (11, y505), (12, y493), (28, y507), (69, (m.1 69)), (70, (m.1 70)), (71, (m.1 71)), (72, (m.1 72)), (75, (m.1 75))]) (a' := [(65, F509), (66, F511), (67, F513), (68, F515)]) rfl rfl rfl rfl rfl ?_
      by_cases hf519 : y503 = 0
      · skip
        subst hf519
        replace h517 : (0 : Int) = 0 := h517 rfl
        obtain ⟨c520, c521, c522⟩ := c518 rfl
        replace c520 : y507 = (m.1 28) + 1 := c520
        replace c521 : EX F509 F513 B y507 (h + 1 - ar (403 : Int)) := c521
        have hEX := c521
        replace c522 : agr (m.2 65) F509 (m.1 28) := c522
        have hAg := c522
        clear c518
        have u523 : (m.1 8) + 1 ≤ y485 := by omega
        clear g492 g504
        refine T_ld 151 (.ref 189) rfl (fun _ => rfl) ?_
        refine T_ld 153 (.int (i32 ((m.2 49) pq))) rfl (fun _ => rfl) ?_
        refine T_ld 154 (.int (i32 p)) rfl (fun _ => rfl) ?_
        refine T_call 157 249 [.ref 189, .int (i32 ((m.2 49) pq)), .int (i32 p)] [] rfl (fun _ => rfl) rfl (c_atom w (mO m [(7, y483), (8, y485), (9, y487), (10, 0), (11, y505), (12, y493), (28, y507), (69, (m.1 69)), (70, (m.1 70)), (71, (m.1 71)), (72, (m.1 72)), (75, (m.1 75))] [(65, F509), (66, F511), (67, F513), (68, F515)]) c N D (by omega) (Ty_mO hT rfl rfl ⟨g484, g486, g488, ⟨(by omega : (0 : Int) ≤ 0), (by omega : (0 : Int) ≤ 8)⟩, g506, g494, g508, f69, f70, f71, f72, f75, trivial⟩ ⟨G510, G512, G514, G516, trivial⟩) ((m.2 49) pq) p (r32 (by omega) (by omega)) (r32 (by omega) (by omega)) (show 0 ≤ ((m.2 49) pq) ∧ ((m.2 49) pq) ≤ 64 by omega) (show 0 ≤ p ∧ p ≤ 4000 by omega)) (fun rr524 k525 => ?_)
        obtain ⟨y526, y528, y530, y532, y534, g527, g529, g531, g533, g535, h536, rfl⟩ := k525
        refine ⟨_, _, rfl, ?_⟩
        refine T_nf (st' := []) (l' := [(7, y483), (8, y485), (9, y487), (10, 0), (11, y505), (12, y493), (28, y507), (69, y526), (70, y528), (71, y530), (72, y532), (75, y534)]) (a' := [(65, F509), (66, F511), (67, F513), (68, F515)]) rfl rfl rfl rfl rfl ?_
        replace h536 : (0 : Int) = 0 → y534 = 1 ∧ y526 = ((m.2 49) pq) := h536
        have u537 : (m.1 8) + 1 ≤ y485 := by omega
        refine T_ret rfl (fun _ => rfl) ?_
        exact ⟨y483, y485, y487, 0, y505, y493, y507, y526, y528, y530, y532, y534, F509, F511, F513, F515, g484, g486, g488, ⟨by omega, by omega⟩, g506, g494, g508, g527, g529, g531, g533, g535, G510, G512, G514, G516, (by omega), (by first | (first | exact hLx | (intro h9; exfalso; omega)) | (exfalso; omega)), (fun _ => ⟨(by omega), (by omega), (by omega), (by omega), (by first | (exact EX_w hEX (by omega)) | (exfalso; omega)), (by first | (exact hAg) | (exfalso; omega))⟩), rfl⟩
      · skip
        clear c518
        clear h517
        have hf538 : 1 ≤ y503 := by omega
        clear g492
        refine Tm_lv (a := [(0, .ref 189), (1, .int (i32 p)), (2, .int (i32 pq)), (3, .int (i32 so)), (4, .int (i32 ((m.2 49) pq))), (5, .int (i32 403)), (6, .int (i32 (pq % 4)))]) rfl rfl ⟨rfl, rfl, rfl, rfl, rfl, rfl, rfl, trivial⟩ ?_
        exact J150_87 pq so ((m.2 49) pq) 403 (pq % 4) y483 y485 y487 y503 y505 y493 y507 F509 F511 F513 F515 (r32 (by omega) (by omega)) (r32 (by omega) (by omega)) (r32 (by omega) (by omega)) ⟨by decide, by decide⟩ (r32 (by omega) (by omega)) g484 g486 g488 g504 g506 g494 g508 G510 G512 G514 G516 (by omega) (by omega) (by omega) (by omega) (by omega) (by omega) (by omega) (by omega)
    · skip
      replace h495 : LxP y483 y485 y487 (m.1 6) y489 := h495
      have hLx := h495
      clear h496
      replace h497 : (m.1 8) ≤ y485 := h497
      clear h498
      have hf539 : 1 ≤ y489 := by omega
      refine T_goto 139 rfl (fun _ => rfl) ?_
      refine T_ld 140 (.ref 189) rfl (fun _ => rfl) ?_
      refine T_ld 142 (.int (i32 403)) rfl (fun _ => rfl) ?_
      refine T_ld 144 (.int (i32 ((m.2 49) pq))) rfl (fun _ => rfl) ?_
      refine T_ld 146 (.int (i32 (pq % 4))) rfl (fun _ => rfl) ?_
      refine T_ld 147 (.long (i64 0)) rfl (fun _ => rfl) ?_
      refine T_call 150 248 [.ref 189, .int (i32 403), .int (i32 ((m.2 49) pq)), .int (i32 (pq % 4)), .long (i64 0)] [] rfl (fun _ => rfl) rfl (c_node w (mO m [(7, y483), (8, y485), (9, y487), (10, y489), (11, y491), (12, y493), (28, (m.1 28)), (69, (m.1 69)), (70, (m.1 70)), (71, (m.1 71)), (72, (m.1 72)), (75, (m.1 75))] [(65, (m.2 65)), (66, (m.2 66)), (67, (m.2 67)), (68, (m.2 68))]) c N D (by omega) (Ty_mO hT rfl rfl ⟨g484, g486, g488, g490, g492, g494, f28, f69, f70, f71, f72, f75, trivial⟩ ⟨(hT.2.1 65), (hT.2.1 66), (hT.2.1 67), (hT.2.1 68), trivial⟩) 403 ((m.2 49) pq) (pq % 4) 0 B h ⟨by decide, by decide⟩ (r32 (by omega) (by omega)) (r32 (by omega) (by omega)) ⟨by decide, by decide⟩ (fun (h : y489 = 0) => absurd h (by omega))) (fun rr540 k541 => ?_)
      obtain ⟨y542, y544, y546, F548, F550, F552, F554, g543, g545, g547, G549, G551, G553, G555, h556, c557, rfl⟩ := k541
      refine ⟨_, _, rfl, ?_⟩
      refine T_nf (st' := []) (l' := [(7, y483), (8, y485), (9, y487), (10, y542), (11, y544), (12, y493), (28, y546), (69, (m.1 69)), (70, (m.1 70)), (71, (m.1 71)), (72, (m.1 72)), (75, (m.1 75))]) (a' := [(65, F548), (66, F550), (67, F552), (68, F554)]) rfl rfl rfl rfl rfl ?_
      replace h556 : y542 = 0 → y489 = 0 := h556
      have hf558 : 1 ≤ y542 := by omega
      clear c557
      clear h556
      clear g490 g492 h495 hf539
      refine Tm_lv (a := [(0, .ref 189), (1, .int (i32 p)), (2, .int (i32 pq)), (3, .int (i32 so)), (4, .int (i32 ((m.2 49) pq))), (5, .int (i32 403)), (6, .int (i32 (pq % 4)))]) rfl rfl ⟨rfl, rfl, rfl, rfl, rfl, rfl, rfl, trivial⟩ ?_
      exact J150_87 pq so ((m.2 49) pq) 403 (pq % 4) y483 y485 y487 y542 y544 y493 y546 F548 F550 F552 F554 (r32 (by omega) (by omega)) (r32 (by omega) (by omega)) (r32 (by omega) (by omega)) ⟨by decide, by decide⟩ (r32 (by omega) (by omega)) g484 g486 g488 g543 g545 g494 g547 G549 G551 G553 G555 (by omega) (by omega) (by omega) (by omega) (by omega) (by omega) (by omega) (by omega)
def Q_wantUnit (m : mR) (c : Nat → Option am_C) (N : Nat) (B : Int) : ag_Re af_T → Prop := fun R => ∃ (y7 : Int) (y8 : Int) (y9 : Int) (y10 : Int) (y11 : Int) (y12 : Int) (y28 : Int) (y69 : Int) (y70 : Int) (y71 : Int) (y72 : Int) (y73 : Int) (y74 : Int) (y75 : Int) (F65 : Int → Int) (F66 : Int → Int) (F67 : Int → Int) (F68 : Int → Int) (F76 : Int → Int) (F77 : Int → Int) (F78 : Int → Int) (F79 : Int → Int) (F80 : Int → Int), (0 ≤ y7 ∧ y7 ≤ 330) ∧ (0 ≤ y8 ∧ y8 ≤ 4000) ∧ (0 ≤ y9 ∧ y9 ≤ 4000) ∧ (0 ≤ y10 ∧ y10 ≤ 8) ∧ ((-1) ≤ y11 ∧ y11 ≤ 4000) ∧ ((-9223372036854775808) ≤ y12 ∧ y12 ≤ 9223372036854775807) ∧ (0 ≤ y28 ∧ y28 ≤ 800) ∧ (0 ≤ y69 ∧ y69 ≤ 1024) ∧ (0 ≤ y70 ∧ y70 ≤ 4000) ∧ (0 ≤ y71 ∧ y71 ≤ 1) ∧ ((-9223372036854775808) ≤ y72 ∧ y72 ≤ 9223372036854775807) ∧ (0 ≤ y73 ∧ y73 ≤ 60) ∧ (0 ≤ y74 ∧ y74 ≤ 24) ∧ (0 ≤ y75 ∧ y75 ≤ 3) ∧ (∀ j, 0 ≤ F65 j ∧ F65 j ≤ 408) ∧ (∀ j, 0 ≤ F66 j ∧ F66 j ≤ 64) ∧ (∀ j, 0 ≤ F67 j ∧ F67 j ≤ 191) ∧ (∀ j, (-9223372036854775808) ≤ F68 j ∧ F68 j ≤ 9223372036854775807) ∧ (∀ j, 0 ≤ F76 j ∧ F76 j ≤ 2) ∧ (∀ j, 0 ≤ F77 j ∧ F77 j ≤ 4000) ∧ (∀ j, 0 ≤ F78 j ∧ F78 j ≤ 330) ∧ (∀ j, 0 ≤ F79 j ∧ F79 j ≤ 2) ∧ (∀ j, (-1) ≤ F80 j ∧ F80 j ≤ 330) ∧ (y10 = 0 → (m.1 10) = 0) ∧ (LxP y7 y8 y9 (m.1 6) y10) ∧ (y10 = 0 → ((m.1 8) + 1 ≤ y8) ∧ (y75 = 0 ∨ (y75 = 1 ∧ y69 ≤ 64)) ∧ (1 ≤ y73) ∧ ((m.1 28) ≤ y28) ∧ (XS F65 F67 F76 F78 F79 F80 B y28 y73 y74 (um y75)) ∧ (agr (m.2 65) F65 (m.1 28))) ∧ R = (.inl (none), (mhp (mO m [(7, y7), (8, y8), (9, y9), (10, y10), (11, y11), (12, y12), (28, y28), (69, y69), (70, y70), (71, y71), (72, y72), (73, y73), (74, y74), (75, y75)] [(65, F65), (66, F66), (67, F67), (68, F68), (76, F76), (77, F77), (78, F78), (79, F79), (80, F80)]) c, N), 0, 0)
set_option maxHeartbeats 8000000 in
theorem c_wantUnit (w : wX) (m : mR) (c : Nat → Option am_C) (N D : Nat) (hD : 8 ≤ D) (hT : Ty m) (B : Int) (hLx0 : LxP (m.1 7) (m.1 8) (m.1 9) (m.1 6) (m.1 10)) (hNM0 : ∀ k, (m.2 14) k + (m.2 15) k ≤ 4000) (hFA0 : ∀ k, (m.2 31) k + (m.2 32) k ≤ 4000) (hPA0 : ∀ k, (m.2 47) k + (m.2 48) k ≤ 4000) (hf0 : m.1 10 = 0) (hC : (PN (m.1 13) (m.1 19) (m.1 20) (m.1 21) (m.1 22) (m.1 23) (m.1 25) (m.1 26) (m.2 16) (m.2 17)) ∧ (XS (m.2 65) (m.2 67) (m.2 76) (m.2 78) (m.2 79) (m.2 80) B (m.1 28) (m.1 73) (m.1 74) 0) ∧ (1 ≤ (m.1 73)) ∧ ((m.1 75) = 0)) : TC w D 247 [.ref 189] (mhp m c, N) (Q_wantUnit m c N B) := by
  obtain ⟨D, rfl⟩ : ∃ k, D = k + 1 := ⟨D - 1, by omega⟩
  have hLx := hLx0
  have hNM := hNM0
  have hFA := hFA0
  have hPA := hPA0
  have f7 : 0 ≤ m.1 7 ∧ m.1 7 ≤ 330 := hT.1 7
  have f8 : 0 ≤ m.1 8 ∧ m.1 8 ≤ 4000 := hT.1 8
  have f9 : 0 ≤ m.1 9 ∧ m.1 9 ≤ 4000 := hT.1 9
  have f10 : 0 ≤ m.1 10 ∧ m.1 10 ≤ 8 := hT.1 10
  have f11 : (-1) ≤ m.1 11 ∧ m.1 11 ≤ 4000 := hT.1 11
  have f12 : (-9223372036854775808) ≤ m.1 12 ∧ m.1 12 ≤ 9223372036854775807 := hT.1 12
  have f28 : 0 ≤ m.1 28 ∧ m.1 28 ≤ 800 := hT.1 28
  have f69 : 0 ≤ m.1 69 ∧ m.1 69 ≤ 1024 := hT.1 69
  have f70 : 0 ≤ m.1 70 ∧ m.1 70 ≤ 4000 := hT.1 70
  have f71 : 0 ≤ m.1 71 ∧ m.1 71 ≤ 1 := hT.1 71
  have f72 : (-9223372036854775808) ≤ m.1 72 ∧ m.1 72 ≤ 9223372036854775807 := hT.1 72
  have f73 : 0 ≤ m.1 73 ∧ m.1 73 ≤ 60 := hT.1 73
  have f74 : 0 ≤ m.1 74 ∧ m.1 74 ≤ 24 := hT.1 74
  have f75 : 0 ≤ m.1 75 ∧ m.1 75 ≤ 3 := hT.1 75
  have f25 : 0 ≤ m.1 25 ∧ m.1 25 ≤ 16 := hT.1 25
  have f22 : 0 ≤ m.1 22 ∧ m.1 22 ≤ 8 := hT.1 22
  have f19 : 0 ≤ m.1 19 ∧ m.1 19 ≤ 12 := hT.1 19
  have f20 : 0 ≤ m.1 20 ∧ m.1 20 ≤ 12 := hT.1 20
  have f21 : 0 ≤ m.1 21 ∧ m.1 21 ≤ 16 := hT.1 21
  have f13 : 0 ≤ m.1 13 ∧ m.1 13 ≤ 120 := hT.1 13
  have f6 : 0 ≤ m.1 6 ∧ m.1 6 ≤ 4000 := hT.1 6
  have f23 : 0 ≤ m.1 23 ∧ m.1 23 ≤ 16 := hT.1 23
  have f26 : 0 ≤ m.1 26 ∧ m.1 26 ≤ 8 := hT.1 26
  refine Tc_of rfl ?_
  show TT w D pm_247 (0, [(0, .ref 189)], [], (mhp m c, N), 0, 0) (Q_wantUnit m c N B)
  rw [show (mhp m c, N) = (mhp (mO m [(7, (m.1 7)), (8, (m.1 8)), (9, (m.1 9)), (10, (m.1 10)), (11, (m.1 11)), (12, (m.1 12)), (28, (m.1 28)), (69, (m.1 69)), (70, (m.1 70)), (71, (m.1 71)), (72, (m.1 72)), (73, (m.1 73)), (74, (m.1 74)), (75, (m.1 75))] [(65, (m.2 65)), (66, (m.2 66)), (67, (m.2 67)), (68, (m.2 68)), (76, (m.2 76)), (77, (m.2 77)), (78, (m.2 78)), (79, (m.2 79)), (80, (m.2 80))]) c, N) from congrArg (fun M => (mhp M c, N)) (mO_pad m [7, 8, 9, 10, 11, 12, 28, 69, 70, 71, 72, 73, 74, 75] [65, 66, 67, 68, 76, 77, 78, 79, 80])]
  obtain ⟨pPN, hXS, c1, c2⟩ := hC
  have h7 := hLx (by omega)
  have hb := OS_hi hXS.1.2
  have hEX := hXS.1.1
  have hl0 : 0 ≤ lh (m.2 79) (m.2 80) (m.1 73) := lh_0 (hT.2.1 79) _ _
  have hAgC := agr_r (m.2 65) (m.1 28)
  have J212_117 : ∀ (y103 : Int) (y104 : Int) (y105 : Int) (y106 : Int) (y107 : Int) (y108 : Int) (y109 : Int) (y110 : Int) (y111 : Int) (F112 : Int → Int) (F113 : Int → Int) (F114 : Int → Int) (F115 : Int → Int) (F116 : Int → Int), (0 ≤ y103 ∧ y103 ≤ 330) → (0 ≤ y104 ∧ y104 ≤ 4000) → (0 ≤ y105 ∧ y105 ≤ 4000) → (0 ≤ y106 ∧ y106 ≤ 8) → ((-1) ≤ y107 ∧ y107 ≤ 4000) → ((-9223372036854775808) ≤ y108 ∧ y108 ≤ 9223372036854775807) → (0 ≤ y109 ∧ y109 ≤ 60) → (0 ≤ y110 ∧ y110 ≤ 24) → (0 ≤ y111 ∧ y111 ≤ 3) → (∀ j, 0 ≤ F112 j ∧ F112 j ≤ 2) → (∀ j, 0 ≤ F113 j ∧ F113 j ≤ 4000) → (∀ j, 0 ≤ F114 j ∧ F114 j ≤ 330) → (∀ j, 0 ≤ F115 j ∧ F115 j ≤ 2) → (∀ j, (-1) ≤ F116 j ∧ F116 j ≤ 330) → (1 ≤ y106) → (y106 ≤ 8) → (0 ≤ (m.1 8) ∧ (m.1 8) ≤ 4000) → TT w D pm_247 (212, [(0, .ref 189), (1, .int (i32 (m.1 8)))], [], (mhp (mO m [(7, y103), (8, y104), (9, y105), (10, y106), (11, y107), (12, y108), (28, (m.1 28)), (69, (m.1 69)), (70, (m.1 70)), (71, (m.1 71)), (72, (m.1 72)), (73, y109), (74, y110), (75, y111)] [(65, (m.2 65)), (66, (m.2 66)), (67, (m.2 67)), (68, (m.2 68)), (76, F112), (77, F113), (78, F114), (79, F115), (80, F116)]) c, N), 0, 0) (Q_wantUnit m c N B) := by
    intro y103 y104 y105 y106 y107 y108 y109 y110 y111 F112 F113 F114 F115 F116 q118 q119 q120 q121 q122 q123 q124 q125 q126 q127 q128 q129 q130 q131 ic132 ic133 ic134
    refine T_goto 219 rfl (fun _ => rfl) ?_
    refine T_ret rfl (fun _ => rfl) ?_
    exact ⟨y103, y104, y105, y106, y107, y108, (m.1 28), (m.1 69), (m.1 70), (m.1 71), (m.1 72), y109, y110, y111, (m.2 65), (m.2 66), (m.2 67), (m.2 68), F112, F113, F114, F115, F116, q118, q119, q120, q121, q122, q123, f28, f69, f70, f71, f72, q124, q125, q126, (hT.2.1 65), (hT.2.1 66), (hT.2.1 67), (hT.2.1 68), q127, q128, q129, q130, q131, (by omega), (by first | (first | exact hLx | (intro h9; exfalso; omega)) | (exfalso; omega)), (fun h => absurd h (by omega)), rfl⟩
  have J179_148 : ∀ (v136 : Int) (y137 : Int) (y138 : Int) (y139 : Int) (y140 : Int) (y141 : Int) (y142 : Int) (y143 : Int) (F144 : Int → Int) (F145 : Int → Int) (F146 : Int → Int) (F147 : Int → Int), (R32 v136) → (0 ≤ y137 ∧ y137 ≤ 330) → (0 ≤ y138 ∧ y138 ≤ 4000) → (0 ≤ y139 ∧ y139 ≤ 4000) → (0 ≤ y140 ∧ y140 ≤ 8) → ((-1) ≤ y141 ∧ y141 ≤ 4000) → ((-9223372036854775808) ≤ y142 ∧ y142 ≤ 9223372036854775807) → (0 ≤ y143 ∧ y143 ≤ 800) → (∀ j, 0 ≤ F144 j ∧ F144 j ≤ 408) → (∀ j, 0 ≤ F145 j ∧ F145 j ≤ 64) → (∀ j, 0 ≤ F146 j ∧ F146 j ≤ 191) → (∀ j, (-9223372036854775808) ≤ F147 j ∧ F147 j ≤ 9223372036854775807) → (1 ≤ y140) → (y140 ≤ 8) → (0 ≤ (m.1 8) ∧ (m.1 8) ≤ 4000) → TT w D pm_247 (179, [(0, .ref 189), (1, .int (i32 (m.1 8))), (2, .int (i32 v136))], [], (mhp (mO m [(7, y137), (8, y138), (9, y139), (10, y140), (11, y141), (12, y142), (28, y143), (69, (m.1 69)), (70, (m.1 70)), (71, (m.1 71)), (72, (m.1 72)), (73, (m.1 73)), (74, (m.1 74)), (75, (m.1 75))] [(65, F144), (66, F145), (67, F146), (68, F147), (76, (m.2 76)), (77, (m.2 77)), (78, (m.2 78)), (79, (m.2 79)), (80, (m.2 80))]) c, N), 0, 0) (Q_wantUnit m c N B) := by
    intro v136 y137 y138 y139 y140 y141 y142 y143 F144 F145 F146 F147 q149 q150 q151 q152 q153 q154 q155 q156 q157 q158 q159 q160 ic161 ic162 ic163
    obtain ⟨q149a, q149b⟩ := id q149
    refine T_ld 180 (.ref 189) rfl (fun _ => rfl) ?_
    refine T_ld 181 (.int (i32 1)) rfl (fun _ => rfl) ?_
    refine T_ld 182 (.int (i32 (m.1 8))) rfl (fun _ => rfl) ?_
    refine T_call 185 249 [.ref 189, .int (i32 1), .int (i32 (m.1 8))] [] rfl (fun _ => rfl) rfl (c_atom w (mO m [(7, y137), (8, y138), (9, y139), (10, y140), (11, y141), (12, y142), (28, y143), (69, (m.1 69)), (70, (m.1 70)), (71, (m.1 71)), (72, (m.1 72)), (73, (m.1 73)), (74, (m.1 74)), (75, (m.1 75))] [(65, F144), (66, F145), (67, F146), (68, F147), (76, (m.2 76)), (77, (m.2 77)), (78, (m.2 78)), (79, (m.2 79)), (80, (m.2 80))]) c N D (by omega) (Ty_mO hT rfl rfl ⟨q150, q151, q152, q153, q154, q155, q156, f69, f70, f71, f72, f73, f74, f75, trivial⟩ ⟨q157, q158, q159, q160, (hT.2.1 76), (hT.2.1 77), (hT.2.1 78), (hT.2.1 79), (hT.2.1 80), trivial⟩) 1 (m.1 8) ⟨by decide, by decide⟩ (r32 (by omega) (by omega)) (show 0 ≤ (1 : Int) ∧ (1 : Int) ≤ 64 by omega) (show 0 ≤ (m.1 8) ∧ (m.1 8) ≤ 4000 by omega)) (fun rr165 k166 => ?_)
    obtain ⟨y167, y169, y171, y173, y175, g168, g170, g172, g174, g176, h177, rfl⟩ := k166
    refine ⟨_, _, rfl, ?_⟩
    refine T_nf (st' := []) (l' := [(7, y137), (8, y138), (9, y139), (10, y140), (11, y141), (12, y142), (28, y143), (69, y167), (70, y169), (71, y171), (72, y173), (73, (m.1 73)), (74, (m.1 74)), (75, y175)]) (a' := [(65, F144), (66, F145), (67, F146), (68, F147), (76, (m.2 76)), (77, (m.2 77)), (78, (m.2 78)), (79, (m.2 79)), (80, (m.2 80))]) rfl rfl rfl rfl rfl ?_
    replace h177 : y140 = 0 → y175 = 1 ∧ y167 = (1 : Int) := h177
    refine T_goto 219 rfl (fun _ => rfl) ?_
    refine T_ret rfl (fun _ => rfl) ?_
    exact ⟨y137, y138, y139, y140, y141, y142, y143, y167, y169, y171, y173, (m.1 73), (m.1 74), y175, F144, F145, F146, F147, (m.2 76), (m.2 77), (m.2 78), (m.2 79), (m.2 80), q150, q151, q152, q153, q154, q155, q156, g168, g170, g172, g174, f73, f74, g176, q157, q158, q159, q160, (hT.2.1 76), (hT.2.1 77), (hT.2.1 78), (hT.2.1 79), (hT.2.1 80), (by omega), (by first | (first | exact hLx | (intro h9; exfalso; omega)) | (exfalso; omega)), (fun h => absurd h (by omega)), rfl⟩
  have J168_185 : ∀ (s178 : Int) (y179 : Int) (y180 : Int) (y181 : Int) (y182 : Int) (y183 : Int) (y184 : Int), (R32 s178) → (0 ≤ y179 ∧ y179 ≤ 330) → (0 ≤ y180 ∧ y180 ≤ 4000) → (0 ≤ y181 ∧ y181 ≤ 4000) → (0 ≤ y182 ∧ y182 ≤ 8) → ((-1) ≤ y183 ∧ y183 ≤ 4000) → ((-9223372036854775808) ≤ y184 ∧ y184 ≤ 9223372036854775807) → (1 ≤ y182) → (y182 ≤ 8) → (0 ≤ (m.1 8) ∧ (m.1 8) ≤ 4000) → TT w D pm_247 (168, [(0, .ref 189), (1, .int (i32 (m.1 8)))], [.int (i32 s178)], (mhp (mO m [(7, y179), (8, y180), (9, y181), (10, y182), (11, y183), (12, y184), (28, (m.1 28)), (69, (m.1 69)), (70, (m.1 70)), (71, (m.1 71)), (72, (m.1 72)), (73, (m.1 73)), (74, (m.1 74)), (75, (m.1 75))] [(65, (m.2 65)), (66, (m.2 66)), (67, (m.2 67)), (68, (m.2 68)), (76, (m.2 76)), (77, (m.2 77)), (78, (m.2 78)), (79, (m.2 79)), (80, (m.2 80))]) c, N), 0, 0) (Q_wantUnit m c N B) := by
    intro s178 y179 y180 y181 y182 y183 y184 q186 q187 q188 q189 q190 q191 q192 ic193 ic194 ic195
    obtain ⟨q186a, q186b⟩ := id q186
    refine T_sto 169 [(2, .int (i32 s178)), (0, .ref 189), (1, .int (i32 (m.1 8)))] rfl (fun _ => rfl) ?_
    refine T_ld 170 (.ref 189) rfl (fun _ => rfl) ?_
    refine T_ld 173 (.int (i32 404)) rfl (fun _ => rfl) ?_
    refine T_ld 174 (.int (i32 1)) rfl (fun _ => rfl) ?_
    refine T_ld 175 (.int (i32 s178)) rfl (fun _ => rfl) ?_
    refine T_ld 176 (.long (i64 0)) rfl (fun _ => rfl) ?_
    refine T_call 179 248 [.ref 189, .int (i32 404), .int (i32 1), .int (i32 s178), .long (i64 0)] [] rfl (fun _ => rfl) rfl (c_node w (mO m [(7, y179), (8, y180), (9, y181), (10, y182), (11, y183), (12, y184), (28, (m.1 28)), (69, (m.1 69)), (70, (m.1 70)), (71, (m.1 71)), (72, (m.1 72)), (73, (m.1 73)), (74, (m.1 74)), (75, (m.1 75))] [(65, (m.2 65)), (66, (m.2 66)), (67, (m.2 67)), (68, (m.2 68)), (76, (m.2 76)), (77, (m.2 77)), (78, (m.2 78)), (79, (m.2 79)), (80, (m.2 80))]) c N D (by omega) (Ty_mO hT rfl rfl ⟨q187, q188, q189, q190, q191, q192, f28, f69, f70, f71, f72, f73, f74, f75, trivial⟩ ⟨(hT.2.1 65), (hT.2.1 66), (hT.2.1 67), (hT.2.1 68), (hT.2.1 76), (hT.2.1 77), (hT.2.1 78), (hT.2.1 79), (hT.2.1 80), trivial⟩) 404 1 s178 0 B (0 + lh (m.2 79) (m.2 80) (m.1 73)) ⟨by decide, by decide⟩ ⟨by decide, by decide⟩ (r32 (by omega) (by omega)) ⟨by decide, by decide⟩ (fun (h : y182 = 0) => absurd h (by omega))) (fun rr197 k198 => ?_)
    obtain ⟨y199, y201, y203, F205, F207, F209, F211, g200, g202, g204, G206, G208, G210, G212, h213, c214, rfl⟩ := k198
    refine ⟨_, _, rfl, ?_⟩
    refine T_nf (st' := []) (l' := [(7, y179), (8, y180), (9, y181), (10, y199), (11, y201), (12, y184), (28, y203), (69, (m.1 69)), (70, (m.1 70)), (71, (m.1 71)), (72, (m.1 72)), (73, (m.1 73)), (74, (m.1 74)), (75, (m.1 75))]) (a' := [(65, F205), (66, F207), (67, F209), (68, F211), (76, (m.2 76)), (77, (m.2 77)), (78, (m.2 78)), (79, (m.2 79)), (80, (m.2 80))]) rfl rfl rfl rfl rfl ?_
    replace h213 : y199 = 0 → y182 = 0 := h213
    have hf215 : 1 ≤ y199 := by omega
    clear c214
    clear h213
    clear q190 q191 ic193 ic194
    refine Tm_lv (a := [(0, .ref 189), (1, .int (i32 (m.1 8))), (2, .int (i32 s178))]) rfl rfl ⟨rfl, rfl, rfl, trivial⟩ ?_
    exact J179_148 s178 y179 y180 y181 y199 y201 y184 y203 F205 F207 F209 F211 (r32 (by omega) (by omega)) q187 q188 q189 g200 g202 q192 g204 G206 G208 G210 G212 (by omega) (by omega) (by omega)
  have J113_227 : ∀ (y216 : Int) (y217 : Int) (y218 : Int) (y219 : Int) (y220 : Int) (y221 : Int) (y222 : Int) (F223 : Int → Int) (F224 : Int → Int) (F225 : Int → Int) (F226 : Int → Int), (0 ≤ y216 ∧ y216 ≤ 330) → (0 ≤ y217 ∧ y217 ≤ 4000) → (0 ≤ y218 ∧ y218 ≤ 4000) → (0 ≤ y219 ∧ y219 ≤ 8) → ((-1) ≤ y220 ∧ y220 ≤ 4000) → ((-9223372036854775808) ≤ y221 ∧ y221 ≤ 9223372036854775807) → (0 ≤ y222 ∧ y222 ≤ 800) → (∀ j, 0 ≤ F223 j ∧ F223 j ≤ 408) → (∀ j, 0 ≤ F224 j ∧ F224 j ≤ 64) → (∀ j, 0 ≤ F225 j ∧ F225 j ≤ 191) → (∀ j, (-9223372036854775808) ≤ F226 j ∧ F226 j ≤ 9223372036854775807) → (1 ≤ y219) → (y219 ≤ 8) → (0 ≤ (m.1 8) ∧ (m.1 8) ≤ 4000) → TT w D pm_247 (113, [(0, .ref 189), (1, .int (i32 (m.1 8))), (2, .long (i64 (m.1 12)))], [], (mhp (mO m [(7, y216), (8, y217), (9, y218), (10, y219), (11, y220), (12, y221), (28, y222), (69, (m.1 69)), (70, (m.1 70)), (71, (m.1 71)), (72, (m.1 72)), (73, (m.1 73)), (74, (m.1 74)), (75, (m.1 75))] [(65, F223), (66, F224), (67, F225), (68, F226), (76, (m.2 76)), (77, (m.2 77)), (78, (m.2 78)), (79, (m.2 79)), (80, (m.2 80))]) c, N), 0, 0) (Q_wantUnit m c N B) := by
    intro y216 y217 y218 y219 y220 y221 y222 F223 F224 F225 F226 q228 q229 q230 q231 q232 q233 q234 q235 q236 q237 q238 ic239 ic240 ic241
    refine T_ld 114 (.ref 189) rfl (fun _ => rfl) ?_
    refine T_ld 116 (.int (i32 64)) rfl (fun _ => rfl) ?_
    refine T_ld 117 (.int (i32 (m.1 8))) rfl (fun _ => rfl) ?_
    refine T_call 120 249 [.ref 189, .int (i32 64), .int (i32 (m.1 8))] [] rfl (fun _ => rfl) rfl (c_atom w (mO m [(7, y216), (8, y217), (9, y218), (10, y219), (11, y220), (12, y221), (28, y222), (69, (m.1 69)), (70, (m.1 70)), (71, (m.1 71)), (72, (m.1 72)), (73, (m.1 73)), (74, (m.1 74)), (75, (m.1 75))] [(65, F223), (66, F224), (67, F225), (68, F226), (76, (m.2 76)), (77, (m.2 77)), (78, (m.2 78)), (79, (m.2 79)), (80, (m.2 80))]) c N D (by omega) (Ty_mO hT rfl rfl ⟨q228, q229, q230, q231, q232, q233, q234, f69, f70, f71, f72, f73, f74, f75, trivial⟩ ⟨q235, q236, q237, q238, (hT.2.1 76), (hT.2.1 77), (hT.2.1 78), (hT.2.1 79), (hT.2.1 80), trivial⟩) 64 (m.1 8) ⟨by decide, by decide⟩ (r32 (by omega) (by omega)) (show 0 ≤ (64 : Int) ∧ (64 : Int) ≤ 64 by omega) (show 0 ≤ (m.1 8) ∧ (m.1 8) ≤ 4000 by omega)) (fun rr243 k244 => ?_)
    obtain ⟨y245, y247, y249, y251, y253, g246, g248, g250, g252, g254, h255, rfl⟩ := k244
    refine ⟨_, _, rfl, ?_⟩
    refine T_nf (st' := []) (l' := [(7, y216), (8, y217), (9, y218), (10, y219), (11, y220), (12, y221), (28, y222), (69, y245), (70, y247), (71, y249), (72, y251), (73, (m.1 73)), (74, (m.1 74)), (75, y253)]) (a' := [(65, F223), (66, F224), (67, F225), (68, F226), (76, (m.2 76)), (77, (m.2 77)), (78, (m.2 78)), (79, (m.2 79)), (80, (m.2 80))]) rfl rfl rfl rfl rfl ?_
    replace h255 : y219 = 0 → y253 = 1 ∧ y245 = (64 : Int) := h255
    refine T_ld 121 (.ref 189) rfl (fun _ => rfl) ?_
    refine T_ld 122 (.int (i32 1)) rfl (fun _ => rfl) ?_
    refine T_pf (l' := [(7, y216), (8, y217), (9, y218), (10, y219), (11, y220), (12, y221), (28, y222), (69, y245), (70, y247), (71, 1), (72, y251), (73, (m.1 73)), (74, (m.1 74)), (75, y253)]) 125 1 rfl rfl rfl rfl rfl rfl ?_
    refine T_ld 126 (.ref 189) rfl (fun _ => rfl) ?_
    refine T_ld 127 (.long (i64 (m.1 12))) rfl (fun _ => rfl) ?_
    refine T_pf (l' := [(7, y216), (8, y217), (9, y218), (10, y219), (11, y220), (12, y221), (28, y222), (69, y245), (70, y247), (71, 1), (72, (m.1 12)), (73, (m.1 73)), (74, (m.1 74)), (75, y253)]) 130 (m.1 12) rfl rfl rfl rfl rfl rfl ?_
    have g256 : (-9223372036854775808) ≤ (m.1 12) ∧ (m.1 12) ≤ 9223372036854775807 := ⟨by omega, by omega⟩
    refine T_goto 219 rfl (fun _ => rfl) ?_
    refine T_ret rfl (fun _ => rfl) ?_
    exact ⟨y216, y217, y218, y219, y220, y221, y222, y245, y247, 1, (m.1 12), (m.1 73), (m.1 74), y253, F223, F224, F225, F226, (m.2 76), (m.2 77), (m.2 78), (m.2 79), (m.2 80), q228, q229, q230, q231, q232, q233, q234, g246, g248, ⟨by omega, by omega⟩, g256, f73, f74, g254, q235, q236, q237, q238, (hT.2.1 76), (hT.2.1 77), (hT.2.1 78), (hT.2.1 79), (hT.2.1 80), (by omega), (by first | (first | exact hLx | (intro h9; exfalso; omega)) | (exfalso; omega)), (fun h => absurd h (by omega)), rfl⟩
  have J82_269 : ∀ (y257 : Int) (y258 : Int) (y259 : Int) (y260 : Int) (y261 : Int) (y262 : Int) (y263 : Int) (F264 : Int → Int) (F265 : Int → Int) (F266 : Int → Int) (F267 : Int → Int) (F268 : Int → Int), (0 ≤ y257 ∧ y257 ≤ 330) → (0 ≤ y258 ∧ y258 ≤ 4000) → (0 ≤ y259 ∧ y259 ≤ 4000) → (0 ≤ y260 ∧ y260 ≤ 8) → ((-1) ≤ y261 ∧ y261 ≤ 4000) → ((-9223372036854775808) ≤ y262 ∧ y262 ≤ 9223372036854775807) → (0 ≤ y263 ∧ y263 ≤ 60) → (∀ j, 0 ≤ F264 j ∧ F264 j ≤ 2) → (∀ j, 0 ≤ F265 j ∧ F265 j ≤ 4000) → (∀ j, 0 ≤ F266 j ∧ F266 j ≤ 330) → (∀ j, 0 ≤ F267 j ∧ F267 j ≤ 2) → (∀ j, (-1) ≤ F268 j ∧ F268 j ≤ 330) → (1 ≤ y260) → (y260 ≤ 8) → (0 ≤ ((m.1 74) + 1) ∧ ((m.1 74) + 1) ≤ 24) → (0 ≤ (m.1 8) ∧ (m.1 8) ≤ 4000) → TT w D pm_247 (82, [(0, .ref 189), (1, .int (i32 (m.1 8)))], [], (mhp (mO m [(7, y257), (8, y258), (9, y259), (10, y260), (11, y261), (12, y262), (28, (m.1 28)), (69, (m.1 69)), (70, (m.1 70)), (71, (m.1 71)), (72, (m.1 72)), (73, y263), (74, (m.1 74) + 1), (75, (m.1 75))] [(65, (m.2 65)), (66, (m.2 66)), (67, (m.2 67)), (68, (m.2 68)), (76, F264), (77, F265), (78, F266), (79, F267), (80, F268)]) c, N), 0, 0) (Q_wantUnit m c N B) := by
    intro y257 y258 y259 y260 y261 y262 y263 F264 F265 F266 F267 F268 q270 q271 q272 q273 q274 q275 q276 q277 q278 q279 q280 q281 ic282 ic283 ic284 ic285
    refine T_goto 219 rfl (fun _ => rfl) ?_
    refine T_ret rfl (fun _ => rfl) ?_
    exact ⟨y257, y258, y259, y260, y261, y262, (m.1 28), (m.1 69), (m.1 70), (m.1 71), (m.1 72), y263, (m.1 74) + 1, (m.1 75), (m.2 65), (m.2 66), (m.2 67), (m.2 68), F264, F265, F266, F267, F268, q270, q271, q272, q273, q274, q275, f28, f69, f70, f71, f72, q276, ⟨by omega, by omega⟩, f75, (hT.2.1 65), (hT.2.1 66), (hT.2.1 67), (hT.2.1 68), q277, q278, q279, q280, q281, (by omega), (by first | (first | exact hLx | (intro h9; exfalso; omega)) | (exfalso; omega)), (fun h => absurd h (by omega)), rfl⟩
  have J50_289 : ∀ (y287 : Int) (y288 : Int), (0 ≤ y287 ∧ y287 ≤ 8) → ((-1) ≤ y288 ∧ y288 ≤ 4000) → (1 ≤ y287) → (y287 ≤ 8) → (0 ≤ (m.1 8) ∧ (m.1 8) ≤ 4000) → TT w D pm_247 (50, [(0, .ref 189), (1, .int (i32 (m.1 8)))], [], (mhp (mO m [(7, (m.1 7)), (8, (m.1 8)), (9, (m.1 9)), (10, y287), (11, y288), (12, (m.1 12)), (28, (m.1 28)), (69, (m.1 69)), (70, (m.1 70)), (71, (m.1 71)), (72, (m.1 72)), (73, (m.1 73)), (74, (m.1 74)), (75, (m.1 75))] [(65, (m.2 65)), (66, (m.2 66)), (67, (m.2 67)), (68, (m.2 68)), (76, (m.2 76)), (77, (m.2 77)), (78, (m.2 78)), (79, (m.2 79)), (80, (m.2 80))]) c, N), 0, 0) (Q_wantUnit m c N B) := by
    intro y287 y288 q290 q291 ic292 ic293 ic294
    refine T_gf 54 (.int (i32 y287)) rfl rfl rfl rfl rfl rfl ?_
    refine T_if 58 57 rfl rfl rfl (r32 (by omega) (by omega)) (fun (h296 : y287 ≤ 0) => by exfalso; omega) (fun (h296 : ¬ (y287 ≤ 0)) => ?_)
    refine T_ret rfl (fun _ => rfl) ?_
    exact ⟨(m.1 7), (m.1 8), (m.1 9), y287, y288, (m.1 12), (m.1 28), (m.1 69), (m.1 70), (m.1 71), (m.1 72), (m.1 73), (m.1 74), (m.1 75), (m.2 65), (m.2 66), (m.2 67), (m.2 68), (m.2 76), (m.2 77), (m.2 78), (m.2 79), (m.2 80), f7, f8, f9, q290, q291, f12, f28, f69, f70, f71, f72, f73, f74, f75, (hT.2.1 65), (hT.2.1 66), (hT.2.1 67), (hT.2.1 68), (hT.2.1 76), (hT.2.1 77), (hT.2.1 78), (hT.2.1 79), (hT.2.1 80), (by omega), (by first | (first | exact hLx | (intro h9; exfalso; omega)) | (exfalso; omega)), (fun h => absurd h (by omega)), rfl⟩
  refine T_gf 4 (.int (i32 (m.1 8))) rfl rfl rfl rfl rfl rfl ?_
  refine T_sto 5 [(1, .int (i32 (m.1 8))), (0, .ref 189)] rfl (fun _ => rfl) ?_
  refine T_gf 9 (.int (i32 (m.1 7))) rfl rfl rfl rfl rfl rfl ?_
  refine T_ld 11 (.int (i32 126)) rfl (fun _ => rfl) ?_
  refine T_icmp 32 14 rfl rfl rfl (r32 (by omega) (by omega)) ⟨by decide, by decide⟩ (fun (h297 : (m.1 7) = 126) => ?_) (fun (h297 : ¬ ((m.1 7) = 126)) => ?_)
  · skip
    refine T_gf 36 (.int (i32 (m.1 74))) rfl rfl rfl rfl rfl rfl ?_
    refine T_ld 38 (.int (i32 24)) rfl (fun _ => rfl) ?_
    refine T_icmp 50 41 rfl rfl rfl (r32 (by omega) (by omega)) ⟨by decide, by decide⟩ (fun (h298 : (m.1 74) ≠ 24) => ?_) (fun (h298 : ¬ ((m.1 74) ≠ 24)) => ?_)
    · skip
      refine T_gf 54 (.int (i32 (m.1 10))) rfl rfl rfl rfl rfl rfl ?_
      refine T_if 58 57 rfl rfl rfl (r32 (by omega) (by omega)) (fun (h299 : (m.1 10) ≤ 0) => ?_) (fun (h299 : ¬ ((m.1 10) ≤ 0)) => by exfalso; omega)
      refine T_ld 59 (.ref 189) rfl (fun _ => rfl) ?_
      refine T_ld 60 (.ref 189) rfl (fun _ => rfl) ?_
      refine T_gf1 63 (.int (i32 (m.1 74))) rfl rfl rfl rfl ?_
      refine T_ld 64 (.int (i32 1)) rfl (fun _ => rfl) ?_
      refine T_iadd 65 rfl rfl ?_
      refine T_pf (l' := [(7, (m.1 7)), (8, (m.1 8)), (9, (m.1 9)), (10, (m.1 10)), (11, (m.1 11)), (12, (m.1 12)), (28, (m.1 28)), (69, (m.1 69)), (70, (m.1 70)), (71, (m.1 71)), (72, (m.1 72)), (73, (m.1 73)), (74, (m.1 74) + 1), (75, (m.1 75))]) 68 ((m.1 74) + 1) rfl rfl rfl rfl rfl rfl ?_
      have g300 : 0 ≤ (m.1 74) + 1 ∧ (m.1 74) + 1 ≤ 24 := ⟨by omega, by omega⟩
      refine T_ld 69 (.ref 189) rfl (fun _ => rfl) ?_
      refine T_ld 70 (.int (i32 1)) rfl (fun _ => rfl) ?_
      refine T_ld 71 (.int (i32 (m.1 8))) rfl (fun _ => rfl) ?_
      refine T_gf 75 (.int (i32 (m.1 7))) rfl rfl rfl rfl rfl rfl ?_
      refine T_call 78 246 [.ref 189, .int (i32 1), .int (i32 (m.1 8)), .int (i32 (m.1 7))] [] rfl (fun _ => rfl) rfl (c_open w (mO m [(7, (m.1 7)), (8, (m.1 8)), (9, (m.1 9)), (10, (m.1 10)), (11, (m.1 11)), (12, (m.1 12)), (28, (m.1 28)), (69, (m.1 69)), (70, (m.1 70)), (71, (m.1 71)), (72, (m.1 72)), (73, (m.1 73)), (74, (m.1 74) + 1), (75, (m.1 75))] [(65, (m.2 65)), (66, (m.2 66)), (67, (m.2 67)), (68, (m.2 68)), (76, (m.2 76)), (77, (m.2 77)), (78, (m.2 78)), (79, (m.2 79)), (80, (m.2 80))]) c N D (by omega) (Ty_mO hT rfl rfl ⟨f7, f8, f9, f10, f11, f12, f28, f69, f70, f71, f72, f73, g300, f75, trivial⟩ ⟨(hT.2.1 65), (hT.2.1 66), (hT.2.1 67), (hT.2.1 68), (hT.2.1 76), (hT.2.1 77), (hT.2.1 78), (hT.2.1 79), (hT.2.1 80), trivial⟩) 1 (m.1 8) (m.1 7) ⟨by decide, by decide⟩ (r32 (by omega) (by omega)) (r32 (by omega) (by omega)) (show (m.1 73) ≤ 59 by omega) (show 0 ≤ (1 : Int) ∧ (1 : Int) ≤ 2 by omega) (show 0 ≤ (m.1 8) ∧ (m.1 8) ≤ 4000 by omega) (show 0 ≤ (m.1 7) ∧ (m.1 7) ≤ 330 by omega)) (fun rr301 k302 => ?_)
      obtain ⟨y303, F305, F307, F309, F311, F313, g304, G306, G308, G310, G312, G314, h315, h316, h317, h318, h319, h320, rfl⟩ := k302
      refine ⟨_, _, rfl, ?_⟩
      refine T_nf (st' := []) (l' := [(7, (m.1 7)), (8, (m.1 8)), (9, (m.1 9)), (10, (m.1 10)), (11, (m.1 11)), (12, (m.1 12)), (28, (m.1 28)), (69, (m.1 69)), (70, (m.1 70)), (71, (m.1 71)), (72, (m.1 72)), (73, y303), (74, (m.1 74) + 1), (75, (m.1 75))]) (a' := [(65, (m.2 65)), (66, (m.2 66)), (67, (m.2 67)), (68, (m.2 68)), (76, F305), (77, F307), (78, F309), (79, F311), (80, F313)]) rfl rfl rfl rfl rfl ?_
      replace h315 : y303 = (m.1 73) + 1 := h315
      have hO0 := h315
      replace h316 : F305 = upI (m.2 76) (m.1 73) (1 : Int) := h316
      have hO1 := h316
      replace h317 : F309 = upI (m.2 78) (m.1 73) (m.1 7) := h317
      have hO2 := h317
      replace h318 : F311 = upI (m.2 79) (m.1 73) 0 := h318
      have hO3 := h318
      replace h319 : ∀ j, j < 9 * (m.1 73) → F313 j = (m.2 80) j := h319
      have hW1 := h319
      replace h320 : ∀ j, 9 * (m.1 73) ≤ j → j < 9 * (m.1 73) + 9 → F313 j = -1 := h320
      have hW2 := h320
      have u321 : (m.1 8) ≤ (m.1 8) := by omega
      have hAgC : agr (m.2 65) (m.2 65) (m.1 28) := by first | exact agr_r _ _ | exact hAgC | exact agr_t hAgC hAg (by omega)
      have u322 : 1 ≤ y303 := by omega
      refine T_ld 79 (.ref 189) rfl (fun _ => rfl) ?_
      refine T_call 82 212 [.ref 189] [] rfl (fun _ => rfl) rfl (c_next w (mO m [(7, (m.1 7)), (8, (m.1 8)), (9, (m.1 9)), (10, (m.1 10)), (11, (m.1 11)), (12, (m.1 12)), (28, (m.1 28)), (69, (m.1 69)), (70, (m.1 70)), (71, (m.1 71)), (72, (m.1 72)), (73, y303), (74, (m.1 74) + 1), (75, (m.1 75))] [(65, (m.2 65)), (66, (m.2 66)), (67, (m.2 67)), (68, (m.2 68)), (76, F305), (77, F307), (78, F309), (79, F311), (80, F313)]) c N D (by omega) (Ty_mO hT rfl rfl ⟨f7, f8, f9, f10, f11, f12, f28, f69, f70, f71, f72, g304, g300, f75, trivial⟩ ⟨(hT.2.1 65), (hT.2.1 66), (hT.2.1 67), (hT.2.1 68), G306, G308, G310, G312, G314, trivial⟩) (show (m.1 10) = 0 → (m.1 8) + (m.1 9) ≤ (m.1 6) by first | omega | (intro h9; have h8 := hLx h9; omega))) (fun rr323 k324 => ?_)
      obtain ⟨y325, y327, y329, y331, y333, y335, g326, g328, g330, g332, g334, g336, h337, h338, h339, h340, rfl⟩ := k324
      refine ⟨_, _, rfl, ?_⟩
      refine T_nf (st' := []) (l' := [(7, y325), (8, y327), (9, y329), (10, y331), (11, y333), (12, y335), (28, (m.1 28)), (69, (m.1 69)), (70, (m.1 70)), (71, (m.1 71)), (72, (m.1 72)), (73, y303), (74, (m.1 74) + 1), (75, (m.1 75))]) (a' := [(65, (m.2 65)), (66, (m.2 66)), (67, (m.2 67)), (68, (m.2 68)), (76, F305), (77, F307), (78, F309), (79, F311), (80, F313)]) rfl rfl rfl rfl rfl ?_
      by_cases hf341 : y331 = 0
      · skip
        subst hf341
        replace h337 : LxP y325 y327 y329 (m.1 6) (0 : Int) := h337
        have hLx := h337
        replace h338 : (m.1 10) = 0 := h338 rfl
        replace h339 : (m.1 8) ≤ y327 := h339
        replace h340 : (m.1 8) + (m.1 9) ≤ y327 := h340 rfl
        have u342 : (m.1 8) + 1 ≤ y327 := by omega
        have hAgC : agr (m.2 65) (m.2 65) (m.1 28) := by first | exact agr_r _ _ | exact hAgC | exact agr_t hAgC hAg (by omega)
        have u343 : 1 ≤ y303 := by omega
        clear g332
        have hXE : XS (m.2 65) (m.2 67) F305 F309 F311 F313 B (m.1 28) y303 ((m.1 74) + 1) (um (m.1 75)) := by
          rw [hO0, hO1, hO2, hO3, show um (m.1 75) = 0 from if_pos (by omega)]
          exact XS_pre hXS (by omega) (by omega) hW1 hW2
        refine T_goto 219 rfl (fun _ => rfl) ?_
        refine T_ret rfl (fun _ => rfl) ?_
        exact ⟨y325, y327, y329, 0, y333, y335, (m.1 28), (m.1 69), (m.1 70), (m.1 71), (m.1 72), y303, (m.1 74) + 1, (m.1 75), (m.2 65), (m.2 66), (m.2 67), (m.2 68), F305, F307, F309, F311, F313, g326, g328, g330, ⟨by omega, by omega⟩, g334, g336, f28, f69, f70, f71, f72, g304, g300, f75, (hT.2.1 65), (hT.2.1 66), (hT.2.1 67), (hT.2.1 68), G306, G308, G310, G312, G314, (by omega), (by first | (first | exact hLx | (intro h9; exfalso; omega)) | (exfalso; omega)), (fun _ => ⟨(by omega), (by omega), (by omega), (by omega), (by first | (exact hXE) | (exfalso; omega)), (by first | (exact hAgC) | (exfalso; omega))⟩), rfl⟩
      · skip
        replace h337 : LxP y325 y327 y329 (m.1 6) y331 := h337
        have hLx := h337
        clear h338
        replace h339 : (m.1 8) ≤ y327 := h339
        clear h340
        have hf344 : 1 ≤ y331 := by omega
        refine Tm_lv (a := [(0, .ref 189), (1, .int (i32 (m.1 8)))]) rfl rfl ⟨rfl, rfl, trivial⟩ ?_
        exact J82_269 y325 y327 y329 y331 y333 y335 y303 F305 F307 F309 F311 F313 g326 g328 g330 g332 g334 g336 g304 G306 G308 G310 G312 G314 (by omega) (by omega) (by omega) (by omega)
    · skip
      refine T_ld 42 (.ref 189) rfl (fun _ => rfl) ?_
      refine T_ld 43 (.int (i32 4)) rfl (fun _ => rfl) ?_
      refine T_gf 47 (.int (i32 (m.1 8))) rfl rfl rfl rfl rfl rfl ?_
      refine T_call 50 222 [.ref 189, .int (i32 4), .int (i32 (m.1 8))] [] rfl (fun _ => rfl) rfl (c_wrong w (mO m [(7, (m.1 7)), (8, (m.1 8)), (9, (m.1 9)), (10, (m.1 10)), (11, (m.1 11)), (12, (m.1 12)), (28, (m.1 28)), (69, (m.1 69)), (70, (m.1 70)), (71, (m.1 71)), (72, (m.1 72)), (73, (m.1 73)), (74, (m.1 74)), (75, (m.1 75))] [(65, (m.2 65)), (66, (m.2 66)), (67, (m.2 67)), (68, (m.2 68)), (76, (m.2 76)), (77, (m.2 77)), (78, (m.2 78)), (79, (m.2 79)), (80, (m.2 80))]) c N D (by omega) (Ty_mO hT rfl rfl ⟨f7, f8, f9, f10, f11, f12, f28, f69, f70, f71, f72, f73, f74, f75, trivial⟩ ⟨(hT.2.1 65), (hT.2.1 66), (hT.2.1 67), (hT.2.1 68), (hT.2.1 76), (hT.2.1 77), (hT.2.1 78), (hT.2.1 79), (hT.2.1 80), trivial⟩) 4 (m.1 8) ⟨by decide, by decide⟩ (r32 (by omega) (by omega)) (show 1 ≤ (4 : Int) ∧ (4 : Int) ≤ 8 by omega) (show 0 ≤ (m.1 8) ∧ (m.1 8) ≤ 4000 by omega)) (fun rr345 k346 => ?_)
      obtain ⟨y347, y349, g348, g350, h351, rfl⟩ := k346
      refine ⟨_, _, rfl, ?_⟩
      refine T_nf (st' := []) (l' := [(7, (m.1 7)), (8, (m.1 8)), (9, (m.1 9)), (10, y347), (11, y349), (12, (m.1 12)), (28, (m.1 28)), (69, (m.1 69)), (70, (m.1 70)), (71, (m.1 71)), (72, (m.1 72)), (73, (m.1 73)), (74, (m.1 74)), (75, (m.1 75))]) (a' := [(65, (m.2 65)), (66, (m.2 66)), (67, (m.2 67)), (68, (m.2 68)), (76, (m.2 76)), (77, (m.2 77)), (78, (m.2 78)), (79, (m.2 79)), (80, (m.2 80))]) rfl rfl rfl rfl rfl ?_
      replace h351 : (0 < (m.1 10) → y347 = (m.1 10) ∧ y349 = (m.1 11)) ∧ ((m.1 10) ≤ 0 → y347 = (4 : Int) ∧ y349 = (m.1 8)) := h351
      have hf352 : 1 ≤ y347 := by omega
      refine Tm_lv (a := [(0, .ref 189), (1, .int (i32 (m.1 8)))]) rfl rfl ⟨rfl, rfl, trivial⟩ ?_
      exact J50_289 y347 y349 g348 g350 (by omega) (by omega) (by omega)
  · skip
    refine T_gf 18 (.int (i32 (m.1 7))) rfl rfl rfl rfl rfl rfl ?_
    refine T_ld 20 (.int (i32 33)) rfl (fun _ => rfl) ?_
    refine T_icmp 32 23 rfl rfl rfl (r32 (by omega) (by omega)) ⟨by decide, by decide⟩ (fun (h353 : (m.1 7) = 33) => ?_) (fun (h353 : ¬ ((m.1 7) = 33)) => ?_)
    · skip
      refine T_gf 36 (.int (i32 (m.1 74))) rfl rfl rfl rfl rfl rfl ?_
      refine T_ld 38 (.int (i32 24)) rfl (fun _ => rfl) ?_
      refine T_icmp 50 41 rfl rfl rfl (r32 (by omega) (by omega)) ⟨by decide, by decide⟩ (fun (h354 : (m.1 74) ≠ 24) => ?_) (fun (h354 : ¬ ((m.1 74) ≠ 24)) => ?_)
      · skip
        refine T_gf 54 (.int (i32 (m.1 10))) rfl rfl rfl rfl rfl rfl ?_
        refine T_if 58 57 rfl rfl rfl (r32 (by omega) (by omega)) (fun (h355 : (m.1 10) ≤ 0) => ?_) (fun (h355 : ¬ ((m.1 10) ≤ 0)) => by exfalso; omega)
        refine T_ld 59 (.ref 189) rfl (fun _ => rfl) ?_
        refine T_ld 60 (.ref 189) rfl (fun _ => rfl) ?_
        refine T_gf1 63 (.int (i32 (m.1 74))) rfl rfl rfl rfl ?_
        refine T_ld 64 (.int (i32 1)) rfl (fun _ => rfl) ?_
        refine T_iadd 65 rfl rfl ?_
        refine T_pf (l' := [(7, (m.1 7)), (8, (m.1 8)), (9, (m.1 9)), (10, (m.1 10)), (11, (m.1 11)), (12, (m.1 12)), (28, (m.1 28)), (69, (m.1 69)), (70, (m.1 70)), (71, (m.1 71)), (72, (m.1 72)), (73, (m.1 73)), (74, (m.1 74) + 1), (75, (m.1 75))]) 68 ((m.1 74) + 1) rfl rfl rfl rfl rfl rfl ?_
        have g356 : 0 ≤ (m.1 74) + 1 ∧ (m.1 74) + 1 ≤ 24 := ⟨by omega, by omega⟩
        refine T_ld 69 (.ref 189) rfl (fun _ => rfl) ?_
        refine T_ld 70 (.int (i32 1)) rfl (fun _ => rfl) ?_
        refine T_ld 71 (.int (i32 (m.1 8))) rfl (fun _ => rfl) ?_
        refine T_gf 75 (.int (i32 (m.1 7))) rfl rfl rfl rfl rfl rfl ?_
        refine T_call 78 246 [.ref 189, .int (i32 1), .int (i32 (m.1 8)), .int (i32 (m.1 7))] [] rfl (fun _ => rfl) rfl (c_open w (mO m [(7, (m.1 7)), (8, (m.1 8)), (9, (m.1 9)), (10, (m.1 10)), (11, (m.1 11)), (12, (m.1 12)), (28, (m.1 28)), (69, (m.1 69)), (70, (m.1 70)), (71, (m.1 71)), (72, (m.1 72)), (73, (m.1 73)), (74, (m.1 74) + 1), (75, (m.1 75))] [(65, (m.2 65)), (66, (m.2 66)), (67, (m.2 67)), (68, (m.2 68)), (76, (m.2 76)), (77, (m.2 77)), (78, (m.2 78)), (79, (m.2 79)), (80, (m.2 80))]) c N D (by omega) (Ty_mO hT rfl rfl ⟨f7, f8, f9, f10, f11, f12, f28, f69, f70, f71, f72, f73, g356, f75, trivial⟩ ⟨(hT.2.1 65), (hT.2.1 66), (hT.2.1 67), (hT.2.1 68), (hT.2.1 76), (hT.2.1 77), (hT.2.1 78), (hT.2.1 79), (hT.2.1 80), trivial⟩) 1 (m.1 8) (m.1 7) ⟨by decide, by decide⟩ (r32 (by omega) (by omega)) (r32 (by omega) (by omega)) (show (m.1 73) ≤ 59 by omega) (show 0 ≤ (1 : Int) ∧ (1 : Int) ≤ 2 by omega) (show 0 ≤ (m.1 8) ∧ (m.1 8) ≤ 4000 by omega) (show 0 ≤ (m.1 7) ∧ (m.1 7) ≤ 330 by omega)) (fun rr357 k358 => ?_)
        obtain ⟨y359, F361, F363, F365, F367, F369, g360, G362, G364, G366, G368, G370, h371, h372, h373, h374, h375, h376, rfl⟩ := k358
        refine ⟨_, _, rfl, ?_⟩
        refine T_nf (st' := []) (l' := [(7, (m.1 7)), (8, (m.1 8)), (9, (m.1 9)), (10, (m.1 10)), (11, (m.1 11)), (12, (m.1 12)), (28, (m.1 28)), (69, (m.1 69)), (70, (m.1 70)), (71, (m.1 71)), (72, (m.1 72)), (73, y359), (74, (m.1 74) + 1), (75, (m.1 75))]) (a' := [(65, (m.2 65)), (66, (m.2 66)), (67, (m.2 67)), (68, (m.2 68)), (76, F361), (77, F363), (78, F365), (79, F367), (80, F369)]) rfl rfl rfl rfl rfl ?_
        replace h371 : y359 = (m.1 73) + 1 := h371
        have hO0 := h371
        replace h372 : F361 = upI (m.2 76) (m.1 73) (1 : Int) := h372
        have hO1 := h372
        replace h373 : F365 = upI (m.2 78) (m.1 73) (m.1 7) := h373
        have hO2 := h373
        replace h374 : F367 = upI (m.2 79) (m.1 73) 0 := h374
        have hO3 := h374
        replace h375 : ∀ j, j < 9 * (m.1 73) → F369 j = (m.2 80) j := h375
        have hW1 := h375
        replace h376 : ∀ j, 9 * (m.1 73) ≤ j → j < 9 * (m.1 73) + 9 → F369 j = -1 := h376
        have hW2 := h376
        have u377 : (m.1 8) ≤ (m.1 8) := by omega
        have hAgC : agr (m.2 65) (m.2 65) (m.1 28) := by first | exact agr_r _ _ | exact hAgC | exact agr_t hAgC hAg (by omega)
        have u378 : 1 ≤ y359 := by omega
        refine T_ld 79 (.ref 189) rfl (fun _ => rfl) ?_
        refine T_call 82 212 [.ref 189] [] rfl (fun _ => rfl) rfl (c_next w (mO m [(7, (m.1 7)), (8, (m.1 8)), (9, (m.1 9)), (10, (m.1 10)), (11, (m.1 11)), (12, (m.1 12)), (28, (m.1 28)), (69, (m.1 69)), (70, (m.1 70)), (71, (m.1 71)), (72, (m.1 72)), (73, y359), (74, (m.1 74) + 1), (75, (m.1 75))] [(65, (m.2 65)), (66, (m.2 66)), (67, (m.2 67)), (68, (m.2 68)), (76, F361), (77, F363), (78, F365), (79, F367), (80, F369)]) c N D (by omega) (Ty_mO hT rfl rfl ⟨f7, f8, f9, f10, f11, f12, f28, f69, f70, f71, f72, g360, g356, f75, trivial⟩ ⟨(hT.2.1 65), (hT.2.1 66), (hT.2.1 67), (hT.2.1 68), G362, G364, G366, G368, G370, trivial⟩) (show (m.1 10) = 0 → (m.1 8) + (m.1 9) ≤ (m.1 6) by first | omega | (intro h9; have h8 := hLx h9; omega))) (fun rr379 k380 => ?_)
        obtain ⟨y381, y383, y385, y387, y389, y391, g382, g384, g386, g388, g390, g392, h393, h394, h395, h396, rfl⟩ := k380
        refine ⟨_, _, rfl, ?_⟩
        refine T_nf (st' := []) (l' := [(7, y381), (8, y383), (9, y385), (10, y387), (11, y389), (12, y391), (28, (m.1 28)), (69, (m.1 69)), (70, (m.1 70)), (71, (m.1 71)), (72, (m.1 72)), (73, y359), (74, (m.1 74) + 1), (75, (m.1 75))]) (a' := [(65, (m.2 65)), (66, (m.2 66)), (67, (m.2 67)), (68, (m.2 68)), (76, F361), (77, F363), (78, F365), (79, F367), (80, F369)]) rfl rfl rfl rfl rfl ?_
        by_cases hf397 : y387 = 0
        · skip
          subst hf397
          replace h393 : LxP y381 y383 y385 (m.1 6) (0 : Int) := h393
          have hLx := h393
          replace h394 : (m.1 10) = 0 := h394 rfl
          replace h395 : (m.1 8) ≤ y383 := h395
          replace h396 : (m.1 8) + (m.1 9) ≤ y383 := h396 rfl
          have u398 : (m.1 8) + 1 ≤ y383 := by omega
          have hAgC : agr (m.2 65) (m.2 65) (m.1 28) := by first | exact agr_r _ _ | exact hAgC | exact agr_t hAgC hAg (by omega)
          have u399 : 1 ≤ y359 := by omega
          clear g388
          have hXE : XS (m.2 65) (m.2 67) F361 F365 F367 F369 B (m.1 28) y359 ((m.1 74) + 1) (um (m.1 75)) := by
            rw [hO0, hO1, hO2, hO3, show um (m.1 75) = 0 from if_pos (by omega)]
            exact XS_pre hXS (by omega) (by omega) hW1 hW2
          refine T_goto 219 rfl (fun _ => rfl) ?_
          refine T_ret rfl (fun _ => rfl) ?_
          exact ⟨y381, y383, y385, 0, y389, y391, (m.1 28), (m.1 69), (m.1 70), (m.1 71), (m.1 72), y359, (m.1 74) + 1, (m.1 75), (m.2 65), (m.2 66), (m.2 67), (m.2 68), F361, F363, F365, F367, F369, g382, g384, g386, ⟨by omega, by omega⟩, g390, g392, f28, f69, f70, f71, f72, g360, g356, f75, (hT.2.1 65), (hT.2.1 66), (hT.2.1 67), (hT.2.1 68), G362, G364, G366, G368, G370, (by omega), (by first | (first | exact hLx | (intro h9; exfalso; omega)) | (exfalso; omega)), (fun _ => ⟨(by omega), (by omega), (by omega), (by omega), (by first | (exact hXE) | (exfalso; omega)), (by first | (exact hAgC) | (exfalso; omega))⟩), rfl⟩
        · skip
          replace h393 : LxP y381 y383 y385 (m.1 6) y387 := h393
          have hLx := h393
          clear h394
          replace h395 : (m.1 8) ≤ y383 := h395
          clear h396
          have hf400 : 1 ≤ y387 := by omega
          refine Tm_lv (a := [(0, .ref 189), (1, .int (i32 (m.1 8)))]) rfl rfl ⟨rfl, rfl, trivial⟩ ?_
          exact J82_269 y381 y383 y385 y387 y389 y391 y359 F361 F363 F365 F367 F369 g382 g384 g386 g388 g390 g392 g360 G362 G364 G366 G368 G370 (by omega) (by omega) (by omega) (by omega)
      · skip
        refine T_ld 42 (.ref 189) rfl (fun _ => rfl) ?_
        refine T_ld 43 (.int (i32 4)) rfl (fun _ => rfl) ?_
        refine T_gf 47 (.int (i32 (m.1 8))) rfl rfl rfl rfl rfl rfl ?_
        refine T_call 50 222 [.ref 189, .int (i32 4), .int (i32 (m.1 8))] [] rfl (fun _ => rfl) rfl (c_wrong w (mO m [(7, (m.1 7)), (8, (m.1 8)), (9, (m.1 9)), (10, (m.1 10)), (11, (m.1 11)), (12, (m.1 12)), (28, (m.1 28)), (69, (m.1 69)), (70, (m.1 70)), (71, (m.1 71)), (72, (m.1 72)), (73, (m.1 73)), (74, (m.1 74)), (75, (m.1 75))] [(65, (m.2 65)), (66, (m.2 66)), (67, (m.2 67)), (68, (m.2 68)), (76, (m.2 76)), (77, (m.2 77)), (78, (m.2 78)), (79, (m.2 79)), (80, (m.2 80))]) c N D (by omega) (Ty_mO hT rfl rfl ⟨f7, f8, f9, f10, f11, f12, f28, f69, f70, f71, f72, f73, f74, f75, trivial⟩ ⟨(hT.2.1 65), (hT.2.1 66), (hT.2.1 67), (hT.2.1 68), (hT.2.1 76), (hT.2.1 77), (hT.2.1 78), (hT.2.1 79), (hT.2.1 80), trivial⟩) 4 (m.1 8) ⟨by decide, by decide⟩ (r32 (by omega) (by omega)) (show 1 ≤ (4 : Int) ∧ (4 : Int) ≤ 8 by omega) (show 0 ≤ (m.1 8) ∧ (m.1 8) ≤ 4000 by omega)) (fun rr401 k402 => ?_)
        obtain ⟨y403, y405, g404, g406, h407, rfl⟩ := k402
        refine ⟨_, _, rfl, ?_⟩
        refine T_nf (st' := []) (l' := [(7, (m.1 7)), (8, (m.1 8)), (9, (m.1 9)), (10, y403), (11, y405), (12, (m.1 12)), (28, (m.1 28)), (69, (m.1 69)), (70, (m.1 70)), (71, (m.1 71)), (72, (m.1 72)), (73, (m.1 73)), (74, (m.1 74)), (75, (m.1 75))]) (a' := [(65, (m.2 65)), (66, (m.2 66)), (67, (m.2 67)), (68, (m.2 68)), (76, (m.2 76)), (77, (m.2 77)), (78, (m.2 78)), (79, (m.2 79)), (80, (m.2 80))]) rfl rfl rfl rfl rfl ?_
        replace h407 : (0 < (m.1 10) → y403 = (m.1 10) ∧ y405 = (m.1 11)) ∧ ((m.1 10) ≤ 0 → y403 = (4 : Int) ∧ y405 = (m.1 8)) := h407
        have hf408 : 1 ≤ y403 := by omega
        refine Tm_lv (a := [(0, .ref 189), (1, .int (i32 (m.1 8)))]) rfl rfl ⟨rfl, rfl, trivial⟩ ?_
        exact J50_289 y403 y405 g404 g406 (by omega) (by omega) (by omega)
    · skip
      refine T_gf 27 (.int (i32 (m.1 7))) rfl rfl rfl rfl rfl rfl ?_
      refine T_ld 29 (.int (i32 45)) rfl (fun _ => rfl) ?_
      refine T_icmp 85 32 rfl rfl rfl (r32 (by omega) (by omega)) ⟨by decide, by decide⟩ (fun (h409 : (m.1 7) ≠ 45) => ?_) (fun (h409 : ¬ ((m.1 7) ≠ 45)) => ?_)
      · skip
        refine T_gf 89 (.int (i32 (m.1 7))) rfl rfl rfl rfl rfl rfl ?_
        refine T_ld 90 (.int (i32 2)) rfl (fun _ => rfl) ?_
        refine T_icmp 133 93 rfl rfl rfl (r32 (by omega) (by omega)) ⟨by decide, by decide⟩ (fun (h410 : (m.1 7) ≠ 2) => ?_) (fun (h410 : ¬ ((m.1 7) ≠ 2)) => ?_)
        · skip
          refine T_gf 137 (.int (i32 (m.1 7))) rfl rfl rfl rfl rfl rfl ?_
          refine T_ld 138 (.int (i32 1)) rfl (fun _ => rfl) ?_
          refine T_icmp 149 141 rfl rfl rfl (r32 (by omega) (by omega)) ⟨by decide, by decide⟩ (fun (h411 : (m.1 7) ≠ 1) => ?_) (fun (h411 : ¬ ((m.1 7) ≠ 1)) => ?_)
          · skip
            refine T_gf 153 (.int (i32 (m.1 7))) rfl rfl rfl rfl rfl rfl ?_
            refine T_ld 156 (.int (i32 329)) rfl (fun _ => rfl) ?_
            refine T_icmp 188 159 rfl rfl rfl (r32 (by omega) (by omega)) ⟨by decide, by decide⟩ (fun (h412 : (m.1 7) ≠ 329) => ?_) (fun (h412 : ¬ ((m.1 7) ≠ 329)) => ?_)
            · skip
              refine T_gf 192 (.int (i32 (m.1 7))) rfl rfl rfl rfl rfl rfl ?_
              refine T_ld 194 (.int (i32 40)) rfl (fun _ => rfl) ?_
              refine T_icmp 215 197 rfl rfl rfl (r32 (by omega) (by omega)) ⟨by decide, by decide⟩ (fun (h413 : (m.1 7) ≠ 40) => ?_) (fun (h413 : ¬ ((m.1 7) ≠ 40)) => ?_)
              · skip
                refine T_ld 216 (.ref 189) rfl (fun _ => rfl) ?_
                refine T_call 219 226 [.ref 189] [] rfl (fun _ => rfl) rfl (c_bad w (mO m [(7, (m.1 7)), (8, (m.1 8)), (9, (m.1 9)), (10, (m.1 10)), (11, (m.1 11)), (12, (m.1 12)), (28, (m.1 28)), (69, (m.1 69)), (70, (m.1 70)), (71, (m.1 71)), (72, (m.1 72)), (73, (m.1 73)), (74, (m.1 74)), (75, (m.1 75))] [(65, (m.2 65)), (66, (m.2 66)), (67, (m.2 67)), (68, (m.2 68)), (76, (m.2 76)), (77, (m.2 77)), (78, (m.2 78)), (79, (m.2 79)), (80, (m.2 80))]) c N D (by omega) (Ty_mO hT rfl rfl ⟨f7, f8, f9, f10, f11, f12, f28, f69, f70, f71, f72, f73, f74, f75, trivial⟩ ⟨(hT.2.1 65), (hT.2.1 66), (hT.2.1 67), (hT.2.1 68), (hT.2.1 76), (hT.2.1 77), (hT.2.1 78), (hT.2.1 79), (hT.2.1 80), trivial⟩) ) (fun rr414 k415 => ?_)
                obtain ⟨y416, y418, g417, g419, h420, rfl⟩ := k415
                refine ⟨_, _, rfl, ?_⟩
                refine T_nf (st' := []) (l' := [(7, (m.1 7)), (8, (m.1 8)), (9, (m.1 9)), (10, y416), (11, y418), (12, (m.1 12)), (28, (m.1 28)), (69, (m.1 69)), (70, (m.1 70)), (71, (m.1 71)), (72, (m.1 72)), (73, (m.1 73)), (74, (m.1 74)), (75, (m.1 75))]) (a' := [(65, (m.2 65)), (66, (m.2 66)), (67, (m.2 67)), (68, (m.2 68)), (76, (m.2 76)), (77, (m.2 77)), (78, (m.2 78)), (79, (m.2 79)), (80, (m.2 80))]) rfl rfl rfl rfl rfl ?_
                replace h420 : (0 < (m.1 10) → y416 = (m.1 10) ∧ y418 = (m.1 11)) ∧ ((m.1 10) ≤ 0 → y416 = 1 ∧ y418 = (m.1 8)) := h420
                have hf421 : 1 ≤ y416 := by omega
                refine T_ret rfl (fun _ => rfl) ?_
                exact ⟨(m.1 7), (m.1 8), (m.1 9), y416, y418, (m.1 12), (m.1 28), (m.1 69), (m.1 70), (m.1 71), (m.1 72), (m.1 73), (m.1 74), (m.1 75), (m.2 65), (m.2 66), (m.2 67), (m.2 68), (m.2 76), (m.2 77), (m.2 78), (m.2 79), (m.2 80), f7, f8, f9, g417, g419, f12, f28, f69, f70, f71, f72, f73, f74, f75, (hT.2.1 65), (hT.2.1 66), (hT.2.1 67), (hT.2.1 68), (hT.2.1 76), (hT.2.1 77), (hT.2.1 78), (hT.2.1 79), (hT.2.1 80), (by omega), (by first | (first | exact hLx | (intro h9; exfalso; omega)) | (exfalso; omega)), (fun h => absurd h (by omega)), rfl⟩
              · skip
                refine T_ld 198 (.ref 189) rfl (fun _ => rfl) ?_
                refine T_ld 199 (.int (i32 2)) rfl (fun _ => rfl) ?_
                refine T_ld 200 (.int (i32 (m.1 8))) rfl (fun _ => rfl) ?_
                refine T_ld 201 (.int (i32 0)) rfl (fun _ => rfl) ?_
                refine T_call 204 246 [.ref 189, .int (i32 2), .int (i32 (m.1 8)), .int (i32 0)] [] rfl (fun _ => rfl) rfl (c_open w (mO m [(7, (m.1 7)), (8, (m.1 8)), (9, (m.1 9)), (10, (m.1 10)), (11, (m.1 11)), (12, (m.1 12)), (28, (m.1 28)), (69, (m.1 69)), (70, (m.1 70)), (71, (m.1 71)), (72, (m.1 72)), (73, (m.1 73)), (74, (m.1 74)), (75, (m.1 75))] [(65, (m.2 65)), (66, (m.2 66)), (67, (m.2 67)), (68, (m.2 68)), (76, (m.2 76)), (77, (m.2 77)), (78, (m.2 78)), (79, (m.2 79)), (80, (m.2 80))]) c N D (by omega) (Ty_mO hT rfl rfl ⟨f7, f8, f9, f10, f11, f12, f28, f69, f70, f71, f72, f73, f74, f75, trivial⟩ ⟨(hT.2.1 65), (hT.2.1 66), (hT.2.1 67), (hT.2.1 68), (hT.2.1 76), (hT.2.1 77), (hT.2.1 78), (hT.2.1 79), (hT.2.1 80), trivial⟩) 2 (m.1 8) 0 ⟨by decide, by decide⟩ (r32 (by omega) (by omega)) ⟨by decide, by decide⟩ (show (m.1 73) ≤ 59 by omega) (show 0 ≤ (2 : Int) ∧ (2 : Int) ≤ 2 by omega) (show 0 ≤ (m.1 8) ∧ (m.1 8) ≤ 4000 by omega) (show 0 ≤ (0 : Int) ∧ (0 : Int) ≤ 330 by omega)) (fun rr422 k423 => ?_)
                obtain ⟨y424, F426, F428, F430, F432, F434, g425, G427, G429, G431, G433, G435, h436, h437, h438, h439, h440, h441, rfl⟩ := k423
                refine ⟨_, _, rfl, ?_⟩
                refine T_nf (st' := []) (l' := [(7, (m.1 7)), (8, (m.1 8)), (9, (m.1 9)), (10, (m.1 10)), (11, (m.1 11)), (12, (m.1 12)), (28, (m.1 28)), (69, (m.1 69)), (70, (m.1 70)), (71, (m.1 71)), (72, (m.1 72)), (73, y424), (74, (m.1 74)), (75, (m.1 75))]) (a' := [(65, (m.2 65)), (66, (m.2 66)), (67, (m.2 67)), (68, (m.2 68)), (76, F426), (77, F428), (78, F430), (79, F432), (80, F434)]) rfl rfl rfl rfl rfl ?_
                replace h436 : y424 = (m.1 73) + 1 := h436
                have hO0 := h436
                replace h437 : F426 = upI (m.2 76) (m.1 73) (2 : Int) := h437
                have hO1 := h437
                replace h438 : F430 = upI (m.2 78) (m.1 73) (0 : Int) := h438
                have hO2 := h438
                replace h439 : F432 = upI (m.2 79) (m.1 73) 0 := h439
                have hO3 := h439
                replace h440 : ∀ j, j < 9 * (m.1 73) → F434 j = (m.2 80) j := h440
                have hW1 := h440
                replace h441 : ∀ j, 9 * (m.1 73) ≤ j → j < 9 * (m.1 73) + 9 → F434 j = -1 := h441
                have hW2 := h441
                have u442 : (m.1 8) ≤ (m.1 8) := by omega
                have hAgC : agr (m.2 65) (m.2 65) (m.1 28) := by first | exact agr_r _ _ | exact hAgC | exact agr_t hAgC hAg (by omega)
                have u443 : 1 ≤ y424 := by omega
                refine T_ld 205 (.ref 189) rfl (fun _ => rfl) ?_
                refine T_call 208 212 [.ref 189] [] rfl (fun _ => rfl) rfl (c_next w (mO m [(7, (m.1 7)), (8, (m.1 8)), (9, (m.1 9)), (10, (m.1 10)), (11, (m.1 11)), (12, (m.1 12)), (28, (m.1 28)), (69, (m.1 69)), (70, (m.1 70)), (71, (m.1 71)), (72, (m.1 72)), (73, y424), (74, (m.1 74)), (75, (m.1 75))] [(65, (m.2 65)), (66, (m.2 66)), (67, (m.2 67)), (68, (m.2 68)), (76, F426), (77, F428), (78, F430), (79, F432), (80, F434)]) c N D (by omega) (Ty_mO hT rfl rfl ⟨f7, f8, f9, f10, f11, f12, f28, f69, f70, f71, f72, g425, f74, f75, trivial⟩ ⟨(hT.2.1 65), (hT.2.1 66), (hT.2.1 67), (hT.2.1 68), G427, G429, G431, G433, G435, trivial⟩) (show (m.1 10) = 0 → (m.1 8) + (m.1 9) ≤ (m.1 6) by first | omega | (intro h9; have h8 := hLx h9; omega))) (fun rr444 k445 => ?_)
                obtain ⟨y446, y448, y450, y452, y454, y456, g447, g449, g451, g453, g455, g457, h458, h459, h460, h461, rfl⟩ := k445
                refine ⟨_, _, rfl, ?_⟩
                refine T_nf (st' := []) (l' := [(7, y446), (8, y448), (9, y450), (10, y452), (11, y454), (12, y456), (28, (m.1 28)), (69, (m.1 69)), (70, (m.1 70)), (71, (m.1 71)), (72, (m.1 72)), (73, y424), (74, (m.1 74)), (75, (m.1 75))]) (a' := [(65, (m.2 65)), (66, (m.2 66)), (67, (m.2 67)), (68, (m.2 68)), (76, F426), (77, F428), (78, F430), (79, F432), (80, F434)]) rfl rfl rfl rfl rfl ?_
                by_cases hf462 : y452 = 0
                · skip
                  subst hf462
                  replace h458 : LxP y446 y448 y450 (m.1 6) (0 : Int) := h458
                  have hLx := h458
                  replace h459 : (m.1 10) = 0 := h459 rfl
                  replace h460 : (m.1 8) ≤ y448 := h460
                  replace h461 : (m.1 8) + (m.1 9) ≤ y448 := h461 rfl
                  have u463 : (m.1 8) + 1 ≤ y448 := by omega
                  have hAgC : agr (m.2 65) (m.2 65) (m.1 28) := by first | exact agr_r _ _ | exact hAgC | exact agr_t hAgC hAg (by omega)
                  have u464 : 1 ≤ y424 := by omega
                  clear g453
                  have hXT : XT (m.2 65) (m.2 67) F426 F430 F432 F434 B (m.1 28) y424 (m.1 74) 0 := by
                    rw [hO0, hO1, hO2, hO3]
                    exact XT_bra hXS (by omega) hW1 hW2
                  have hTop : y424 = 0 ∨ F426 (y424 - 1) = 2 ∨ (F426 (y424 - 1) = 0 ∧ F432 (y424 - 1) = 2) := Or.inr (Or.inl (by rw [show y424 - 1 = (m.1 73) by omega, hO1, upI_s]))
                  refine T_ld 209 (.ref 189) rfl (fun _ => rfl) ?_
                  refine T_call 212 245 [.ref 189] [] rfl (fun _ => rfl) rfl (c_beginChoice w (mO m [(7, y446), (8, y448), (9, y450), (10, 0), (11, y454), (12, y456), (28, (m.1 28)), (69, (m.1 69)), (70, (m.1 70)), (71, (m.1 71)), (72, (m.1 72)), (73, y424), (74, (m.1 74)), (75, (m.1 75))] [(65, (m.2 65)), (66, (m.2 66)), (67, (m.2 67)), (68, (m.2 68)), (76, F426), (77, F428), (78, F430), (79, F432), (80, F434)]) c N D (by omega) (Ty_mO hT rfl rfl ⟨g447, g449, g451, ⟨(by omega : (0 : Int) ≤ 0), (by omega : (0 : Int) ≤ 8)⟩, g455, g457, f28, f69, f70, f71, f72, g425, f74, f75, trivial⟩ ⟨(hT.2.1 65), (hT.2.1 66), (hT.2.1 67), (hT.2.1 68), G427, G429, G431, G433, G435, trivial⟩) B 0 (fun _ => ⟨(show XT (m.2 65) (m.2 67) F426 F430 F432 F434 B (m.1 28) y424 (m.1 74) 0 by first | exact hXT | exact hXS.1), (show y424 = 0 ∨ F426 (y424 - 1) = 2 ∨ (F426 (y424 - 1) = 0 ∧ F432 (y424 - 1) = 2) by first | exact hTop | omega)⟩)) (fun rr465 k466 => ?_)
                  obtain ⟨y467, y469, y471, y473, y475, F477, F479, F481, F483, F485, g468, g470, g472, g474, g476, G478, G480, G482, G484, G486, h487, c488, rfl⟩ := k466
                  refine ⟨_, _, rfl, ?_⟩
                  refine T_nf (st' := []) (l' := [(7, y446), (8, y448), (9, y450), (10, y467), (11, y469), (12, y456), (28, (m.1 28)), (69, (m.1 69)), (70, (m.1 70)), (71, (m.1 71)), (72, (m.1 72)), (73, y471), (74, y473), (75, y475)]) (a' := [(65, (m.2 65)), (66, (m.2 66)), (67, (m.2 67)), (68, (m.2 68)), (76, F477), (77, F479), (78, F481), (79, F483), (80, F485)]) rfl rfl rfl rfl rfl ?_
                  by_cases hf489 : y467 = 0
                  · skip
                    subst hf489
                    replace h487 : (0 : Int) = 0 := h487 rfl
                    obtain ⟨c490, c491, c492⟩ := c488 rfl
                    replace c490 : XS (m.2 65) (m.2 67) F477 F481 F483 F485 B (m.1 28) y471 y473 0 := c490
                    have hXS := c490
                    replace c491 : y471 = y424 + 1 := c491
                    replace c492 : y475 = 0 := c492
                    clear c488
                    have u493 : (m.1 8) + 1 ≤ y448 := by omega
                    have hAgC : agr (m.2 65) (m.2 65) (m.1 28) := by first | exact agr_r _ _ | exact hAgC | exact agr_t hAgC hAg (by omega)
                    have u494 : 1 ≤ y471 := by omega
                    clear g425 h436 h437 h438 h439 h440 h441 u443 g455 u464 g468 c491
                    have hXE : XS (m.2 65) (m.2 67) F477 F481 F483 F485 B (m.1 28) y471 y473 (um y475) := by
                      rw [show um y475 = 0 from if_pos (by omega)]
                      exact hXS
                    refine T_goto 219 rfl (fun _ => rfl) ?_
                    refine T_ret rfl (fun _ => rfl) ?_
                    exact ⟨y446, y448, y450, 0, y469, y456, (m.1 28), (m.1 69), (m.1 70), (m.1 71), (m.1 72), y471, y473, y475, (m.2 65), (m.2 66), (m.2 67), (m.2 68), F477, F479, F481, F483, F485, g447, g449, g451, ⟨by omega, by omega⟩, g470, g457, f28, f69, f70, f71, f72, g472, g474, g476, (hT.2.1 65), (hT.2.1 66), (hT.2.1 67), (hT.2.1 68), G478, G480, G482, G484, G486, (by omega), (by first | (first | exact hLx | (intro h9; exfalso; omega)) | (exfalso; omega)), (fun _ => ⟨(by omega), (by omega), (by omega), (by omega), (by first | (exact hXE) | (exfalso; omega)), (by first | (exact hAgC) | (exfalso; omega))⟩), rfl⟩
                  · skip
                    clear c488
                    clear h487
                    have hf495 : 1 ≤ y467 := by omega
                    clear g425 h436 h437 h438 h439 h440 h441 u443 g455 u464
                    refine Tm_lv (a := [(0, .ref 189), (1, .int (i32 (m.1 8)))]) rfl rfl ⟨rfl, rfl, trivial⟩ ?_
                    exact J212_117 y446 y448 y450 y467 y469 y456 y471 y473 y475 F477 F479 F481 F483 F485 g447 g449 g451 g468 g470 g457 g472 g474 g476 G478 G480 G482 G484 G486 (by omega) (by omega) (by omega)
                · skip
                  replace h458 : LxP y446 y448 y450 (m.1 6) y452 := h458
                  have hLx := h458
                  clear h459
                  replace h460 : (m.1 8) ≤ y448 := h460
                  clear h461
                  have hf496 : 1 ≤ y452 := by omega
                  refine T_ld 209 (.ref 189) rfl (fun _ => rfl) ?_
                  refine T_call 212 245 [.ref 189] [] rfl (fun _ => rfl) rfl (c_beginChoice w (mO m [(7, y446), (8, y448), (9, y450), (10, y452), (11, y454), (12, y456), (28, (m.1 28)), (69, (m.1 69)), (70, (m.1 70)), (71, (m.1 71)), (72, (m.1 72)), (73, y424), (74, (m.1 74)), (75, (m.1 75))] [(65, (m.2 65)), (66, (m.2 66)), (67, (m.2 67)), (68, (m.2 68)), (76, F426), (77, F428), (78, F430), (79, F432), (80, F434)]) c N D (by omega) (Ty_mO hT rfl rfl ⟨g447, g449, g451, g453, g455, g457, f28, f69, f70, f71, f72, g425, f74, f75, trivial⟩ ⟨(hT.2.1 65), (hT.2.1 66), (hT.2.1 67), (hT.2.1 68), G427, G429, G431, G433, G435, trivial⟩) B 0 (fun (h : y452 = 0) => absurd h (by omega))) (fun rr497 k498 => ?_)
                  obtain ⟨y499, y501, y503, y505, y507, F509, F511, F513, F515, F517, g500, g502, g504, g506, g508, G510, G512, G514, G516, G518, h519, c520, rfl⟩ := k498
                  refine ⟨_, _, rfl, ?_⟩
                  refine T_nf (st' := []) (l' := [(7, y446), (8, y448), (9, y450), (10, y499), (11, y501), (12, y456), (28, (m.1 28)), (69, (m.1 69)), (70, (m.1 70)), (71, (m.1 71)), (72, (m.1 72)), (73, y503), (74, y505), (75, y507)]) (a' := [(65, (m.2 65)), (66, (m.2 66)), (67, (m.2 67)), (68, (m.2 68)), (76, F509), (77, F511), (78, F513), (79, F515), (80, F517)]) rfl rfl rfl rfl rfl ?_
                  replace h519 : y499 = 0 → y452 = 0 := h519
                  have hf521 : 1 ≤ y499 := by omega
                  clear c520
                  clear h519
                  clear g425 h436 h437 h438 h439 h440 h441 u443 g453 g455 h458 hf496
                  refine Tm_lv (a := [(0, .ref 189), (1, .int (i32 (m.1 8)))]) rfl rfl ⟨rfl, rfl, trivial⟩ ?_
                  exact J212_117 y446 y448 y450 y499 y501 y456 y503 y505 y507 F509 F511 F513 F515 F517 g447 g449 g451 g500 g502 g457 g504 g506 g508 G510 G512 G514 G516 G518 (by omega) (by omega) (by omega)
            · skip
              refine T_ld 160 (.ref 189) rfl (fun _ => rfl) ?_
              refine T_call 163 212 [.ref 189] [] rfl (fun _ => rfl) rfl (c_next w (mO m [(7, (m.1 7)), (8, (m.1 8)), (9, (m.1 9)), (10, (m.1 10)), (11, (m.1 11)), (12, (m.1 12)), (28, (m.1 28)), (69, (m.1 69)), (70, (m.1 70)), (71, (m.1 71)), (72, (m.1 72)), (73, (m.1 73)), (74, (m.1 74)), (75, (m.1 75))] [(65, (m.2 65)), (66, (m.2 66)), (67, (m.2 67)), (68, (m.2 68)), (76, (m.2 76)), (77, (m.2 77)), (78, (m.2 78)), (79, (m.2 79)), (80, (m.2 80))]) c N D (by omega) (Ty_mO hT rfl rfl ⟨f7, f8, f9, f10, f11, f12, f28, f69, f70, f71, f72, f73, f74, f75, trivial⟩ ⟨(hT.2.1 65), (hT.2.1 66), (hT.2.1 67), (hT.2.1 68), (hT.2.1 76), (hT.2.1 77), (hT.2.1 78), (hT.2.1 79), (hT.2.1 80), trivial⟩) (show (m.1 10) = 0 → (m.1 8) + (m.1 9) ≤ (m.1 6) by first | omega | (intro h9; have h8 := hLx h9; omega))) (fun rr522 k523 => ?_)
              obtain ⟨y524, y526, y528, y530, y532, y534, g525, g527, g529, g531, g533, g535, h536, h537, h538, h539, rfl⟩ := k523
              refine ⟨_, _, rfl, ?_⟩
              refine T_nf (st' := []) (l' := [(7, y524), (8, y526), (9, y528), (10, y530), (11, y532), (12, y534), (28, (m.1 28)), (69, (m.1 69)), (70, (m.1 70)), (71, (m.1 71)), (72, (m.1 72)), (73, (m.1 73)), (74, (m.1 74)), (75, (m.1 75))]) (a' := [(65, (m.2 65)), (66, (m.2 66)), (67, (m.2 67)), (68, (m.2 68)), (76, (m.2 76)), (77, (m.2 77)), (78, (m.2 78)), (79, (m.2 79)), (80, (m.2 80))]) rfl rfl rfl rfl rfl ?_
              by_cases hf540 : y530 = 0
              · skip
                subst hf540
                replace h536 : LxP y524 y526 y528 (m.1 6) (0 : Int) := h536
                have hLx := h536
                replace h537 : (m.1 10) = 0 := h537 rfl
                replace h538 : (m.1 8) ≤ y526 := h538
                replace h539 : (m.1 8) + (m.1 9) ≤ y526 := h539 rfl
                have u541 : (m.1 8) + 1 ≤ y526 := by omega
                have hAgC : agr (m.2 65) (m.2 65) (m.1 28) := by first | exact agr_r _ _ | exact hAgC | exact agr_t hAgC hAg (by omega)
                have u542 : 1 ≤ (m.1 73) := by omega
                clear g531
                refine T_ld 164 (.ref 189) rfl (fun _ => rfl) ?_
                refine T_ld 165 (.int (i32 2)) rfl (fun _ => rfl) ?_
                have hOL : (0 : Int) = 0 → ∀ k, 0 ≤ k → k < (m.1 13) → (m.2 16) k = 2 → 0 ≤ (m.2 17) k ∧ (m.2 17) k < 12 := fun _ k h1 h2 h3 => by
                  have h4 := PNl_2 pPN k h1 h2 h3
                  omega
                refine T_call 168 236 [.ref 189, .int (i32 2)] [] rfl (fun _ => rfl) rfl (c_oldName w (mO m [(7, y524), (8, y526), (9, y528), (10, 0), (11, y532), (12, y534), (28, (m.1 28)), (69, (m.1 69)), (70, (m.1 70)), (71, (m.1 71)), (72, (m.1 72)), (73, (m.1 73)), (74, (m.1 74)), (75, (m.1 75))] [(65, (m.2 65)), (66, (m.2 66)), (67, (m.2 67)), (68, (m.2 68)), (76, (m.2 76)), (77, (m.2 77)), (78, (m.2 78)), (79, (m.2 79)), (80, (m.2 80))]) c N D (by omega) (Ty_mO hT rfl rfl ⟨g525, g527, g529, ⟨(by omega : (0 : Int) ≤ 0), (by omega : (0 : Int) ≤ 8)⟩, g533, g535, f28, f69, f70, f71, f72, f73, f74, f75, trivial⟩ ⟨(hT.2.1 65), (hT.2.1 66), (hT.2.1 67), (hT.2.1 68), (hT.2.1 76), (hT.2.1 77), (hT.2.1 78), (hT.2.1 79), (hT.2.1 80), trivial⟩) 2 12 ⟨by decide, by decide⟩ (show LxP y524 y526 y528 (m.1 6) (0 : Int) by first | exact hLx | (intro h9; exfalso; omega) | (intro h9; have h8 := hLx (by omega); omega)) (show ∀ k, (m.2 14) k + (m.2 15) k ≤ 4000 by first | exact p1 | exact hNM) (show 1 ≤ (2 : Int) ∧ (2 : Int) ≤ 7 ∧ (2 : Int) ≠ 5 by omega) (show 12 ≤ 16 by omega) (show (0 : Int) = 0 → ∀ k, 0 ≤ k → k < (m.1 13) → (m.2 16) k = (2 : Int) → 0 ≤ (m.2 17) k ∧ (m.2 17) k < 12 by first | exact hOL | (intro h; exfalso; omega)) (show (2 : Int) = 3 → 3 ≤ 12 by omega)) (fun rr543 k544 => ?_)
                obtain ⟨y545, y547, y549, y551, y553, y555, oo, g546, g548, g550, g552, g554, g556, g557, h558, h559, h560, h561, h562, h563, rfl⟩ := k544
                refine ⟨_, _, rfl, ?_⟩
                refine T_nf (st' := [.int (i32 oo)]) (l' := [(7, y545), (8, y547), (9, y549), (10, y551), (11, y553), (12, y555), (28, (m.1 28)), (69, (m.1 69)), (70, (m.1 70)), (71, (m.1 71)), (72, (m.1 72)), (73, (m.1 73)), (74, (m.1 74)), (75, (m.1 75))]) (a' := [(65, (m.2 65)), (66, (m.2 66)), (67, (m.2 67)), (68, (m.2 68)), (76, (m.2 76)), (77, (m.2 77)), (78, (m.2 78)), (79, (m.2 79)), (80, (m.2 80))]) rfl rfl rfl rfl rfl ?_
                obtain ⟨g557a, g557b⟩ := g557
                by_cases hf564 : y551 = 0
                · skip
                  subst hf564
                  replace h558 : LxP y545 y547 y549 (m.1 6) (0 : Int) := h558
                  have hLx := h558
                  replace h559 : y526 ≤ y547 := h559
                  replace h560 : (0 : Int) = 0 ∧ y526 + y528 ≤ y547 := h560 rfl
                  replace h561 : y524 = 1 := h561 rfl
                  replace h562 : 0 ≤ oo ∧ (oo < 12 ∨ oo = 0) := h562
                  replace h563 : oo < 12 := h563 rfl
                  have u565 : (m.1 8) + 1 ≤ y547 := by omega
                  have hAgC : agr (m.2 65) (m.2 65) (m.1 28) := by first | exact agr_r _ _ | exact hAgC | exact agr_t hAgC hAg (by omega)
                  have u566 : 1 ≤ (m.1 73) := by omega
                  clear g525 g527 g529 g533 g535 h536 h538 h539 u541 g552 h559 h560 h561
                  refine T_sto 169 [(2, .int (i32 oo)), (1, .int (i32 (m.1 8))), (0, .ref 189)] rfl (fun _ => rfl) ?_
                  have hAr : ar 404 ≤ 0 + lh (m.2 79) (m.2 80) (m.1 73) := by rw [show ar 404 = 0 from rfl]; omega
                  have hCk : CNk 404 oo := by refine ⟨?_, ?_, ?_, ?_⟩ <;> omega
                  refine T_ld 170 (.ref 189) rfl (fun _ => rfl) ?_
                  refine T_ld 173 (.int (i32 404)) rfl (fun _ => rfl) ?_
                  refine T_ld 174 (.int (i32 1)) rfl (fun _ => rfl) ?_
                  refine T_ld 175 (.int (i32 oo)) rfl (fun _ => rfl) ?_
                  refine T_ld 176 (.long (i64 0)) rfl (fun _ => rfl) ?_
                  refine T_call 179 248 [.ref 189, .int (i32 404), .int (i32 1), .int (i32 oo), .long (i64 0)] [] rfl (fun _ => rfl) rfl (c_node w (mO m [(7, y545), (8, y547), (9, y549), (10, 0), (11, y553), (12, y555), (28, (m.1 28)), (69, (m.1 69)), (70, (m.1 70)), (71, (m.1 71)), (72, (m.1 72)), (73, (m.1 73)), (74, (m.1 74)), (75, (m.1 75))] [(65, (m.2 65)), (66, (m.2 66)), (67, (m.2 67)), (68, (m.2 68)), (76, (m.2 76)), (77, (m.2 77)), (78, (m.2 78)), (79, (m.2 79)), (80, (m.2 80))]) c N D (by omega) (Ty_mO hT rfl rfl ⟨g546, g548, g550, ⟨(by omega : (0 : Int) ≤ 0), (by omega : (0 : Int) ≤ 8)⟩, g554, g556, f28, f69, f70, f71, f72, f73, f74, f75, trivial⟩ ⟨(hT.2.1 65), (hT.2.1 66), (hT.2.1 67), (hT.2.1 68), (hT.2.1 76), (hT.2.1 77), (hT.2.1 78), (hT.2.1 79), (hT.2.1 80), trivial⟩) 404 1 oo 0 B (0 + lh (m.2 79) (m.2 80) (m.1 73)) ⟨by decide, by decide⟩ ⟨by decide, by decide⟩ (r32 (by omega) (by omega)) ⟨by decide, by decide⟩ (fun _ => ⟨(show 0 ≤ (404 : Int) ∧ (404 : Int) ≤ 408 by first | omega | decide), (show 0 ≤ (1 : Int) ∧ (1 : Int) ≤ 64 by first | omega | decide), (show 0 ≤ oo ∧ oo ≤ 191 by first | omega | decide), (show CNk (404 : Int) oo by first | exact hCk | (refine ⟨?_, ?_, ?_, ?_⟩ <;> omega)), (show ar (404 : Int) ≤ (0 + lh (m.2 79) (m.2 80) (m.1 73)) by first | exact hAr | omega), (show EX (m.2 65) (m.2 67) B (m.1 28) (0 + lh (m.2 79) (m.2 80) (m.1 73)) by first | exact hEX | assumption)⟩)) (fun rr567 k568 => ?_)
                  obtain ⟨y569, y571, y573, F575, F577, F579, F581, g570, g572, g574, G576, G578, G580, G582, h583, c584, rfl⟩ := k568
                  refine ⟨_, _, rfl, ?_⟩
                  refine T_nf (st' := []) (l' := [(7, y545), (8, y547), (9, y549), (10, y569), (11, y571), (12, y555), (28, y573), (69, (m.1 69)), (70, (m.1 70)), (71, (m.1 71)), (72, (m.1 72)), (73, (m.1 73)), (74, (m.1 74)), (75, (m.1 75))]) (a' := [(65, F575), (66, F577), (67, F579), (68, F581), (76, (m.2 76)), (77, (m.2 77)), (78, (m.2 78)), (79, (m.2 79)), (80, (m.2 80))]) rfl rfl rfl rfl rfl ?_
                  by_cases hf585 : y569 = 0
                  · skip
                    subst hf585
                    replace h583 : (0 : Int) = 0 := h583 rfl
                    obtain ⟨c586, c587, c588⟩ := c584 rfl
                    replace c586 : y573 = (m.1 28) + 1 := c586
                    replace c587 : EX F575 F579 B y573 ((0 + lh (m.2 79) (m.2 80) (m.1 73)) + 1 - ar (404 : Int)) := c587
                    have hEX := c587
                    replace c588 : agr (m.2 65) F575 (m.1 28) := c588
                    have hAg := c588
                    clear c584
                    have u589 : (m.1 8) + 1 ≤ y547 := by omega
                    have hAgC : agr (m.2 65) F575 (m.1 28) := by first | exact agr_r _ _ | exact hAgC | exact agr_t hAgC hAg (by omega)
                    have u590 : 1 ≤ (m.1 73) := by omega
                    clear g554 g570
                    refine T_ld 180 (.ref 189) rfl (fun _ => rfl) ?_
                    refine T_ld 181 (.int (i32 1)) rfl (fun _ => rfl) ?_
                    refine T_ld 182 (.int (i32 (m.1 8))) rfl (fun _ => rfl) ?_
                    refine T_call 185 249 [.ref 189, .int (i32 1), .int (i32 (m.1 8))] [] rfl (fun _ => rfl) rfl (c_atom w (mO m [(7, y545), (8, y547), (9, y549), (10, 0), (11, y571), (12, y555), (28, y573), (69, (m.1 69)), (70, (m.1 70)), (71, (m.1 71)), (72, (m.1 72)), (73, (m.1 73)), (74, (m.1 74)), (75, (m.1 75))] [(65, F575), (66, F577), (67, F579), (68, F581), (76, (m.2 76)), (77, (m.2 77)), (78, (m.2 78)), (79, (m.2 79)), (80, (m.2 80))]) c N D (by omega) (Ty_mO hT rfl rfl ⟨g546, g548, g550, ⟨(by omega : (0 : Int) ≤ 0), (by omega : (0 : Int) ≤ 8)⟩, g572, g556, g574, f69, f70, f71, f72, f73, f74, f75, trivial⟩ ⟨G576, G578, G580, G582, (hT.2.1 76), (hT.2.1 77), (hT.2.1 78), (hT.2.1 79), (hT.2.1 80), trivial⟩) 1 (m.1 8) ⟨by decide, by decide⟩ (r32 (by omega) (by omega)) (show 0 ≤ (1 : Int) ∧ (1 : Int) ≤ 64 by omega) (show 0 ≤ (m.1 8) ∧ (m.1 8) ≤ 4000 by omega)) (fun rr591 k592 => ?_)
                    obtain ⟨y593, y595, y597, y599, y601, g594, g596, g598, g600, g602, h603, rfl⟩ := k592
                    refine ⟨_, _, rfl, ?_⟩
                    refine T_nf (st' := []) (l' := [(7, y545), (8, y547), (9, y549), (10, 0), (11, y571), (12, y555), (28, y573), (69, y593), (70, y595), (71, y597), (72, y599), (73, (m.1 73)), (74, (m.1 74)), (75, y601)]) (a' := [(65, F575), (66, F577), (67, F579), (68, F581), (76, (m.2 76)), (77, (m.2 77)), (78, (m.2 78)), (79, (m.2 79)), (80, (m.2 80))]) rfl rfl rfl rfl rfl ?_
                    replace h603 : (0 : Int) = 0 → y601 = 1 ∧ y593 = (1 : Int) := h603
                    have u604 : (m.1 8) + 1 ≤ y547 := by omega
                    have hAgC : agr (m.2 65) F575 (m.1 28) := by first | exact agr_r _ _ | exact hAgC | exact agr_t hAgC hAg (by omega)
                    have u605 : 1 ≤ (m.1 73) := by omega
                    have hXE : XS F575 F579 (m.2 76) (m.2 78) (m.2 79) (m.2 80) B y573 (m.1 73) (m.1 74) (um y601) := by
                      rw [show um y601 = 1 from if_neg (by omega)]
                      exact XS_of hXS hEX (by rw [show ar 404 = 0 from rfl]; omega)
                    refine T_goto 219 rfl (fun _ => rfl) ?_
                    refine T_ret rfl (fun _ => rfl) ?_
                    exact ⟨y545, y547, y549, 0, y571, y555, y573, y593, y595, y597, y599, (m.1 73), (m.1 74), y601, F575, F577, F579, F581, (m.2 76), (m.2 77), (m.2 78), (m.2 79), (m.2 80), g546, g548, g550, ⟨by omega, by omega⟩, g572, g556, g574, g594, g596, g598, g600, f73, f74, g602, G576, G578, G580, G582, (hT.2.1 76), (hT.2.1 77), (hT.2.1 78), (hT.2.1 79), (hT.2.1 80), (by omega), (by first | (first | exact hLx | (intro h9; exfalso; omega)) | (exfalso; omega)), (fun _ => ⟨(by omega), (by omega), (by omega), (by omega), (by first | (exact hXE) | (exfalso; omega)), (by first | (exact hAgC) | (exfalso; omega))⟩), rfl⟩
                  · skip
                    clear c584
                    clear h583
                    have hf606 : 1 ≤ y569 := by omega
                    clear g554
                    refine Tm_lv (a := [(0, .ref 189), (1, .int (i32 (m.1 8))), (2, .int (i32 oo))]) rfl rfl ⟨rfl, rfl, rfl, trivial⟩ ?_
                    exact J179_148 oo y545 y547 y549 y569 y571 y555 y573 F575 F577 F579 F581 (r32 (by omega) (by omega)) g546 g548 g550 g570 g572 g556 g574 G576 G578 G580 G582 (by omega) (by omega) (by omega)
                · skip
                  replace h558 : LxP y545 y547 y549 (m.1 6) y551 := h558
                  have hLx := h558
                  replace h559 : y526 ≤ y547 := h559
                  clear h560
                  clear h561
                  replace h562 : 0 ≤ oo ∧ (oo < 12 ∨ oo = 0) := h562
                  clear h563
                  have hf607 : 1 ≤ y551 := by omega
                  clear g525 g527 g529 g533 g535 h536 h538 h539 u541 h559
                  refine Tm_lv (a := [(0, .ref 189), (1, .int (i32 (m.1 8)))]) rfl rfl ⟨rfl, rfl, trivial⟩ ?_
                  exact J168_185 oo y545 y547 y549 y551 y553 y555 (r32 (by omega) (by omega)) g546 g548 g550 g552 g554 g556 (by omega) (by omega) (by omega)
              · skip
                replace h536 : LxP y524 y526 y528 (m.1 6) y530 := h536
                have hLx := h536
                clear h537
                replace h538 : (m.1 8) ≤ y526 := h538
                clear h539
                have hf608 : 1 ≤ y530 := by omega
                refine T_ld 164 (.ref 189) rfl (fun _ => rfl) ?_
                refine T_ld 165 (.int (i32 2)) rfl (fun _ => rfl) ?_
                refine T_call 168 236 [.ref 189, .int (i32 2)] [] rfl (fun _ => rfl) rfl (c_oldName w (mO m [(7, y524), (8, y526), (9, y528), (10, y530), (11, y532), (12, y534), (28, (m.1 28)), (69, (m.1 69)), (70, (m.1 70)), (71, (m.1 71)), (72, (m.1 72)), (73, (m.1 73)), (74, (m.1 74)), (75, (m.1 75))] [(65, (m.2 65)), (66, (m.2 66)), (67, (m.2 67)), (68, (m.2 68)), (76, (m.2 76)), (77, (m.2 77)), (78, (m.2 78)), (79, (m.2 79)), (80, (m.2 80))]) c N D (by omega) (Ty_mO hT rfl rfl ⟨g525, g527, g529, g531, g533, g535, f28, f69, f70, f71, f72, f73, f74, f75, trivial⟩ ⟨(hT.2.1 65), (hT.2.1 66), (hT.2.1 67), (hT.2.1 68), (hT.2.1 76), (hT.2.1 77), (hT.2.1 78), (hT.2.1 79), (hT.2.1 80), trivial⟩) 2 12 ⟨by decide, by decide⟩ (show LxP y524 y526 y528 (m.1 6) y530 by first | exact hLx | (intro h9; exfalso; omega) | (intro h9; have h8 := hLx (by omega); omega)) (show ∀ k, (m.2 14) k + (m.2 15) k ≤ 4000 by first | exact p1 | exact hNM) (show 1 ≤ (2 : Int) ∧ (2 : Int) ≤ 7 ∧ (2 : Int) ≠ 5 by omega) (show 12 ≤ 16 by omega) (show y530 = 0 → ∀ k, 0 ≤ k → k < (m.1 13) → (m.2 16) k = (2 : Int) → 0 ≤ (m.2 17) k ∧ (m.2 17) k < 12 by first | exact hOL | (intro h; exfalso; omega)) (show (2 : Int) = 3 → 3 ≤ 12 by omega)) (fun rr609 k610 => ?_)
                obtain ⟨y611, y613, y615, y617, y619, y621, oo, g612, g614, g616, g618, g620, g622, g623, h624, h625, h626, h627, h628, h629, rfl⟩ := k610
                refine ⟨_, _, rfl, ?_⟩
                refine T_nf (st' := [.int (i32 oo)]) (l' := [(7, y611), (8, y613), (9, y615), (10, y617), (11, y619), (12, y621), (28, (m.1 28)), (69, (m.1 69)), (70, (m.1 70)), (71, (m.1 71)), (72, (m.1 72)), (73, (m.1 73)), (74, (m.1 74)), (75, (m.1 75))]) (a' := [(65, (m.2 65)), (66, (m.2 66)), (67, (m.2 67)), (68, (m.2 68)), (76, (m.2 76)), (77, (m.2 77)), (78, (m.2 78)), (79, (m.2 79)), (80, (m.2 80))]) rfl rfl rfl rfl rfl ?_
                obtain ⟨g623a, g623b⟩ := g623
                replace h624 : LxP y611 y613 y615 (m.1 6) y617 := h624
                replace h625 : y526 ≤ y613 := h625
                replace h626 : y617 = 0 → y530 = 0 ∧ y526 + y528 ≤ y613 := h626
                replace h627 : y617 = 0 → y524 = 1 := h627
                replace h628 : 0 ≤ oo ∧ (oo < 12 ∨ oo = 0) := h628
                replace h629 : y617 = 0 → oo < 12 := h629
                have hf630 : 1 ≤ y617 := by omega
                clear h626
                clear h627
                clear h629
                have hLx := h624
                clear g525 g527 g529 g531 g533 g535 h536 h538 hf608 h625
                refine Tm_lv (a := [(0, .ref 189), (1, .int (i32 (m.1 8)))]) rfl rfl ⟨rfl, rfl, trivial⟩ ?_
                exact J168_185 oo y611 y613 y615 y617 y619 y621 (r32 (by omega) (by omega)) g612 g614 g616 g618 g620 g622 (by omega) (by omega) (by omega)
          · skip
            refine T_ld 142 (.ref 189) rfl (fun _ => rfl) ?_
            refine T_ld 143 (.int (i32 (m.1 8))) rfl (fun _ => rfl) ?_
            refine T_call 146 251 [.ref 189, .int (i32 (m.1 8))] [] rfl (fun _ => rfl) rfl (c_takeName w (mO m [(7, (m.1 7)), (8, (m.1 8)), (9, (m.1 9)), (10, (m.1 10)), (11, (m.1 11)), (12, (m.1 12)), (28, (m.1 28)), (69, (m.1 69)), (70, (m.1 70)), (71, (m.1 71)), (72, (m.1 72)), (73, (m.1 73)), (74, (m.1 74)), (75, (m.1 75))] [(65, (m.2 65)), (66, (m.2 66)), (67, (m.2 67)), (68, (m.2 68)), (76, (m.2 76)), (77, (m.2 77)), (78, (m.2 78)), (79, (m.2 79)), (80, (m.2 80))]) c N D (by omega) (Ty_mO hT rfl rfl ⟨f7, f8, f9, f10, f11, f12, f28, f69, f70, f71, f72, f73, f74, f75, trivial⟩ ⟨(hT.2.1 65), (hT.2.1 66), (hT.2.1 67), (hT.2.1 68), (hT.2.1 76), (hT.2.1 77), (hT.2.1 78), (hT.2.1 79), (hT.2.1 80), trivial⟩) (m.1 8) B (0 + lh (m.2 79) (m.2 80) (m.1 73)) (r32 (by omega) (by omega)) (show LxP (m.1 7) (m.1 8) (m.1 9) (m.1 6) (m.1 10) by first | exact hLx | (intro h9; exfalso; omega)) (show ∀ k, (m.2 14) k + (m.2 15) k ≤ 4000 by assumption) (show ∀ k, (m.2 31) k + (m.2 32) k ≤ 4000 by assumption) (show ∀ k, (m.2 47) k + (m.2 48) k ≤ 4000 by assumption) (show 0 ≤ (m.1 8) ∧ (m.1 8) ≤ 4000 by omega) (show (m.1 10) = 0 by omega) ⟨(show PN (m.1 13) (m.1 19) (m.1 20) (m.1 21) (m.1 22) (m.1 23) (m.1 25) (m.1 26) (m.2 16) (m.2 17) by assumption), (show (m.1 7) = 1 by omega), (show EX (m.2 65) (m.2 67) B (m.1 28) (0 + lh (m.2 79) (m.2 80) (m.1 73)) by exact hEX), (show 0 ≤ (0 + lh (m.2 79) (m.2 80) (m.1 73)) by omega)⟩) (fun rr631 k632 => ?_)
            obtain ⟨y633, y635, y637, y639, y641, y643, y645, y647, y649, y651, y653, y655, F657, F659, F661, F663, g634, g636, g638, g640, g642, g644, g646, g648, g650, g652, g654, g656, G658, G660, G662, G664, h665, h666, c667, rfl⟩ := k632
            refine ⟨_, _, rfl, ?_⟩
            refine T_nf (st' := []) (l' := [(7, y633), (8, y635), (9, y637), (10, y639), (11, y641), (12, y643), (28, y645), (69, y647), (70, y649), (71, y651), (72, y653), (73, (m.1 73)), (74, (m.1 74)), (75, y655)]) (a' := [(65, F657), (66, F659), (67, F661), (68, F663), (76, (m.2 76)), (77, (m.2 77)), (78, (m.2 78)), (79, (m.2 79)), (80, (m.2 80))]) rfl rfl rfl rfl rfl ?_
            by_cases hf668 : y639 = 0
            · skip
              subst hf668
              replace h665 : (m.1 10) = 0 := h665 rfl
              replace h666 : LxP y633 y635 y637 (m.1 6) (0 : Int) := h666
              have hLx := h666
              obtain ⟨c669, c670, c671, c672, c673, c674⟩ := c667 rfl
              replace c669 : (m.1 8) + 1 ≤ y635 := c669
              replace c670 : y655 = 1 := c670
              replace c671 : y647 ≤ 64 := c671
              replace c672 : y645 = (m.1 28) + 1 := c672
              replace c673 : EX F657 F661 B y645 ((0 + lh (m.2 79) (m.2 80) (m.1 73)) + 1) := c673
              have hEX := c673
              replace c674 : agr (m.2 65) F657 (m.1 28) := c674
              have hAg := c674
              clear c667
              have u675 : (m.1 8) + 1 ≤ y635 := by omega
              have hAgC : agr (m.2 65) F657 (m.1 28) := by first | exact agr_r _ _ | exact hAgC | exact agr_t hAgC hAg (by omega)
              have u676 : 1 ≤ (m.1 73) := by omega
              clear g640
              have hXE : XS F657 F661 (m.2 76) (m.2 78) (m.2 79) (m.2 80) B y645 (m.1 73) (m.1 74) (um y655) := by
                rw [show um y655 = 1 from if_neg (by omega)]
                exact XS_of hXS hEX (by omega)
              refine T_goto 219 rfl (fun _ => rfl) ?_
              refine T_ret rfl (fun _ => rfl) ?_
              exact ⟨y633, y635, y637, 0, y641, y643, y645, y647, y649, y651, y653, (m.1 73), (m.1 74), y655, F657, F659, F661, F663, (m.2 76), (m.2 77), (m.2 78), (m.2 79), (m.2 80), g634, g636, g638, ⟨by omega, by omega⟩, g642, g644, g646, g648, g650, g652, g654, f73, f74, g656, G658, G660, G662, G664, (hT.2.1 76), (hT.2.1 77), (hT.2.1 78), (hT.2.1 79), (hT.2.1 80), (by omega), (by first | (first | exact hLx | (intro h9; exfalso; omega)) | (exfalso; omega)), (fun _ => ⟨(by omega), (by omega), (by omega), (by omega), (by first | (exact hXE) | (exfalso; omega)), (by first | (exact hAgC) | (exfalso; omega))⟩), rfl⟩
            · skip
              clear c667
              clear h665
              replace h666 : LxP y633 y635 y637 (m.1 6) y639 := h666
              have hLx := h666
              have hf677 : 1 ≤ y639 := by omega
              refine T_goto 219 rfl (fun _ => rfl) ?_
              refine T_ret rfl (fun _ => rfl) ?_
              exact ⟨y633, y635, y637, y639, y641, y643, y645, y647, y649, y651, y653, (m.1 73), (m.1 74), y655, F657, F659, F661, F663, (m.2 76), (m.2 77), (m.2 78), (m.2 79), (m.2 80), g634, g636, g638, g640, g642, g644, g646, g648, g650, g652, g654, f73, f74, g656, G658, G660, G662, G664, (hT.2.1 76), (hT.2.1 77), (hT.2.1 78), (hT.2.1 79), (hT.2.1 80), (by omega), (by first | (first | exact hLx | (intro h9; exfalso; omega)) | (exfalso; omega)), (fun h => absurd h (by omega)), rfl⟩
        · skip
          refine T_gf 97 (.long (i64 (m.1 12))) rfl rfl rfl rfl rfl rfl ?_
          refine T_sto 98 [(2, .long (i64 (m.1 12))), (1, .int (i32 (m.1 8))), (0, .ref 189)] rfl (fun _ => rfl) ?_
          refine T_ld 99 (.ref 189) rfl (fun _ => rfl) ?_
          refine T_call 102 212 [.ref 189] [] rfl (fun _ => rfl) rfl (c_next w (mO m [(7, (m.1 7)), (8, (m.1 8)), (9, (m.1 9)), (10, (m.1 10)), (11, (m.1 11)), (12, (m.1 12)), (28, (m.1 28)), (69, (m.1 69)), (70, (m.1 70)), (71, (m.1 71)), (72, (m.1 72)), (73, (m.1 73)), (74, (m.1 74)), (75, (m.1 75))] [(65, (m.2 65)), (66, (m.2 66)), (67, (m.2 67)), (68, (m.2 68)), (76, (m.2 76)), (77, (m.2 77)), (78, (m.2 78)), (79, (m.2 79)), (80, (m.2 80))]) c N D (by omega) (Ty_mO hT rfl rfl ⟨f7, f8, f9, f10, f11, f12, f28, f69, f70, f71, f72, f73, f74, f75, trivial⟩ ⟨(hT.2.1 65), (hT.2.1 66), (hT.2.1 67), (hT.2.1 68), (hT.2.1 76), (hT.2.1 77), (hT.2.1 78), (hT.2.1 79), (hT.2.1 80), trivial⟩) (show (m.1 10) = 0 → (m.1 8) + (m.1 9) ≤ (m.1 6) by first | omega | (intro h9; have h8 := hLx h9; omega))) (fun rr678 k679 => ?_)
          obtain ⟨y680, y682, y684, y686, y688, y690, g681, g683, g685, g687, g689, g691, h692, h693, h694, h695, rfl⟩ := k679
          refine ⟨_, _, rfl, ?_⟩
          refine T_nf (st' := []) (l' := [(7, y680), (8, y682), (9, y684), (10, y686), (11, y688), (12, y690), (28, (m.1 28)), (69, (m.1 69)), (70, (m.1 70)), (71, (m.1 71)), (72, (m.1 72)), (73, (m.1 73)), (74, (m.1 74)), (75, (m.1 75))]) (a' := [(65, (m.2 65)), (66, (m.2 66)), (67, (m.2 67)), (68, (m.2 68)), (76, (m.2 76)), (77, (m.2 77)), (78, (m.2 78)), (79, (m.2 79)), (80, (m.2 80))]) rfl rfl rfl rfl rfl ?_
          by_cases hf696 : y686 = 0
          · skip
            subst hf696
            replace h692 : LxP y680 y682 y684 (m.1 6) (0 : Int) := h692
            have hLx := h692
            replace h693 : (m.1 10) = 0 := h693 rfl
            replace h694 : (m.1 8) ≤ y682 := h694
            replace h695 : (m.1 8) + (m.1 9) ≤ y682 := h695 rfl
            have u697 : (m.1 8) + 1 ≤ y682 := by omega
            have hAgC : agr (m.2 65) (m.2 65) (m.1 28) := by first | exact agr_r _ _ | exact hAgC | exact agr_t hAgC hAg (by omega)
            have u698 : 1 ≤ (m.1 73) := by omega
            clear g687
            have hAr : ar 400 ≤ 0 + lh (m.2 79) (m.2 80) (m.1 73) := by rw [show ar 400 = 0 from rfl]; omega
            have hCk : CNk 400 0 := by refine ⟨?_, ?_, ?_, ?_⟩ <;> omega
            refine T_ld 103 (.ref 189) rfl (fun _ => rfl) ?_
            refine T_ld 106 (.int (i32 400)) rfl (fun _ => rfl) ?_
            refine T_ld 108 (.int (i32 64)) rfl (fun _ => rfl) ?_
            refine T_ld 109 (.int (i32 0)) rfl (fun _ => rfl) ?_
            refine T_ld 110 (.long (i64 (m.1 12))) rfl (fun _ => rfl) ?_
            refine T_call 113 248 [.ref 189, .int (i32 400), .int (i32 64), .int (i32 0), .long (i64 (m.1 12))] [] rfl (fun _ => rfl) rfl (c_node w (mO m [(7, y680), (8, y682), (9, y684), (10, 0), (11, y688), (12, y690), (28, (m.1 28)), (69, (m.1 69)), (70, (m.1 70)), (71, (m.1 71)), (72, (m.1 72)), (73, (m.1 73)), (74, (m.1 74)), (75, (m.1 75))] [(65, (m.2 65)), (66, (m.2 66)), (67, (m.2 67)), (68, (m.2 68)), (76, (m.2 76)), (77, (m.2 77)), (78, (m.2 78)), (79, (m.2 79)), (80, (m.2 80))]) c N D (by omega) (Ty_mO hT rfl rfl ⟨g681, g683, g685, ⟨(by omega : (0 : Int) ≤ 0), (by omega : (0 : Int) ≤ 8)⟩, g689, g691, f28, f69, f70, f71, f72, f73, f74, f75, trivial⟩ ⟨(hT.2.1 65), (hT.2.1 66), (hT.2.1 67), (hT.2.1 68), (hT.2.1 76), (hT.2.1 77), (hT.2.1 78), (hT.2.1 79), (hT.2.1 80), trivial⟩) 400 64 0 (m.1 12) B (0 + lh (m.2 79) (m.2 80) (m.1 73)) ⟨by decide, by decide⟩ ⟨by decide, by decide⟩ ⟨by decide, by decide⟩ (r64 (by omega) (by omega)) (fun _ => ⟨(show 0 ≤ (400 : Int) ∧ (400 : Int) ≤ 408 by first | omega | decide), (show 0 ≤ (64 : Int) ∧ (64 : Int) ≤ 64 by first | omega | decide), (show 0 ≤ (0 : Int) ∧ (0 : Int) ≤ 191 by first | omega | decide), (show CNk (400 : Int) (0 : Int) by first | exact hCk | (refine ⟨?_, ?_, ?_, ?_⟩ <;> omega)), (show ar (400 : Int) ≤ (0 + lh (m.2 79) (m.2 80) (m.1 73)) by first | exact hAr | omega), (show EX (m.2 65) (m.2 67) B (m.1 28) (0 + lh (m.2 79) (m.2 80) (m.1 73)) by first | exact hEX | assumption)⟩)) (fun rr699 k700 => ?_)
            obtain ⟨y701, y703, y705, F707, F709, F711, F713, g702, g704, g706, G708, G710, G712, G714, h715, c716, rfl⟩ := k700
            refine ⟨_, _, rfl, ?_⟩
            refine T_nf (st' := []) (l' := [(7, y680), (8, y682), (9, y684), (10, y701), (11, y703), (12, y690), (28, y705), (69, (m.1 69)), (70, (m.1 70)), (71, (m.1 71)), (72, (m.1 72)), (73, (m.1 73)), (74, (m.1 74)), (75, (m.1 75))]) (a' := [(65, F707), (66, F709), (67, F711), (68, F713), (76, (m.2 76)), (77, (m.2 77)), (78, (m.2 78)), (79, (m.2 79)), (80, (m.2 80))]) rfl rfl rfl rfl rfl ?_
            by_cases hf717 : y701 = 0
            · skip
              subst hf717
              replace h715 : (0 : Int) = 0 := h715 rfl
              obtain ⟨c718, c719, c720⟩ := c716 rfl
              replace c718 : y705 = (m.1 28) + 1 := c718
              replace c719 : EX F707 F711 B y705 ((0 + lh (m.2 79) (m.2 80) (m.1 73)) + 1 - ar (400 : Int)) := c719
              have hEX := c719
              replace c720 : agr (m.2 65) F707 (m.1 28) := c720
              have hAg := c720
              clear c716
              have u721 : (m.1 8) + 1 ≤ y682 := by omega
              have hAgC : agr (m.2 65) F707 (m.1 28) := by first | exact agr_r _ _ | exact hAgC | exact agr_t hAgC hAg (by omega)
              have u722 : 1 ≤ (m.1 73) := by omega
              clear g689 g702
              refine T_ld 114 (.ref 189) rfl (fun _ => rfl) ?_
              refine T_ld 116 (.int (i32 64)) rfl (fun _ => rfl) ?_
              refine T_ld 117 (.int (i32 (m.1 8))) rfl (fun _ => rfl) ?_
              refine T_call 120 249 [.ref 189, .int (i32 64), .int (i32 (m.1 8))] [] rfl (fun _ => rfl) rfl (c_atom w (mO m [(7, y680), (8, y682), (9, y684), (10, 0), (11, y703), (12, y690), (28, y705), (69, (m.1 69)), (70, (m.1 70)), (71, (m.1 71)), (72, (m.1 72)), (73, (m.1 73)), (74, (m.1 74)), (75, (m.1 75))] [(65, F707), (66, F709), (67, F711), (68, F713), (76, (m.2 76)), (77, (m.2 77)), (78, (m.2 78)), (79, (m.2 79)), (80, (m.2 80))]) c N D (by omega) (Ty_mO hT rfl rfl ⟨g681, g683, g685, ⟨(by omega : (0 : Int) ≤ 0), (by omega : (0 : Int) ≤ 8)⟩, g704, g691, g706, f69, f70, f71, f72, f73, f74, f75, trivial⟩ ⟨G708, G710, G712, G714, (hT.2.1 76), (hT.2.1 77), (hT.2.1 78), (hT.2.1 79), (hT.2.1 80), trivial⟩) 64 (m.1 8) ⟨by decide, by decide⟩ (r32 (by omega) (by omega)) (show 0 ≤ (64 : Int) ∧ (64 : Int) ≤ 64 by omega) (show 0 ≤ (m.1 8) ∧ (m.1 8) ≤ 4000 by omega)) (fun rr723 k724 => ?_)
              obtain ⟨y725, y727, y729, y731, y733, g726, g728, g730, g732, g734, h735, rfl⟩ := k724
              refine ⟨_, _, rfl, ?_⟩
              refine T_nf (st' := []) (l' := [(7, y680), (8, y682), (9, y684), (10, 0), (11, y703), (12, y690), (28, y705), (69, y725), (70, y727), (71, y729), (72, y731), (73, (m.1 73)), (74, (m.1 74)), (75, y733)]) (a' := [(65, F707), (66, F709), (67, F711), (68, F713), (76, (m.2 76)), (77, (m.2 77)), (78, (m.2 78)), (79, (m.2 79)), (80, (m.2 80))]) rfl rfl rfl rfl rfl ?_
              replace h735 : (0 : Int) = 0 → y733 = 1 ∧ y725 = (64 : Int) := h735
              have u736 : (m.1 8) + 1 ≤ y682 := by omega
              have hAgC : agr (m.2 65) F707 (m.1 28) := by first | exact agr_r _ _ | exact hAgC | exact agr_t hAgC hAg (by omega)
              have u737 : 1 ≤ (m.1 73) := by omega
              refine T_ld 121 (.ref 189) rfl (fun _ => rfl) ?_
              refine T_ld 122 (.int (i32 1)) rfl (fun _ => rfl) ?_
              refine T_pf (l' := [(7, y680), (8, y682), (9, y684), (10, 0), (11, y703), (12, y690), (28, y705), (69, y725), (70, y727), (71, 1), (72, y731), (73, (m.1 73)), (74, (m.1 74)), (75, y733)]) 125 1 rfl rfl rfl rfl rfl rfl ?_
              refine T_ld 126 (.ref 189) rfl (fun _ => rfl) ?_
              refine T_ld 127 (.long (i64 (m.1 12))) rfl (fun _ => rfl) ?_
              refine T_pf (l' := [(7, y680), (8, y682), (9, y684), (10, 0), (11, y703), (12, y690), (28, y705), (69, y725), (70, y727), (71, 1), (72, (m.1 12)), (73, (m.1 73)), (74, (m.1 74)), (75, y733)]) 130 (m.1 12) rfl rfl rfl rfl rfl rfl ?_
              have g738 : (-9223372036854775808) ≤ (m.1 12) ∧ (m.1 12) ≤ 9223372036854775807 := ⟨by omega, by omega⟩
              have hXE : XS F707 F711 (m.2 76) (m.2 78) (m.2 79) (m.2 80) B y705 (m.1 73) (m.1 74) (um y733) := by
                rw [show um y733 = 1 from if_neg (by omega)]
                exact XS_of hXS hEX (by rw [show ar 400 = 0 from rfl]; omega)
              refine T_goto 219 rfl (fun _ => rfl) ?_
              refine T_ret rfl (fun _ => rfl) ?_
              exact ⟨y680, y682, y684, 0, y703, y690, y705, y725, y727, 1, (m.1 12), (m.1 73), (m.1 74), y733, F707, F709, F711, F713, (m.2 76), (m.2 77), (m.2 78), (m.2 79), (m.2 80), g681, g683, g685, ⟨by omega, by omega⟩, g704, g691, g706, g726, g728, ⟨by omega, by omega⟩, g738, f73, f74, g734, G708, G710, G712, G714, (hT.2.1 76), (hT.2.1 77), (hT.2.1 78), (hT.2.1 79), (hT.2.1 80), (by omega), (by first | (first | exact hLx | (intro h9; exfalso; omega)) | (exfalso; omega)), (fun _ => ⟨(by omega), (by omega), (by omega), (by omega), (by first | (exact hXE) | (exfalso; omega)), (by first | (exact hAgC) | (exfalso; omega))⟩), rfl⟩
            · skip
              clear c716
              clear h715
              have hf739 : 1 ≤ y701 := by omega
              clear g689
              refine Tm_lv (a := [(0, .ref 189), (1, .int (i32 (m.1 8))), (2, .long (i64 (m.1 12)))]) rfl rfl ⟨rfl, rfl, rfl, trivial⟩ ?_
              exact J113_227 y680 y682 y684 y701 y703 y690 y705 F707 F709 F711 F713 g681 g683 g685 g702 g704 g691 g706 G708 G710 G712 G714 (by omega) (by omega) (by omega)
          · skip
            replace h692 : LxP y680 y682 y684 (m.1 6) y686 := h692
            have hLx := h692
            clear h693
            replace h694 : (m.1 8) ≤ y682 := h694
            clear h695
            have hf740 : 1 ≤ y686 := by omega
            refine T_ld 103 (.ref 189) rfl (fun _ => rfl) ?_
            refine T_ld 106 (.int (i32 400)) rfl (fun _ => rfl) ?_
            refine T_ld 108 (.int (i32 64)) rfl (fun _ => rfl) ?_
            refine T_ld 109 (.int (i32 0)) rfl (fun _ => rfl) ?_
            refine T_ld 110 (.long (i64 (m.1 12))) rfl (fun _ => rfl) ?_
            refine T_call 113 248 [.ref 189, .int (i32 400), .int (i32 64), .int (i32 0), .long (i64 (m.1 12))] [] rfl (fun _ => rfl) rfl (c_node w (mO m [(7, y680), (8, y682), (9, y684), (10, y686), (11, y688), (12, y690), (28, (m.1 28)), (69, (m.1 69)), (70, (m.1 70)), (71, (m.1 71)), (72, (m.1 72)), (73, (m.1 73)), (74, (m.1 74)), (75, (m.1 75))] [(65, (m.2 65)), (66, (m.2 66)), (67, (m.2 67)), (68, (m.2 68)), (76, (m.2 76)), (77, (m.2 77)), (78, (m.2 78)), (79, (m.2 79)), (80, (m.2 80))]) c N D (by omega) (Ty_mO hT rfl rfl ⟨g681, g683, g685, g687, g689, g691, f28, f69, f70, f71, f72, f73, f74, f75, trivial⟩ ⟨(hT.2.1 65), (hT.2.1 66), (hT.2.1 67), (hT.2.1 68), (hT.2.1 76), (hT.2.1 77), (hT.2.1 78), (hT.2.1 79), (hT.2.1 80), trivial⟩) 400 64 0 (m.1 12) B (0 + lh (m.2 79) (m.2 80) (m.1 73)) ⟨by decide, by decide⟩ ⟨by decide, by decide⟩ ⟨by decide, by decide⟩ (r64 (by omega) (by omega)) (fun (h : y686 = 0) => absurd h (by omega))) (fun rr741 k742 => ?_)
            obtain ⟨y743, y745, y747, F749, F751, F753, F755, g744, g746, g748, G750, G752, G754, G756, h757, c758, rfl⟩ := k742
            refine ⟨_, _, rfl, ?_⟩
            refine T_nf (st' := []) (l' := [(7, y680), (8, y682), (9, y684), (10, y743), (11, y745), (12, y690), (28, y747), (69, (m.1 69)), (70, (m.1 70)), (71, (m.1 71)), (72, (m.1 72)), (73, (m.1 73)), (74, (m.1 74)), (75, (m.1 75))]) (a' := [(65, F749), (66, F751), (67, F753), (68, F755), (76, (m.2 76)), (77, (m.2 77)), (78, (m.2 78)), (79, (m.2 79)), (80, (m.2 80))]) rfl rfl rfl rfl rfl ?_
            replace h757 : y743 = 0 → y686 = 0 := h757
            have hf759 : 1 ≤ y743 := by omega
            clear c758
            clear h757
            clear g687 g689 h692 hf740
            refine Tm_lv (a := [(0, .ref 189), (1, .int (i32 (m.1 8))), (2, .long (i64 (m.1 12)))]) rfl rfl ⟨rfl, rfl, rfl, trivial⟩ ?_
            exact J113_227 y680 y682 y684 y743 y745 y690 y747 F749 F751 F753 F755 g681 g683 g685 g744 g746 g691 g748 G750 G752 G754 G756 (by omega) (by omega) (by omega)
      · skip
        refine T_gf 36 (.int (i32 (m.1 74))) rfl rfl rfl rfl rfl rfl ?_
        refine T_ld 38 (.int (i32 24)) rfl (fun _ => rfl) ?_
        refine T_icmp 50 41 rfl rfl rfl (r32 (by omega) (by omega)) ⟨by decide, by decide⟩ (fun (h760 : (m.1 74) ≠ 24) => ?_) (fun (h760 : ¬ ((m.1 74) ≠ 24)) => ?_)
        · skip
          refine T_gf 54 (.int (i32 (m.1 10))) rfl rfl rfl rfl rfl rfl ?_
          refine T_if 58 57 rfl rfl rfl (r32 (by omega) (by omega)) (fun (h761 : (m.1 10) ≤ 0) => ?_) (fun (h761 : ¬ ((m.1 10) ≤ 0)) => by exfalso; omega)
          refine T_ld 59 (.ref 189) rfl (fun _ => rfl) ?_
          refine T_ld 60 (.ref 189) rfl (fun _ => rfl) ?_
          refine T_gf1 63 (.int (i32 (m.1 74))) rfl rfl rfl rfl ?_
          refine T_ld 64 (.int (i32 1)) rfl (fun _ => rfl) ?_
          refine T_iadd 65 rfl rfl ?_
          refine T_pf (l' := [(7, (m.1 7)), (8, (m.1 8)), (9, (m.1 9)), (10, (m.1 10)), (11, (m.1 11)), (12, (m.1 12)), (28, (m.1 28)), (69, (m.1 69)), (70, (m.1 70)), (71, (m.1 71)), (72, (m.1 72)), (73, (m.1 73)), (74, (m.1 74) + 1), (75, (m.1 75))]) 68 ((m.1 74) + 1) rfl rfl rfl rfl rfl rfl ?_
          have g762 : 0 ≤ (m.1 74) + 1 ∧ (m.1 74) + 1 ≤ 24 := ⟨by omega, by omega⟩
          refine T_ld 69 (.ref 189) rfl (fun _ => rfl) ?_
          refine T_ld 70 (.int (i32 1)) rfl (fun _ => rfl) ?_
          refine T_ld 71 (.int (i32 (m.1 8))) rfl (fun _ => rfl) ?_
          refine T_gf 75 (.int (i32 (m.1 7))) rfl rfl rfl rfl rfl rfl ?_
          refine T_call 78 246 [.ref 189, .int (i32 1), .int (i32 (m.1 8)), .int (i32 (m.1 7))] [] rfl (fun _ => rfl) rfl (c_open w (mO m [(7, (m.1 7)), (8, (m.1 8)), (9, (m.1 9)), (10, (m.1 10)), (11, (m.1 11)), (12, (m.1 12)), (28, (m.1 28)), (69, (m.1 69)), (70, (m.1 70)), (71, (m.1 71)), (72, (m.1 72)), (73, (m.1 73)), (74, (m.1 74) + 1), (75, (m.1 75))] [(65, (m.2 65)), (66, (m.2 66)), (67, (m.2 67)), (68, (m.2 68)), (76, (m.2 76)), (77, (m.2 77)), (78, (m.2 78)), (79, (m.2 79)), (80, (m.2 80))]) c N D (by omega) (Ty_mO hT rfl rfl ⟨f7, f8, f9, f10, f11, f12, f28, f69, f70, f71, f72, f73, g762, f75, trivial⟩ ⟨(hT.2.1 65), (hT.2.1 66), (hT.2.1 67), (hT.2.1 68), (hT.2.1 76), (hT.2.1 77), (hT.2.1 78), (hT.2.1 79), (hT.2.1 80), trivial⟩) 1 (m.1 8) (m.1 7) ⟨by decide, by decide⟩ (r32 (by omega) (by omega)) (r32 (by omega) (by omega)) (show (m.1 73) ≤ 59 by omega) (show 0 ≤ (1 : Int) ∧ (1 : Int) ≤ 2 by omega) (show 0 ≤ (m.1 8) ∧ (m.1 8) ≤ 4000 by omega) (show 0 ≤ (m.1 7) ∧ (m.1 7) ≤ 330 by omega)) (fun rr763 k764 => ?_)
          obtain ⟨y765, F767, F769, F771, F773, F775, g766, G768, G770, G772, G774, G776, h777, h778, h779, h780, h781, h782, rfl⟩ := k764
          refine ⟨_, _, rfl, ?_⟩
          refine T_nf (st' := []) (l' := [(7, (m.1 7)), (8, (m.1 8)), (9, (m.1 9)), (10, (m.1 10)), (11, (m.1 11)), (12, (m.1 12)), (28, (m.1 28)), (69, (m.1 69)), (70, (m.1 70)), (71, (m.1 71)), (72, (m.1 72)), (73, y765), (74, (m.1 74) + 1), (75, (m.1 75))]) (a' := [(65, (m.2 65)), (66, (m.2 66)), (67, (m.2 67)), (68, (m.2 68)), (76, F767), (77, F769), (78, F771), (79, F773), (80, F775)]) rfl rfl rfl rfl rfl ?_
          replace h777 : y765 = (m.1 73) + 1 := h777
          have hO0 := h777
          replace h778 : F767 = upI (m.2 76) (m.1 73) (1 : Int) := h778
          have hO1 := h778
          replace h779 : F771 = upI (m.2 78) (m.1 73) (m.1 7) := h779
          have hO2 := h779
          replace h780 : F773 = upI (m.2 79) (m.1 73) 0 := h780
          have hO3 := h780
          replace h781 : ∀ j, j < 9 * (m.1 73) → F775 j = (m.2 80) j := h781
          have hW1 := h781
          replace h782 : ∀ j, 9 * (m.1 73) ≤ j → j < 9 * (m.1 73) + 9 → F775 j = -1 := h782
          have hW2 := h782
          have u783 : (m.1 8) ≤ (m.1 8) := by omega
          have hAgC : agr (m.2 65) (m.2 65) (m.1 28) := by first | exact agr_r _ _ | exact hAgC | exact agr_t hAgC hAg (by omega)
          have u784 : 1 ≤ y765 := by omega
          refine T_ld 79 (.ref 189) rfl (fun _ => rfl) ?_
          refine T_call 82 212 [.ref 189] [] rfl (fun _ => rfl) rfl (c_next w (mO m [(7, (m.1 7)), (8, (m.1 8)), (9, (m.1 9)), (10, (m.1 10)), (11, (m.1 11)), (12, (m.1 12)), (28, (m.1 28)), (69, (m.1 69)), (70, (m.1 70)), (71, (m.1 71)), (72, (m.1 72)), (73, y765), (74, (m.1 74) + 1), (75, (m.1 75))] [(65, (m.2 65)), (66, (m.2 66)), (67, (m.2 67)), (68, (m.2 68)), (76, F767), (77, F769), (78, F771), (79, F773), (80, F775)]) c N D (by omega) (Ty_mO hT rfl rfl ⟨f7, f8, f9, f10, f11, f12, f28, f69, f70, f71, f72, g766, g762, f75, trivial⟩ ⟨(hT.2.1 65), (hT.2.1 66), (hT.2.1 67), (hT.2.1 68), G768, G770, G772, G774, G776, trivial⟩) (show (m.1 10) = 0 → (m.1 8) + (m.1 9) ≤ (m.1 6) by first | omega | (intro h9; have h8 := hLx h9; omega))) (fun rr785 k786 => ?_)
          obtain ⟨y787, y789, y791, y793, y795, y797, g788, g790, g792, g794, g796, g798, h799, h800, h801, h802, rfl⟩ := k786
          refine ⟨_, _, rfl, ?_⟩
          refine T_nf (st' := []) (l' := [(7, y787), (8, y789), (9, y791), (10, y793), (11, y795), (12, y797), (28, (m.1 28)), (69, (m.1 69)), (70, (m.1 70)), (71, (m.1 71)), (72, (m.1 72)), (73, y765), (74, (m.1 74) + 1), (75, (m.1 75))]) (a' := [(65, (m.2 65)), (66, (m.2 66)), (67, (m.2 67)), (68, (m.2 68)), (76, F767), (77, F769), (78, F771), (79, F773), (80, F775)]) rfl rfl rfl rfl rfl ?_
          by_cases hf803 : y793 = 0
          · skip
            subst hf803
            replace h799 : LxP y787 y789 y791 (m.1 6) (0 : Int) := h799
            have hLx := h799
            replace h800 : (m.1 10) = 0 := h800 rfl
            replace h801 : (m.1 8) ≤ y789 := h801
            replace h802 : (m.1 8) + (m.1 9) ≤ y789 := h802 rfl
            have u804 : (m.1 8) + 1 ≤ y789 := by omega
            have hAgC : agr (m.2 65) (m.2 65) (m.1 28) := by first | exact agr_r _ _ | exact hAgC | exact agr_t hAgC hAg (by omega)
            have u805 : 1 ≤ y765 := by omega
            clear g794
            have hXE : XS (m.2 65) (m.2 67) F767 F771 F773 F775 B (m.1 28) y765 ((m.1 74) + 1) (um (m.1 75)) := by
              rw [hO0, hO1, hO2, hO3, show um (m.1 75) = 0 from if_pos (by omega)]
              exact XS_pre hXS (by omega) (by omega) hW1 hW2
            refine T_goto 219 rfl (fun _ => rfl) ?_
            refine T_ret rfl (fun _ => rfl) ?_
            exact ⟨y787, y789, y791, 0, y795, y797, (m.1 28), (m.1 69), (m.1 70), (m.1 71), (m.1 72), y765, (m.1 74) + 1, (m.1 75), (m.2 65), (m.2 66), (m.2 67), (m.2 68), F767, F769, F771, F773, F775, g788, g790, g792, ⟨by omega, by omega⟩, g796, g798, f28, f69, f70, f71, f72, g766, g762, f75, (hT.2.1 65), (hT.2.1 66), (hT.2.1 67), (hT.2.1 68), G768, G770, G772, G774, G776, (by omega), (by first | (first | exact hLx | (intro h9; exfalso; omega)) | (exfalso; omega)), (fun _ => ⟨(by omega), (by omega), (by omega), (by omega), (by first | (exact hXE) | (exfalso; omega)), (by first | (exact hAgC) | (exfalso; omega))⟩), rfl⟩
          · skip
            replace h799 : LxP y787 y789 y791 (m.1 6) y793 := h799
            have hLx := h799
            clear h800
            replace h801 : (m.1 8) ≤ y789 := h801
            clear h802
            have hf806 : 1 ≤ y793 := by omega
            refine Tm_lv (a := [(0, .ref 189), (1, .int (i32 (m.1 8)))]) rfl rfl ⟨rfl, rfl, trivial⟩ ?_
            exact J82_269 y787 y789 y791 y793 y795 y797 y765 F767 F769 F771 F773 F775 g788 g790 g792 g794 g796 g798 g766 G768 G770 G772 G774 G776 (by omega) (by omega) (by omega) (by omega)
        · skip
          refine T_ld 42 (.ref 189) rfl (fun _ => rfl) ?_
          refine T_ld 43 (.int (i32 4)) rfl (fun _ => rfl) ?_
          refine T_gf 47 (.int (i32 (m.1 8))) rfl rfl rfl rfl rfl rfl ?_
          refine T_call 50 222 [.ref 189, .int (i32 4), .int (i32 (m.1 8))] [] rfl (fun _ => rfl) rfl (c_wrong w (mO m [(7, (m.1 7)), (8, (m.1 8)), (9, (m.1 9)), (10, (m.1 10)), (11, (m.1 11)), (12, (m.1 12)), (28, (m.1 28)), (69, (m.1 69)), (70, (m.1 70)), (71, (m.1 71)), (72, (m.1 72)), (73, (m.1 73)), (74, (m.1 74)), (75, (m.1 75))] [(65, (m.2 65)), (66, (m.2 66)), (67, (m.2 67)), (68, (m.2 68)), (76, (m.2 76)), (77, (m.2 77)), (78, (m.2 78)), (79, (m.2 79)), (80, (m.2 80))]) c N D (by omega) (Ty_mO hT rfl rfl ⟨f7, f8, f9, f10, f11, f12, f28, f69, f70, f71, f72, f73, f74, f75, trivial⟩ ⟨(hT.2.1 65), (hT.2.1 66), (hT.2.1 67), (hT.2.1 68), (hT.2.1 76), (hT.2.1 77), (hT.2.1 78), (hT.2.1 79), (hT.2.1 80), trivial⟩) 4 (m.1 8) ⟨by decide, by decide⟩ (r32 (by omega) (by omega)) (show 1 ≤ (4 : Int) ∧ (4 : Int) ≤ 8 by omega) (show 0 ≤ (m.1 8) ∧ (m.1 8) ≤ 4000 by omega)) (fun rr807 k808 => ?_)
          obtain ⟨y809, y811, g810, g812, h813, rfl⟩ := k808
          refine ⟨_, _, rfl, ?_⟩
          refine T_nf (st' := []) (l' := [(7, (m.1 7)), (8, (m.1 8)), (9, (m.1 9)), (10, y809), (11, y811), (12, (m.1 12)), (28, (m.1 28)), (69, (m.1 69)), (70, (m.1 70)), (71, (m.1 71)), (72, (m.1 72)), (73, (m.1 73)), (74, (m.1 74)), (75, (m.1 75))]) (a' := [(65, (m.2 65)), (66, (m.2 66)), (67, (m.2 67)), (68, (m.2 68)), (76, (m.2 76)), (77, (m.2 77)), (78, (m.2 78)), (79, (m.2 79)), (80, (m.2 80))]) rfl rfl rfl rfl rfl ?_
          replace h813 : (0 < (m.1 10) → y809 = (m.1 10) ∧ y811 = (m.1 11)) ∧ ((m.1 10) ≤ 0 → y809 = (4 : Int) ∧ y811 = (m.1 8)) := h813
          have hf814 : 1 ≤ y809 := by omega
          refine Tm_lv (a := [(0, .ref 189), (1, .int (i32 (m.1 8)))]) rfl rfl ⟨rfl, rfl, trivial⟩ ?_
          exact J50_289 y809 y811 g810 g812 (by omega) (by omega) (by omega)
