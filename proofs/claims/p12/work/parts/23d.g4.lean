def Q_takeName (m : mR) (c : Nat → Option am_C) (N : Nat) (p : Int) (B : Int) (h : Int) : ag_Re af_T → Prop := fun R => ∃ (y7 : Int) (y8 : Int) (y9 : Int) (y10 : Int) (y11 : Int) (y12 : Int) (y28 : Int) (y69 : Int) (y70 : Int) (y71 : Int) (y72 : Int) (y75 : Int) (F65 : Int → Int) (F66 : Int → Int) (F67 : Int → Int) (F68 : Int → Int), (0 ≤ y7 ∧ y7 ≤ 330) ∧ (0 ≤ y8 ∧ y8 ≤ 4000) ∧ (0 ≤ y9 ∧ y9 ≤ 4000) ∧ (0 ≤ y10 ∧ y10 ≤ 8) ∧ ((-1) ≤ y11 ∧ y11 ≤ 4000) ∧ ((-9223372036854775808) ≤ y12 ∧ y12 ≤ 9223372036854775807) ∧ (0 ≤ y28 ∧ y28 ≤ 800) ∧ (0 ≤ y69 ∧ y69 ≤ 1024) ∧ (0 ≤ y70 ∧ y70 ≤ 4000) ∧ (0 ≤ y71 ∧ y71 ≤ 1) ∧ ((-9223372036854775808) ≤ y72 ∧ y72 ≤ 9223372036854775807) ∧ (0 ≤ y75 ∧ y75 ≤ 3) ∧ (∀ j, 0 ≤ F65 j ∧ F65 j ≤ 408) ∧ (∀ j, 0 ≤ F66 j ∧ F66 j ≤ 64) ∧ (∀ j, 0 ≤ F67 j ∧ F67 j ≤ 191) ∧ (∀ j, (-9223372036854775808) ≤ F68 j ∧ F68 j ≤ 9223372036854775807) ∧ (y10 = 0 → (m.1 10) = 0) ∧ (LxP y7 y8 y9 (m.1 6) y10) ∧ (y10 = 0 → ((m.1 8) + 1 ≤ y8) ∧ (y75 = 1) ∧ (y69 ≤ 64) ∧ (y28 = (m.1 28) + 1) ∧ (EX F65 F67 B y28 (h + 1)) ∧ (agr (m.2 65) F65 (m.1 28))) ∧ R = (.inl (none), (mhp (mO m [(7, y7), (8, y8), (9, y9), (10, y10), (11, y11), (12, y12), (28, y28), (69, y69), (70, y70), (71, y71), (72, y72), (75, y75)] [(65, F65), (66, F66), (67, F67), (68, F68)]) c, N), 0, 0)
set_option maxHeartbeats 8000000 in
theorem c_takeName (w : wX) (m : mR) (c : Nat → Option am_C) (N D : Nat) (hD : 7 ≤ D) (hT : Ty m) (p : Int) (B : Int) (h : Int) (qp : R32 p) (hLx0 : LxP (m.1 7) (m.1 8) (m.1 9) (m.1 6) (m.1 10)) (hNM0 : ∀ k, (m.2 14) k + (m.2 15) k ≤ 4000) (hFA0 : ∀ k, (m.2 31) k + (m.2 32) k ≤ 4000) (hPA0 : ∀ k, (m.2 47) k + (m.2 48) k ≤ 4000) (p4 : 0 ≤ p ∧ p ≤ 4000) (hf0 : m.1 10 = 0) (hC : (PN (m.1 13) (m.1 19) (m.1 20) (m.1 21) (m.1 22) (m.1 23) (m.1 25) (m.1 26) (m.2 16) (m.2 17)) ∧ ((m.1 7) = 1) ∧ (EX (m.2 65) (m.2 67) B (m.1 28) h) ∧ (0 ≤ h)) : TC w D 251 [.ref 189, .int (i32 p)] (mhp m c, N) (Q_takeName m c N p B h) := by
  obtain ⟨D, rfl⟩ : ∃ k, D = k + 1 := ⟨D - 1, by omega⟩
  obtain ⟨qpa, qpb⟩ := id qp
  have hLx := hLx0
  have hNM := hNM0
  have hFA := hFA0
  have hPA := hPA0
  have f7 : 0 ≤ m.1 7 ∧ m.1 7 ≤ 330 := hT.1 7
  have f8 : 0 ≤ m.1 8 ∧ m.1 8 ≤ 4000 := hT.1 8
  have f9 : 0 ≤ m.1 9 ∧ m.1 9 ≤ 4000 := hT.1 9
  have f10 : 0 ≤ m.1 10 ∧ m.1 10 ≤ 8 := hT.1 10
  have f11 : (-1) ≤ m.1 11 ∧ m.1 11 ≤ 4000 := hT.1 11
  have f12 : (-9223372036854775808) ≤ m.1 12 ∧ m.1 12 ≤ 9223372036854775807 := hT.1 12
  have f28 : 0 ≤ m.1 28 ∧ m.1 28 ≤ 800 := hT.1 28
  have f69 : 0 ≤ m.1 69 ∧ m.1 69 ≤ 1024 := hT.1 69
  have f70 : 0 ≤ m.1 70 ∧ m.1 70 ≤ 4000 := hT.1 70
  have f71 : 0 ≤ m.1 71 ∧ m.1 71 ≤ 1 := hT.1 71
  have f72 : (-9223372036854775808) ≤ m.1 72 ∧ m.1 72 ≤ 9223372036854775807 := hT.1 72
  have f75 : 0 ≤ m.1 75 ∧ m.1 75 ≤ 3 := hT.1 75
  have f25 : 0 ≤ m.1 25 ∧ m.1 25 ≤ 16 := hT.1 25
  have f22 : 0 ≤ m.1 22 ∧ m.1 22 ≤ 8 := hT.1 22
  have f19 : 0 ≤ m.1 19 ∧ m.1 19 ≤ 12 := hT.1 19
  have f20 : 0 ≤ m.1 20 ∧ m.1 20 ≤ 12 := hT.1 20
  have f21 : 0 ≤ m.1 21 ∧ m.1 21 ≤ 16 := hT.1 21
  have f13 : 0 ≤ m.1 13 ∧ m.1 13 ≤ 120 := hT.1 13
  have f6 : 0 ≤ m.1 6 ∧ m.1 6 ≤ 4000 := hT.1 6
  have f23 : 0 ≤ m.1 23 ∧ m.1 23 ≤ 16 := hT.1 23
  have f26 : 0 ≤ m.1 26 ∧ m.1 26 ≤ 8 := hT.1 26
  refine Tc_of rfl ?_
  show TT w D pm_251 (0, [(0, .ref 189), (1, .int (i32 p))], [], (mhp m c, N), 0, 0) (Q_takeName m c N p B h)
  rw [show (mhp m c, N) = (mhp (mO m [(7, (m.1 7)), (8, (m.1 8)), (9, (m.1 9)), (10, (m.1 10)), (11, (m.1 11)), (12, (m.1 12)), (28, (m.1 28)), (69, (m.1 69)), (70, (m.1 70)), (71, (m.1 71)), (72, (m.1 72)), (75, (m.1 75))] [(65, (m.2 65)), (66, (m.2 66)), (67, (m.2 67)), (68, (m.2 68))]) c, N) from congrArg (fun M => (mhp M c, N)) (mO_pad m [7, 8, 9, 10, 11, 12, 28, 69, 70, 71, 72, 75] [65, 66, 67, 68])]
  obtain ⟨pPN, c1, hEX, c2⟩ := hC
  have h7 := hLx (by omega)
  have pmt := pPN.2.1
  have J150_87 : ∀ (v71 : Int) (v72 : Int) (v73 : Int) (v74 : Int) (v75 : Int) (y76 : Int) (y77 : Int) (y78 : Int) (y79 : Int) (y80 : Int) (y81 : Int) (y82 : Int) (F83 : Int → Int) (F84 : Int → Int) (F85 : Int → Int) (F86 : Int → Int), (R32 v71) → (R32 v72) → (R32 v73) → (R32 v74) → (R32 v75) → (0 ≤ y76 ∧ y76 ≤ 330) → (0 ≤ y77 ∧ y77 ≤ 4000) → (0 ≤ y78 ∧ y78 ≤ 4000) → (0 ≤ y79 ∧ y79 ≤ 8) → ((-1) ≤ y80 ∧ y80 ≤ 4000) → ((-9223372036854775808) ≤ y81 ∧ y81 ≤ 9223372036854775807) → (0 ≤ y82 ∧ y82 ≤ 800) → (∀ j, 0 ≤ F83 j ∧ F83 j ≤ 408) → (∀ j, 0 ≤ F84 j ∧ F84 j ≤ 64) → (∀ j, 0 ≤ F85 j ∧ F85 j ≤ 191) → (∀ j, (-9223372036854775808) ≤ F86 j ∧ F86 j ≤ 9223372036854775807) → ((-2147483648) ≤ v71) → (v71 ≤ 2147483647) → (0 ≤ v73) → (v73 ≤ 64) → (401 ≤ v74) → (v74 ≤ 403) → (1 ≤ y79) → (y79 ≤ 8) → TT w D pm_251 (150, [(0, .ref 189), (1, .int (i32 p)), (2, .int (i32 v71)), (3, .int (i32 v72)), (4, .int (i32 v73)), (5, .int (i32 v74)), (6, .int (i32 v75))], [], (mhp (mO m [(7, y76), (8, y77), (9, y78), (10, y79), (11, y80), (12, y81), (28, y82), (69, (m.1 69)), (70, (m.1 70)), (71, (m.1 71)), (72, (m.1 72)), (75, (m.1 75))] [(65, F83), (66, F84), (67, F85), (68, F86)]) c, N), 0, 0) (Q_takeName m c N p B h) := by
    intro v71 v72 v73 v74 v75 y76 y77 y78 y79 y80 y81 y82 F83 F84 F85 F86 q88 q89 q90 q91 q92 q93 q94 q95 q96 q97 q98 q99 q100 q101 q102 q103 ic104 ic105 ic106 ic107 ic108 ic109 ic110 ic111
    obtain ⟨q88a, q88b⟩ := id q88
    obtain ⟨q89a, q89b⟩ := id q89
    obtain ⟨q90a, q90b⟩ := id q90
    obtain ⟨q91a, q91b⟩ := id q91
    obtain ⟨q92a, q92b⟩ := id q92
    refine T_ld 151 (.ref 189) rfl (fun _ => rfl) ?_
    refine T_ld 153 (.int (i32 v73)) rfl (fun _ => rfl) ?_
    refine T_ld 154 (.int (i32 p)) rfl (fun _ => rfl) ?_
    refine T_call 157 249 [.ref 189, .int (i32 v73), .int (i32 p)] [] rfl (fun _ => rfl) rfl (c_atom w (mO m [(7, y76), (8, y77), (9, y78), (10, y79), (11, y80), (12, y81), (28, y82), (69, (m.1 69)), (70, (m.1 70)), (71, (m.1 71)), (72, (m.1 72)), (75, (m.1 75))] [(65, F83), (66, F84), (67, F85), (68, F86)]) c N D (by omega) (Ty_mO hT rfl rfl ⟨q93, q94, q95, q96, q97, q98, q99, f69, f70, f71, f72, f75, trivial⟩ ⟨q100, q101, q102, q103, trivial⟩) v73 p (r32 (by omega) (by omega)) (r32 (by omega) (by omega)) (show 0 ≤ v73 ∧ v73 ≤ 64 by omega) (show 0 ≤ p ∧ p ≤ 4000 by omega)) (fun rr113 k114 => ?_)
    obtain ⟨y115, y117, y119, y121, y123, g116, g118, g120, g122, g124, h125, rfl⟩ := k114
    refine ⟨_, _, rfl, ?_⟩
    refine T_nf (st' := []) (l' := [(7, y76), (8, y77), (9, y78), (10, y79), (11, y80), (12, y81), (28, y82), (69, y115), (70, y117), (71, y119), (72, y121), (75, y123)]) (a' := [(65, F83), (66, F84), (67, F85), (68, F86)]) rfl rfl rfl rfl rfl ?_
    replace h125 : y79 = 0 → y123 = 1 ∧ y115 = v73 := h125
    refine T_ret rfl (fun _ => rfl) ?_
    exact ⟨y76, y77, y78, y79, y80, y81, y82, y115, y117, y119, y121, y123, F83, F84, F85, F86, q93, q94, q95, q96, q97, q98, q99, g116, g118, g120, g122, g124, q100, q101, q102, q103, (by omega), (by first | (first | exact hLx | (intro h9; exfalso; omega)) | (exfalso; omega)), (fun h => absurd h (by omega)), rfl⟩
  have J109_136 : ∀ (v126 : Int) (v127 : Int) (v128 : Int) (s129 : Int) (y130 : Int) (y131 : Int) (y132 : Int) (y133 : Int) (y134 : Int) (y135 : Int), (R32 v126) → (R32 v127) → (R32 v128) → (R32 s129) → (0 ≤ y130 ∧ y130 ≤ 330) → (0 ≤ y131 ∧ y131 ≤ 4000) → (0 ≤ y132 ∧ y132 ≤ 4000) → (0 ≤ y133 ∧ y133 ≤ 8) → ((-1) ≤ y134 ∧ y134 ≤ 4000) → ((-9223372036854775808) ≤ y135 ∧ y135 ≤ 9223372036854775807) → ((-2147483648) ≤ v126) → (v126 ≤ (-1)) → (2 ≤ v127) → (v127 ≤ 2) → (0 ≤ s129) → (s129 ≤ 191) → (1 ≤ y133) → (y133 ≤ 8) → TT w D pm_251 (109, [(0, .ref 189), (1, .int (i32 p)), (2, .int (i32 v126)), (3, .int (i32 v127)), (4, .int (i32 1)), (5, .int (i32 401)), (6, .int (i32 v128))], [.int (i32 s129)], (mhp (mO m [(7, y130), (8, y131), (9, y132), (10, y133), (11, y134), (12, y135), (28, (m.1 28)), (69, (m.1 69)), (70, (m.1 70)), (71, (m.1 71)), (72, (m.1 72)), (75, (m.1 75))] [(65, (m.2 65)), (66, (m.2 66)), (67, (m.2 67)), (68, (m.2 68))]) c, N), 0, 0) (Q_takeName m c N p B h) := by
    intro v126 v127 v128 s129 y130 y131 y132 y133 y134 y135 q137 q138 q139 q140 q141 q142 q143 q144 q145 q146 ic147 ic148 ic149 ic150 ic151 ic152 ic153 ic154
    obtain ⟨q137a, q137b⟩ := id q137
    obtain ⟨q138a, q138b⟩ := id q138
    obtain ⟨q139a, q139b⟩ := id q139
    obtain ⟨q140a, q140b⟩ := id q140
    refine T_sto 111 [(6, .int (i32 s129)), (0, .ref 189), (1, .int (i32 p)), (2, .int (i32 v126)), (3, .int (i32 v127)), (4, .int (i32 1)), (5, .int (i32 401))] rfl (fun _ => rfl) ?_
    refine T_gf 115 (.int (i32 y133)) rfl rfl rfl rfl rfl rfl ?_
    refine T_if 139 118 rfl rfl rfl (r32 (by omega) (by omega)) (fun (h156 : y133 ≠ 0) => ?_) (fun (h156 : ¬ (y133 ≠ 0)) => by exfalso; omega)
    refine T_ld 140 (.ref 189) rfl (fun _ => rfl) ?_
    refine T_ld 142 (.int (i32 401)) rfl (fun _ => rfl) ?_
    refine T_ld 144 (.int (i32 1)) rfl (fun _ => rfl) ?_
    refine T_ld 146 (.int (i32 s129)) rfl (fun _ => rfl) ?_
    refine T_ld 147 (.long (i64 0)) rfl (fun _ => rfl) ?_
    refine T_call 150 248 [.ref 189, .int (i32 401), .int (i32 1), .int (i32 s129), .long (i64 0)] [] rfl (fun _ => rfl) rfl (c_node w (mO m [(7, y130), (8, y131), (9, y132), (10, y133), (11, y134), (12, y135), (28, (m.1 28)), (69, (m.1 69)), (70, (m.1 70)), (71, (m.1 71)), (72, (m.1 72)), (75, (m.1 75))] [(65, (m.2 65)), (66, (m.2 66)), (67, (m.2 67)), (68, (m.2 68))]) c N D (by omega) (Ty_mO hT rfl rfl ⟨q141, q142, q143, q144, q145, q146, f28, f69, f70, f71, f72, f75, trivial⟩ ⟨(hT.2.1 65), (hT.2.1 66), (hT.2.1 67), (hT.2.1 68), trivial⟩) 401 1 s129 0 B h ⟨by decide, by decide⟩ ⟨by decide, by decide⟩ (r32 (by omega) (by omega)) ⟨by decide, by decide⟩ (fun (h : y133 = 0) => absurd h (by omega))) (fun rr157 k158 => ?_)
    obtain ⟨y159, y161, y163, F165, F167, F169, F171, g160, g162, g164, G166, G168, G170, G172, h173, c174, rfl⟩ := k158
    refine ⟨_, _, rfl, ?_⟩
    refine T_nf (st' := []) (l' := [(7, y130), (8, y131), (9, y132), (10, y159), (11, y161), (12, y135), (28, y163), (69, (m.1 69)), (70, (m.1 70)), (71, (m.1 71)), (72, (m.1 72)), (75, (m.1 75))]) (a' := [(65, F165), (66, F167), (67, F169), (68, F171)]) rfl rfl rfl rfl rfl ?_
    replace h173 : y159 = 0 → y133 = 0 := h173
    have hf175 : 1 ≤ y159 := by omega
    clear c174
    clear h173
    clear q139a q139b q139 q144 q145 ic153 ic154 h156
    refine Tm_lv (a := [(0, .ref 189), (1, .int (i32 p)), (2, .int (i32 v126)), (3, .int (i32 v127)), (4, .int (i32 1)), (5, .int (i32 401)), (6, .int (i32 s129))]) rfl rfl ⟨rfl, rfl, rfl, rfl, rfl, rfl, rfl, trivial⟩ ?_
    exact J150_87 v126 v127 1 401 s129 y130 y131 y132 y159 y161 y135 y163 F165 F167 F169 F171 (r32 (by omega) (by omega)) (r32 (by omega) (by omega)) ⟨by decide, by decide⟩ ⟨by decide, by decide⟩ (r32 (by omega) (by omega)) q141 q142 q143 g160 g162 q146 g164 G166 G168 G170 G172 (by omega) (by omega) (by omega) (by omega) (by omega) (by omega) (by omega) (by omega)
  have J103_185 : ∀ (v176 : Int) (v177 : Int) (v178 : Int) (y179 : Int) (y180 : Int) (y181 : Int) (y182 : Int) (y183 : Int) (y184 : Int), (R32 v176) → (R32 v177) → (R32 v178) → (0 ≤ y179 ∧ y179 ≤ 330) → (0 ≤ y180 ∧ y180 ≤ 4000) → (0 ≤ y181 ∧ y181 ≤ 4000) → (0 ≤ y182 ∧ y182 ≤ 8) → ((-1) ≤ y183 ∧ y183 ≤ 4000) → ((-9223372036854775808) ≤ y184 ∧ y184 ≤ 9223372036854775807) → ((-2147483648) ≤ v176) → (v176 ≤ (-1)) → (2 ≤ v177) → (v177 ≤ 2) → (1 ≤ y182) → (y182 ≤ 8) → (0 ≤ v178 ∧ v178 ≤ 11) → TT w D pm_251 (103, [(0, .ref 189), (1, .int (i32 p)), (2, .int (i32 v176)), (3, .int (i32 v177)), (4, .int (i32 1)), (5, .int (i32 401)), (6, .int (i32 v178))], [], (mhp (mO m [(7, y179), (8, y180), (9, y181), (10, y182), (11, y183), (12, y184), (28, (m.1 28)), (69, (m.1 69)), (70, (m.1 70)), (71, (m.1 71)), (72, (m.1 72)), (75, (m.1 75))] [(65, (m.2 65)), (66, (m.2 66)), (67, (m.2 67)), (68, (m.2 68))]) c, N), 0, 0) (Q_takeName m c N p B h) := by
    intro v176 v177 v178 y179 y180 y181 y182 y183 y184 q186 q187 q188 q189 q190 q191 q192 q193 q194 ic195 ic196 ic197 ic198 ic199 ic200 ic201
    obtain ⟨q186a, q186b⟩ := id q186
    obtain ⟨q187a, q187b⟩ := id q187
    obtain ⟨q188a, q188b⟩ := id q188
    refine T_ld 104 (.ref 189) rfl (fun _ => rfl) ?_
    refine T_ld 106 (.int (i32 v178)) rfl (fun _ => rfl) ?_
    refine T_call 109 253 [.ref 189, .int (i32 v178)] [] rfl (fun _ => rfl) rfl (c_takeField w (mO m [(7, y179), (8, y180), (9, y181), (10, y182), (11, y183), (12, y184), (28, (m.1 28)), (69, (m.1 69)), (70, (m.1 70)), (71, (m.1 71)), (72, (m.1 72)), (75, (m.1 75))] [(65, (m.2 65)), (66, (m.2 66)), (67, (m.2 67)), (68, (m.2 68))]) c N D (by omega) (Ty_mO hT rfl rfl ⟨q189, q190, q191, q192, q193, q194, f28, f69, f70, f71, f72, f75, trivial⟩ ⟨(hT.2.1 65), (hT.2.1 66), (hT.2.1 67), (hT.2.1 68), trivial⟩) v178 (r32 (by omega) (by omega)) (show LxP y179 y180 y181 (m.1 6) y182 by first | exact hLx | (intro h9; exfalso; omega)) (show ∀ k, (m.2 31) k + (m.2 32) k ≤ 4000 by assumption) (show 0 ≤ v178 ∧ v178 ≤ 11 by omega) (fun (h : y182 = 0) => absurd h (by omega))) (fun rr203 k204 => ?_)
    obtain ⟨y205, y207, y209, y211, y213, y215, tf, g206, g208, g210, g212, g214, g216, g217, h218, h219, c220, rfl⟩ := k204
    refine ⟨_, _, rfl, ?_⟩
    refine T_nf (st' := [.int (i32 tf)]) (l' := [(7, y205), (8, y207), (9, y209), (10, y211), (11, y213), (12, y215), (28, (m.1 28)), (69, (m.1 69)), (70, (m.1 70)), (71, (m.1 71)), (72, (m.1 72)), (75, (m.1 75))]) (a' := [(65, (m.2 65)), (66, (m.2 66)), (67, (m.2 67)), (68, (m.2 68))]) rfl rfl rfl rfl rfl ?_
    obtain ⟨g217a, g217b⟩ := g217
    replace h218 : y211 = 0 → y182 = 0 := h218
    replace h219 : LxP y205 y207 y209 (m.1 6) y211 := h219
    have hf221 : 1 ≤ y211 := by omega
    clear c220
    clear h218
    have hLx := h219
    clear q189 q190 q191 q192 q193 q194 ic199 ic200
    exact J109_136 v176 v177 v178 tf y205 y207 y209 y211 y213 y215 (r32 (by omega) (by omega)) (r32 (by omega) (by omega)) (r32 (by omega) (by omega)) (r32 (by omega) (by omega)) g206 g208 g210 g212 g214 g216 (by omega) (by omega) (by omega) (by omega) (by omega) (by omega) (by omega) (by omega)
  refine T_ld 1 (.ref 189) rfl (fun _ => rfl) ?_
  refine T_call 4 252 [.ref 189] [] rfl (fun _ => rfl) rfl (c_parameterHere w (mO m [(7, (m.1 7)), (8, (m.1 8)), (9, (m.1 9)), (10, (m.1 10)), (11, (m.1 11)), (12, (m.1 12)), (28, (m.1 28)), (69, (m.1 69)), (70, (m.1 70)), (71, (m.1 71)), (72, (m.1 72)), (75, (m.1 75))] [(65, (m.2 65)), (66, (m.2 66)), (67, (m.2 67)), (68, (m.2 68))]) c N D (by omega) (Ty_mO hT rfl rfl ⟨f7, f8, f9, f10, f11, f12, f28, f69, f70, f71, f72, f75, trivial⟩ ⟨(hT.2.1 65), (hT.2.1 66), (hT.2.1 67), (hT.2.1 68), trivial⟩) (show 1 ≤ (m.1 9) ∧ (m.1 8) + (m.1 9) ≤ (m.1 6) by first | omega | (have h8 := hLx (by omega); omega)) (show ∀ k, (m.2 47) k + (m.2 48) k ≤ 4000 by exact hPA)) (fun rr222 k223 => ?_)
  obtain ⟨pq, g224, h225, rfl⟩ := k223
  refine ⟨_, _, rfl, ?_⟩
  refine T_nf (st' := [.int (i32 pq)]) (l' := [(7, (m.1 7)), (8, (m.1 8)), (9, (m.1 9)), (10, (m.1 10)), (11, (m.1 11)), (12, (m.1 12)), (28, (m.1 28)), (69, (m.1 69)), (70, (m.1 70)), (71, (m.1 71)), (72, (m.1 72)), (75, (m.1 75))]) (a' := [(65, (m.2 65)), (66, (m.2 66)), (67, (m.2 67)), (68, (m.2 68))]) rfl rfl rfl rfl rfl ?_
  obtain ⟨g224a, g224b⟩ := g224
  replace h225 : -1 ≤ pq ∧ pq ≤ 63 := h225
  have u226 : (m.1 8) ≤ (m.1 8) := by omega
  refine T_sto 5 [(2, .int (i32 pq)), (0, .ref 189), (1, .int (i32 p))] rfl (fun _ => rfl) ?_
  refine T_ld 6 (.ref 189) rfl (fun _ => rfl) ?_
  refine T_call 9 227 [.ref 189] [] rfl (fun _ => rfl) rfl (c_sortHere w (mO m [(7, (m.1 7)), (8, (m.1 8)), (9, (m.1 9)), (10, (m.1 10)), (11, (m.1 11)), (12, (m.1 12)), (28, (m.1 28)), (69, (m.1 69)), (70, (m.1 70)), (71, (m.1 71)), (72, (m.1 72)), (75, (m.1 75))] [(65, (m.2 65)), (66, (m.2 66)), (67, (m.2 67)), (68, (m.2 68))]) c N D (by omega) (Ty_mO hT rfl rfl ⟨f7, f8, f9, f10, f11, f12, f28, f69, f70, f71, f72, f75, trivial⟩ ⟨(hT.2.1 65), (hT.2.1 66), (hT.2.1 67), (hT.2.1 68), trivial⟩) (show 1 ≤ (m.1 9) ∧ (m.1 8) + (m.1 9) ≤ (m.1 6) by first | omega | (have h8 := hLx (by omega); omega)) (show ∀ k, (m.2 14) k + (m.2 15) k ≤ 4000 by first | exact hNM | exact p1)) (fun rr227 k228 => ?_)
  obtain ⟨so, g229, h230, h231, rfl⟩ := k228
  refine ⟨_, _, rfl, ?_⟩
  refine T_nf (st' := [.int (i32 so)]) (l' := [(7, (m.1 7)), (8, (m.1 8)), (9, (m.1 9)), (10, (m.1 10)), (11, (m.1 11)), (12, (m.1 12)), (28, (m.1 28)), (69, (m.1 69)), (70, (m.1 70)), (71, (m.1 71)), (72, (m.1 72)), (75, (m.1 75))]) (a' := [(65, (m.2 65)), (66, (m.2 66)), (67, (m.2 67)), (68, (m.2 68))]) rfl rfl rfl rfl rfl ?_
  obtain ⟨g229a, g229b⟩ := g229
  replace h230 : ∃ g k, isGH (m.2 4) (m.1 8) (m.1 9) g ∧ (g < 0 → isFH (m.2 4) (m.2 14) (m.2 15) (m.1 8) (m.1 9) (m.1 13) k) ∧ so = sortV (m.2 16) g k := h230
  have hSo := h230
  replace h231 : -1 ≤ so ∧ so ≤ 7 := h231
  have u232 : (m.1 8) ≤ (m.1 8) := by omega
  refine T_sto 10 [(3, .int (i32 so)), (2, .int (i32 pq)), (0, .ref 189), (1, .int (i32 p))] rfl (fun _ => rfl) ?_
  refine T_ld 11 (.int (i32 1)) rfl (fun _ => rfl) ?_
  refine T_sto 13 [(4, .int (i32 1)), (3, .int (i32 so)), (2, .int (i32 pq)), (0, .ref 189), (1, .int (i32 p))] rfl (fun _ => rfl) ?_
  refine T_ld 16 (.int (i32 403)) rfl (fun _ => rfl) ?_
  refine T_sto 18 [(5, .int (i32 403)), (4, .int (i32 1)), (3, .int (i32 so)), (2, .int (i32 pq)), (0, .ref 189), (1, .int (i32 p))] rfl (fun _ => rfl) ?_
  refine T_ld 19 (.int (i32 0)) rfl (fun _ => rfl) ?_
  refine T_sto 21 [(6, .int (i32 0)), (5, .int (i32 403)), (4, .int (i32 1)), (3, .int (i32 so)), (2, .int (i32 pq)), (0, .ref 189), (1, .int (i32 p))] rfl (fun _ => rfl) ?_
  refine T_ld 22 (.int (i32 pq)) rfl (fun _ => rfl) ?_
  refine T_if 45 25 rfl rfl rfl (r32 (by omega) (by omega)) (fun (h233 : pq < 0) => ?_) (fun (h233 : ¬ (pq < 0)) => ?_)
  · skip
    refine T_ld 46 (.int (i32 so)) rfl (fun _ => rfl) ?_
    refine T_ld 47 (.int (i32 3)) rfl (fun _ => rfl) ?_
    refine T_icmp 77 50 rfl rfl rfl (r32 (by omega) (by omega)) ⟨by decide, by decide⟩ (fun (h234 : so ≠ 3) => ?_) (fun (h234 : ¬ (so ≠ 3)) => ?_)
    · skip
      refine T_ld 78 (.int (i32 so)) rfl (fun _ => rfl) ?_
      refine T_ld 79 (.int (i32 2)) rfl (fun _ => rfl) ?_
      refine T_icmp 129 82 rfl rfl rfl (r32 (by omega) (by omega)) ⟨by decide, by decide⟩ (fun (h235 : so ≠ 2) => ?_) (fun (h235 : ¬ (so ≠ 2)) => ?_)
      · skip
        refine T_ld 130 (.ref 189) rfl (fun _ => rfl) ?_
        refine T_ld 132 (.int (i32 6)) rfl (fun _ => rfl) ?_
        refine T_gf 136 (.int (i32 (m.1 8))) rfl rfl rfl rfl rfl rfl ?_
        refine T_call 139 222 [.ref 189, .int (i32 6), .int (i32 (m.1 8))] [] rfl (fun _ => rfl) rfl (c_wrong w (mO m [(7, (m.1 7)), (8, (m.1 8)), (9, (m.1 9)), (10, (m.1 10)), (11, (m.1 11)), (12, (m.1 12)), (28, (m.1 28)), (69, (m.1 69)), (70, (m.1 70)), (71, (m.1 71)), (72, (m.1 72)), (75, (m.1 75))] [(65, (m.2 65)), (66, (m.2 66)), (67, (m.2 67)), (68, (m.2 68))]) c N D (by omega) (Ty_mO hT rfl rfl ⟨f7, f8, f9, f10, f11, f12, f28, f69, f70, f71, f72, f75, trivial⟩ ⟨(hT.2.1 65), (hT.2.1 66), (hT.2.1 67), (hT.2.1 68), trivial⟩) 6 (m.1 8) ⟨by decide, by decide⟩ (r32 (by omega) (by omega)) (show 1 ≤ (6 : Int) ∧ (6 : Int) ≤ 8 by omega) (show 0 ≤ (m.1 8) ∧ (m.1 8) ≤ 4000 by omega)) (fun rr236 k237 => ?_)
        obtain ⟨y238, y240, g239, g241, h242, rfl⟩ := k237
        refine ⟨_, _, rfl, ?_⟩
        refine T_nf (st' := []) (l' := [(7, (m.1 7)), (8, (m.1 8)), (9, (m.1 9)), (10, y238), (11, y240), (12, (m.1 12)), (28, (m.1 28)), (69, (m.1 69)), (70, (m.1 70)), (71, (m.1 71)), (72, (m.1 72)), (75, (m.1 75))]) (a' := [(65, (m.2 65)), (66, (m.2 66)), (67, (m.2 67)), (68, (m.2 68))]) rfl rfl rfl rfl rfl ?_
        replace h242 : (0 < (m.1 10) → y238 = (m.1 10) ∧ y240 = (m.1 11)) ∧ ((m.1 10) ≤ 0 → y238 = (6 : Int) ∧ y240 = (m.1 8)) := h242
        have hf243 : 1 ≤ y238 := by omega
        refine T_ld 140 (.ref 189) rfl (fun _ => rfl) ?_
        refine T_ld 142 (.int (i32 403)) rfl (fun _ => rfl) ?_
        refine T_ld 144 (.int (i32 1)) rfl (fun _ => rfl) ?_
        refine T_ld 146 (.int (i32 0)) rfl (fun _ => rfl) ?_
        refine T_ld 147 (.long (i64 0)) rfl (fun _ => rfl) ?_
        refine T_call 150 248 [.ref 189, .int (i32 403), .int (i32 1), .int (i32 0), .long (i64 0)] [] rfl (fun _ => rfl) rfl (c_node w (mO m [(7, (m.1 7)), (8, (m.1 8)), (9, (m.1 9)), (10, y238), (11, y240), (12, (m.1 12)), (28, (m.1 28)), (69, (m.1 69)), (70, (m.1 70)), (71, (m.1 71)), (72, (m.1 72)), (75, (m.1 75))] [(65, (m.2 65)), (66, (m.2 66)), (67, (m.2 67)), (68, (m.2 68))]) c N D (by omega) (Ty_mO hT rfl rfl ⟨f7, f8, f9, g239, g241, f12, f28, f69, f70, f71, f72, f75, trivial⟩ ⟨(hT.2.1 65), (hT.2.1 66), (hT.2.1 67), (hT.2.1 68), trivial⟩) 403 1 0 0 B h ⟨by decide, by decide⟩ ⟨by decide, by decide⟩ ⟨by decide, by decide⟩ ⟨by decide, by decide⟩ (fun (h : y238 = 0) => absurd h (by omega))) (fun rr244 k245 => ?_)
        obtain ⟨y246, y248, y250, F252, F254, F256, F258, g247, g249, g251, G253, G255, G257, G259, h260, c261, rfl⟩ := k245
        refine ⟨_, _, rfl, ?_⟩
        refine T_nf (st' := []) (l' := [(7, (m.1 7)), (8, (m.1 8)), (9, (m.1 9)), (10, y246), (11, y248), (12, (m.1 12)), (28, y250), (69, (m.1 69)), (70, (m.1 70)), (71, (m.1 71)), (72, (m.1 72)), (75, (m.1 75))]) (a' := [(65, F252), (66, F254), (67, F256), (68, F258)]) rfl rfl rfl rfl rfl ?_
        replace h260 : y246 = 0 → y238 = 0 := h260
        have hf262 : 1 ≤ y246 := by omega
        clear c261
        clear h260
        clear g239 g241 hf243 h242
        refine Tm_lv (a := [(0, .ref 189), (1, .int (i32 p)), (2, .int (i32 pq)), (3, .int (i32 so)), (4, .int (i32 1)), (5, .int (i32 403)), (6, .int (i32 0))]) rfl rfl ⟨rfl, rfl, rfl, rfl, rfl, rfl, rfl, trivial⟩ ?_
        exact J150_87 pq so 1 403 0 (m.1 7) (m.1 8) (m.1 9) y246 y248 (m.1 12) y250 F252 F254 F256 F258 (r32 (by omega) (by omega)) (r32 (by omega) (by omega)) ⟨by decide, by decide⟩ ⟨by decide, by decide⟩ ⟨by decide, by decide⟩ f7 f8 f9 g247 g249 f12 g251 G253 G255 G257 G259 (by omega) (by omega) (by omega) (by omega) (by omega) (by omega) (by omega) (by omega)
      · skip
        refine T_ld 85 (.int (i32 401)) rfl (fun _ => rfl) ?_
        refine T_sto 87 [(5, .int (i32 401)), (6, .int (i32 0)), (4, .int (i32 1)), (3, .int (i32 so)), (2, .int (i32 pq)), (0, .ref 189), (1, .int (i32 p))] rfl (fun _ => rfl) ?_
        refine T_ld 88 (.ref 189) rfl (fun _ => rfl) ?_
        refine T_call 91 237 [.ref 189] [] rfl (fun _ => rfl) rfl (c_whichHere w (mO m [(7, (m.1 7)), (8, (m.1 8)), (9, (m.1 9)), (10, (m.1 10)), (11, (m.1 11)), (12, (m.1 12)), (28, (m.1 28)), (69, (m.1 69)), (70, (m.1 70)), (71, (m.1 71)), (72, (m.1 72)), (75, (m.1 75))] [(65, (m.2 65)), (66, (m.2 66)), (67, (m.2 67)), (68, (m.2 68))]) c N D (by omega) (Ty_mO hT rfl rfl ⟨f7, f8, f9, f10, f11, f12, f28, f69, f70, f71, f72, f75, trivial⟩ ⟨(hT.2.1 65), (hT.2.1 66), (hT.2.1 67), (hT.2.1 68), trivial⟩) (show 1 ≤ (m.1 9) ∧ (m.1 8) + (m.1 9) ≤ (m.1 6) by first | omega | (have h8 := hLx (by omega); omega)) (show ∀ k, (m.2 14) k + (m.2 15) k ≤ 4000 by first | exact hNM | exact p1) (show ∀ g k, isGH (m.2 4) (m.1 8) (m.1 9) g → g < 0 → isFH (m.2 4) (m.2 14) (m.2 15) (m.1 8) (m.1 9) (m.1 13) k → 0 ≤ k by exact old_ok hSo (by omega))) (fun rr263 k264 => ?_)
        obtain ⟨wi, g265, h266, rfl⟩ := k264
        refine ⟨_, _, rfl, ?_⟩
        refine T_nf (st' := [.int (i32 wi)]) (l' := [(7, (m.1 7)), (8, (m.1 8)), (9, (m.1 9)), (10, (m.1 10)), (11, (m.1 11)), (12, (m.1 12)), (28, (m.1 28)), (69, (m.1 69)), (70, (m.1 70)), (71, (m.1 71)), (72, (m.1 72)), (75, (m.1 75))]) (a' := [(65, (m.2 65)), (66, (m.2 66)), (67, (m.2 67)), (68, (m.2 68))]) rfl rfl rfl rfl rfl ?_
        obtain ⟨g265a, g265b⟩ := g265
        replace h266 : ∃ g k, isGH (m.2 4) (m.1 8) (m.1 9) g ∧ (g < 0 → isFH (m.2 4) (m.2 14) (m.2 15) (m.1 8) (m.1 9) (m.1 13) k) ∧ wi = whichV (m.2 17) g k := h266
        have hWi := h266
        have u267 : (m.1 8) ≤ (m.1 8) := by omega
        obtain ⟨hw0, hw1⟩ : 0 ≤ wi ∧ wi < (m.1 20) := old_rg hSo hWi (by omega) (by omega) (by omega) (PNl_2 pPN) (by omega)
        refine T_sto 93 [(6, .int (i32 wi)), (5, .int (i32 401)), (4, .int (i32 1)), (3, .int (i32 so)), (2, .int (i32 pq)), (0, .ref 189), (1, .int (i32 p))] rfl (fun _ => rfl) ?_
        refine T_ld 94 (.ref 189) rfl (fun _ => rfl) ?_
        refine T_call 97 212 [.ref 189] [] rfl (fun _ => rfl) rfl (c_next w (mO m [(7, (m.1 7)), (8, (m.1 8)), (9, (m.1 9)), (10, (m.1 10)), (11, (m.1 11)), (12, (m.1 12)), (28, (m.1 28)), (69, (m.1 69)), (70, (m.1 70)), (71, (m.1 71)), (72, (m.1 72)), (75, (m.1 75))] [(65, (m.2 65)), (66, (m.2 66)), (67, (m.2 67)), (68, (m.2 68))]) c N D (by omega) (Ty_mO hT rfl rfl ⟨f7, f8, f9, f10, f11, f12, f28, f69, f70, f71, f72, f75, trivial⟩ ⟨(hT.2.1 65), (hT.2.1 66), (hT.2.1 67), (hT.2.1 68), trivial⟩) (show (m.1 10) = 0 → (m.1 8) + (m.1 9) ≤ (m.1 6) by first | omega | (intro h9; have h8 := hLx h9; omega))) (fun rr268 k269 => ?_)
        obtain ⟨y270, y272, y274, y276, y278, y280, g271, g273, g275, g277, g279, g281, h282, h283, h284, h285, rfl⟩ := k269
        refine ⟨_, _, rfl, ?_⟩
        refine T_nf (st' := []) (l' := [(7, y270), (8, y272), (9, y274), (10, y276), (11, y278), (12, y280), (28, (m.1 28)), (69, (m.1 69)), (70, (m.1 70)), (71, (m.1 71)), (72, (m.1 72)), (75, (m.1 75))]) (a' := [(65, (m.2 65)), (66, (m.2 66)), (67, (m.2 67)), (68, (m.2 68))]) rfl rfl rfl rfl rfl ?_
        by_cases hf286 : y276 = 0
        · skip
          subst hf286
          replace h282 : LxP y270 y272 y274 (m.1 6) (0 : Int) := h282
          have hLx := h282
          replace h283 : (m.1 10) = 0 := h283 rfl
          replace h284 : (m.1 8) ≤ y272 := h284
          replace h285 : (m.1 8) + (m.1 9) ≤ y272 := h285 rfl
          have u287 : (m.1 8) + 1 ≤ y272 := by omega
          clear g277
          refine T_ld 98 (.ref 189) rfl (fun _ => rfl) ?_
          refine T_ld 100 (.int (i32 46)) rfl (fun _ => rfl) ?_
          refine T_call 103 232 [.ref 189, .int (i32 46)] [] rfl (fun _ => rfl) rfl (c_need w (mO m [(7, y270), (8, y272), (9, y274), (10, 0), (11, y278), (12, y280), (28, (m.1 28)), (69, (m.1 69)), (70, (m.1 70)), (71, (m.1 71)), (72, (m.1 72)), (75, (m.1 75))] [(65, (m.2 65)), (66, (m.2 66)), (67, (m.2 67)), (68, (m.2 68))]) c N D (by omega) (Ty_mO hT rfl rfl ⟨g271, g273, g275, ⟨(by omega : (0 : Int) ≤ 0), (by omega : (0 : Int) ≤ 8)⟩, g279, g281, f28, f69, f70, f71, f72, f75, trivial⟩ ⟨(hT.2.1 65), (hT.2.1 66), (hT.2.1 67), (hT.2.1 68), trivial⟩) 46 ⟨by decide, by decide⟩ (show 1 ≤ (46 : Int) by omega) (show LxP y270 y272 y274 (m.1 6) (0 : Int) by first | exact hLx | (intro h9; exfalso; omega) | (intro h9; have h8 := hLx (by omega); omega))) (fun rr288 k289 => ?_)
          obtain ⟨y290, y292, y294, y296, y298, y300, g291, g293, g295, g297, g299, g301, h302, h303, h304, h305, rfl⟩ := k289
          refine ⟨_, _, rfl, ?_⟩
          refine T_nf (st' := []) (l' := [(7, y290), (8, y292), (9, y294), (10, y296), (11, y298), (12, y300), (28, (m.1 28)), (69, (m.1 69)), (70, (m.1 70)), (71, (m.1 71)), (72, (m.1 72)), (75, (m.1 75))]) (a' := [(65, (m.2 65)), (66, (m.2 66)), (67, (m.2 67)), (68, (m.2 68))]) rfl rfl rfl rfl rfl ?_
          by_cases hf306 : y296 = 0
          · skip
            subst hf306
            replace h302 : LxP y290 y292 y294 (m.1 6) (0 : Int) := h302
            have hLx := h302
            replace h303 : (0 : Int) = 0 ∧ y270 = (46 : Int) := h303 rfl
            replace h304 : y272 ≤ y292 := h304
            replace h305 : y272 + y274 ≤ y292 := h305 rfl
            have u307 : (m.1 8) + 1 ≤ y292 := by omega
            clear g271 g273 g275 g279 g281 h282 h284 h285 u287 g297 h303 h304 h305
            refine T_ld 104 (.ref 189) rfl (fun _ => rfl) ?_
            refine T_ld 106 (.int (i32 wi)) rfl (fun _ => rfl) ?_
            refine T_call 109 253 [.ref 189, .int (i32 wi)] [] rfl (fun _ => rfl) rfl (c_takeField w (mO m [(7, y290), (8, y292), (9, y294), (10, 0), (11, y298), (12, y300), (28, (m.1 28)), (69, (m.1 69)), (70, (m.1 70)), (71, (m.1 71)), (72, (m.1 72)), (75, (m.1 75))] [(65, (m.2 65)), (66, (m.2 66)), (67, (m.2 67)), (68, (m.2 68))]) c N D (by omega) (Ty_mO hT rfl rfl ⟨g291, g293, g295, ⟨(by omega : (0 : Int) ≤ 0), (by omega : (0 : Int) ≤ 8)⟩, g299, g301, f28, f69, f70, f71, f72, f75, trivial⟩ ⟨(hT.2.1 65), (hT.2.1 66), (hT.2.1 67), (hT.2.1 68), trivial⟩) wi (r32 (by omega) (by omega)) (show LxP y290 y292 y294 (m.1 6) (0 : Int) by first | exact hLx | (intro h9; exfalso; omega)) (show ∀ k, (m.2 31) k + (m.2 32) k ≤ 4000 by assumption) (show 0 ≤ wi ∧ wi ≤ 11 by omega) (fun _ => trivial)) (fun rr308 k309 => ?_)
            obtain ⟨y310, y312, y314, y316, y318, y320, tf, g311, g313, g315, g317, g319, g321, g322, h323, h324, c325, rfl⟩ := k309
            refine ⟨_, _, rfl, ?_⟩
            refine T_nf (st' := [.int (i32 tf)]) (l' := [(7, y310), (8, y312), (9, y314), (10, y316), (11, y318), (12, y320), (28, (m.1 28)), (69, (m.1 69)), (70, (m.1 70)), (71, (m.1 71)), (72, (m.1 72)), (75, (m.1 75))]) (a' := [(65, (m.2 65)), (66, (m.2 66)), (67, (m.2 67)), (68, (m.2 68))]) rfl rfl rfl rfl rfl ?_
            obtain ⟨g322a, g322b⟩ := g322
            by_cases hf326 : y316 = 0
            · skip
              subst hf326
              replace h323 : (0 : Int) = 0 := h323 rfl
              replace h324 : LxP y310 y312 y314 (m.1 6) (0 : Int) := h324
              have hLx := h324
              obtain ⟨c327, c328⟩ := c325 rfl
              replace c327 : y292 + 1 ≤ y312 := c327
              replace c328 : y290 = 1 := c328
              clear c325
              have u329 : (m.1 8) + 1 ≤ y312 := by omega
              clear g291 g293 g295 g299 g301 h302 u307 g317 c327 c328
              refine T_sto 111 [(6, .int (i32 tf)), (5, .int (i32 401)), (4, .int (i32 1)), (3, .int (i32 so)), (2, .int (i32 pq)), (0, .ref 189), (1, .int (i32 p))] rfl (fun _ => rfl) ?_
              refine T_gf 115 (.int (i32 0)) rfl rfl rfl rfl rfl rfl ?_
              refine T_if 139 118 rfl rfl rfl ⟨by decide, by decide⟩ (fun h330 => absurd (show (0 : Int) ≠ 0 from h330) (by decide)) (fun _ => ?_)
              refine T_ld 119 (.ref 189) rfl (fun _ => rfl) ?_
              refine T_ld 121 (.int (i32 tf)) rfl (fun _ => rfl) ?_
              refine T_call 124 254 [.ref 189, .int (i32 tf)] [] rfl (fun _ => rfl) rfl (c_bitsOfField w (mO m [(7, y310), (8, y312), (9, y314), (10, 0), (11, y318), (12, y320), (28, (m.1 28)), (69, (m.1 69)), (70, (m.1 70)), (71, (m.1 71)), (72, (m.1 72)), (75, (m.1 75))] [(65, (m.2 65)), (66, (m.2 66)), (67, (m.2 67)), (68, (m.2 68))]) c N D (by omega) (Ty_mO hT rfl rfl ⟨g311, g313, g315, ⟨(by omega : (0 : Int) ≤ 0), (by omega : (0 : Int) ≤ 8)⟩, g319, g321, f28, f69, f70, f71, f72, f75, trivial⟩ ⟨(hT.2.1 65), (hT.2.1 66), (hT.2.1 67), (hT.2.1 68), trivial⟩) tf (r32 (by omega) (by omega)) (show 0 ≤ tf ∧ tf ≤ 191 by omega)) (fun rr331 k332 => ?_)
              obtain ⟨x333, g334, rfl⟩ := k332
              refine ⟨_, _, rfl, ?_⟩
              refine T_nf (st' := [.int (i32 x333)]) (l' := [(7, y310), (8, y312), (9, y314), (10, 0), (11, y318), (12, y320), (28, (m.1 28)), (69, (m.1 69)), (70, (m.1 70)), (71, (m.1 71)), (72, (m.1 72)), (75, (m.1 75))]) (a' := [(65, (m.2 65)), (66, (m.2 66)), (67, (m.2 67)), (68, (m.2 68))]) rfl rfl rfl rfl rfl ?_
              obtain ⟨g334a, g334b⟩ := g334
              have u335 : (m.1 8) + 1 ≤ y312 := by omega
              clear g265a g265b h266
              refine T_sto 126 [(4, .int (i32 x333)), (6, .int (i32 tf)), (5, .int (i32 401)), (3, .int (i32 so)), (2, .int (i32 pq)), (0, .ref 189), (1, .int (i32 p))] rfl (fun _ => rfl) ?_
              refine T_goto 139 rfl (fun _ => rfl) ?_
              have hA : ar (401 : Int) = 0 := ar_0 (by omega)
              have hAr : ar (401 : Int) ≤ h := by omega
              have hCk : CNk (401 : Int) tf := by refine ⟨?_, ?_, ?_, ?_⟩ <;> omega
              refine T_ld 140 (.ref 189) rfl (fun _ => rfl) ?_
              refine T_ld 142 (.int (i32 401)) rfl (fun _ => rfl) ?_
              refine T_ld 144 (.int (i32 x333)) rfl (fun _ => rfl) ?_
              refine T_ld 146 (.int (i32 tf)) rfl (fun _ => rfl) ?_
              refine T_ld 147 (.long (i64 0)) rfl (fun _ => rfl) ?_
              refine T_call 150 248 [.ref 189, .int (i32 401), .int (i32 x333), .int (i32 tf), .long (i64 0)] [] rfl (fun _ => rfl) rfl (c_node w (mO m [(7, y310), (8, y312), (9, y314), (10, 0), (11, y318), (12, y320), (28, (m.1 28)), (69, (m.1 69)), (70, (m.1 70)), (71, (m.1 71)), (72, (m.1 72)), (75, (m.1 75))] [(65, (m.2 65)), (66, (m.2 66)), (67, (m.2 67)), (68, (m.2 68))]) c N D (by omega) (Ty_mO hT rfl rfl ⟨g311, g313, g315, ⟨(by omega : (0 : Int) ≤ 0), (by omega : (0 : Int) ≤ 8)⟩, g319, g321, f28, f69, f70, f71, f72, f75, trivial⟩ ⟨(hT.2.1 65), (hT.2.1 66), (hT.2.1 67), (hT.2.1 68), trivial⟩) 401 x333 tf 0 B h ⟨by decide, by decide⟩ (r32 (by omega) (by omega)) (r32 (by omega) (by omega)) ⟨by decide, by decide⟩ (fun _ => ⟨(show 0 ≤ (401 : Int) ∧ (401 : Int) ≤ 408 by first | omega | decide), (show 0 ≤ x333 ∧ x333 ≤ 64 by first | omega | decide), (show 0 ≤ tf ∧ tf ≤ 191 by first | omega | decide), (show CNk (401 : Int) tf by first | exact hCk | (refine ⟨?_, ?_, ?_, ?_⟩ <;> omega)), (show ar (401 : Int) ≤ h by first | exact hAr | omega), (show EX (m.2 65) (m.2 67) B (m.1 28) h by first | exact hEX | assumption)⟩)) (fun rr336 k337 => ?_)
              obtain ⟨y338, y340, y342, F344, F346, F348, F350, g339, g341, g343, G345, G347, G349, G351, h352, c353, rfl⟩ := k337
              refine ⟨_, _, rfl, ?_⟩
              refine T_nf (st' := []) (l' := [(7, y310), (8, y312), (9, y314), (10, y338), (11, y340), (12, y320), (28, y342), (69, (m.1 69)), (70, (m.1 70)), (71, (m.1 71)), (72, (m.1 72)), (75, (m.1 75))]) (a' := [(65, F344), (66, F346), (67, F348), (68, F350)]) rfl rfl rfl rfl rfl ?_
              by_cases hf354 : y338 = 0
              · skip
                subst hf354
                replace h352 : (0 : Int) = 0 := h352 rfl
                obtain ⟨c355, c356, c357⟩ := c353 rfl
                replace c355 : y342 = (m.1 28) + 1 := c355
                replace c356 : EX F344 F348 B y342 (h + 1 - ar (401 : Int)) := c356
                have hEX := c356
                replace c357 : agr (m.2 65) F344 (m.1 28) := c357
                have hAg := c357
                clear c353
                have u358 : (m.1 8) + 1 ≤ y312 := by omega
                clear g319 g339
                refine T_ld 151 (.ref 189) rfl (fun _ => rfl) ?_
                refine T_ld 153 (.int (i32 x333)) rfl (fun _ => rfl) ?_
                refine T_ld 154 (.int (i32 p)) rfl (fun _ => rfl) ?_
                refine T_call 157 249 [.ref 189, .int (i32 x333), .int (i32 p)] [] rfl (fun _ => rfl) rfl (c_atom w (mO m [(7, y310), (8, y312), (9, y314), (10, 0), (11, y340), (12, y320), (28, y342), (69, (m.1 69)), (70, (m.1 70)), (71, (m.1 71)), (72, (m.1 72)), (75, (m.1 75))] [(65, F344), (66, F346), (67, F348), (68, F350)]) c N D (by omega) (Ty_mO hT rfl rfl ⟨g311, g313, g315, ⟨(by omega : (0 : Int) ≤ 0), (by omega : (0 : Int) ≤ 8)⟩, g341, g321, g343, f69, f70, f71, f72, f75, trivial⟩ ⟨G345, G347, G349, G351, trivial⟩) x333 p (r32 (by omega) (by omega)) (r32 (by omega) (by omega)) (show 0 ≤ x333 ∧ x333 ≤ 64 by omega) (show 0 ≤ p ∧ p ≤ 4000 by omega)) (fun rr359 k360 => ?_)
                obtain ⟨y361, y363, y365, y367, y369, g362, g364, g366, g368, g370, h371, rfl⟩ := k360
                refine ⟨_, _, rfl, ?_⟩
                refine T_nf (st' := []) (l' := [(7, y310), (8, y312), (9, y314), (10, 0), (11, y340), (12, y320), (28, y342), (69, y361), (70, y363), (71, y365), (72, y367), (75, y369)]) (a' := [(65, F344), (66, F346), (67, F348), (68, F350)]) rfl rfl rfl rfl rfl ?_
                replace h371 : (0 : Int) = 0 → y369 = 1 ∧ y361 = x333 := h371
                have u372 : (m.1 8) + 1 ≤ y312 := by omega
                refine T_ret rfl (fun _ => rfl) ?_
                exact ⟨y310, y312, y314, 0, y340, y320, y342, y361, y363, y365, y367, y369, F344, F346, F348, F350, g311, g313, g315, ⟨by omega, by omega⟩, g341, g321, g343, g362, g364, g366, g368, g370, G345, G347, G349, G351, (by omega), (by first | (first | exact hLx | (intro h9; exfalso; omega)) | (exfalso; omega)), (fun _ => ⟨(by omega), (by omega), (by omega), (by omega), (by first | (exact EX_w hEX (by omega)) | (exfalso; omega)), (by first | (exact hAg) | (exfalso; omega))⟩), rfl⟩
              · skip
                clear c353
                clear h352
                have hf373 : 1 ≤ y338 := by omega
                clear g319
                refine Tm_lv (a := [(0, .ref 189), (1, .int (i32 p)), (2, .int (i32 pq)), (3, .int (i32 so)), (4, .int (i32 x333)), (5, .int (i32 401)), (6, .int (i32 tf))]) rfl rfl ⟨rfl, rfl, rfl, rfl, rfl, rfl, rfl, trivial⟩ ?_
                exact J150_87 pq so x333 401 tf y310 y312 y314 y338 y340 y320 y342 F344 F346 F348 F350 (r32 (by omega) (by omega)) (r32 (by omega) (by omega)) (r32 (by omega) (by omega)) ⟨by decide, by decide⟩ (r32 (by omega) (by omega)) g311 g313 g315 g339 g341 g321 g343 G345 G347 G349 G351 (by omega) (by omega) (by omega) (by omega) (by omega) (by omega) (by omega) (by omega)
            · skip
              clear c325
              clear h323
              replace h324 : LxP y310 y312 y314 (m.1 6) y316 := h324
              have hLx := h324
              have hf374 : 1 ≤ y316 := by omega
              clear g291 g293 g295 g299 g301 h302 u307
              refine Tm_lv (a := [(0, .ref 189), (1, .int (i32 p)), (2, .int (i32 pq)), (3, .int (i32 so)), (4, .int (i32 1)), (5, .int (i32 401)), (6, .int (i32 wi))]) rfl rfl ⟨rfl, rfl, rfl, rfl, rfl, rfl, rfl, trivial⟩ ?_
              exact J109_136 pq so wi tf y310 y312 y314 y316 y318 y320 (r32 (by omega) (by omega)) (r32 (by omega) (by omega)) (r32 (by omega) (by omega)) (r32 (by omega) (by omega)) g311 g313 g315 g317 g319 g321 (by omega) (by omega) (by omega) (by omega) (by omega) (by omega) (by omega) (by omega)
          · skip
            replace h302 : LxP y290 y292 y294 (m.1 6) y296 := h302
            have hLx := h302
            clear h303
            replace h304 : y272 ≤ y292 := h304
            clear h305
            have hf375 : 1 ≤ y296 := by omega
            clear g271 g273 g275 g279 g281 h282 h284 h285 u287 h304
            refine Tm_lv (a := [(0, .ref 189), (1, .int (i32 p)), (2, .int (i32 pq)), (3, .int (i32 so)), (4, .int (i32 1)), (5, .int (i32 401)), (6, .int (i32 wi))]) rfl rfl ⟨rfl, rfl, rfl, rfl, rfl, rfl, rfl, trivial⟩ ?_
            exact J103_185 pq so wi y290 y292 y294 y296 y298 y300 (r32 (by omega) (by omega)) (r32 (by omega) (by omega)) (r32 (by omega) (by omega)) g291 g293 g295 g297 g299 g301 (by omega) (by omega) (by omega) (by omega) (by omega) (by omega) (by omega)
        · skip
          replace h282 : LxP y270 y272 y274 (m.1 6) y276 := h282
          have hLx := h282
          clear h283
          replace h284 : (m.1 8) ≤ y272 := h284
          clear h285
          have hf376 : 1 ≤ y276 := by omega
          refine T_ld 98 (.ref 189) rfl (fun _ => rfl) ?_
          refine T_ld 100 (.int (i32 46)) rfl (fun _ => rfl) ?_
          refine T_call 103 232 [.ref 189, .int (i32 46)] [] rfl (fun _ => rfl) rfl (c_need w (mO m [(7, y270), (8, y272), (9, y274), (10, y276), (11, y278), (12, y280), (28, (m.1 28)), (69, (m.1 69)), (70, (m.1 70)), (71, (m.1 71)), (72, (m.1 72)), (75, (m.1 75))] [(65, (m.2 65)), (66, (m.2 66)), (67, (m.2 67)), (68, (m.2 68))]) c N D (by omega) (Ty_mO hT rfl rfl ⟨g271, g273, g275, g277, g279, g281, f28, f69, f70, f71, f72, f75, trivial⟩ ⟨(hT.2.1 65), (hT.2.1 66), (hT.2.1 67), (hT.2.1 68), trivial⟩) 46 ⟨by decide, by decide⟩ (show 1 ≤ (46 : Int) by omega) (show LxP y270 y272 y274 (m.1 6) y276 by first | exact hLx | (intro h9; exfalso; omega) | (intro h9; have h8 := hLx (by omega); omega))) (fun rr377 k378 => ?_)
          obtain ⟨y379, y381, y383, y385, y387, y389, g380, g382, g384, g386, g388, g390, h391, h392, h393, h394, rfl⟩ := k378
          refine ⟨_, _, rfl, ?_⟩
          refine T_nf (st' := []) (l' := [(7, y379), (8, y381), (9, y383), (10, y385), (11, y387), (12, y389), (28, (m.1 28)), (69, (m.1 69)), (70, (m.1 70)), (71, (m.1 71)), (72, (m.1 72)), (75, (m.1 75))]) (a' := [(65, (m.2 65)), (66, (m.2 66)), (67, (m.2 67)), (68, (m.2 68))]) rfl rfl rfl rfl rfl ?_
          replace h391 : LxP y379 y381 y383 (m.1 6) y385 := h391
          replace h392 : y385 = 0 → y276 = 0 ∧ y270 = (46 : Int) := h392
          replace h393 : y272 ≤ y381 := h393
          replace h394 : y385 = 0 → y272 + y274 ≤ y381 := h394
          have hf395 : 1 ≤ y385 := by omega
          clear h392
          clear h394
          have hLx := h391
          clear g271 g273 g275 g277 g279 g281 h282 h284 hf376 h393
          refine Tm_lv (a := [(0, .ref 189), (1, .int (i32 p)), (2, .int (i32 pq)), (3, .int (i32 so)), (4, .int (i32 1)), (5, .int (i32 401)), (6, .int (i32 wi))]) rfl rfl ⟨rfl, rfl, rfl, rfl, rfl, rfl, rfl, trivial⟩ ?_
          exact J103_185 pq so wi y379 y381 y383 y385 y387 y389 (r32 (by omega) (by omega)) (r32 (by omega) (by omega)) (r32 (by omega) (by omega)) g380 g382 g384 g386 g388 g390 (by omega) (by omega) (by omega) (by omega) (by omega) (by omega) (by omega)
    · skip
      refine T_ld 53 (.int (i32 402)) rfl (fun _ => rfl) ?_
      refine T_sto 55 [(5, .int (i32 402)), (6, .int (i32 0)), (4, .int (i32 1)), (3, .int (i32 so)), (2, .int (i32 pq)), (0, .ref 189), (1, .int (i32 p))] rfl (fun _ => rfl) ?_
      refine T_ld 56 (.ref 189) rfl (fun _ => rfl) ?_
      refine T_call 59 237 [.ref 189] [] rfl (fun _ => rfl) rfl (c_whichHere w (mO m [(7, (m.1 7)), (8, (m.1 8)), (9, (m.1 9)), (10, (m.1 10)), (11, (m.1 11)), (12, (m.1 12)), (28, (m.1 28)), (69, (m.1 69)), (70, (m.1 70)), (71, (m.1 71)), (72, (m.1 72)), (75, (m.1 75))] [(65, (m.2 65)), (66, (m.2 66)), (67, (m.2 67)), (68, (m.2 68))]) c N D (by omega) (Ty_mO hT rfl rfl ⟨f7, f8, f9, f10, f11, f12, f28, f69, f70, f71, f72, f75, trivial⟩ ⟨(hT.2.1 65), (hT.2.1 66), (hT.2.1 67), (hT.2.1 68), trivial⟩) (show 1 ≤ (m.1 9) ∧ (m.1 8) + (m.1 9) ≤ (m.1 6) by first | omega | (have h8 := hLx (by omega); omega)) (show ∀ k, (m.2 14) k + (m.2 15) k ≤ 4000 by first | exact hNM | exact p1) (show ∀ g k, isGH (m.2 4) (m.1 8) (m.1 9) g → g < 0 → isFH (m.2 4) (m.2 14) (m.2 15) (m.1 8) (m.1 9) (m.1 13) k → 0 ≤ k by exact old_ok hSo (by omega))) (fun rr396 k397 => ?_)
      obtain ⟨wi, g398, h399, rfl⟩ := k397
      refine ⟨_, _, rfl, ?_⟩
      refine T_nf (st' := [.int (i32 wi)]) (l' := [(7, (m.1 7)), (8, (m.1 8)), (9, (m.1 9)), (10, (m.1 10)), (11, (m.1 11)), (12, (m.1 12)), (28, (m.1 28)), (69, (m.1 69)), (70, (m.1 70)), (71, (m.1 71)), (72, (m.1 72)), (75, (m.1 75))]) (a' := [(65, (m.2 65)), (66, (m.2 66)), (67, (m.2 67)), (68, (m.2 68))]) rfl rfl rfl rfl rfl ?_
      obtain ⟨g398a, g398b⟩ := g398
      replace h399 : ∃ g k, isGH (m.2 4) (m.1 8) (m.1 9) g ∧ (g < 0 → isFH (m.2 4) (m.2 14) (m.2 15) (m.1 8) (m.1 9) (m.1 13) k) ∧ wi = whichV (m.2 17) g k := h399
      have hWi := h399
      have u400 : (m.1 8) ≤ (m.1 8) := by omega
      obtain ⟨hw0, hw1⟩ : 0 ≤ wi ∧ wi < (m.1 21) := old_rg hSo hWi (by omega) (by omega) (by omega) (PNl_3 pPN) (by omega)
      refine T_sto 61 [(6, .int (i32 wi)), (5, .int (i32 402)), (4, .int (i32 1)), (3, .int (i32 so)), (2, .int (i32 pq)), (0, .ref 189), (1, .int (i32 p))] rfl (fun _ => rfl) ?_
      refine T_gf 65 (.ref 205) rfl rfl rfl rfl rfl rfl ?_
      refine T_ld 67 (.int (i32 wi)) rfl (fun _ => rfl) ?_
      refine T_iald 68 35 (m.2 35) rfl rfl rfl (by omega) (show wi < (16 : Int) by omega) rfl ?_
      have e401 : 0 ≤ m.2 35 wi ∧ m.2 35 wi ≤ 64 := hT.2.1 35 wi
      refine T_sto 70 [(4, .int (i32 ((m.2 35) wi))), (6, .int (i32 wi)), (5, .int (i32 402)), (3, .int (i32 so)), (2, .int (i32 pq)), (0, .ref 189), (1, .int (i32 p))] rfl (fun _ => rfl) ?_
      refine T_ld 71 (.ref 189) rfl (fun _ => rfl) ?_
      refine T_call 74 212 [.ref 189] [] rfl (fun _ => rfl) rfl (c_next w (mO m [(7, (m.1 7)), (8, (m.1 8)), (9, (m.1 9)), (10, (m.1 10)), (11, (m.1 11)), (12, (m.1 12)), (28, (m.1 28)), (69, (m.1 69)), (70, (m.1 70)), (71, (m.1 71)), (72, (m.1 72)), (75, (m.1 75))] [(65, (m.2 65)), (66, (m.2 66)), (67, (m.2 67)), (68, (m.2 68))]) c N D (by omega) (Ty_mO hT rfl rfl ⟨f7, f8, f9, f10, f11, f12, f28, f69, f70, f71, f72, f75, trivial⟩ ⟨(hT.2.1 65), (hT.2.1 66), (hT.2.1 67), (hT.2.1 68), trivial⟩) (show (m.1 10) = 0 → (m.1 8) + (m.1 9) ≤ (m.1 6) by first | omega | (intro h9; have h8 := hLx h9; omega))) (fun rr402 k403 => ?_)
      obtain ⟨y404, y406, y408, y410, y412, y414, g405, g407, g409, g411, g413, g415, h416, h417, h418, h419, rfl⟩ := k403
      refine ⟨_, _, rfl, ?_⟩
      refine T_nf (st' := []) (l' := [(7, y404), (8, y406), (9, y408), (10, y410), (11, y412), (12, y414), (28, (m.1 28)), (69, (m.1 69)), (70, (m.1 70)), (71, (m.1 71)), (72, (m.1 72)), (75, (m.1 75))]) (a' := [(65, (m.2 65)), (66, (m.2 66)), (67, (m.2 67)), (68, (m.2 68))]) rfl rfl rfl rfl rfl ?_
      by_cases hf420 : y410 = 0
      · skip
        subst hf420
        replace h416 : LxP y404 y406 y408 (m.1 6) (0 : Int) := h416
        have hLx := h416
        replace h417 : (m.1 10) = 0 := h417 rfl
        replace h418 : (m.1 8) ≤ y406 := h418
        replace h419 : (m.1 8) + (m.1 9) ≤ y406 := h419 rfl
        have u421 : (m.1 8) + 1 ≤ y406 := by omega
        clear g411
        refine T_goto 139 rfl (fun _ => rfl) ?_
        have hA : ar (402 : Int) = 0 := ar_0 (by omega)
        have hAr : ar (402 : Int) ≤ h := by omega
        have hCk : CNk (402 : Int) wi := by refine ⟨?_, ?_, ?_, ?_⟩ <;> omega
        refine T_ld 140 (.ref 189) rfl (fun _ => rfl) ?_
        refine T_ld 142 (.int (i32 402)) rfl (fun _ => rfl) ?_
        refine T_ld 144 (.int (i32 ((m.2 35) wi))) rfl (fun _ => rfl) ?_
        refine T_ld 146 (.int (i32 wi)) rfl (fun _ => rfl) ?_
        refine T_ld 147 (.long (i64 0)) rfl (fun _ => rfl) ?_
        refine T_call 150 248 [.ref 189, .int (i32 402), .int (i32 ((m.2 35) wi)), .int (i32 wi), .long (i64 0)] [] rfl (fun _ => rfl) rfl (c_node w (mO m [(7, y404), (8, y406), (9, y408), (10, 0), (11, y412), (12, y414), (28, (m.1 28)), (69, (m.1 69)), (70, (m.1 70)), (71, (m.1 71)), (72, (m.1 72)), (75, (m.1 75))] [(65, (m.2 65)), (66, (m.2 66)), (67, (m.2 67)), (68, (m.2 68))]) c N D (by omega) (Ty_mO hT rfl rfl ⟨g405, g407, g409, ⟨(by omega : (0 : Int) ≤ 0), (by omega : (0 : Int) ≤ 8)⟩, g413, g415, f28, f69, f70, f71, f72, f75, trivial⟩ ⟨(hT.2.1 65), (hT.2.1 66), (hT.2.1 67), (hT.2.1 68), trivial⟩) 402 ((m.2 35) wi) wi 0 B h ⟨by decide, by decide⟩ (r32 (by omega) (by omega)) (r32 (by omega) (by omega)) ⟨by decide, by decide⟩ (fun _ => ⟨(show 0 ≤ (402 : Int) ∧ (402 : Int) ≤ 408 by first | omega | decide), (show 0 ≤ ((m.2 35) wi) ∧ ((m.2 35) wi) ≤ 64 by first | omega | decide), (show 0 ≤ wi ∧ wi ≤ 191 by first | omega | decide), (show CNk (402 : Int) wi by first | exact hCk | (refine ⟨?_, ?_, ?_, ?_⟩ <;> omega)), (show ar (402 : Int) ≤ h by first | exact hAr | omega), (show EX (m.2 65) (m.2 67) B (m.1 28) h by first | exact hEX | assumption)⟩)) (fun rr422 k423 => ?_)
        obtain ⟨y424, y426, y428, F430, F432, F434, F436, g425, g427, g429, G431, G433, G435, G437, h438, c439, rfl⟩ := k423
        refine ⟨_, _, rfl, ?_⟩
        refine T_nf (st' := []) (l' := [(7, y404), (8, y406), (9, y408), (10, y424), (11, y426), (12, y414), (28, y428), (69, (m.1 69)), (70, (m.1 70)), (71, (m.1 71)), (72, (m.1 72)), (75, (m.1 75))]) (a' := [(65, F430), (66, F432), (67, F434), (68, F436)]) rfl rfl rfl rfl rfl ?_
        by_cases hf440 : y424 = 0
        · skip
          subst hf440
          replace h438 : (0 : Int) = 0 := h438 rfl
          obtain ⟨c441, c442, c443⟩ := c439 rfl
          replace c441 : y428 = (m.1 28) + 1 := c441
          replace c442 : EX F430 F434 B y428 (h + 1 - ar (402 : Int)) := c442
          have hEX := c442
          replace c443 : agr (m.2 65) F430 (m.1 28) := c443
          have hAg := c443
          clear c439
          have u444 : (m.1 8) + 1 ≤ y406 := by omega
          clear g413 g425
          refine T_ld 151 (.ref 189) rfl (fun _ => rfl) ?_
          refine T_ld 153 (.int (i32 ((m.2 35) wi))) rfl (fun _ => rfl) ?_
          refine T_ld 154 (.int (i32 p)) rfl (fun _ => rfl) ?_
          refine T_call 157 249 [.ref 189, .int (i32 ((m.2 35) wi)), .int (i32 p)] [] rfl (fun _ => rfl) rfl (c_atom w (mO m [(7, y404), (8, y406), (9, y408), (10, 0), (11, y426), (12, y414), (28, y428), (69, (m.1 69)), (70, (m.1 70)), (71, (m.1 71)), (72, (m.1 72)), (75, (m.1 75))] [(65, F430), (66, F432), (67, F434), (68, F436)]) c N D (by omega) (Ty_mO hT rfl rfl ⟨g405, g407, g409, ⟨(by omega : (0 : Int) ≤ 0), (by omega : (0 : Int) ≤ 8)⟩, g427, g415, g429, f69, f70, f71, f72, f75, trivial⟩ ⟨G431, G433, G435, G437, trivial⟩) ((m.2 35) wi) p (r32 (by omega) (by omega)) (r32 (by omega) (by omega)) (show 0 ≤ ((m.2 35) wi) ∧ ((m.2 35) wi) ≤ 64 by omega) (show 0 ≤ p ∧ p ≤ 4000 by omega)) (fun rr445 k446 => ?_)
          obtain ⟨y447, y449, y451, y453, y455, g448, g450, g452, g454, g456, h457, rfl⟩ := k446
          refine ⟨_, _, rfl, ?_⟩
          refine T_nf (st' := []) (l' := [(7, y404), (8, y406), (9, y408), (10, 0), (11, y426), (12, y414), (28, y428), (69, y447), (70, y449), (71, y451), (72, y453), (75, y455)]) (a' := [(65, F430), (66, F432), (67, F434), (68, F436)]) rfl rfl rfl rfl rfl ?_
          replace h457 : (0 : Int) = 0 → y455 = 1 ∧ y447 = ((m.2 35) wi) := h457
          have u458 : (m.1 8) + 1 ≤ y406 := by omega
          refine T_ret rfl (fun _ => rfl) ?_
          exact ⟨y404, y406, y408, 0, y426, y414, y428, y447, y449, y451, y453, y455, F430, F432, F434, F436, g405, g407, g409, ⟨by omega, by omega⟩, g427, g415, g429, g448, g450, g452, g454, g456, G431, G433, G435, G437, (by omega), (by first | (first | exact hLx | (intro h9; exfalso; omega)) | (exfalso; omega)), (fun _ => ⟨(by omega), (by omega), (by omega), (by omega), (by first | (exact EX_w hEX (by omega)) | (exfalso; omega)), (by first | (exact hAg) | (exfalso; omega))⟩), rfl⟩
        · skip
          clear c439
          clear h438
          have hf459 : 1 ≤ y424 := by omega
          clear g413
          refine Tm_lv (a := [(0, .ref 189), (1, .int (i32 p)), (2, .int (i32 pq)), (3, .int (i32 so)), (4, .int (i32 ((m.2 35) wi))), (5, .int (i32 402)), (6, .int (i32 wi))]) rfl rfl ⟨rfl, rfl, rfl, rfl, rfl, rfl, rfl, trivial⟩ ?_
          exact J150_87 pq so ((m.2 35) wi) 402 wi y404 y406 y408 y424 y426 y414 y428 F430 F432 F434 F436 (r32 (by omega) (by omega)) (r32 (by omega) (by omega)) (r32 (by omega) (by omega)) ⟨by decide, by decide⟩ (r32 (by omega) (by omega)) g405 g407 g409 g425 g427 g415 g429 G431 G433 G435 G437 (by omega) (by omega) (by omega) (by omega) (by omega) (by omega) (by omega) (by omega)
      · skip
        replace h416 : LxP y404 y406 y408 (m.1 6) y410 := h416
        have hLx := h416
        clear h417
        replace h418 : (m.1 8) ≤ y406 := h418
        clear h419
        have hf460 : 1 ≤ y410 := by omega
        refine T_goto 139 rfl (fun _ => rfl) ?_
        refine T_ld 140 (.ref 189) rfl (fun _ => rfl) ?_
        refine T_ld 142 (.int (i32 402)) rfl (fun _ => rfl) ?_
        refine T_ld 144 (.int (i32 ((m.2 35) wi))) rfl (fun _ => rfl) ?_
        refine T_ld 146 (.int (i32 wi)) rfl (fun _ => rfl) ?_
        refine T_ld 147 (.long (i64 0)) rfl (fun _ => rfl) ?_
        refine T_call 150 248 [.ref 189, .int (i32 402), .int (i32 ((m.2 35) wi)), .int (i32 wi), .long (i64 0)] [] rfl (fun _ => rfl) rfl (c_node w (mO m [(7, y404), (8, y406), (9, y408), (10, y410), (11, y412), (12, y414), (28, (m.1 28)), (69, (m.1 69)), (70, (m.1 70)), (71, (m.1 71)), (72, (m.1 72)), (75, (m.1 75))] [(65, (m.2 65)), (66, (m.2 66)), (67, (m.2 67)), (68, (m.2 68))]) c N D (by omega) (Ty_mO hT rfl rfl ⟨g405, g407, g409, g411, g413, g415, f28, f69, f70, f71, f72, f75, trivial⟩ ⟨(hT.2.1 65), (hT.2.1 66), (hT.2.1 67), (hT.2.1 68), trivial⟩) 402 ((m.2 35) wi) wi 0 B h ⟨by decide, by decide⟩ (r32 (by omega) (by omega)) (r32 (by omega) (by omega)) ⟨by decide, by decide⟩ (fun (h : y410 = 0) => absurd h (by omega))) (fun rr461 k462 => ?_)
        obtain ⟨y463, y465, y467, F469, F471, F473, F475, g464, g466, g468, G470, G472, G474, G476, h477, c478, rfl⟩ := k462
        refine ⟨_, _, rfl, ?_⟩
        refine T_nf (st' := []) (l' := [(7, y404), (8, y406), (9, y408), (10, y463), (11, y465), (12, y414), (28, y467), (69, (m.1 69)), (70, (m.1 70)), (71, (m.1 71)), (72, (m.1 72)), (75, (m.1 75))]) (a' := [(65, F469), (66, F471), (67, F473), (68, F475)]) rfl rfl rfl rfl rfl ?_
        replace h477 : y463 = 0 → y410 = 0 := h477
        have hf479 : 1 ≤ y463 := by omega
        clear c478
        clear h477
        clear g411 g413 h416 hf460
        refine Tm_lv (a := [(0, .ref 189), (1, .int (i32 p)), (2, .int (i32 pq)), (3, .int (i32 so)), (4, .int (i32 ((m.2 35) wi))), (5, .int (i32 402)), (6, .int (i32 wi))]) rfl rfl ⟨rfl, rfl, rfl, rfl, rfl, rfl, rfl, trivial⟩ ?_
        exact J150_87 pq so ((m.2 35) wi) 402 wi y404 y406 y408 y463 y465 y414 y467 F469 F471 F473 F475 (r32 (by omega) (by omega)) (r32 (by omega) (by omega)) (r32 (by omega) (by omega)) ⟨by decide, by decide⟩ (r32 (by omega) (by omega)) g405 g407 g409 g464 g466 g415 g468 G470 G472 G474 G476 (by omega) (by omega) (by omega) (by omega) (by omega) (by omega) (by omega) (by omega)
  · skip
    refine T_gf 29 (.ref 219) rfl rfl rfl rfl rfl rfl ?_
    refine T_ld 30 (.int (i32 pq)) rfl (fun _ => rfl) ?_
    refine T_iald 31 49 (m.2 49) rfl rfl rfl (by omega) (show pq < (64 : Int) by omega) rfl ?_
    have e480 : 0 ≤ m.2 49 pq ∧ m.2 49 pq ≤ 64 := hT.2.1 49 pq
    refine T_sto 33 [(4, .int (i32 ((m.2 49) pq))), (6, .int (i32 0)), (5, .int (i32 403)), (3, .int (i32 so)), (2, .int (i32 pq)), (0, .ref 189), (1, .int (i32 p))] rfl (fun _ => rfl) ?_
    refine T_ld 34 (.int (i32 pq)) rfl (fun _ => rfl) ?_
    refine T_ld 35 (.int (i32 4)) rfl (fun _ => rfl) ?_
    refine T_irem 36 rfl rfl (by omega) (by omega) (by omega) (by omega) ?_
    refine T_sto 38 [(6, .int (i32 (pq % 4))), (4, .int (i32 ((m.2 49) pq))), (5, .int (i32 403)), (3, .int (i32 so)), (2, .int (i32 pq)), (0, .ref 189), (1, .int (i32 p))] rfl (fun _ => rfl) ?_
    refine T_ld 39 (.ref 189) rfl (fun _ => rfl) ?_
    refine T_call 42 212 [.ref 189] [] rfl (fun _ => rfl) rfl (c_next w (mO m [(7, (m.1 7)), (8, (m.1 8)), (9, (m.1 9)), (10, (m.1 10)), (11, (m.1 11)), (12, (m.1 12)), (28, (m.1 28)), (69, (m.1 69)), (70, (m.1 70)), (71, (m.1 71)), (72, (m.1 72)), (75, (m.1 75))] [(65, (m.2 65)), (66, (m.2 66)), (67, (m.2 67)), (68, (m.2 68))]) c N D (by omega) (Ty_mO hT rfl rfl ⟨f7, f8, f9, f10, f11, f12, f28, f69, f70, f71, f72, f75, trivial⟩ ⟨(hT.2.1 65), (hT.2.1 66), (hT.2.1 67), (hT.2.1 68), trivial⟩) (show (m.1 10) = 0 → (m.1 8) + (m.1 9) ≤ (m.1 6) by first | omega | (intro h9; have h8 := hLx h9; omega))) (fun rr481 k482 => ?_)
    obtain ⟨y483, y485, y487, y489, y491, y493, g484, g486, g488, g490, g492, g494, h495, h496, h497, h498, rfl⟩ := k482
    refine ⟨_, _, rfl, ?_⟩
    refine T_nf (st' := []) (l' := [(7, y483), (8, y485), (9, y487), (10, y489), (11, y491), (12, y493), (28, (m.1 28)), (69, (m.1 69)), (70, (m.1 70)), (71, (m.1 71)), (72, (m.1 72)), (75, (m.1 75))]) (a' := [(65, (m.2 65)), (66, (m.2 66)), (67, (m.2 67)), (68, (m.2 68))]) rfl rfl rfl rfl rfl ?_
    by_cases hf499 : y489 = 0
    · skip
      subst hf499
      replace h495 : LxP y483 y485 y487 (m.1 6) (0 : Int) := h495
      have hLx := h495
      replace h496 : (m.1 10) = 0 := h496 rfl
      replace h497 : (m.1 8) ≤ y485 := h497
      replace h498 : (m.1 8) + (m.1 9) ≤ y485 := h498 rfl
      have u500 : (m.1 8) + 1 ≤ y485 := by omega
      clear g490
      refine T_goto 139 rfl (fun _ => rfl) ?_
      have hA : ar (403 : Int) = 0 := ar_0 (by omega)
      have hAr : ar (403 : Int) ≤ h := by omega
      have hCk : CNk (403 : Int) (pq % 4) := by refine ⟨?_, ?_, ?_, ?_⟩ <;> omega
      refine T_ld 140 (.ref 189) rfl (fun _ => rfl) ?_
      refine T_ld 142 (.int (i32 403)) rfl (fun _ => rfl) ?_
      refine T_ld 144 (.int (i32 ((m.2 49) pq))) rfl (fun _ => rfl) ?_
      refine T_ld 146 (.int (i32 (pq % 4))) rfl (fun _ => rfl) ?_
      refine T_ld 147 (.long (i64 0)) rfl (fun _ => rfl) ?_
      refine T_call 150 248 [.ref 189, .int (i32 403), .int (i32 ((m.2 49) pq)), .int (i32 (pq % 4)), .long (i64 0)] [] rfl (fun _ => rfl) rfl (c_node w (mO m [(7, y483), (8, y485), (9, y487), (10, 0), (11, y491), (12, y493), (28, (m.1 28)), (69, (m.1 69)), (70, (m.1 70)), (71, (m.1 71)), (72, (m.1 72)), (75, (m.1 75))] [(65, (m.2 65)), (66, (m.2 66)), (67, (m.2 67)), (68, (m.2 68))]) c N D (by omega) (Ty_mO hT rfl rfl ⟨g484, g486, g488, ⟨(by omega : (0 : Int) ≤ 0), (by omega : (0 : Int) ≤ 8)⟩, g492, g494, f28, f69, f70, f71, f72, f75, trivial⟩ ⟨(hT.2.1 65), (hT.2.1 66), (hT.2.1 67), (hT.2.1 68), trivial⟩) 403 ((m.2 49) pq) (pq % 4) 0 B h ⟨by decide, by decide⟩ (r32 (by omega) (by omega)) (r32 (by omega) (by omega)) ⟨by decide, by decide⟩ (fun _ => ⟨(show 0 ≤ (403 : Int) ∧ (403 : Int) ≤ 408 by first | omega | decide), (show 0 ≤ ((m.2 49) pq) ∧ ((m.2 49) pq) ≤ 64 by first | omega | decide), (show 0 ≤ (pq % 4) ∧ (pq % 4) ≤ 191 by first | omega | decide), (show CNk (403 : Int) (pq % 4) by first | exact hCk | (refine ⟨?_, ?_, ?_, ?_⟩ <;> omega)), (show ar (403 : Int) ≤ h by first | exact hAr | omega), (show EX (m.2 65) (m.2 67) B (m.1 28) h by first | exact hEX | assumption)⟩)) (fun rr501 k502 => ?_)
      obtain ⟨y503, y505, y507, F509, F511, F513, F515, g504, g506, g508, G510, G512, G514, G516, h517, c518, rfl⟩ := k502
      refine ⟨_, _, rfl, ?_⟩
      refine T_nf (st' := []) (l' := [(7, y483), (8, y485), (9, y487), (10, y503), (11, y505), (12, y493), (28, y507), (69, (m.1 69)), (70, (m.1 70)), (71, (m.1 71)), (72, (m.1 72)), (75, (m.1 75))]) (a' := [(65, F509), (66, F511), (67, F513), (68, F515)]) rfl rfl rfl rfl rfl ?_
      by_cases hf519 : y503 = 0
      · skip
        subst hf519
        replace h517 : (0 : Int) = 0 := h517 rfl
        obtain ⟨c520, c521, c522⟩ := c518 rfl
        replace c520 : y507 = (m.1 28) + 1 := c520
        replace c521 : EX F509 F513 B y507 (h + 1 - ar (403 : Int)) := c521
        have hEX := c521
        replace c522 : agr (m.2 65) F509 (m.1 28) := c522
        have hAg := c522
        clear c518
        have u523 : (m.1 8) + 1 ≤ y485 := by omega
        clear g492 g504
        refine T_ld 151 (.ref 189) rfl (fun _ => rfl) ?_
        refine T_ld 153 (.int (i32 ((m.2 49) pq))) rfl (fun _ => rfl) ?_
        refine T_ld 154 (.int (i32 p)) rfl (fun _ => rfl) ?_
        refine T_call 157 249 [.ref 189, .int (i32 ((m.2 49) pq)), .int (i32 p)] [] rfl (fun _ => rfl) rfl (c_atom w (mO m [(7, y483), (8, y485), (9, y487), (10, 0), (11, y505), (12, y493), (28, y507), (69, (m.1 69)), (70, (m.1 70)), (71, (m.1 71)), (72, (m.1 72)), (75, (m.1 75))] [(65, F509), (66, F511), (67, F513), (68, F515)]) c N D (by omega) (Ty_mO hT rfl rfl ⟨g484, g486, g488, ⟨(by omega : (0 : Int) ≤ 0), (by omega : (0 : Int) ≤ 8)⟩, g506, g494, g508, f69, f70, f71, f72, f75, trivial⟩ ⟨G510, G512, G514, G516, trivial⟩) ((m.2 49) pq) p (r32 (by omega) (by omega)) (r32 (by omega) (by omega)) (show 0 ≤ ((m.2 49) pq) ∧ ((m.2 49) pq) ≤ 64 by omega) (show 0 ≤ p ∧ p ≤ 4000 by omega)) (fun rr524 k525 => ?_)
        obtain ⟨y526, y528, y530, y532, y534, g527, g529, g531, g533, g535, h536, rfl⟩ := k525
        refine ⟨_, _, rfl, ?_⟩
        refine T_nf (st' := []) (l' := [(7, y483), (8, y485), (9, y487), (10, 0), (11, y505), (12, y493), (28, y507), (69, y526), (70, y528), (71, y530), (72, y532), (75, y534)]) (a' := [(65, F509), (66, F511), (67, F513), (68, F515)]) rfl rfl rfl rfl rfl ?_
        replace h536 : (0 : Int) = 0 → y534 = 1 ∧ y526 = ((m.2 49) pq) := h536
        have u537 : (m.1 8) + 1 ≤ y485 := by omega
        refine T_ret rfl (fun _ => rfl) ?_
        exact ⟨y483, y485, y487, 0, y505, y493, y507, y526, y528, y530, y532, y534, F509, F511, F513, F515, g484, g486, g488, ⟨by omega, by omega⟩, g506, g494, g508, g527, g529, g531, g533, g535, G510, G512, G514, G516, (by omega), (by first | (first | exact hLx | (intro h9; exfalso; omega)) | (exfalso; omega)), (fun _ => ⟨(by omega), (by omega), (by omega), (by omega), (by first | (exact EX_w hEX (by omega)) | (exfalso; omega)), (by first | (exact hAg) | (exfalso; omega))⟩), rfl⟩
      · skip
        clear c518
        clear h517
        have hf538 : 1 ≤ y503 := by omega
        clear g492
        refine Tm_lv (a := [(0, .ref 189), (1, .int (i32 p)), (2, .int (i32 pq)), (3, .int (i32 so)), (4, .int (i32 ((m.2 49) pq))), (5, .int (i32 403)), (6, .int (i32 (pq % 4)))]) rfl rfl ⟨rfl, rfl, rfl, rfl, rfl, rfl, rfl, trivial⟩ ?_
        exact J150_87 pq so ((m.2 49) pq) 403 (pq % 4) y483 y485 y487 y503 y505 y493 y507 F509 F511 F513 F515 (r32 (by omega) (by omega)) (r32 (by omega) (by omega)) (r32 (by omega) (by omega)) ⟨by decide, by decide⟩ (r32 (by omega) (by omega)) g484 g486 g488 g504 g506 g494 g508 G510 G512 G514 G516 (by omega) (by omega) (by omega) (by omega) (by omega) (by omega) (by omega) (by omega)
    · skip
      replace h495 : LxP y483 y485 y487 (m.1 6) y489 := h495
      have hLx := h495
      clear h496
      replace h497 : (m.1 8) ≤ y485 := h497
      clear h498
      have hf539 : 1 ≤ y489 := by omega
      refine T_goto 139 rfl (fun _ => rfl) ?_
      refine T_ld 140 (.ref 189) rfl (fun _ => rfl) ?_
      refine T_ld 142 (.int (i32 403)) rfl (fun _ => rfl) ?_
      refine T_ld 144 (.int (i32 ((m.2 49) pq))) rfl (fun _ => rfl) ?_
      refine T_ld 146 (.int (i32 (pq % 4))) rfl (fun _ => rfl) ?_
      refine T_ld 147 (.long (i64 0)) rfl (fun _ => rfl) ?_
      refine T_call 150 248 [.ref 189, .int (i32 403), .int (i32 ((m.2 49) pq)), .int (i32 (pq % 4)), .long (i64 0)] [] rfl (fun _ => rfl) rfl (c_node w (mO m [(7, y483), (8, y485), (9, y487), (10, y489), (11, y491), (12, y493), (28, (m.1 28)), (69, (m.1 69)), (70, (m.1 70)), (71, (m.1 71)), (72, (m.1 72)), (75, (m.1 75))] [(65, (m.2 65)), (66, (m.2 66)), (67, (m.2 67)), (68, (m.2 68))]) c N D (by omega) (Ty_mO hT rfl rfl ⟨g484, g486, g488, g490, g492, g494, f28, f69, f70, f71, f72, f75, trivial⟩ ⟨(hT.2.1 65), (hT.2.1 66), (hT.2.1 67), (hT.2.1 68), trivial⟩) 403 ((m.2 49) pq) (pq % 4) 0 B h ⟨by decide, by decide⟩ (r32 (by omega) (by omega)) (r32 (by omega) (by omega)) ⟨by decide, by decide⟩ (fun (h : y489 = 0) => absurd h (by omega))) (fun rr540 k541 => ?_)
      obtain ⟨y542, y544, y546, F548, F550, F552, F554, g543, g545, g547, G549, G551, G553, G555, h556, c557, rfl⟩ := k541
      refine ⟨_, _, rfl, ?_⟩
      refine T_nf (st' := []) (l' := [(7, y483), (8, y485), (9, y487), (10, y542), (11, y544), (12, y493), (28, y546), (69, (m.1 69)), (70, (m.1 70)), (71, (m.1 71)), (72, (m.1 72)), (75, (m.1 75))]) (a' := [(65, F548), (66, F550), (67, F552), (68, F554)]) rfl rfl rfl rfl rfl ?_
      replace h556 : y542 = 0 → y489 = 0 := h556
      have hf558 : 1 ≤ y542 := by omega
      clear c557
      clear h556
      clear g490 g492 h495 hf539
      refine Tm_lv (a := [(0, .ref 189), (1, .int (i32 p)), (2, .int (i32 pq)), (3, .int (i32 so)), (4, .int (i32 ((m.2 49) pq))), (5, .int (i32 403)), (6, .int (i32 (pq % 4)))]) rfl rfl ⟨rfl, rfl, rfl, rfl, rfl, rfl, rfl, trivial⟩ ?_
      exact J150_87 pq so ((m.2 49) pq) 403 (pq % 4) y483 y485 y487 y542 y544 y493 y546 F548 F550 F552 F554 (r32 (by omega) (by omega)) (r32 (by omega) (by omega)) (r32 (by omega) (by omega)) ⟨by decide, by decide⟩ (r32 (by omega) (by omega)) g484 g486 g488 g543 g545 g494 g547 G549 G551 G553 G555 (by omega) (by omega) (by omega) (by omega) (by omega) (by omega) (by omega) (by omega)
def Q_wantUnit (m : mR) (c : Nat → Option am_C) (N : Nat) (B : Int) : ag_Re af_T → Prop := fun R => ∃ (y7 : Int) (y8 : Int) (y9 : Int) (y10 : Int) (y11 : Int) (y12 : Int) (y28 : Int) (y69 : Int) (y70 : Int) (y71 : Int) (y72 : Int) (y73 : Int) (y74 : Int) (y75 : Int) (F65 : Int → Int) (F66 : Int → Int) (F67 : Int → Int) (F68 : Int → Int) (F76 : Int → Int) (F77 : Int → Int) (F78 : Int → Int) (F79 : Int → Int) (F80 : Int → Int), (0 ≤ y7 ∧ y7 ≤ 330) ∧ (0 ≤ y8 ∧ y8 ≤ 4000) ∧ (0 ≤ y9 ∧ y9 ≤ 4000) ∧ (0 ≤ y10 ∧ y10 ≤ 8) ∧ ((-1) ≤ y11 ∧ y11 ≤ 4000) ∧ ((-9223372036854775808) ≤ y12 ∧ y12 ≤ 9223372036854775807) ∧ (0 ≤ y28 ∧ y28 ≤ 800) ∧ (0 ≤ y69 ∧ y69 ≤ 1024) ∧ (0 ≤ y70 ∧ y70 ≤ 4000) ∧ (0 ≤ y71 ∧ y71 ≤ 1) ∧ ((-9223372036854775808) ≤ y72 ∧ y72 ≤ 9223372036854775807) ∧ (0 ≤ y73 ∧ y73 ≤ 60) ∧ (0 ≤ y74 ∧ y74 ≤ 24) ∧ (0 ≤ y75 ∧ y75 ≤ 3) ∧ (∀ j, 0 ≤ F65 j ∧ F65 j ≤ 408) ∧ (∀ j, 0 ≤ F66 j ∧ F66 j ≤ 64) ∧ (∀ j, 0 ≤ F67 j ∧ F67 j ≤ 191) ∧ (∀ j, (-9223372036854775808) ≤ F68 j ∧ F68 j ≤ 9223372036854775807) ∧ (∀ j, 0 ≤ F76 j ∧ F76 j ≤ 2) ∧ (∀ j, 0 ≤ F77 j ∧ F77 j ≤ 4000) ∧ (∀ j, 0 ≤ F78 j ∧ F78 j ≤ 330) ∧ (∀ j, 0 ≤ F79 j ∧ F79 j ≤ 2) ∧ (∀ j, (-1) ≤ F80 j ∧ F80 j ≤ 330) ∧ (y10 = 0 → (m.1 10) = 0) ∧ (LxP y7 y8 y9 (m.1 6) y10) ∧ (y10 = 0 → ((m.1 8) + 1 ≤ y8) ∧ (y75 = 0 ∨ (y75 = 1 ∧ y69 ≤ 64)) ∧ (1 ≤ y73) ∧ ((m.1 28) ≤ y28) ∧ (XS F65 F67 F76 F78 F79 F80 B y28 y73 y74 (um y75)) ∧ (agr (m.2 65) F65 (m.1 28))) ∧ R = (.inl (none), (mhp (mO m [(7, y7), (8, y8), (9, y9), (10, y10), (11, y11), (12, y12), (28, y28), (69, y69), (70, y70), (71, y71), (72, y72), (73, y73), (74, y74), (75, y75)] [(65, F65), (66, F66), (67, F67), (68, F68), (76, F76), (77, F77), (78, F78), (79, F79), (80, F80)]) c, N), 0, 0)
set_option maxHeartbeats 8000000 in
theorem c_wantUnit (w : wX) (m : mR) (c : Nat → Option am_C) (N D : Nat) (hD : 8 ≤ D) (hT : Ty m) (B : Int) (hLx0 : LxP (m.1 7) (m.1 8) (m.1 9) (m.1 6) (m.1 10)) (hNM0 : ∀ k, (m.2 14) k + (m.2 15) k ≤ 4000) (hFA0 : ∀ k, (m.2 31) k + (m.2 32) k ≤ 4000) (hPA0 : ∀ k, (m.2 47) k + (m.2 48) k ≤ 4000) (hf0 : m.1 10 = 0) (hC : (PN (m.1 13) (m.1 19) (m.1 20) (m.1 21) (m.1 22) (m.1 23) (m.1 25) (m.1 26) (m.2 16) (m.2 17)) ∧ (XS (m.2 65) (m.2 67) (m.2 76) (m.2 78) (m.2 79) (m.2 80) B (m.1 28) (m.1 73) (m.1 74) 0) ∧ (1 ≤ (m.1 73)) ∧ ((m.1 75) = 0)) : TC w D 247 [.ref 189] (mhp m c, N) (Q_wantUnit m c N B) := by
  obtain ⟨D, rfl⟩ : ∃ k, D = k + 1 := ⟨D - 1, by omega⟩
  have hLx := hLx0
  have hNM := hNM0
  have hFA := hFA0
  have hPA := hPA0
  have f7 : 0 ≤ m.1 7 ∧ m.1 7 ≤ 330 := hT.1 7
  have f8 : 0 ≤ m.1 8 ∧ m.1 8 ≤ 4000 := hT.1 8
  have f9 : 0 ≤ m.1 9 ∧ m.1 9 ≤ 4000 := hT.1 9
  have f10 : 0 ≤ m.1 10 ∧ m.1 10 ≤ 8 := hT.1 10
  have f11 : (-1) ≤ m.1 11 ∧ m.1 11 ≤ 4000 := hT.1 11
  have f12 : (-9223372036854775808) ≤ m.1 12 ∧ m.1 12 ≤ 9223372036854775807 := hT.1 12
  have f28 : 0 ≤ m.1 28 ∧ m.1 28 ≤ 800 := hT.1 28
  have f69 : 0 ≤ m.1 69 ∧ m.1 69 ≤ 1024 := hT.1 69
  have f70 : 0 ≤ m.1 70 ∧ m.1 70 ≤ 4000 := hT.1 70
  have f71 : 0 ≤ m.1 71 ∧ m.1 71 ≤ 1 := hT.1 71
  have f72 : (-9223372036854775808) ≤ m.1 72 ∧ m.1 72 ≤ 9223372036854775807 := hT.1 72
  have f73 : 0 ≤ m.1 73 ∧ m.1 73 ≤ 60 := hT.1 73
  have f74 : 0 ≤ m.1 74 ∧ m.1 74 ≤ 24 := hT.1 74
  have f75 : 0 ≤ m.1 75 ∧ m.1 75 ≤ 3 := hT.1 75
  have f25 : 0 ≤ m.1 25 ∧ m.1 25 ≤ 16 := hT.1 25
  have f22 : 0 ≤ m.1 22 ∧ m.1 22 ≤ 8 := hT.1 22
  have f19 : 0 ≤ m.1 19 ∧ m.1 19 ≤ 12 := hT.1 19
  have f20 : 0 ≤ m.1 20 ∧ m.1 20 ≤ 12 := hT.1 20
  have f21 : 0 ≤ m.1 21 ∧ m.1 21 ≤ 16 := hT.1 21
  have f13 : 0 ≤ m.1 13 ∧ m.1 13 ≤ 120 := hT.1 13
  have f6 : 0 ≤ m.1 6 ∧ m.1 6 ≤ 4000 := hT.1 6
  have f23 : 0 ≤ m.1 23 ∧ m.1 23 ≤ 16 := hT.1 23
  have f26 : 0 ≤ m.1 26 ∧ m.1 26 ≤ 8 := hT.1 26
  refine Tc_of rfl ?_
  show TT w D pm_247 (0, [(0, .ref 189)], [], (mhp m c, N), 0, 0) (Q_wantUnit m c N B)
  rw [show (mhp m c, N) = (mhp (mO m [(7, (m.1 7)), (8, (m.1 8)), (9, (m.1 9)), (10, (m.1 10)), (11, (m.1 11)), (12, (m.1 12)), (28, (m.1 28)), (69, (m.1 69)), (70, (m.1 70)), (71, (m.1 71)), (72, (m.1 72)), (73, (m.1 73)), (74, (m.1 74)), (75, (m.1 75))] [(65, (m.2 65)), (66, (m.2 66)), (67, (m.2 67)), (68, (m.2 68)), (76, (m.2 76)), (77, (m.2 77)), (78, (m.2 78)), (79, (m.2 79)), (80, (m.2 80))]) c, N) from congrArg (fun M => (mhp M c, N)) (mO_pad m [7, 8, 9, 10, 11, 12, 28, 69, 70, 71, 72, 73, 74, 75] [65, 66, 67, 68, 76, 77, 78, 79, 80])]
  obtain ⟨pPN, hXS, c1, c2⟩ := hC
  have h7 := hLx (by omega)
  have hb := OS_hi hXS.1.2
  have hEX := hXS.1.1
  have hl0 : 0 ≤ lh (m.2 79) (m.2 80) (m.1 73) := lh_0 (hT.2.1 79) _ _
  have hAgC := agr_r (m.2 65) (m.1 28)
  have J212_117 : ∀ (y103 : Int) (y104 : Int) (y105 : Int) (y106 : Int) (y107 : Int) (y108 : Int) (y109 : Int) (y110 : Int) (y111 : Int) (F112 : Int → Int) (F113 : Int → Int) (F114 : Int → Int) (F115 : Int → Int) (F116 : Int → Int), (0 ≤ y103 ∧ y103 ≤ 330) → (0 ≤ y104 ∧ y104 ≤ 4000) → (0 ≤ y105 ∧ y105 ≤ 4000) → (0 ≤ y106 ∧ y106 ≤ 8) → ((-1) ≤ y107 ∧ y107 ≤ 4000) → ((-9223372036854775808) ≤ y108 ∧ y108 ≤ 9223372036854775807) → (0 ≤ y109 ∧ y109 ≤ 60) → (0 ≤ y110 ∧ y110 ≤ 24) → (0 ≤ y111 ∧ y111 ≤ 3) → (∀ j, 0 ≤ F112 j ∧ F112 j ≤ 2) → (∀ j, 0 ≤ F113 j ∧ F113 j ≤ 4000) → (∀ j, 0 ≤ F114 j ∧ F114 j ≤ 330) → (∀ j, 0 ≤ F115 j ∧ F115 j ≤ 2) → (∀ j, (-1) ≤ F116 j ∧ F116 j ≤ 330) → (1 ≤ y106) → (y106 ≤ 8) → (0 ≤ (m.1 8) ∧ (m.1 8) ≤ 4000) → TT w D pm_247 (212, [(0, .ref 189), (1, .int (i32 (m.1 8)))], [], (mhp (mO m [(7, y103), (8, y104), (9, y105), (10, y106), (11, y107), (12, y108), (28, (m.1 28)), (69, (m.1 69)), (70, (m.1 70)), (71, (m.1 71)), (72, (m.1 72)), (73, y109), (74, y110), (75, y111)] [(65, (m.2 65)), (66, (m.2 66)), (67, (m.2 67)), (68, (m.2 68)), (76, F112), (77, F113), (78, F114), (79, F115), (80, F116)]) c, N), 0, 0) (Q_wantUnit m c N B) := by
    intro y103 y104 y105 y106 y107 y108 y109 y110 y111 F112 F113 F114 F115 F116 q118 q119 q120 q121 q122 q123 q124 q125 q126 q127 q128 q129 q130 q131 ic132 ic133 ic134
    refine T_goto 219 rfl (fun _ => rfl) ?_
    refine T_ret rfl (fun _ => rfl) ?_
    exact ⟨y103, y104, y105, y106, y107, y108, (m.1 28), (m.1 69), (m.1 70), (m.1 71), (m.1 72), y109, y110, y111, (m.2 65), (m.2 66), (m.2 67), (m.2 68), F112, F113, F114, F115, F116, q118, q119, q120, q121, q122, q123, f28, f69, f70, f71, f72, q124, q125, q126, (hT.2.1 65), (hT.2.1 66), (hT.2.1 67), (hT.2.1 68), q127, q128, q129, q130, q131, (by omega), (by first | (first | exact hLx | (intro h9; exfalso; omega)) | (exfalso; omega)), (fun h => absurd h (by omega)), rfl⟩
  have J179_148 : ∀ (v136 : Int) (y137 : Int) (y138 : Int) (y139 : Int) (y140 : Int) (y141 : Int) (y142 : Int) (y143 : Int) (F144 : Int → Int) (F145 : Int → Int) (F146 : Int → Int) (F147 : Int → Int), (R32 v136) → (0 ≤ y137 ∧ y137 ≤ 330) → (0 ≤ y138 ∧ y138 ≤ 4000) → (0 ≤ y139 ∧ y139 ≤ 4000) → (0 ≤ y140 ∧ y140 ≤ 8) → ((-1) ≤ y141 ∧ y141 ≤ 4000) → ((-9223372036854775808) ≤ y142 ∧ y142 ≤ 9223372036854775807) → (0 ≤ y143 ∧ y143 ≤ 800) → (∀ j, 0 ≤ F144 j ∧ F144 j ≤ 408) → (∀ j, 0 ≤ F145 j ∧ F145 j ≤ 64) → (∀ j, 0 ≤ F146 j ∧ F146 j ≤ 191) → (∀ j, (-9223372036854775808) ≤ F147 j ∧ F147 j ≤ 9223372036854775807) → (0 ≤ v136) → (v136 ≤ 11) → (1 ≤ y140) → (y140 ≤ 8) → (0 ≤ (m.1 8) ∧ (m.1 8) ≤ 4000) → TT w D pm_247 (179, [(0, .ref 189), (1, .int (i32 (m.1 8))), (2, .int (i32 v136))], [], (mhp (mO m [(7, y137), (8, y138), (9, y139), (10, y140), (11, y141), (12, y142), (28, y143), (69, (m.1 69)), (70, (m.1 70)), (71, (m.1 71)), (72, (m.1 72)), (73, (m.1 73)), (74, (m.1 74)), (75, (m.1 75))] [(65, F144), (66, F145), (67, F146), (68, F147), (76, (m.2 76)), (77, (m.2 77)), (78, (m.2 78)), (79, (m.2 79)), (80, (m.2 80))]) c, N), 0, 0) (Q_wantUnit m c N B) := by
    intro v136 y137 y138 y139 y140 y141 y142 y143 F144 F145 F146 F147 q149 q150 q151 q152 q153 q154 q155 q156 q157 q158 q159 q160 ic161 ic162 ic163 ic164 ic165
    obtain ⟨q149a, q149b⟩ := id q149
    refine T_ld 180 (.ref 189) rfl (fun _ => rfl) ?_
    refine T_ld 181 (.int (i32 1)) rfl (fun _ => rfl) ?_
    refine T_ld 182 (.int (i32 (m.1 8))) rfl (fun _ => rfl) ?_
    refine T_call 185 249 [.ref 189, .int (i32 1), .int (i32 (m.1 8))] [] rfl (fun _ => rfl) rfl (c_atom w (mO m [(7, y137), (8, y138), (9, y139), (10, y140), (11, y141), (12, y142), (28, y143), (69, (m.1 69)), (70, (m.1 70)), (71, (m.1 71)), (72, (m.1 72)), (73, (m.1 73)), (74, (m.1 74)), (75, (m.1 75))] [(65, F144), (66, F145), (67, F146), (68, F147), (76, (m.2 76)), (77, (m.2 77)), (78, (m.2 78)), (79, (m.2 79)), (80, (m.2 80))]) c N D (by omega) (Ty_mO hT rfl rfl ⟨q150, q151, q152, q153, q154, q155, q156, f69, f70, f71, f72, f73, f74, f75, trivial⟩ ⟨q157, q158, q159, q160, (hT.2.1 76), (hT.2.1 77), (hT.2.1 78), (hT.2.1 79), (hT.2.1 80), trivial⟩) 1 (m.1 8) ⟨by decide, by decide⟩ (r32 (by omega) (by omega)) (show 0 ≤ (1 : Int) ∧ (1 : Int) ≤ 64 by omega) (show 0 ≤ (m.1 8) ∧ (m.1 8) ≤ 4000 by omega)) (fun rr167 k168 => ?_)
    obtain ⟨y169, y171, y173, y175, y177, g170, g172, g174, g176, g178, h179, rfl⟩ := k168
    refine ⟨_, _, rfl, ?_⟩
    refine T_nf (st' := []) (l' := [(7, y137), (8, y138), (9, y139), (10, y140), (11, y141), (12, y142), (28, y143), (69, y169), (70, y171), (71, y173), (72, y175), (73, (m.1 73)), (74, (m.1 74)), (75, y177)]) (a' := [(65, F144), (66, F145), (67, F146), (68, F147), (76, (m.2 76)), (77, (m.2 77)), (78, (m.2 78)), (79, (m.2 79)), (80, (m.2 80))]) rfl rfl rfl rfl rfl ?_
    replace h179 : y140 = 0 → y177 = 1 ∧ y169 = (1 : Int) := h179
    refine T_goto 219 rfl (fun _ => rfl) ?_
    refine T_ret rfl (fun _ => rfl) ?_
    exact ⟨y137, y138, y139, y140, y141, y142, y143, y169, y171, y173, y175, (m.1 73), (m.1 74), y177, F144, F145, F146, F147, (m.2 76), (m.2 77), (m.2 78), (m.2 79), (m.2 80), q150, q151, q152, q153, q154, q155, q156, g170, g172, g174, g176, f73, f74, g178, q157, q158, q159, q160, (hT.2.1 76), (hT.2.1 77), (hT.2.1 78), (hT.2.1 79), (hT.2.1 80), (by omega), (by first | (first | exact hLx | (intro h9; exfalso; omega)) | (exfalso; omega)), (fun h => absurd h (by omega)), rfl⟩
  have J168_187 : ∀ (s180 : Int) (y181 : Int) (y182 : Int) (y183 : Int) (y184 : Int) (y185 : Int) (y186 : Int), (R32 s180) → (0 ≤ y181 ∧ y181 ≤ 330) → (0 ≤ y182 ∧ y182 ≤ 4000) → (0 ≤ y183 ∧ y183 ≤ 4000) → (0 ≤ y184 ∧ y184 ≤ 8) → ((-1) ≤ y185 ∧ y185 ≤ 4000) → ((-9223372036854775808) ≤ y186 ∧ y186 ≤ 9223372036854775807) → (0 ≤ s180) → (s180 ≤ 11) → (1 ≤ y184) → (y184 ≤ 8) → (0 ≤ (m.1 8) ∧ (m.1 8) ≤ 4000) → TT w D pm_247 (168, [(0, .ref 189), (1, .int (i32 (m.1 8)))], [.int (i32 s180)], (mhp (mO m [(7, y181), (8, y182), (9, y183), (10, y184), (11, y185), (12, y186), (28, (m.1 28)), (69, (m.1 69)), (70, (m.1 70)), (71, (m.1 71)), (72, (m.1 72)), (73, (m.1 73)), (74, (m.1 74)), (75, (m.1 75))] [(65, (m.2 65)), (66, (m.2 66)), (67, (m.2 67)), (68, (m.2 68)), (76, (m.2 76)), (77, (m.2 77)), (78, (m.2 78)), (79, (m.2 79)), (80, (m.2 80))]) c, N), 0, 0) (Q_wantUnit m c N B) := by
    intro s180 y181 y182 y183 y184 y185 y186 q188 q189 q190 q191 q192 q193 q194 ic195 ic196 ic197 ic198 ic199
    obtain ⟨q188a, q188b⟩ := id q188
    refine T_sto 169 [(2, .int (i32 s180)), (0, .ref 189), (1, .int (i32 (m.1 8)))] rfl (fun _ => rfl) ?_
    refine T_ld 170 (.ref 189) rfl (fun _ => rfl) ?_
    refine T_ld 173 (.int (i32 404)) rfl (fun _ => rfl) ?_
    refine T_ld 174 (.int (i32 1)) rfl (fun _ => rfl) ?_
    refine T_ld 175 (.int (i32 s180)) rfl (fun _ => rfl) ?_
    refine T_ld 176 (.long (i64 0)) rfl (fun _ => rfl) ?_
    refine T_call 179 248 [.ref 189, .int (i32 404), .int (i32 1), .int (i32 s180), .long (i64 0)] [] rfl (fun _ => rfl) rfl (c_node w (mO m [(7, y181), (8, y182), (9, y183), (10, y184), (11, y185), (12, y186), (28, (m.1 28)), (69, (m.1 69)), (70, (m.1 70)), (71, (m.1 71)), (72, (m.1 72)), (73, (m.1 73)), (74, (m.1 74)), (75, (m.1 75))] [(65, (m.2 65)), (66, (m.2 66)), (67, (m.2 67)), (68, (m.2 68)), (76, (m.2 76)), (77, (m.2 77)), (78, (m.2 78)), (79, (m.2 79)), (80, (m.2 80))]) c N D (by omega) (Ty_mO hT rfl rfl ⟨q189, q190, q191, q192, q193, q194, f28, f69, f70, f71, f72, f73, f74, f75, trivial⟩ ⟨(hT.2.1 65), (hT.2.1 66), (hT.2.1 67), (hT.2.1 68), (hT.2.1 76), (hT.2.1 77), (hT.2.1 78), (hT.2.1 79), (hT.2.1 80), trivial⟩) 404 1 s180 0 B (0 + lh (m.2 79) (m.2 80) (m.1 73)) ⟨by decide, by decide⟩ ⟨by decide, by decide⟩ (r32 (by omega) (by omega)) ⟨by decide, by decide⟩ (fun (h : y184 = 0) => absurd h (by omega))) (fun rr201 k202 => ?_)
    obtain ⟨y203, y205, y207, F209, F211, F213, F215, g204, g206, g208, G210, G212, G214, G216, h217, c218, rfl⟩ := k202
    refine ⟨_, _, rfl, ?_⟩
    refine T_nf (st' := []) (l' := [(7, y181), (8, y182), (9, y183), (10, y203), (11, y205), (12, y186), (28, y207), (69, (m.1 69)), (70, (m.1 70)), (71, (m.1 71)), (72, (m.1 72)), (73, (m.1 73)), (74, (m.1 74)), (75, (m.1 75))]) (a' := [(65, F209), (66, F211), (67, F213), (68, F215), (76, (m.2 76)), (77, (m.2 77)), (78, (m.2 78)), (79, (m.2 79)), (80, (m.2 80))]) rfl rfl rfl rfl rfl ?_
    replace h217 : y203 = 0 → y184 = 0 := h217
    have hf219 : 1 ≤ y203 := by omega
    clear c218
    clear h217
    clear q192 q193 ic197 ic198
    refine Tm_lv (a := [(0, .ref 189), (1, .int (i32 (m.1 8))), (2, .int (i32 s180))]) rfl rfl ⟨rfl, rfl, rfl, trivial⟩ ?_
    exact J179_148 s180 y181 y182 y183 y203 y205 y186 y207 F209 F211 F213 F215 (r32 (by omega) (by omega)) q189 q190 q191 g204 g206 q194 g208 G210 G212 G214 G216 (by omega) (by omega) (by omega) (by omega) (by omega)
  have J113_231 : ∀ (y220 : Int) (y221 : Int) (y222 : Int) (y223 : Int) (y224 : Int) (y225 : Int) (y226 : Int) (F227 : Int → Int) (F228 : Int → Int) (F229 : Int → Int) (F230 : Int → Int), (0 ≤ y220 ∧ y220 ≤ 330) → (0 ≤ y221 ∧ y221 ≤ 4000) → (0 ≤ y222 ∧ y222 ≤ 4000) → (0 ≤ y223 ∧ y223 ≤ 8) → ((-1) ≤ y224 ∧ y224 ≤ 4000) → ((-9223372036854775808) ≤ y225 ∧ y225 ≤ 9223372036854775807) → (0 ≤ y226 ∧ y226 ≤ 800) → (∀ j, 0 ≤ F227 j ∧ F227 j ≤ 408) → (∀ j, 0 ≤ F228 j ∧ F228 j ≤ 64) → (∀ j, 0 ≤ F229 j ∧ F229 j ≤ 191) → (∀ j, (-9223372036854775808) ≤ F230 j ∧ F230 j ≤ 9223372036854775807) → (1 ≤ y223) → (y223 ≤ 8) → (0 ≤ (m.1 8) ∧ (m.1 8) ≤ 4000) → TT w D pm_247 (113, [(0, .ref 189), (1, .int (i32 (m.1 8))), (2, .long (i64 (m.1 12)))], [], (mhp (mO m [(7, y220), (8, y221), (9, y222), (10, y223), (11, y224), (12, y225), (28, y226), (69, (m.1 69)), (70, (m.1 70)), (71, (m.1 71)), (72, (m.1 72)), (73, (m.1 73)), (74, (m.1 74)), (75, (m.1 75))] [(65, F227), (66, F228), (67, F229), (68, F230), (76, (m.2 76)), (77, (m.2 77)), (78, (m.2 78)), (79, (m.2 79)), (80, (m.2 80))]) c, N), 0, 0) (Q_wantUnit m c N B) := by
    intro y220 y221 y222 y223 y224 y225 y226 F227 F228 F229 F230 q232 q233 q234 q235 q236 q237 q238 q239 q240 q241 q242 ic243 ic244 ic245
    refine T_ld 114 (.ref 189) rfl (fun _ => rfl) ?_
    refine T_ld 116 (.int (i32 64)) rfl (fun _ => rfl) ?_
    refine T_ld 117 (.int (i32 (m.1 8))) rfl (fun _ => rfl) ?_
    refine T_call 120 249 [.ref 189, .int (i32 64), .int (i32 (m.1 8))] [] rfl (fun _ => rfl) rfl (c_atom w (mO m [(7, y220), (8, y221), (9, y222), (10, y223), (11, y224), (12, y225), (28, y226), (69, (m.1 69)), (70, (m.1 70)), (71, (m.1 71)), (72, (m.1 72)), (73, (m.1 73)), (74, (m.1 74)), (75, (m.1 75))] [(65, F227), (66, F228), (67, F229), (68, F230), (76, (m.2 76)), (77, (m.2 77)), (78, (m.2 78)), (79, (m.2 79)), (80, (m.2 80))]) c N D (by omega) (Ty_mO hT rfl rfl ⟨q232, q233, q234, q235, q236, q237, q238, f69, f70, f71, f72, f73, f74, f75, trivial⟩ ⟨q239, q240, q241, q242, (hT.2.1 76), (hT.2.1 77), (hT.2.1 78), (hT.2.1 79), (hT.2.1 80), trivial⟩) 64 (m.1 8) ⟨by decide, by decide⟩ (r32 (by omega) (by omega)) (show 0 ≤ (64 : Int) ∧ (64 : Int) ≤ 64 by omega) (show 0 ≤ (m.1 8) ∧ (m.1 8) ≤ 4000 by omega)) (fun rr247 k248 => ?_)
    obtain ⟨y249, y251, y253, y255, y257, g250, g252, g254, g256, g258, h259, rfl⟩ := k248
    refine ⟨_, _, rfl, ?_⟩
    refine T_nf (st' := []) (l' := [(7, y220), (8, y221), (9, y222), (10, y223), (11, y224), (12, y225), (28, y226), (69, y249), (70, y251), (71, y253), (72, y255), (73, (m.1 73)), (74, (m.1 74)), (75, y257)]) (a' := [(65, F227), (66, F228), (67, F229), (68, F230), (76, (m.2 76)), (77, (m.2 77)), (78, (m.2 78)), (79, (m.2 79)), (80, (m.2 80))]) rfl rfl rfl rfl rfl ?_
    replace h259 : y223 = 0 → y257 = 1 ∧ y249 = (64 : Int) := h259
    refine T_ld 121 (.ref 189) rfl (fun _ => rfl) ?_
    refine T_ld 122 (.int (i32 1)) rfl (fun _ => rfl) ?_
    refine T_pf (l' := [(7, y220), (8, y221), (9, y222), (10, y223), (11, y224), (12, y225), (28, y226), (69, y249), (70, y251), (71, 1), (72, y255), (73, (m.1 73)), (74, (m.1 74)), (75, y257)]) 125 1 rfl rfl rfl rfl rfl rfl ?_
    refine T_ld 126 (.ref 189) rfl (fun _ => rfl) ?_
    refine T_ld 127 (.long (i64 (m.1 12))) rfl (fun _ => rfl) ?_
    refine T_pf (l' := [(7, y220), (8, y221), (9, y222), (10, y223), (11, y224), (12, y225), (28, y226), (69, y249), (70, y251), (71, 1), (72, (m.1 12)), (73, (m.1 73)), (74, (m.1 74)), (75, y257)]) 130 (m.1 12) rfl rfl rfl rfl rfl rfl ?_
    have g260 : (-9223372036854775808) ≤ (m.1 12) ∧ (m.1 12) ≤ 9223372036854775807 := ⟨by omega, by omega⟩
    refine T_goto 219 rfl (fun _ => rfl) ?_
    refine T_ret rfl (fun _ => rfl) ?_
    exact ⟨y220, y221, y222, y223, y224, y225, y226, y249, y251, 1, (m.1 12), (m.1 73), (m.1 74), y257, F227, F228, F229, F230, (m.2 76), (m.2 77), (m.2 78), (m.2 79), (m.2 80), q232, q233, q234, q235, q236, q237, q238, g250, g252, ⟨by omega, by omega⟩, g260, f73, f74, g258, q239, q240, q241, q242, (hT.2.1 76), (hT.2.1 77), (hT.2.1 78), (hT.2.1 79), (hT.2.1 80), (by omega), (by first | (first | exact hLx | (intro h9; exfalso; omega)) | (exfalso; omega)), (fun h => absurd h (by omega)), rfl⟩
  have J82_273 : ∀ (y261 : Int) (y262 : Int) (y263 : Int) (y264 : Int) (y265 : Int) (y266 : Int) (y267 : Int) (F268 : Int → Int) (F269 : Int → Int) (F270 : Int → Int) (F271 : Int → Int) (F272 : Int → Int), (0 ≤ y261 ∧ y261 ≤ 330) → (0 ≤ y262 ∧ y262 ≤ 4000) → (0 ≤ y263 ∧ y263 ≤ 4000) → (0 ≤ y264 ∧ y264 ≤ 8) → ((-1) ≤ y265 ∧ y265 ≤ 4000) → ((-9223372036854775808) ≤ y266 ∧ y266 ≤ 9223372036854775807) → (0 ≤ y267 ∧ y267 ≤ 60) → (∀ j, 0 ≤ F268 j ∧ F268 j ≤ 2) → (∀ j, 0 ≤ F269 j ∧ F269 j ≤ 4000) → (∀ j, 0 ≤ F270 j ∧ F270 j ≤ 330) → (∀ j, 0 ≤ F271 j ∧ F271 j ≤ 2) → (∀ j, (-1) ≤ F272 j ∧ F272 j ≤ 330) → (1 ≤ y264) → (y264 ≤ 8) → (0 ≤ ((m.1 74) + 1) ∧ ((m.1 74) + 1) ≤ 24) → (0 ≤ (m.1 8) ∧ (m.1 8) ≤ 4000) → TT w D pm_247 (82, [(0, .ref 189), (1, .int (i32 (m.1 8)))], [], (mhp (mO m [(7, y261), (8, y262), (9, y263), (10, y264), (11, y265), (12, y266), (28, (m.1 28)), (69, (m.1 69)), (70, (m.1 70)), (71, (m.1 71)), (72, (m.1 72)), (73, y267), (74, (m.1 74) + 1), (75, (m.1 75))] [(65, (m.2 65)), (66, (m.2 66)), (67, (m.2 67)), (68, (m.2 68)), (76, F268), (77, F269), (78, F270), (79, F271), (80, F272)]) c, N), 0, 0) (Q_wantUnit m c N B) := by
    intro y261 y262 y263 y264 y265 y266 y267 F268 F269 F270 F271 F272 q274 q275 q276 q277 q278 q279 q280 q281 q282 q283 q284 q285 ic286 ic287 ic288 ic289
    refine T_goto 219 rfl (fun _ => rfl) ?_
    refine T_ret rfl (fun _ => rfl) ?_
    exact ⟨y261, y262, y263, y264, y265, y266, (m.1 28), (m.1 69), (m.1 70), (m.1 71), (m.1 72), y267, (m.1 74) + 1, (m.1 75), (m.2 65), (m.2 66), (m.2 67), (m.2 68), F268, F269, F270, F271, F272, q274, q275, q276, q277, q278, q279, f28, f69, f70, f71, f72, q280, ⟨by omega, by omega⟩, f75, (hT.2.1 65), (hT.2.1 66), (hT.2.1 67), (hT.2.1 68), q281, q282, q283, q284, q285, (by omega), (by first | (first | exact hLx | (intro h9; exfalso; omega)) | (exfalso; omega)), (fun h => absurd h (by omega)), rfl⟩
  have J50_293 : ∀ (y291 : Int) (y292 : Int), (0 ≤ y291 ∧ y291 ≤ 8) → ((-1) ≤ y292 ∧ y292 ≤ 4000) → (1 ≤ y291) → (y291 ≤ 8) → (0 ≤ (m.1 8) ∧ (m.1 8) ≤ 4000) → TT w D pm_247 (50, [(0, .ref 189), (1, .int (i32 (m.1 8)))], [], (mhp (mO m [(7, (m.1 7)), (8, (m.1 8)), (9, (m.1 9)), (10, y291), (11, y292), (12, (m.1 12)), (28, (m.1 28)), (69, (m.1 69)), (70, (m.1 70)), (71, (m.1 71)), (72, (m.1 72)), (73, (m.1 73)), (74, (m.1 74)), (75, (m.1 75))] [(65, (m.2 65)), (66, (m.2 66)), (67, (m.2 67)), (68, (m.2 68)), (76, (m.2 76)), (77, (m.2 77)), (78, (m.2 78)), (79, (m.2 79)), (80, (m.2 80))]) c, N), 0, 0) (Q_wantUnit m c N B) := by
    intro y291 y292 q294 q295 ic296 ic297 ic298
    refine T_gf 54 (.int (i32 y291)) rfl rfl rfl rfl rfl rfl ?_
    refine T_if 58 57 rfl rfl rfl (r32 (by omega) (by omega)) (fun (h300 : y291 ≤ 0) => by exfalso; omega) (fun (h300 : ¬ (y291 ≤ 0)) => ?_)
    refine T_ret rfl (fun _ => rfl) ?_
    exact ⟨(m.1 7), (m.1 8), (m.1 9), y291, y292, (m.1 12), (m.1 28), (m.1 69), (m.1 70), (m.1 71), (m.1 72), (m.1 73), (m.1 74), (m.1 75), (m.2 65), (m.2 66), (m.2 67), (m.2 68), (m.2 76), (m.2 77), (m.2 78), (m.2 79), (m.2 80), f7, f8, f9, q294, q295, f12, f28, f69, f70, f71, f72, f73, f74, f75, (hT.2.1 65), (hT.2.1 66), (hT.2.1 67), (hT.2.1 68), (hT.2.1 76), (hT.2.1 77), (hT.2.1 78), (hT.2.1 79), (hT.2.1 80), (by omega), (by first | (first | exact hLx | (intro h9; exfalso; omega)) | (exfalso; omega)), (fun h => absurd h (by omega)), rfl⟩
  refine T_gf 4 (.int (i32 (m.1 8))) rfl rfl rfl rfl rfl rfl ?_
  refine T_sto 5 [(1, .int (i32 (m.1 8))), (0, .ref 189)] rfl (fun _ => rfl) ?_
  refine T_gf 9 (.int (i32 (m.1 7))) rfl rfl rfl rfl rfl rfl ?_
  refine T_ld 11 (.int (i32 126)) rfl (fun _ => rfl) ?_
  refine T_icmp 32 14 rfl rfl rfl (r32 (by omega) (by omega)) ⟨by decide, by decide⟩ (fun (h301 : (m.1 7) = 126) => ?_) (fun (h301 : ¬ ((m.1 7) = 126)) => ?_)
  · skip
    refine T_gf 36 (.int (i32 (m.1 74))) rfl rfl rfl rfl rfl rfl ?_
    refine T_ld 38 (.int (i32 24)) rfl (fun _ => rfl) ?_
    refine T_icmp 50 41 rfl rfl rfl (r32 (by omega) (by omega)) ⟨by decide, by decide⟩ (fun (h302 : (m.1 74) ≠ 24) => ?_) (fun (h302 : ¬ ((m.1 74) ≠ 24)) => ?_)
    · skip
      refine T_gf 54 (.int (i32 (m.1 10))) rfl rfl rfl rfl rfl rfl ?_
      refine T_if 58 57 rfl rfl rfl (r32 (by omega) (by omega)) (fun (h303 : (m.1 10) ≤ 0) => ?_) (fun (h303 : ¬ ((m.1 10) ≤ 0)) => by exfalso; omega)
      refine T_ld 59 (.ref 189) rfl (fun _ => rfl) ?_
      refine T_ld 60 (.ref 189) rfl (fun _ => rfl) ?_
      refine T_gf1 63 (.int (i32 (m.1 74))) rfl rfl rfl rfl ?_
      refine T_ld 64 (.int (i32 1)) rfl (fun _ => rfl) ?_
      refine T_iadd 65 rfl rfl ?_
      refine T_pf (l' := [(7, (m.1 7)), (8, (m.1 8)), (9, (m.1 9)), (10, (m.1 10)), (11, (m.1 11)), (12, (m.1 12)), (28, (m.1 28)), (69, (m.1 69)), (70, (m.1 70)), (71, (m.1 71)), (72, (m.1 72)), (73, (m.1 73)), (74, (m.1 74) + 1), (75, (m.1 75))]) 68 ((m.1 74) + 1) rfl rfl rfl rfl rfl rfl ?_
      have g304 : 0 ≤ (m.1 74) + 1 ∧ (m.1 74) + 1 ≤ 24 := ⟨by omega, by omega⟩
      refine T_ld 69 (.ref 189) rfl (fun _ => rfl) ?_
      refine T_ld 70 (.int (i32 1)) rfl (fun _ => rfl) ?_
      refine T_ld 71 (.int (i32 (m.1 8))) rfl (fun _ => rfl) ?_
      refine T_gf 75 (.int (i32 (m.1 7))) rfl rfl rfl rfl rfl rfl ?_
      refine T_call 78 246 [.ref 189, .int (i32 1), .int (i32 (m.1 8)), .int (i32 (m.1 7))] [] rfl (fun _ => rfl) rfl (c_open w (mO m [(7, (m.1 7)), (8, (m.1 8)), (9, (m.1 9)), (10, (m.1 10)), (11, (m.1 11)), (12, (m.1 12)), (28, (m.1 28)), (69, (m.1 69)), (70, (m.1 70)), (71, (m.1 71)), (72, (m.1 72)), (73, (m.1 73)), (74, (m.1 74) + 1), (75, (m.1 75))] [(65, (m.2 65)), (66, (m.2 66)), (67, (m.2 67)), (68, (m.2 68)), (76, (m.2 76)), (77, (m.2 77)), (78, (m.2 78)), (79, (m.2 79)), (80, (m.2 80))]) c N D (by omega) (Ty_mO hT rfl rfl ⟨f7, f8, f9, f10, f11, f12, f28, f69, f70, f71, f72, f73, g304, f75, trivial⟩ ⟨(hT.2.1 65), (hT.2.1 66), (hT.2.1 67), (hT.2.1 68), (hT.2.1 76), (hT.2.1 77), (hT.2.1 78), (hT.2.1 79), (hT.2.1 80), trivial⟩) 1 (m.1 8) (m.1 7) ⟨by decide, by decide⟩ (r32 (by omega) (by omega)) (r32 (by omega) (by omega)) (show (m.1 73) ≤ 59 by omega) (show 0 ≤ (1 : Int) ∧ (1 : Int) ≤ 2 by omega) (show 0 ≤ (m.1 8) ∧ (m.1 8) ≤ 4000 by omega) (show 0 ≤ (m.1 7) ∧ (m.1 7) ≤ 330 by omega)) (fun rr305 k306 => ?_)
      obtain ⟨y307, F309, F311, F313, F315, F317, g308, G310, G312, G314, G316, G318, h319, h320, h321, h322, h323, h324, rfl⟩ := k306
      refine ⟨_, _, rfl, ?_⟩
      refine T_nf (st' := []) (l' := [(7, (m.1 7)), (8, (m.1 8)), (9, (m.1 9)), (10, (m.1 10)), (11, (m.1 11)), (12, (m.1 12)), (28, (m.1 28)), (69, (m.1 69)), (70, (m.1 70)), (71, (m.1 71)), (72, (m.1 72)), (73, y307), (74, (m.1 74) + 1), (75, (m.1 75))]) (a' := [(65, (m.2 65)), (66, (m.2 66)), (67, (m.2 67)), (68, (m.2 68)), (76, F309), (77, F311), (78, F313), (79, F315), (80, F317)]) rfl rfl rfl rfl rfl ?_
      replace h319 : y307 = (m.1 73) + 1 := h319
      have hO0 := h319
      replace h320 : F309 = upI (m.2 76) (m.1 73) (1 : Int) := h320
      have hO1 := h320
      replace h321 : F313 = upI (m.2 78) (m.1 73) (m.1 7) := h321
      have hO2 := h321
      replace h322 : F315 = upI (m.2 79) (m.1 73) 0 := h322
      have hO3 := h322
      replace h323 : ∀ j, j < 9 * (m.1 73) → F317 j = (m.2 80) j := h323
      have hW1 := h323
      replace h324 : ∀ j, 9 * (m.1 73) ≤ j → j < 9 * (m.1 73) + 9 → F317 j = -1 := h324
      have hW2 := h324
      have u325 : (m.1 8) ≤ (m.1 8) := by omega
      have hAgC : agr (m.2 65) (m.2 65) (m.1 28) := by first | exact agr_r _ _ | exact hAgC | exact agr_t hAgC hAg (by omega)
      have u326 : 1 ≤ y307 := by omega
      refine T_ld 79 (.ref 189) rfl (fun _ => rfl) ?_
      refine T_call 82 212 [.ref 189] [] rfl (fun _ => rfl) rfl (c_next w (mO m [(7, (m.1 7)), (8, (m.1 8)), (9, (m.1 9)), (10, (m.1 10)), (11, (m.1 11)), (12, (m.1 12)), (28, (m.1 28)), (69, (m.1 69)), (70, (m.1 70)), (71, (m.1 71)), (72, (m.1 72)), (73, y307), (74, (m.1 74) + 1), (75, (m.1 75))] [(65, (m.2 65)), (66, (m.2 66)), (67, (m.2 67)), (68, (m.2 68)), (76, F309), (77, F311), (78, F313), (79, F315), (80, F317)]) c N D (by omega) (Ty_mO hT rfl rfl ⟨f7, f8, f9, f10, f11, f12, f28, f69, f70, f71, f72, g308, g304, f75, trivial⟩ ⟨(hT.2.1 65), (hT.2.1 66), (hT.2.1 67), (hT.2.1 68), G310, G312, G314, G316, G318, trivial⟩) (show (m.1 10) = 0 → (m.1 8) + (m.1 9) ≤ (m.1 6) by first | omega | (intro h9; have h8 := hLx h9; omega))) (fun rr327 k328 => ?_)
      obtain ⟨y329, y331, y333, y335, y337, y339, g330, g332, g334, g336, g338, g340, h341, h342, h343, h344, rfl⟩ := k328
      refine ⟨_, _, rfl, ?_⟩
      refine T_nf (st' := []) (l' := [(7, y329), (8, y331), (9, y333), (10, y335), (11, y337), (12, y339), (28, (m.1 28)), (69, (m.1 69)), (70, (m.1 70)), (71, (m.1 71)), (72, (m.1 72)), (73, y307), (74, (m.1 74) + 1), (75, (m.1 75))]) (a' := [(65, (m.2 65)), (66, (m.2 66)), (67, (m.2 67)), (68, (m.2 68)), (76, F309), (77, F311), (78, F313), (79, F315), (80, F317)]) rfl rfl rfl rfl rfl ?_
      by_cases hf345 : y335 = 0
      · skip
        subst hf345
        replace h341 : LxP y329 y331 y333 (m.1 6) (0 : Int) := h341
        have hLx := h341
        replace h342 : (m.1 10) = 0 := h342 rfl
        replace h343 : (m.1 8) ≤ y331 := h343
        replace h344 : (m.1 8) + (m.1 9) ≤ y331 := h344 rfl
        have u346 : (m.1 8) + 1 ≤ y331 := by omega
        have hAgC : agr (m.2 65) (m.2 65) (m.1 28) := by first | exact agr_r _ _ | exact hAgC | exact agr_t hAgC hAg (by omega)
        have u347 : 1 ≤ y307 := by omega
        clear g336
        have hXE : XS (m.2 65) (m.2 67) F309 F313 F315 F317 B (m.1 28) y307 ((m.1 74) + 1) (um (m.1 75)) := by
          rw [hO0, hO1, hO2, hO3, show um (m.1 75) = 0 from if_pos (by omega)]
          exact XS_pre hXS (by omega) (by omega) hW1 hW2
        refine T_goto 219 rfl (fun _ => rfl) ?_
        refine T_ret rfl (fun _ => rfl) ?_
        exact ⟨y329, y331, y333, 0, y337, y339, (m.1 28), (m.1 69), (m.1 70), (m.1 71), (m.1 72), y307, (m.1 74) + 1, (m.1 75), (m.2 65), (m.2 66), (m.2 67), (m.2 68), F309, F311, F313, F315, F317, g330, g332, g334, ⟨by omega, by omega⟩, g338, g340, f28, f69, f70, f71, f72, g308, g304, f75, (hT.2.1 65), (hT.2.1 66), (hT.2.1 67), (hT.2.1 68), G310, G312, G314, G316, G318, (by omega), (by first | (first | exact hLx | (intro h9; exfalso; omega)) | (exfalso; omega)), (fun _ => ⟨(by omega), (by omega), (by omega), (by omega), (by first | (exact hXE) | (exfalso; omega)), (by first | (exact hAgC) | (exfalso; omega))⟩), rfl⟩
      · skip
        replace h341 : LxP y329 y331 y333 (m.1 6) y335 := h341
        have hLx := h341
        clear h342
        replace h343 : (m.1 8) ≤ y331 := h343
        clear h344
        have hf348 : 1 ≤ y335 := by omega
        refine Tm_lv (a := [(0, .ref 189), (1, .int (i32 (m.1 8)))]) rfl rfl ⟨rfl, rfl, trivial⟩ ?_
        exact J82_273 y329 y331 y333 y335 y337 y339 y307 F309 F311 F313 F315 F317 g330 g332 g334 g336 g338 g340 g308 G310 G312 G314 G316 G318 (by omega) (by omega) (by omega) (by omega)
    · skip
      refine T_ld 42 (.ref 189) rfl (fun _ => rfl) ?_
      refine T_ld 43 (.int (i32 4)) rfl (fun _ => rfl) ?_
      refine T_gf 47 (.int (i32 (m.1 8))) rfl rfl rfl rfl rfl rfl ?_
      refine T_call 50 222 [.ref 189, .int (i32 4), .int (i32 (m.1 8))] [] rfl (fun _ => rfl) rfl (c_wrong w (mO m [(7, (m.1 7)), (8, (m.1 8)), (9, (m.1 9)), (10, (m.1 10)), (11, (m.1 11)), (12, (m.1 12)), (28, (m.1 28)), (69, (m.1 69)), (70, (m.1 70)), (71, (m.1 71)), (72, (m.1 72)), (73, (m.1 73)), (74, (m.1 74)), (75, (m.1 75))] [(65, (m.2 65)), (66, (m.2 66)), (67, (m.2 67)), (68, (m.2 68)), (76, (m.2 76)), (77, (m.2 77)), (78, (m.2 78)), (79, (m.2 79)), (80, (m.2 80))]) c N D (by omega) (Ty_mO hT rfl rfl ⟨f7, f8, f9, f10, f11, f12, f28, f69, f70, f71, f72, f73, f74, f75, trivial⟩ ⟨(hT.2.1 65), (hT.2.1 66), (hT.2.1 67), (hT.2.1 68), (hT.2.1 76), (hT.2.1 77), (hT.2.1 78), (hT.2.1 79), (hT.2.1 80), trivial⟩) 4 (m.1 8) ⟨by decide, by decide⟩ (r32 (by omega) (by omega)) (show 1 ≤ (4 : Int) ∧ (4 : Int) ≤ 8 by omega) (show 0 ≤ (m.1 8) ∧ (m.1 8) ≤ 4000 by omega)) (fun rr349 k350 => ?_)
      obtain ⟨y351, y353, g352, g354, h355, rfl⟩ := k350
      refine ⟨_, _, rfl, ?_⟩
      refine T_nf (st' := []) (l' := [(7, (m.1 7)), (8, (m.1 8)), (9, (m.1 9)), (10, y351), (11, y353), (12, (m.1 12)), (28, (m.1 28)), (69, (m.1 69)), (70, (m.1 70)), (71, (m.1 71)), (72, (m.1 72)), (73, (m.1 73)), (74, (m.1 74)), (75, (m.1 75))]) (a' := [(65, (m.2 65)), (66, (m.2 66)), (67, (m.2 67)), (68, (m.2 68)), (76, (m.2 76)), (77, (m.2 77)), (78, (m.2 78)), (79, (m.2 79)), (80, (m.2 80))]) rfl rfl rfl rfl rfl ?_
      replace h355 : (0 < (m.1 10) → y351 = (m.1 10) ∧ y353 = (m.1 11)) ∧ ((m.1 10) ≤ 0 → y351 = (4 : Int) ∧ y353 = (m.1 8)) := h355
      have hf356 : 1 ≤ y351 := by omega
      refine Tm_lv (a := [(0, .ref 189), (1, .int (i32 (m.1 8)))]) rfl rfl ⟨rfl, rfl, trivial⟩ ?_
      exact J50_293 y351 y353 g352 g354 (by omega) (by omega) (by omega)
  · skip
    refine T_gf 18 (.int (i32 (m.1 7))) rfl rfl rfl rfl rfl rfl ?_
    refine T_ld 20 (.int (i32 33)) rfl (fun _ => rfl) ?_
    refine T_icmp 32 23 rfl rfl rfl (r32 (by omega) (by omega)) ⟨by decide, by decide⟩ (fun (h357 : (m.1 7) = 33) => ?_) (fun (h357 : ¬ ((m.1 7) = 33)) => ?_)
    · skip
      refine T_gf 36 (.int (i32 (m.1 74))) rfl rfl rfl rfl rfl rfl ?_
      refine T_ld 38 (.int (i32 24)) rfl (fun _ => rfl) ?_
      refine T_icmp 50 41 rfl rfl rfl (r32 (by omega) (by omega)) ⟨by decide, by decide⟩ (fun (h358 : (m.1 74) ≠ 24) => ?_) (fun (h358 : ¬ ((m.1 74) ≠ 24)) => ?_)
      · skip
        refine T_gf 54 (.int (i32 (m.1 10))) rfl rfl rfl rfl rfl rfl ?_
        refine T_if 58 57 rfl rfl rfl (r32 (by omega) (by omega)) (fun (h359 : (m.1 10) ≤ 0) => ?_) (fun (h359 : ¬ ((m.1 10) ≤ 0)) => by exfalso; omega)
        refine T_ld 59 (.ref 189) rfl (fun _ => rfl) ?_
        refine T_ld 60 (.ref 189) rfl (fun _ => rfl) ?_
        refine T_gf1 63 (.int (i32 (m.1 74))) rfl rfl rfl rfl ?_
        refine T_ld 64 (.int (i32 1)) rfl (fun _ => rfl) ?_
        refine T_iadd 65 rfl rfl ?_
        refine T_pf (l' := [(7, (m.1 7)), (8, (m.1 8)), (9, (m.1 9)), (10, (m.1 10)), (11, (m.1 11)), (12, (m.1 12)), (28, (m.1 28)), (69, (m.1 69)), (70, (m.1 70)), (71, (m.1 71)), (72, (m.1 72)), (73, (m.1 73)), (74, (m.1 74) + 1), (75, (m.1 75))]) 68 ((m.1 74) + 1) rfl rfl rfl rfl rfl rfl ?_
        have g360 : 0 ≤ (m.1 74) + 1 ∧ (m.1 74) + 1 ≤ 24 := ⟨by omega, by omega⟩
        refine T_ld 69 (.ref 189) rfl (fun _ => rfl) ?_
        refine T_ld 70 (.int (i32 1)) rfl (fun _ => rfl) ?_
        refine T_ld 71 (.int (i32 (m.1 8))) rfl (fun _ => rfl) ?_
        refine T_gf 75 (.int (i32 (m.1 7))) rfl rfl rfl rfl rfl rfl ?_
        refine T_call 78 246 [.ref 189, .int (i32 1), .int (i32 (m.1 8)), .int (i32 (m.1 7))] [] rfl (fun _ => rfl) rfl (c_open w (mO m [(7, (m.1 7)), (8, (m.1 8)), (9, (m.1 9)), (10, (m.1 10)), (11, (m.1 11)), (12, (m.1 12)), (28, (m.1 28)), (69, (m.1 69)), (70, (m.1 70)), (71, (m.1 71)), (72, (m.1 72)), (73, (m.1 73)), (74, (m.1 74) + 1), (75, (m.1 75))] [(65, (m.2 65)), (66, (m.2 66)), (67, (m.2 67)), (68, (m.2 68)), (76, (m.2 76)), (77, (m.2 77)), (78, (m.2 78)), (79, (m.2 79)), (80, (m.2 80))]) c N D (by omega) (Ty_mO hT rfl rfl ⟨f7, f8, f9, f10, f11, f12, f28, f69, f70, f71, f72, f73, g360, f75, trivial⟩ ⟨(hT.2.1 65), (hT.2.1 66), (hT.2.1 67), (hT.2.1 68), (hT.2.1 76), (hT.2.1 77), (hT.2.1 78), (hT.2.1 79), (hT.2.1 80), trivial⟩) 1 (m.1 8) (m.1 7) ⟨by decide, by decide⟩ (r32 (by omega) (by omega)) (r32 (by omega) (by omega)) (show (m.1 73) ≤ 59 by omega) (show 0 ≤ (1 : Int) ∧ (1 : Int) ≤ 2 by omega) (show 0 ≤ (m.1 8) ∧ (m.1 8) ≤ 4000 by omega) (show 0 ≤ (m.1 7) ∧ (m.1 7) ≤ 330 by omega)) (fun rr361 k362 => ?_)
        obtain ⟨y363, F365, F367, F369, F371, F373, g364, G366, G368, G370, G372, G374, h375, h376, h377, h378, h379, h380, rfl⟩ := k362
        refine ⟨_, _, rfl, ?_⟩
        refine T_nf (st' := []) (l' := [(7, (m.1 7)), (8, (m.1 8)), (9, (m.1 9)), (10, (m.1 10)), (11, (m.1 11)), (12, (m.1 12)), (28, (m.1 28)), (69, (m.1 69)), (70, (m.1 70)), (71, (m.1 71)), (72, (m.1 72)), (73, y363), (74, (m.1 74) + 1), (75, (m.1 75))]) (a' := [(65, (m.2 65)), (66, (m.2 66)), (67, (m.2 67)), (68, (m.2 68)), (76, F365), (77, F367), (78, F369), (79, F371), (80, F373)]) rfl rfl rfl rfl rfl ?_
        replace h375 : y363 = (m.1 73) + 1 := h375
        have hO0 := h375
        replace h376 : F365 = upI (m.2 76) (m.1 73) (1 : Int) := h376
        have hO1 := h376
        replace h377 : F369 = upI (m.2 78) (m.1 73) (m.1 7) := h377
        have hO2 := h377
        replace h378 : F371 = upI (m.2 79) (m.1 73) 0 := h378
        have hO3 := h378
        replace h379 : ∀ j, j < 9 * (m.1 73) → F373 j = (m.2 80) j := h379
        have hW1 := h379
        replace h380 : ∀ j, 9 * (m.1 73) ≤ j → j < 9 * (m.1 73) + 9 → F373 j = -1 := h380
        have hW2 := h380
        have u381 : (m.1 8) ≤ (m.1 8) := by omega
        have hAgC : agr (m.2 65) (m.2 65) (m.1 28) := by first | exact agr_r _ _ | exact hAgC | exact agr_t hAgC hAg (by omega)
        have u382 : 1 ≤ y363 := by omega
        refine T_ld 79 (.ref 189) rfl (fun _ => rfl) ?_
        refine T_call 82 212 [.ref 189] [] rfl (fun _ => rfl) rfl (c_next w (mO m [(7, (m.1 7)), (8, (m.1 8)), (9, (m.1 9)), (10, (m.1 10)), (11, (m.1 11)), (12, (m.1 12)), (28, (m.1 28)), (69, (m.1 69)), (70, (m.1 70)), (71, (m.1 71)), (72, (m.1 72)), (73, y363), (74, (m.1 74) + 1), (75, (m.1 75))] [(65, (m.2 65)), (66, (m.2 66)), (67, (m.2 67)), (68, (m.2 68)), (76, F365), (77, F367), (78, F369), (79, F371), (80, F373)]) c N D (by omega) (Ty_mO hT rfl rfl ⟨f7, f8, f9, f10, f11, f12, f28, f69, f70, f71, f72, g364, g360, f75, trivial⟩ ⟨(hT.2.1 65), (hT.2.1 66), (hT.2.1 67), (hT.2.1 68), G366, G368, G370, G372, G374, trivial⟩) (show (m.1 10) = 0 → (m.1 8) + (m.1 9) ≤ (m.1 6) by first | omega | (intro h9; have h8 := hLx h9; omega))) (fun rr383 k384 => ?_)
        obtain ⟨y385, y387, y389, y391, y393, y395, g386, g388, g390, g392, g394, g396, h397, h398, h399, h400, rfl⟩ := k384
        refine ⟨_, _, rfl, ?_⟩
        refine T_nf (st' := []) (l' := [(7, y385), (8, y387), (9, y389), (10, y391), (11, y393), (12, y395), (28, (m.1 28)), (69, (m.1 69)), (70, (m.1 70)), (71, (m.1 71)), (72, (m.1 72)), (73, y363), (74, (m.1 74) + 1), (75, (m.1 75))]) (a' := [(65, (m.2 65)), (66, (m.2 66)), (67, (m.2 67)), (68, (m.2 68)), (76, F365), (77, F367), (78, F369), (79, F371), (80, F373)]) rfl rfl rfl rfl rfl ?_
        by_cases hf401 : y391 = 0
        · skip
          subst hf401
          replace h397 : LxP y385 y387 y389 (m.1 6) (0 : Int) := h397
          have hLx := h397
          replace h398 : (m.1 10) = 0 := h398 rfl
          replace h399 : (m.1 8) ≤ y387 := h399
          replace h400 : (m.1 8) + (m.1 9) ≤ y387 := h400 rfl
          have u402 : (m.1 8) + 1 ≤ y387 := by omega
          have hAgC : agr (m.2 65) (m.2 65) (m.1 28) := by first | exact agr_r _ _ | exact hAgC | exact agr_t hAgC hAg (by omega)
          have u403 : 1 ≤ y363 := by omega
          clear g392
          have hXE : XS (m.2 65) (m.2 67) F365 F369 F371 F373 B (m.1 28) y363 ((m.1 74) + 1) (um (m.1 75)) := by
            rw [hO0, hO1, hO2, hO3, show um (m.1 75) = 0 from if_pos (by omega)]
            exact XS_pre hXS (by omega) (by omega) hW1 hW2
          refine T_goto 219 rfl (fun _ => rfl) ?_
          refine T_ret rfl (fun _ => rfl) ?_
          exact ⟨y385, y387, y389, 0, y393, y395, (m.1 28), (m.1 69), (m.1 70), (m.1 71), (m.1 72), y363, (m.1 74) + 1, (m.1 75), (m.2 65), (m.2 66), (m.2 67), (m.2 68), F365, F367, F369, F371, F373, g386, g388, g390, ⟨by omega, by omega⟩, g394, g396, f28, f69, f70, f71, f72, g364, g360, f75, (hT.2.1 65), (hT.2.1 66), (hT.2.1 67), (hT.2.1 68), G366, G368, G370, G372, G374, (by omega), (by first | (first | exact hLx | (intro h9; exfalso; omega)) | (exfalso; omega)), (fun _ => ⟨(by omega), (by omega), (by omega), (by omega), (by first | (exact hXE) | (exfalso; omega)), (by first | (exact hAgC) | (exfalso; omega))⟩), rfl⟩
        · skip
          replace h397 : LxP y385 y387 y389 (m.1 6) y391 := h397
          have hLx := h397
          clear h398
          replace h399 : (m.1 8) ≤ y387 := h399
          clear h400
          have hf404 : 1 ≤ y391 := by omega
          refine Tm_lv (a := [(0, .ref 189), (1, .int (i32 (m.1 8)))]) rfl rfl ⟨rfl, rfl, trivial⟩ ?_
          exact J82_273 y385 y387 y389 y391 y393 y395 y363 F365 F367 F369 F371 F373 g386 g388 g390 g392 g394 g396 g364 G366 G368 G370 G372 G374 (by omega) (by omega) (by omega) (by omega)
      · skip
        refine T_ld 42 (.ref 189) rfl (fun _ => rfl) ?_
        refine T_ld 43 (.int (i32 4)) rfl (fun _ => rfl) ?_
        refine T_gf 47 (.int (i32 (m.1 8))) rfl rfl rfl rfl rfl rfl ?_
        refine T_call 50 222 [.ref 189, .int (i32 4), .int (i32 (m.1 8))] [] rfl (fun _ => rfl) rfl (c_wrong w (mO m [(7, (m.1 7)), (8, (m.1 8)), (9, (m.1 9)), (10, (m.1 10)), (11, (m.1 11)), (12, (m.1 12)), (28, (m.1 28)), (69, (m.1 69)), (70, (m.1 70)), (71, (m.1 71)), (72, (m.1 72)), (73, (m.1 73)), (74, (m.1 74)), (75, (m.1 75))] [(65, (m.2 65)), (66, (m.2 66)), (67, (m.2 67)), (68, (m.2 68)), (76, (m.2 76)), (77, (m.2 77)), (78, (m.2 78)), (79, (m.2 79)), (80, (m.2 80))]) c N D (by omega) (Ty_mO hT rfl rfl ⟨f7, f8, f9, f10, f11, f12, f28, f69, f70, f71, f72, f73, f74, f75, trivial⟩ ⟨(hT.2.1 65), (hT.2.1 66), (hT.2.1 67), (hT.2.1 68), (hT.2.1 76), (hT.2.1 77), (hT.2.1 78), (hT.2.1 79), (hT.2.1 80), trivial⟩) 4 (m.1 8) ⟨by decide, by decide⟩ (r32 (by omega) (by omega)) (show 1 ≤ (4 : Int) ∧ (4 : Int) ≤ 8 by omega) (show 0 ≤ (m.1 8) ∧ (m.1 8) ≤ 4000 by omega)) (fun rr405 k406 => ?_)
        obtain ⟨y407, y409, g408, g410, h411, rfl⟩ := k406
        refine ⟨_, _, rfl, ?_⟩
        refine T_nf (st' := []) (l' := [(7, (m.1 7)), (8, (m.1 8)), (9, (m.1 9)), (10, y407), (11, y409), (12, (m.1 12)), (28, (m.1 28)), (69, (m.1 69)), (70, (m.1 70)), (71, (m.1 71)), (72, (m.1 72)), (73, (m.1 73)), (74, (m.1 74)), (75, (m.1 75))]) (a' := [(65, (m.2 65)), (66, (m.2 66)), (67, (m.2 67)), (68, (m.2 68)), (76, (m.2 76)), (77, (m.2 77)), (78, (m.2 78)), (79, (m.2 79)), (80, (m.2 80))]) rfl rfl rfl rfl rfl ?_
        replace h411 : (0 < (m.1 10) → y407 = (m.1 10) ∧ y409 = (m.1 11)) ∧ ((m.1 10) ≤ 0 → y407 = (4 : Int) ∧ y409 = (m.1 8)) := h411
        have hf412 : 1 ≤ y407 := by omega
        refine Tm_lv (a := [(0, .ref 189), (1, .int (i32 (m.1 8)))]) rfl rfl ⟨rfl, rfl, trivial⟩ ?_
        exact J50_293 y407 y409 g408 g410 (by omega) (by omega) (by omega)
    · skip
      refine T_gf 27 (.int (i32 (m.1 7))) rfl rfl rfl rfl rfl rfl ?_
      refine T_ld 29 (.int (i32 45)) rfl (fun _ => rfl) ?_
      refine T_icmp 85 32 rfl rfl rfl (r32 (by omega) (by omega)) ⟨by decide, by decide⟩ (fun (h413 : (m.1 7) ≠ 45) => ?_) (fun (h413 : ¬ ((m.1 7) ≠ 45)) => ?_)
      · skip
        refine T_gf 89 (.int (i32 (m.1 7))) rfl rfl rfl rfl rfl rfl ?_
        refine T_ld 90 (.int (i32 2)) rfl (fun _ => rfl) ?_
        refine T_icmp 133 93 rfl rfl rfl (r32 (by omega) (by omega)) ⟨by decide, by decide⟩ (fun (h414 : (m.1 7) ≠ 2) => ?_) (fun (h414 : ¬ ((m.1 7) ≠ 2)) => ?_)
        · skip
          refine T_gf 137 (.int (i32 (m.1 7))) rfl rfl rfl rfl rfl rfl ?_
          refine T_ld 138 (.int (i32 1)) rfl (fun _ => rfl) ?_
          refine T_icmp 149 141 rfl rfl rfl (r32 (by omega) (by omega)) ⟨by decide, by decide⟩ (fun (h415 : (m.1 7) ≠ 1) => ?_) (fun (h415 : ¬ ((m.1 7) ≠ 1)) => ?_)
          · skip
            refine T_gf 153 (.int (i32 (m.1 7))) rfl rfl rfl rfl rfl rfl ?_
            refine T_ld 156 (.int (i32 329)) rfl (fun _ => rfl) ?_
            refine T_icmp 188 159 rfl rfl rfl (r32 (by omega) (by omega)) ⟨by decide, by decide⟩ (fun (h416 : (m.1 7) ≠ 329) => ?_) (fun (h416 : ¬ ((m.1 7) ≠ 329)) => ?_)
            · skip
              refine T_gf 192 (.int (i32 (m.1 7))) rfl rfl rfl rfl rfl rfl ?_
              refine T_ld 194 (.int (i32 40)) rfl (fun _ => rfl) ?_
              refine T_icmp 215 197 rfl rfl rfl (r32 (by omega) (by omega)) ⟨by decide, by decide⟩ (fun (h417 : (m.1 7) ≠ 40) => ?_) (fun (h417 : ¬ ((m.1 7) ≠ 40)) => ?_)
              · skip
                refine T_ld 216 (.ref 189) rfl (fun _ => rfl) ?_
                refine T_call 219 226 [.ref 189] [] rfl (fun _ => rfl) rfl (c_bad w (mO m [(7, (m.1 7)), (8, (m.1 8)), (9, (m.1 9)), (10, (m.1 10)), (11, (m.1 11)), (12, (m.1 12)), (28, (m.1 28)), (69, (m.1 69)), (70, (m.1 70)), (71, (m.1 71)), (72, (m.1 72)), (73, (m.1 73)), (74, (m.1 74)), (75, (m.1 75))] [(65, (m.2 65)), (66, (m.2 66)), (67, (m.2 67)), (68, (m.2 68)), (76, (m.2 76)), (77, (m.2 77)), (78, (m.2 78)), (79, (m.2 79)), (80, (m.2 80))]) c N D (by omega) (Ty_mO hT rfl rfl ⟨f7, f8, f9, f10, f11, f12, f28, f69, f70, f71, f72, f73, f74, f75, trivial⟩ ⟨(hT.2.1 65), (hT.2.1 66), (hT.2.1 67), (hT.2.1 68), (hT.2.1 76), (hT.2.1 77), (hT.2.1 78), (hT.2.1 79), (hT.2.1 80), trivial⟩) ) (fun rr418 k419 => ?_)
                obtain ⟨y420, y422, g421, g423, h424, rfl⟩ := k419
                refine ⟨_, _, rfl, ?_⟩
                refine T_nf (st' := []) (l' := [(7, (m.1 7)), (8, (m.1 8)), (9, (m.1 9)), (10, y420), (11, y422), (12, (m.1 12)), (28, (m.1 28)), (69, (m.1 69)), (70, (m.1 70)), (71, (m.1 71)), (72, (m.1 72)), (73, (m.1 73)), (74, (m.1 74)), (75, (m.1 75))]) (a' := [(65, (m.2 65)), (66, (m.2 66)), (67, (m.2 67)), (68, (m.2 68)), (76, (m.2 76)), (77, (m.2 77)), (78, (m.2 78)), (79, (m.2 79)), (80, (m.2 80))]) rfl rfl rfl rfl rfl ?_
                replace h424 : (0 < (m.1 10) → y420 = (m.1 10) ∧ y422 = (m.1 11)) ∧ ((m.1 10) ≤ 0 → y420 = 1 ∧ y422 = (m.1 8)) := h424
                have hf425 : 1 ≤ y420 := by omega
                refine T_ret rfl (fun _ => rfl) ?_
                exact ⟨(m.1 7), (m.1 8), (m.1 9), y420, y422, (m.1 12), (m.1 28), (m.1 69), (m.1 70), (m.1 71), (m.1 72), (m.1 73), (m.1 74), (m.1 75), (m.2 65), (m.2 66), (m.2 67), (m.2 68), (m.2 76), (m.2 77), (m.2 78), (m.2 79), (m.2 80), f7, f8, f9, g421, g423, f12, f28, f69, f70, f71, f72, f73, f74, f75, (hT.2.1 65), (hT.2.1 66), (hT.2.1 67), (hT.2.1 68), (hT.2.1 76), (hT.2.1 77), (hT.2.1 78), (hT.2.1 79), (hT.2.1 80), (by omega), (by first | (first | exact hLx | (intro h9; exfalso; omega)) | (exfalso; omega)), (fun h => absurd h (by omega)), rfl⟩
              · skip
                refine T_ld 198 (.ref 189) rfl (fun _ => rfl) ?_
                refine T_ld 199 (.int (i32 2)) rfl (fun _ => rfl) ?_
                refine T_ld 200 (.int (i32 (m.1 8))) rfl (fun _ => rfl) ?_
                refine T_ld 201 (.int (i32 0)) rfl (fun _ => rfl) ?_
                refine T_call 204 246 [.ref 189, .int (i32 2), .int (i32 (m.1 8)), .int (i32 0)] [] rfl (fun _ => rfl) rfl (c_open w (mO m [(7, (m.1 7)), (8, (m.1 8)), (9, (m.1 9)), (10, (m.1 10)), (11, (m.1 11)), (12, (m.1 12)), (28, (m.1 28)), (69, (m.1 69)), (70, (m.1 70)), (71, (m.1 71)), (72, (m.1 72)), (73, (m.1 73)), (74, (m.1 74)), (75, (m.1 75))] [(65, (m.2 65)), (66, (m.2 66)), (67, (m.2 67)), (68, (m.2 68)), (76, (m.2 76)), (77, (m.2 77)), (78, (m.2 78)), (79, (m.2 79)), (80, (m.2 80))]) c N D (by omega) (Ty_mO hT rfl rfl ⟨f7, f8, f9, f10, f11, f12, f28, f69, f70, f71, f72, f73, f74, f75, trivial⟩ ⟨(hT.2.1 65), (hT.2.1 66), (hT.2.1 67), (hT.2.1 68), (hT.2.1 76), (hT.2.1 77), (hT.2.1 78), (hT.2.1 79), (hT.2.1 80), trivial⟩) 2 (m.1 8) 0 ⟨by decide, by decide⟩ (r32 (by omega) (by omega)) ⟨by decide, by decide⟩ (show (m.1 73) ≤ 59 by omega) (show 0 ≤ (2 : Int) ∧ (2 : Int) ≤ 2 by omega) (show 0 ≤ (m.1 8) ∧ (m.1 8) ≤ 4000 by omega) (show 0 ≤ (0 : Int) ∧ (0 : Int) ≤ 330 by omega)) (fun rr426 k427 => ?_)
                obtain ⟨y428, F430, F432, F434, F436, F438, g429, G431, G433, G435, G437, G439, h440, h441, h442, h443, h444, h445, rfl⟩ := k427
                refine ⟨_, _, rfl, ?_⟩
                refine T_nf (st' := []) (l' := [(7, (m.1 7)), (8, (m.1 8)), (9, (m.1 9)), (10, (m.1 10)), (11, (m.1 11)), (12, (m.1 12)), (28, (m.1 28)), (69, (m.1 69)), (70, (m.1 70)), (71, (m.1 71)), (72, (m.1 72)), (73, y428), (74, (m.1 74)), (75, (m.1 75))]) (a' := [(65, (m.2 65)), (66, (m.2 66)), (67, (m.2 67)), (68, (m.2 68)), (76, F430), (77, F432), (78, F434), (79, F436), (80, F438)]) rfl rfl rfl rfl rfl ?_
                replace h440 : y428 = (m.1 73) + 1 := h440
                have hO0 := h440
                replace h441 : F430 = upI (m.2 76) (m.1 73) (2 : Int) := h441
                have hO1 := h441
                replace h442 : F434 = upI (m.2 78) (m.1 73) (0 : Int) := h442
                have hO2 := h442
                replace h443 : F436 = upI (m.2 79) (m.1 73) 0 := h443
                have hO3 := h443
                replace h444 : ∀ j, j < 9 * (m.1 73) → F438 j = (m.2 80) j := h444
                have hW1 := h444
                replace h445 : ∀ j, 9 * (m.1 73) ≤ j → j < 9 * (m.1 73) + 9 → F438 j = -1 := h445
                have hW2 := h445
                have u446 : (m.1 8) ≤ (m.1 8) := by omega
                have hAgC : agr (m.2 65) (m.2 65) (m.1 28) := by first | exact agr_r _ _ | exact hAgC | exact agr_t hAgC hAg (by omega)
                have u447 : 1 ≤ y428 := by omega
                refine T_ld 205 (.ref 189) rfl (fun _ => rfl) ?_
                refine T_call 208 212 [.ref 189] [] rfl (fun _ => rfl) rfl (c_next w (mO m [(7, (m.1 7)), (8, (m.1 8)), (9, (m.1 9)), (10, (m.1 10)), (11, (m.1 11)), (12, (m.1 12)), (28, (m.1 28)), (69, (m.1 69)), (70, (m.1 70)), (71, (m.1 71)), (72, (m.1 72)), (73, y428), (74, (m.1 74)), (75, (m.1 75))] [(65, (m.2 65)), (66, (m.2 66)), (67, (m.2 67)), (68, (m.2 68)), (76, F430), (77, F432), (78, F434), (79, F436), (80, F438)]) c N D (by omega) (Ty_mO hT rfl rfl ⟨f7, f8, f9, f10, f11, f12, f28, f69, f70, f71, f72, g429, f74, f75, trivial⟩ ⟨(hT.2.1 65), (hT.2.1 66), (hT.2.1 67), (hT.2.1 68), G431, G433, G435, G437, G439, trivial⟩) (show (m.1 10) = 0 → (m.1 8) + (m.1 9) ≤ (m.1 6) by first | omega | (intro h9; have h8 := hLx h9; omega))) (fun rr448 k449 => ?_)
                obtain ⟨y450, y452, y454, y456, y458, y460, g451, g453, g455, g457, g459, g461, h462, h463, h464, h465, rfl⟩ := k449
                refine ⟨_, _, rfl, ?_⟩
                refine T_nf (st' := []) (l' := [(7, y450), (8, y452), (9, y454), (10, y456), (11, y458), (12, y460), (28, (m.1 28)), (69, (m.1 69)), (70, (m.1 70)), (71, (m.1 71)), (72, (m.1 72)), (73, y428), (74, (m.1 74)), (75, (m.1 75))]) (a' := [(65, (m.2 65)), (66, (m.2 66)), (67, (m.2 67)), (68, (m.2 68)), (76, F430), (77, F432), (78, F434), (79, F436), (80, F438)]) rfl rfl rfl rfl rfl ?_
                by_cases hf466 : y456 = 0
                · skip
                  subst hf466
                  replace h462 : LxP y450 y452 y454 (m.1 6) (0 : Int) := h462
                  have hLx := h462
                  replace h463 : (m.1 10) = 0 := h463 rfl
                  replace h464 : (m.1 8) ≤ y452 := h464
                  replace h465 : (m.1 8) + (m.1 9) ≤ y452 := h465 rfl
                  have u467 : (m.1 8) + 1 ≤ y452 := by omega
                  have hAgC : agr (m.2 65) (m.2 65) (m.1 28) := by first | exact agr_r _ _ | exact hAgC | exact agr_t hAgC hAg (by omega)
                  have u468 : 1 ≤ y428 := by omega
                  clear g457
                  have hXT : XT (m.2 65) (m.2 67) F430 F434 F436 F438 B (m.1 28) y428 (m.1 74) 0 := by
                    rw [hO0, hO1, hO2, hO3]
                    exact XT_bra hXS (by omega) hW1 hW2
                  have hTop : y428 = 0 ∨ F430 (y428 - 1) = 2 ∨ (F430 (y428 - 1) = 0 ∧ F436 (y428 - 1) = 2) := Or.inr (Or.inl (by rw [show y428 - 1 = (m.1 73) by omega, hO1, upI_s]))
                  refine T_ld 209 (.ref 189) rfl (fun _ => rfl) ?_
                  refine T_call 212 245 [.ref 189] [] rfl (fun _ => rfl) rfl (c_beginChoice w (mO m [(7, y450), (8, y452), (9, y454), (10, 0), (11, y458), (12, y460), (28, (m.1 28)), (69, (m.1 69)), (70, (m.1 70)), (71, (m.1 71)), (72, (m.1 72)), (73, y428), (74, (m.1 74)), (75, (m.1 75))] [(65, (m.2 65)), (66, (m.2 66)), (67, (m.2 67)), (68, (m.2 68)), (76, F430), (77, F432), (78, F434), (79, F436), (80, F438)]) c N D (by omega) (Ty_mO hT rfl rfl ⟨g451, g453, g455, ⟨(by omega : (0 : Int) ≤ 0), (by omega : (0 : Int) ≤ 8)⟩, g459, g461, f28, f69, f70, f71, f72, g429, f74, f75, trivial⟩ ⟨(hT.2.1 65), (hT.2.1 66), (hT.2.1 67), (hT.2.1 68), G431, G433, G435, G437, G439, trivial⟩) B 0 (fun _ => ⟨(show XT (m.2 65) (m.2 67) F430 F434 F436 F438 B (m.1 28) y428 (m.1 74) 0 by first | exact hXT | exact hXS.1), (show y428 = 0 ∨ F430 (y428 - 1) = 2 ∨ (F430 (y428 - 1) = 0 ∧ F436 (y428 - 1) = 2) by first | exact hTop | omega)⟩)) (fun rr469 k470 => ?_)
                  obtain ⟨y471, y473, y475, y477, y479, F481, F483, F485, F487, F489, g472, g474, g476, g478, g480, G482, G484, G486, G488, G490, h491, c492, rfl⟩ := k470
                  refine ⟨_, _, rfl, ?_⟩
                  refine T_nf (st' := []) (l' := [(7, y450), (8, y452), (9, y454), (10, y471), (11, y473), (12, y460), (28, (m.1 28)), (69, (m.1 69)), (70, (m.1 70)), (71, (m.1 71)), (72, (m.1 72)), (73, y475), (74, y477), (75, y479)]) (a' := [(65, (m.2 65)), (66, (m.2 66)), (67, (m.2 67)), (68, (m.2 68)), (76, F481), (77, F483), (78, F485), (79, F487), (80, F489)]) rfl rfl rfl rfl rfl ?_
                  by_cases hf493 : y471 = 0
                  · skip
                    subst hf493
                    replace h491 : (0 : Int) = 0 := h491 rfl
                    obtain ⟨c494, c495, c496⟩ := c492 rfl
                    replace c494 : XS (m.2 65) (m.2 67) F481 F485 F487 F489 B (m.1 28) y475 y477 0 := c494
                    have hXS := c494
                    replace c495 : y475 = y428 + 1 := c495
                    replace c496 : y479 = 0 := c496
                    clear c492
                    have u497 : (m.1 8) + 1 ≤ y452 := by omega
                    have hAgC : agr (m.2 65) (m.2 65) (m.1 28) := by first | exact agr_r _ _ | exact hAgC | exact agr_t hAgC hAg (by omega)
                    have u498 : 1 ≤ y475 := by omega
                    clear g429 h440 h441 h442 h443 h444 h445 u447 g459 u468 g472 c495
                    have hXE : XS (m.2 65) (m.2 67) F481 F485 F487 F489 B (m.1 28) y475 y477 (um y479) := by
                      rw [show um y479 = 0 from if_pos (by omega)]
                      exact hXS
                    refine T_goto 219 rfl (fun _ => rfl) ?_
                    refine T_ret rfl (fun _ => rfl) ?_
                    exact ⟨y450, y452, y454, 0, y473, y460, (m.1 28), (m.1 69), (m.1 70), (m.1 71), (m.1 72), y475, y477, y479, (m.2 65), (m.2 66), (m.2 67), (m.2 68), F481, F483, F485, F487, F489, g451, g453, g455, ⟨by omega, by omega⟩, g474, g461, f28, f69, f70, f71, f72, g476, g478, g480, (hT.2.1 65), (hT.2.1 66), (hT.2.1 67), (hT.2.1 68), G482, G484, G486, G488, G490, (by omega), (by first | (first | exact hLx | (intro h9; exfalso; omega)) | (exfalso; omega)), (fun _ => ⟨(by omega), (by omega), (by omega), (by omega), (by first | (exact hXE) | (exfalso; omega)), (by first | (exact hAgC) | (exfalso; omega))⟩), rfl⟩
                  · skip
                    clear c492
                    clear h491
                    have hf499 : 1 ≤ y471 := by omega
                    clear g429 h440 h441 h442 h443 h444 h445 u447 g459 u468
                    refine Tm_lv (a := [(0, .ref 189), (1, .int (i32 (m.1 8)))]) rfl rfl ⟨rfl, rfl, trivial⟩ ?_
                    exact J212_117 y450 y452 y454 y471 y473 y460 y475 y477 y479 F481 F483 F485 F487 F489 g451 g453 g455 g472 g474 g461 g476 g478 g480 G482 G484 G486 G488 G490 (by omega) (by omega) (by omega)
                · skip
                  replace h462 : LxP y450 y452 y454 (m.1 6) y456 := h462
                  have hLx := h462
                  clear h463
                  replace h464 : (m.1 8) ≤ y452 := h464
                  clear h465
                  have hf500 : 1 ≤ y456 := by omega
                  refine T_ld 209 (.ref 189) rfl (fun _ => rfl) ?_
                  refine T_call 212 245 [.ref 189] [] rfl (fun _ => rfl) rfl (c_beginChoice w (mO m [(7, y450), (8, y452), (9, y454), (10, y456), (11, y458), (12, y460), (28, (m.1 28)), (69, (m.1 69)), (70, (m.1 70)), (71, (m.1 71)), (72, (m.1 72)), (73, y428), (74, (m.1 74)), (75, (m.1 75))] [(65, (m.2 65)), (66, (m.2 66)), (67, (m.2 67)), (68, (m.2 68)), (76, F430), (77, F432), (78, F434), (79, F436), (80, F438)]) c N D (by omega) (Ty_mO hT rfl rfl ⟨g451, g453, g455, g457, g459, g461, f28, f69, f70, f71, f72, g429, f74, f75, trivial⟩ ⟨(hT.2.1 65), (hT.2.1 66), (hT.2.1 67), (hT.2.1 68), G431, G433, G435, G437, G439, trivial⟩) B 0 (fun (h : y456 = 0) => absurd h (by omega))) (fun rr501 k502 => ?_)
                  obtain ⟨y503, y505, y507, y509, y511, F513, F515, F517, F519, F521, g504, g506, g508, g510, g512, G514, G516, G518, G520, G522, h523, c524, rfl⟩ := k502
                  refine ⟨_, _, rfl, ?_⟩
                  refine T_nf (st' := []) (l' := [(7, y450), (8, y452), (9, y454), (10, y503), (11, y505), (12, y460), (28, (m.1 28)), (69, (m.1 69)), (70, (m.1 70)), (71, (m.1 71)), (72, (m.1 72)), (73, y507), (74, y509), (75, y511)]) (a' := [(65, (m.2 65)), (66, (m.2 66)), (67, (m.2 67)), (68, (m.2 68)), (76, F513), (77, F515), (78, F517), (79, F519), (80, F521)]) rfl rfl rfl rfl rfl ?_
                  replace h523 : y503 = 0 → y456 = 0 := h523
                  have hf525 : 1 ≤ y503 := by omega
                  clear c524
                  clear h523
                  clear g429 h440 h441 h442 h443 h444 h445 u447 g457 g459 h462 hf500
                  refine Tm_lv (a := [(0, .ref 189), (1, .int (i32 (m.1 8)))]) rfl rfl ⟨rfl, rfl, trivial⟩ ?_
                  exact J212_117 y450 y452 y454 y503 y505 y460 y507 y509 y511 F513 F515 F517 F519 F521 g451 g453 g455 g504 g506 g461 g508 g510 g512 G514 G516 G518 G520 G522 (by omega) (by omega) (by omega)
            · skip
              refine T_ld 160 (.ref 189) rfl (fun _ => rfl) ?_
              refine T_call 163 212 [.ref 189] [] rfl (fun _ => rfl) rfl (c_next w (mO m [(7, (m.1 7)), (8, (m.1 8)), (9, (m.1 9)), (10, (m.1 10)), (11, (m.1 11)), (12, (m.1 12)), (28, (m.1 28)), (69, (m.1 69)), (70, (m.1 70)), (71, (m.1 71)), (72, (m.1 72)), (73, (m.1 73)), (74, (m.1 74)), (75, (m.1 75))] [(65, (m.2 65)), (66, (m.2 66)), (67, (m.2 67)), (68, (m.2 68)), (76, (m.2 76)), (77, (m.2 77)), (78, (m.2 78)), (79, (m.2 79)), (80, (m.2 80))]) c N D (by omega) (Ty_mO hT rfl rfl ⟨f7, f8, f9, f10, f11, f12, f28, f69, f70, f71, f72, f73, f74, f75, trivial⟩ ⟨(hT.2.1 65), (hT.2.1 66), (hT.2.1 67), (hT.2.1 68), (hT.2.1 76), (hT.2.1 77), (hT.2.1 78), (hT.2.1 79), (hT.2.1 80), trivial⟩) (show (m.1 10) = 0 → (m.1 8) + (m.1 9) ≤ (m.1 6) by first | omega | (intro h9; have h8 := hLx h9; omega))) (fun rr526 k527 => ?_)
              obtain ⟨y528, y530, y532, y534, y536, y538, g529, g531, g533, g535, g537, g539, h540, h541, h542, h543, rfl⟩ := k527
              refine ⟨_, _, rfl, ?_⟩
              refine T_nf (st' := []) (l' := [(7, y528), (8, y530), (9, y532), (10, y534), (11, y536), (12, y538), (28, (m.1 28)), (69, (m.1 69)), (70, (m.1 70)), (71, (m.1 71)), (72, (m.1 72)), (73, (m.1 73)), (74, (m.1 74)), (75, (m.1 75))]) (a' := [(65, (m.2 65)), (66, (m.2 66)), (67, (m.2 67)), (68, (m.2 68)), (76, (m.2 76)), (77, (m.2 77)), (78, (m.2 78)), (79, (m.2 79)), (80, (m.2 80))]) rfl rfl rfl rfl rfl ?_
              by_cases hf544 : y534 = 0
              · skip
                subst hf544
                replace h540 : LxP y528 y530 y532 (m.1 6) (0 : Int) := h540
                have hLx := h540
                replace h541 : (m.1 10) = 0 := h541 rfl
                replace h542 : (m.1 8) ≤ y530 := h542
                replace h543 : (m.1 8) + (m.1 9) ≤ y530 := h543 rfl
                have u545 : (m.1 8) + 1 ≤ y530 := by omega
                have hAgC : agr (m.2 65) (m.2 65) (m.1 28) := by first | exact agr_r _ _ | exact hAgC | exact agr_t hAgC hAg (by omega)
                have u546 : 1 ≤ (m.1 73) := by omega
                clear g535
                refine T_ld 164 (.ref 189) rfl (fun _ => rfl) ?_
                refine T_ld 165 (.int (i32 2)) rfl (fun _ => rfl) ?_
                have hOL : (0 : Int) = 0 → ∀ k, 0 ≤ k → k < (m.1 13) → (m.2 16) k = 2 → 0 ≤ (m.2 17) k ∧ (m.2 17) k < 12 := fun _ k h1 h2 h3 => by
                  have h4 := PNl_2 pPN k h1 h2 h3
                  omega
                refine T_call 168 236 [.ref 189, .int (i32 2)] [] rfl (fun _ => rfl) rfl (c_oldName w (mO m [(7, y528), (8, y530), (9, y532), (10, 0), (11, y536), (12, y538), (28, (m.1 28)), (69, (m.1 69)), (70, (m.1 70)), (71, (m.1 71)), (72, (m.1 72)), (73, (m.1 73)), (74, (m.1 74)), (75, (m.1 75))] [(65, (m.2 65)), (66, (m.2 66)), (67, (m.2 67)), (68, (m.2 68)), (76, (m.2 76)), (77, (m.2 77)), (78, (m.2 78)), (79, (m.2 79)), (80, (m.2 80))]) c N D (by omega) (Ty_mO hT rfl rfl ⟨g529, g531, g533, ⟨(by omega : (0 : Int) ≤ 0), (by omega : (0 : Int) ≤ 8)⟩, g537, g539, f28, f69, f70, f71, f72, f73, f74, f75, trivial⟩ ⟨(hT.2.1 65), (hT.2.1 66), (hT.2.1 67), (hT.2.1 68), (hT.2.1 76), (hT.2.1 77), (hT.2.1 78), (hT.2.1 79), (hT.2.1 80), trivial⟩) 2 12 ⟨by decide, by decide⟩ (show LxP y528 y530 y532 (m.1 6) (0 : Int) by first | exact hLx | (intro h9; exfalso; omega) | (intro h9; have h8 := hLx (by omega); omega)) (show ∀ k, (m.2 14) k + (m.2 15) k ≤ 4000 by first | exact p1 | exact hNM) (show 1 ≤ (2 : Int) ∧ (2 : Int) ≤ 7 ∧ (2 : Int) ≠ 5 by omega) (show 12 ≤ 16 by omega) (show (0 : Int) = 0 → ∀ k, 0 ≤ k → k < (m.1 13) → (m.2 16) k = (2 : Int) → 0 ≤ (m.2 17) k ∧ (m.2 17) k < 12 by first | exact hOL | (intro h; exfalso; omega)) (show (2 : Int) = 3 → 3 ≤ 12 by omega)) (fun rr547 k548 => ?_)
                obtain ⟨y549, y551, y553, y555, y557, y559, oo, g550, g552, g554, g556, g558, g560, g561, h562, h563, h564, h565, h566, h567, rfl⟩ := k548
                refine ⟨_, _, rfl, ?_⟩
                refine T_nf (st' := [.int (i32 oo)]) (l' := [(7, y549), (8, y551), (9, y553), (10, y555), (11, y557), (12, y559), (28, (m.1 28)), (69, (m.1 69)), (70, (m.1 70)), (71, (m.1 71)), (72, (m.1 72)), (73, (m.1 73)), (74, (m.1 74)), (75, (m.1 75))]) (a' := [(65, (m.2 65)), (66, (m.2 66)), (67, (m.2 67)), (68, (m.2 68)), (76, (m.2 76)), (77, (m.2 77)), (78, (m.2 78)), (79, (m.2 79)), (80, (m.2 80))]) rfl rfl rfl rfl rfl ?_
                obtain ⟨g561a, g561b⟩ := g561
                by_cases hf568 : y555 = 0
                · skip
                  subst hf568
                  replace h562 : LxP y549 y551 y553 (m.1 6) (0 : Int) := h562
                  have hLx := h562
                  replace h563 : y530 ≤ y551 := h563
                  replace h564 : (0 : Int) = 0 ∧ y530 + y532 ≤ y551 := h564 rfl
                  replace h565 : y528 = 1 := h565 rfl
                  replace h566 : 0 ≤ oo ∧ (oo < 12 ∨ oo = 0) := h566
                  replace h567 : oo < 12 := h567 rfl
                  have u569 : (m.1 8) + 1 ≤ y551 := by omega
                  have hAgC : agr (m.2 65) (m.2 65) (m.1 28) := by first | exact agr_r _ _ | exact hAgC | exact agr_t hAgC hAg (by omega)
                  have u570 : 1 ≤ (m.1 73) := by omega
                  clear g529 g531 g533 g537 g539 h540 h542 h543 u545 g556 h563 h564 h565
                  refine T_sto 169 [(2, .int (i32 oo)), (1, .int (i32 (m.1 8))), (0, .ref 189)] rfl (fun _ => rfl) ?_
                  have hAr : ar 404 ≤ 0 + lh (m.2 79) (m.2 80) (m.1 73) := by rw [show ar 404 = 0 from rfl]; omega
                  have hCk : CNk 404 oo := by refine ⟨?_, ?_, ?_, ?_⟩ <;> omega
                  refine T_ld 170 (.ref 189) rfl (fun _ => rfl) ?_
                  refine T_ld 173 (.int (i32 404)) rfl (fun _ => rfl) ?_
                  refine T_ld 174 (.int (i32 1)) rfl (fun _ => rfl) ?_
                  refine T_ld 175 (.int (i32 oo)) rfl (fun _ => rfl) ?_
                  refine T_ld 176 (.long (i64 0)) rfl (fun _ => rfl) ?_
                  refine T_call 179 248 [.ref 189, .int (i32 404), .int (i32 1), .int (i32 oo), .long (i64 0)] [] rfl (fun _ => rfl) rfl (c_node w (mO m [(7, y549), (8, y551), (9, y553), (10, 0), (11, y557), (12, y559), (28, (m.1 28)), (69, (m.1 69)), (70, (m.1 70)), (71, (m.1 71)), (72, (m.1 72)), (73, (m.1 73)), (74, (m.1 74)), (75, (m.1 75))] [(65, (m.2 65)), (66, (m.2 66)), (67, (m.2 67)), (68, (m.2 68)), (76, (m.2 76)), (77, (m.2 77)), (78, (m.2 78)), (79, (m.2 79)), (80, (m.2 80))]) c N D (by omega) (Ty_mO hT rfl rfl ⟨g550, g552, g554, ⟨(by omega : (0 : Int) ≤ 0), (by omega : (0 : Int) ≤ 8)⟩, g558, g560, f28, f69, f70, f71, f72, f73, f74, f75, trivial⟩ ⟨(hT.2.1 65), (hT.2.1 66), (hT.2.1 67), (hT.2.1 68), (hT.2.1 76), (hT.2.1 77), (hT.2.1 78), (hT.2.1 79), (hT.2.1 80), trivial⟩) 404 1 oo 0 B (0 + lh (m.2 79) (m.2 80) (m.1 73)) ⟨by decide, by decide⟩ ⟨by decide, by decide⟩ (r32 (by omega) (by omega)) ⟨by decide, by decide⟩ (fun _ => ⟨(show 0 ≤ (404 : Int) ∧ (404 : Int) ≤ 408 by first | omega | decide), (show 0 ≤ (1 : Int) ∧ (1 : Int) ≤ 64 by first | omega | decide), (show 0 ≤ oo ∧ oo ≤ 191 by first | omega | decide), (show CNk (404 : Int) oo by first | exact hCk | (refine ⟨?_, ?_, ?_, ?_⟩ <;> omega)), (show ar (404 : Int) ≤ (0 + lh (m.2 79) (m.2 80) (m.1 73)) by first | exact hAr | omega), (show EX (m.2 65) (m.2 67) B (m.1 28) (0 + lh (m.2 79) (m.2 80) (m.1 73)) by first | exact hEX | assumption)⟩)) (fun rr571 k572 => ?_)
                  obtain ⟨y573, y575, y577, F579, F581, F583, F585, g574, g576, g578, G580, G582, G584, G586, h587, c588, rfl⟩ := k572
                  refine ⟨_, _, rfl, ?_⟩
                  refine T_nf (st' := []) (l' := [(7, y549), (8, y551), (9, y553), (10, y573), (11, y575), (12, y559), (28, y577), (69, (m.1 69)), (70, (m.1 70)), (71, (m.1 71)), (72, (m.1 72)), (73, (m.1 73)), (74, (m.1 74)), (75, (m.1 75))]) (a' := [(65, F579), (66, F581), (67, F583), (68, F585), (76, (m.2 76)), (77, (m.2 77)), (78, (m.2 78)), (79, (m.2 79)), (80, (m.2 80))]) rfl rfl rfl rfl rfl ?_
                  by_cases hf589 : y573 = 0
                  · skip
                    subst hf589
                    replace h587 : (0 : Int) = 0 := h587 rfl
                    obtain ⟨c590, c591, c592⟩ := c588 rfl
                    replace c590 : y577 = (m.1 28) + 1 := c590
                    replace c591 : EX F579 F583 B y577 ((0 + lh (m.2 79) (m.2 80) (m.1 73)) + 1 - ar (404 : Int)) := c591
                    have hEX := c591
                    replace c592 : agr (m.2 65) F579 (m.1 28) := c592
                    have hAg := c592
                    clear c588
                    have u593 : (m.1 8) + 1 ≤ y551 := by omega
                    have hAgC : agr (m.2 65) F579 (m.1 28) := by first | exact agr_r _ _ | exact hAgC | exact agr_t hAgC hAg (by omega)
                    have u594 : 1 ≤ (m.1 73) := by omega
                    clear g558 g574
                    refine T_ld 180 (.ref 189) rfl (fun _ => rfl) ?_
                    refine T_ld 181 (.int (i32 1)) rfl (fun _ => rfl) ?_
                    refine T_ld 182 (.int (i32 (m.1 8))) rfl (fun _ => rfl) ?_
                    refine T_call 185 249 [.ref 189, .int (i32 1), .int (i32 (m.1 8))] [] rfl (fun _ => rfl) rfl (c_atom w (mO m [(7, y549), (8, y551), (9, y553), (10, 0), (11, y575), (12, y559), (28, y577), (69, (m.1 69)), (70, (m.1 70)), (71, (m.1 71)), (72, (m.1 72)), (73, (m.1 73)), (74, (m.1 74)), (75, (m.1 75))] [(65, F579), (66, F581), (67, F583), (68, F585), (76, (m.2 76)), (77, (m.2 77)), (78, (m.2 78)), (79, (m.2 79)), (80, (m.2 80))]) c N D (by omega) (Ty_mO hT rfl rfl ⟨g550, g552, g554, ⟨(by omega : (0 : Int) ≤ 0), (by omega : (0 : Int) ≤ 8)⟩, g576, g560, g578, f69, f70, f71, f72, f73, f74, f75, trivial⟩ ⟨G580, G582, G584, G586, (hT.2.1 76), (hT.2.1 77), (hT.2.1 78), (hT.2.1 79), (hT.2.1 80), trivial⟩) 1 (m.1 8) ⟨by decide, by decide⟩ (r32 (by omega) (by omega)) (show 0 ≤ (1 : Int) ∧ (1 : Int) ≤ 64 by omega) (show 0 ≤ (m.1 8) ∧ (m.1 8) ≤ 4000 by omega)) (fun rr595 k596 => ?_)
                    obtain ⟨y597, y599, y601, y603, y605, g598, g600, g602, g604, g606, h607, rfl⟩ := k596
                    refine ⟨_, _, rfl, ?_⟩
                    refine T_nf (st' := []) (l' := [(7, y549), (8, y551), (9, y553), (10, 0), (11, y575), (12, y559), (28, y577), (69, y597), (70, y599), (71, y601), (72, y603), (73, (m.1 73)), (74, (m.1 74)), (75, y605)]) (a' := [(65, F579), (66, F581), (67, F583), (68, F585), (76, (m.2 76)), (77, (m.2 77)), (78, (m.2 78)), (79, (m.2 79)), (80, (m.2 80))]) rfl rfl rfl rfl rfl ?_
                    replace h607 : (0 : Int) = 0 → y605 = 1 ∧ y597 = (1 : Int) := h607
                    have u608 : (m.1 8) + 1 ≤ y551 := by omega
                    have hAgC : agr (m.2 65) F579 (m.1 28) := by first | exact agr_r _ _ | exact hAgC | exact agr_t hAgC hAg (by omega)
                    have u609 : 1 ≤ (m.1 73) := by omega
                    have hXE : XS F579 F583 (m.2 76) (m.2 78) (m.2 79) (m.2 80) B y577 (m.1 73) (m.1 74) (um y605) := by
                      rw [show um y605 = 1 from if_neg (by omega)]
                      exact XS_of hXS hEX (by rw [show ar 404 = 0 from rfl]; omega)
                    refine T_goto 219 rfl (fun _ => rfl) ?_
                    refine T_ret rfl (fun _ => rfl) ?_
                    exact ⟨y549, y551, y553, 0, y575, y559, y577, y597, y599, y601, y603, (m.1 73), (m.1 74), y605, F579, F581, F583, F585, (m.2 76), (m.2 77), (m.2 78), (m.2 79), (m.2 80), g550, g552, g554, ⟨by omega, by omega⟩, g576, g560, g578, g598, g600, g602, g604, f73, f74, g606, G580, G582, G584, G586, (hT.2.1 76), (hT.2.1 77), (hT.2.1 78), (hT.2.1 79), (hT.2.1 80), (by omega), (by first | (first | exact hLx | (intro h9; exfalso; omega)) | (exfalso; omega)), (fun _ => ⟨(by omega), (by omega), (by omega), (by omega), (by first | (exact hXE) | (exfalso; omega)), (by first | (exact hAgC) | (exfalso; omega))⟩), rfl⟩
                  · skip
                    clear c588
                    clear h587
                    have hf610 : 1 ≤ y573 := by omega
                    clear g558
                    refine Tm_lv (a := [(0, .ref 189), (1, .int (i32 (m.1 8))), (2, .int (i32 oo))]) rfl rfl ⟨rfl, rfl, rfl, trivial⟩ ?_
                    exact J179_148 oo y549 y551 y553 y573 y575 y559 y577 F579 F581 F583 F585 (r32 (by omega) (by omega)) g550 g552 g554 g574 g576 g560 g578 G580 G582 G584 G586 (by omega) (by omega) (by omega) (by omega) (by omega)
                · skip
                  replace h562 : LxP y549 y551 y553 (m.1 6) y555 := h562
                  have hLx := h562
                  replace h563 : y530 ≤ y551 := h563
                  clear h564
                  clear h565
                  replace h566 : 0 ≤ oo ∧ (oo < 12 ∨ oo = 0) := h566
                  clear h567
                  have hf611 : 1 ≤ y555 := by omega
                  clear g529 g531 g533 g537 g539 h540 h542 h543 u545 h563
                  refine Tm_lv (a := [(0, .ref 189), (1, .int (i32 (m.1 8)))]) rfl rfl ⟨rfl, rfl, trivial⟩ ?_
                  exact J168_187 oo y549 y551 y553 y555 y557 y559 (r32 (by omega) (by omega)) g550 g552 g554 g556 g558 g560 (by omega) (by omega) (by omega) (by omega) (by omega)
              · skip
                replace h540 : LxP y528 y530 y532 (m.1 6) y534 := h540
                have hLx := h540
                clear h541
                replace h542 : (m.1 8) ≤ y530 := h542
                clear h543
                have hf612 : 1 ≤ y534 := by omega
                refine T_ld 164 (.ref 189) rfl (fun _ => rfl) ?_
                refine T_ld 165 (.int (i32 2)) rfl (fun _ => rfl) ?_
                refine T_call 168 236 [.ref 189, .int (i32 2)] [] rfl (fun _ => rfl) rfl (c_oldName w (mO m [(7, y528), (8, y530), (9, y532), (10, y534), (11, y536), (12, y538), (28, (m.1 28)), (69, (m.1 69)), (70, (m.1 70)), (71, (m.1 71)), (72, (m.1 72)), (73, (m.1 73)), (74, (m.1 74)), (75, (m.1 75))] [(65, (m.2 65)), (66, (m.2 66)), (67, (m.2 67)), (68, (m.2 68)), (76, (m.2 76)), (77, (m.2 77)), (78, (m.2 78)), (79, (m.2 79)), (80, (m.2 80))]) c N D (by omega) (Ty_mO hT rfl rfl ⟨g529, g531, g533, g535, g537, g539, f28, f69, f70, f71, f72, f73, f74, f75, trivial⟩ ⟨(hT.2.1 65), (hT.2.1 66), (hT.2.1 67), (hT.2.1 68), (hT.2.1 76), (hT.2.1 77), (hT.2.1 78), (hT.2.1 79), (hT.2.1 80), trivial⟩) 2 12 ⟨by decide, by decide⟩ (show LxP y528 y530 y532 (m.1 6) y534 by first | exact hLx | (intro h9; exfalso; omega) | (intro h9; have h8 := hLx (by omega); omega)) (show ∀ k, (m.2 14) k + (m.2 15) k ≤ 4000 by first | exact p1 | exact hNM) (show 1 ≤ (2 : Int) ∧ (2 : Int) ≤ 7 ∧ (2 : Int) ≠ 5 by omega) (show 12 ≤ 16 by omega) (show y534 = 0 → ∀ k, 0 ≤ k → k < (m.1 13) → (m.2 16) k = (2 : Int) → 0 ≤ (m.2 17) k ∧ (m.2 17) k < 12 by first | exact hOL | (intro h; exfalso; omega)) (show (2 : Int) = 3 → 3 ≤ 12 by omega)) (fun rr613 k614 => ?_)
                obtain ⟨y615, y617, y619, y621, y623, y625, oo, g616, g618, g620, g622, g624, g626, g627, h628, h629, h630, h631, h632, h633, rfl⟩ := k614
                refine ⟨_, _, rfl, ?_⟩
                refine T_nf (st' := [.int (i32 oo)]) (l' := [(7, y615), (8, y617), (9, y619), (10, y621), (11, y623), (12, y625), (28, (m.1 28)), (69, (m.1 69)), (70, (m.1 70)), (71, (m.1 71)), (72, (m.1 72)), (73, (m.1 73)), (74, (m.1 74)), (75, (m.1 75))]) (a' := [(65, (m.2 65)), (66, (m.2 66)), (67, (m.2 67)), (68, (m.2 68)), (76, (m.2 76)), (77, (m.2 77)), (78, (m.2 78)), (79, (m.2 79)), (80, (m.2 80))]) rfl rfl rfl rfl rfl ?_
                obtain ⟨g627a, g627b⟩ := g627
                replace h628 : LxP y615 y617 y619 (m.1 6) y621 := h628
                replace h629 : y530 ≤ y617 := h629
                replace h630 : y621 = 0 → y534 = 0 ∧ y530 + y532 ≤ y617 := h630
                replace h631 : y621 = 0 → y528 = 1 := h631
                replace h632 : 0 ≤ oo ∧ (oo < 12 ∨ oo = 0) := h632
                replace h633 : y621 = 0 → oo < 12 := h633
                have hf634 : 1 ≤ y621 := by omega
                clear h630
                clear h631
                clear h633
                have hLx := h628
                clear g529 g531 g533 g535 g537 g539 h540 h542 hf612 h629
                refine Tm_lv (a := [(0, .ref 189), (1, .int (i32 (m.1 8)))]) rfl rfl ⟨rfl, rfl, trivial⟩ ?_
                exact J168_187 oo y615 y617 y619 y621 y623 y625 (r32 (by omega) (by omega)) g616 g618 g620 g622 g624 g626 (by omega) (by omega) (by omega) (by omega) (by omega)
          · skip
            refine T_ld 142 (.ref 189) rfl (fun _ => rfl) ?_
            refine T_ld 143 (.int (i32 (m.1 8))) rfl (fun _ => rfl) ?_
            refine T_call 146 251 [.ref 189, .int (i32 (m.1 8))] [] rfl (fun _ => rfl) rfl (c_takeName w (mO m [(7, (m.1 7)), (8, (m.1 8)), (9, (m.1 9)), (10, (m.1 10)), (11, (m.1 11)), (12, (m.1 12)), (28, (m.1 28)), (69, (m.1 69)), (70, (m.1 70)), (71, (m.1 71)), (72, (m.1 72)), (73, (m.1 73)), (74, (m.1 74)), (75, (m.1 75))] [(65, (m.2 65)), (66, (m.2 66)), (67, (m.2 67)), (68, (m.2 68)), (76, (m.2 76)), (77, (m.2 77)), (78, (m.2 78)), (79, (m.2 79)), (80, (m.2 80))]) c N D (by omega) (Ty_mO hT rfl rfl ⟨f7, f8, f9, f10, f11, f12, f28, f69, f70, f71, f72, f73, f74, f75, trivial⟩ ⟨(hT.2.1 65), (hT.2.1 66), (hT.2.1 67), (hT.2.1 68), (hT.2.1 76), (hT.2.1 77), (hT.2.1 78), (hT.2.1 79), (hT.2.1 80), trivial⟩) (m.1 8) B (0 + lh (m.2 79) (m.2 80) (m.1 73)) (r32 (by omega) (by omega)) (show LxP (m.1 7) (m.1 8) (m.1 9) (m.1 6) (m.1 10) by first | exact hLx | (intro h9; exfalso; omega)) (show ∀ k, (m.2 14) k + (m.2 15) k ≤ 4000 by assumption) (show ∀ k, (m.2 31) k + (m.2 32) k ≤ 4000 by assumption) (show ∀ k, (m.2 47) k + (m.2 48) k ≤ 4000 by assumption) (show 0 ≤ (m.1 8) ∧ (m.1 8) ≤ 4000 by omega) (show (m.1 10) = 0 by omega) ⟨(show PN (m.1 13) (m.1 19) (m.1 20) (m.1 21) (m.1 22) (m.1 23) (m.1 25) (m.1 26) (m.2 16) (m.2 17) by assumption), (show (m.1 7) = 1 by omega), (show EX (m.2 65) (m.2 67) B (m.1 28) (0 + lh (m.2 79) (m.2 80) (m.1 73)) by exact hEX), (show 0 ≤ (0 + lh (m.2 79) (m.2 80) (m.1 73)) by omega)⟩) (fun rr635 k636 => ?_)
            obtain ⟨y637, y639, y641, y643, y645, y647, y649, y651, y653, y655, y657, y659, F661, F663, F665, F667, g638, g640, g642, g644, g646, g648, g650, g652, g654, g656, g658, g660, G662, G664, G666, G668, h669, h670, c671, rfl⟩ := k636
            refine ⟨_, _, rfl, ?_⟩
            refine T_nf (st' := []) (l' := [(7, y637), (8, y639), (9, y641), (10, y643), (11, y645), (12, y647), (28, y649), (69, y651), (70, y653), (71, y655), (72, y657), (73, (m.1 73)), (74, (m.1 74)), (75, y659)]) (a' := [(65, F661), (66, F663), (67, F665), (68, F667), (76, (m.2 76)), (77, (m.2 77)), (78, (m.2 78)), (79, (m.2 79)), (80, (m.2 80))]) rfl rfl rfl rfl rfl ?_
            by_cases hf672 : y643 = 0
            · skip
              subst hf672
              replace h669 : (m.1 10) = 0 := h669 rfl
              replace h670 : LxP y637 y639 y641 (m.1 6) (0 : Int) := h670
              have hLx := h670
              obtain ⟨c673, c674, c675, c676, c677, c678⟩ := c671 rfl
              replace c673 : (m.1 8) + 1 ≤ y639 := c673
              replace c674 : y659 = 1 := c674
              replace c675 : y651 ≤ 64 := c675
              replace c676 : y649 = (m.1 28) + 1 := c676
              replace c677 : EX F661 F665 B y649 ((0 + lh (m.2 79) (m.2 80) (m.1 73)) + 1) := c677
              have hEX := c677
              replace c678 : agr (m.2 65) F661 (m.1 28) := c678
              have hAg := c678
              clear c671
              have u679 : (m.1 8) + 1 ≤ y639 := by omega
              have hAgC : agr (m.2 65) F661 (m.1 28) := by first | exact agr_r _ _ | exact hAgC | exact agr_t hAgC hAg (by omega)
              have u680 : 1 ≤ (m.1 73) := by omega
              clear g644
              have hXE : XS F661 F665 (m.2 76) (m.2 78) (m.2 79) (m.2 80) B y649 (m.1 73) (m.1 74) (um y659) := by
                rw [show um y659 = 1 from if_neg (by omega)]
                exact XS_of hXS hEX (by omega)
              refine T_goto 219 rfl (fun _ => rfl) ?_
              refine T_ret rfl (fun _ => rfl) ?_
              exact ⟨y637, y639, y641, 0, y645, y647, y649, y651, y653, y655, y657, (m.1 73), (m.1 74), y659, F661, F663, F665, F667, (m.2 76), (m.2 77), (m.2 78), (m.2 79), (m.2 80), g638, g640, g642, ⟨by omega, by omega⟩, g646, g648, g650, g652, g654, g656, g658, f73, f74, g660, G662, G664, G666, G668, (hT.2.1 76), (hT.2.1 77), (hT.2.1 78), (hT.2.1 79), (hT.2.1 80), (by omega), (by first | (first | exact hLx | (intro h9; exfalso; omega)) | (exfalso; omega)), (fun _ => ⟨(by omega), (by omega), (by omega), (by omega), (by first | (exact hXE) | (exfalso; omega)), (by first | (exact hAgC) | (exfalso; omega))⟩), rfl⟩
            · skip
              clear c671
              clear h669
              replace h670 : LxP y637 y639 y641 (m.1 6) y643 := h670
              have hLx := h670
              have hf681 : 1 ≤ y643 := by omega
              refine T_goto 219 rfl (fun _ => rfl) ?_
              refine T_ret rfl (fun _ => rfl) ?_
              exact ⟨y637, y639, y641, y643, y645, y647, y649, y651, y653, y655, y657, (m.1 73), (m.1 74), y659, F661, F663, F665, F667, (m.2 76), (m.2 77), (m.2 78), (m.2 79), (m.2 80), g638, g640, g642, g644, g646, g648, g650, g652, g654, g656, g658, f73, f74, g660, G662, G664, G666, G668, (hT.2.1 76), (hT.2.1 77), (hT.2.1 78), (hT.2.1 79), (hT.2.1 80), (by omega), (by first | (first | exact hLx | (intro h9; exfalso; omega)) | (exfalso; omega)), (fun h => absurd h (by omega)), rfl⟩
        · skip
          refine T_gf 97 (.long (i64 (m.1 12))) rfl rfl rfl rfl rfl rfl ?_
          refine T_sto 98 [(2, .long (i64 (m.1 12))), (1, .int (i32 (m.1 8))), (0, .ref 189)] rfl (fun _ => rfl) ?_
          refine T_ld 99 (.ref 189) rfl (fun _ => rfl) ?_
          refine T_call 102 212 [.ref 189] [] rfl (fun _ => rfl) rfl (c_next w (mO m [(7, (m.1 7)), (8, (m.1 8)), (9, (m.1 9)), (10, (m.1 10)), (11, (m.1 11)), (12, (m.1 12)), (28, (m.1 28)), (69, (m.1 69)), (70, (m.1 70)), (71, (m.1 71)), (72, (m.1 72)), (73, (m.1 73)), (74, (m.1 74)), (75, (m.1 75))] [(65, (m.2 65)), (66, (m.2 66)), (67, (m.2 67)), (68, (m.2 68)), (76, (m.2 76)), (77, (m.2 77)), (78, (m.2 78)), (79, (m.2 79)), (80, (m.2 80))]) c N D (by omega) (Ty_mO hT rfl rfl ⟨f7, f8, f9, f10, f11, f12, f28, f69, f70, f71, f72, f73, f74, f75, trivial⟩ ⟨(hT.2.1 65), (hT.2.1 66), (hT.2.1 67), (hT.2.1 68), (hT.2.1 76), (hT.2.1 77), (hT.2.1 78), (hT.2.1 79), (hT.2.1 80), trivial⟩) (show (m.1 10) = 0 → (m.1 8) + (m.1 9) ≤ (m.1 6) by first | omega | (intro h9; have h8 := hLx h9; omega))) (fun rr682 k683 => ?_)
          obtain ⟨y684, y686, y688, y690, y692, y694, g685, g687, g689, g691, g693, g695, h696, h697, h698, h699, rfl⟩ := k683
          refine ⟨_, _, rfl, ?_⟩
          refine T_nf (st' := []) (l' := [(7, y684), (8, y686), (9, y688), (10, y690), (11, y692), (12, y694), (28, (m.1 28)), (69, (m.1 69)), (70, (m.1 70)), (71, (m.1 71)), (72, (m.1 72)), (73, (m.1 73)), (74, (m.1 74)), (75, (m.1 75))]) (a' := [(65, (m.2 65)), (66, (m.2 66)), (67, (m.2 67)), (68, (m.2 68)), (76, (m.2 76)), (77, (m.2 77)), (78, (m.2 78)), (79, (m.2 79)), (80, (m.2 80))]) rfl rfl rfl rfl rfl ?_
          by_cases hf700 : y690 = 0
          · skip
            subst hf700
            replace h696 : LxP y684 y686 y688 (m.1 6) (0 : Int) := h696
            have hLx := h696
            replace h697 : (m.1 10) = 0 := h697 rfl
            replace h698 : (m.1 8) ≤ y686 := h698
            replace h699 : (m.1 8) + (m.1 9) ≤ y686 := h699 rfl
            have u701 : (m.1 8) + 1 ≤ y686 := by omega
            have hAgC : agr (m.2 65) (m.2 65) (m.1 28) := by first | exact agr_r _ _ | exact hAgC | exact agr_t hAgC hAg (by omega)
            have u702 : 1 ≤ (m.1 73) := by omega
            clear g691
            have hAr : ar 400 ≤ 0 + lh (m.2 79) (m.2 80) (m.1 73) := by rw [show ar 400 = 0 from rfl]; omega
            have hCk : CNk 400 0 := by refine ⟨?_, ?_, ?_, ?_⟩ <;> omega
            refine T_ld 103 (.ref 189) rfl (fun _ => rfl) ?_
            refine T_ld 106 (.int (i32 400)) rfl (fun _ => rfl) ?_
            refine T_ld 108 (.int (i32 64)) rfl (fun _ => rfl) ?_
            refine T_ld 109 (.int (i32 0)) rfl (fun _ => rfl) ?_
            refine T_ld 110 (.long (i64 (m.1 12))) rfl (fun _ => rfl) ?_
            refine T_call 113 248 [.ref 189, .int (i32 400), .int (i32 64), .int (i32 0), .long (i64 (m.1 12))] [] rfl (fun _ => rfl) rfl (c_node w (mO m [(7, y684), (8, y686), (9, y688), (10, 0), (11, y692), (12, y694), (28, (m.1 28)), (69, (m.1 69)), (70, (m.1 70)), (71, (m.1 71)), (72, (m.1 72)), (73, (m.1 73)), (74, (m.1 74)), (75, (m.1 75))] [(65, (m.2 65)), (66, (m.2 66)), (67, (m.2 67)), (68, (m.2 68)), (76, (m.2 76)), (77, (m.2 77)), (78, (m.2 78)), (79, (m.2 79)), (80, (m.2 80))]) c N D (by omega) (Ty_mO hT rfl rfl ⟨g685, g687, g689, ⟨(by omega : (0 : Int) ≤ 0), (by omega : (0 : Int) ≤ 8)⟩, g693, g695, f28, f69, f70, f71, f72, f73, f74, f75, trivial⟩ ⟨(hT.2.1 65), (hT.2.1 66), (hT.2.1 67), (hT.2.1 68), (hT.2.1 76), (hT.2.1 77), (hT.2.1 78), (hT.2.1 79), (hT.2.1 80), trivial⟩) 400 64 0 (m.1 12) B (0 + lh (m.2 79) (m.2 80) (m.1 73)) ⟨by decide, by decide⟩ ⟨by decide, by decide⟩ ⟨by decide, by decide⟩ (r64 (by omega) (by omega)) (fun _ => ⟨(show 0 ≤ (400 : Int) ∧ (400 : Int) ≤ 408 by first | omega | decide), (show 0 ≤ (64 : Int) ∧ (64 : Int) ≤ 64 by first | omega | decide), (show 0 ≤ (0 : Int) ∧ (0 : Int) ≤ 191 by first | omega | decide), (show CNk (400 : Int) (0 : Int) by first | exact hCk | (refine ⟨?_, ?_, ?_, ?_⟩ <;> omega)), (show ar (400 : Int) ≤ (0 + lh (m.2 79) (m.2 80) (m.1 73)) by first | exact hAr | omega), (show EX (m.2 65) (m.2 67) B (m.1 28) (0 + lh (m.2 79) (m.2 80) (m.1 73)) by first | exact hEX | assumption)⟩)) (fun rr703 k704 => ?_)
            obtain ⟨y705, y707, y709, F711, F713, F715, F717, g706, g708, g710, G712, G714, G716, G718, h719, c720, rfl⟩ := k704
            refine ⟨_, _, rfl, ?_⟩
            refine T_nf (st' := []) (l' := [(7, y684), (8, y686), (9, y688), (10, y705), (11, y707), (12, y694), (28, y709), (69, (m.1 69)), (70, (m.1 70)), (71, (m.1 71)), (72, (m.1 72)), (73, (m.1 73)), (74, (m.1 74)), (75, (m.1 75))]) (a' := [(65, F711), (66, F713), (67, F715), (68, F717), (76, (m.2 76)), (77, (m.2 77)), (78, (m.2 78)), (79, (m.2 79)), (80, (m.2 80))]) rfl rfl rfl rfl rfl ?_
            by_cases hf721 : y705 = 0
            · skip
              subst hf721
              replace h719 : (0 : Int) = 0 := h719 rfl
              obtain ⟨c722, c723, c724⟩ := c720 rfl
              replace c722 : y709 = (m.1 28) + 1 := c722
              replace c723 : EX F711 F715 B y709 ((0 + lh (m.2 79) (m.2 80) (m.1 73)) + 1 - ar (400 : Int)) := c723
              have hEX := c723
              replace c724 : agr (m.2 65) F711 (m.1 28) := c724
              have hAg := c724
              clear c720
              have u725 : (m.1 8) + 1 ≤ y686 := by omega
              have hAgC : agr (m.2 65) F711 (m.1 28) := by first | exact agr_r _ _ | exact hAgC | exact agr_t hAgC hAg (by omega)
              have u726 : 1 ≤ (m.1 73) := by omega
              clear g693 g706
              refine T_ld 114 (.ref 189) rfl (fun _ => rfl) ?_
              refine T_ld 116 (.int (i32 64)) rfl (fun _ => rfl) ?_
              refine T_ld 117 (.int (i32 (m.1 8))) rfl (fun _ => rfl) ?_
              refine T_call 120 249 [.ref 189, .int (i32 64), .int (i32 (m.1 8))] [] rfl (fun _ => rfl) rfl (c_atom w (mO m [(7, y684), (8, y686), (9, y688), (10, 0), (11, y707), (12, y694), (28, y709), (69, (m.1 69)), (70, (m.1 70)), (71, (m.1 71)), (72, (m.1 72)), (73, (m.1 73)), (74, (m.1 74)), (75, (m.1 75))] [(65, F711), (66, F713), (67, F715), (68, F717), (76, (m.2 76)), (77, (m.2 77)), (78, (m.2 78)), (79, (m.2 79)), (80, (m.2 80))]) c N D (by omega) (Ty_mO hT rfl rfl ⟨g685, g687, g689, ⟨(by omega : (0 : Int) ≤ 0), (by omega : (0 : Int) ≤ 8)⟩, g708, g695, g710, f69, f70, f71, f72, f73, f74, f75, trivial⟩ ⟨G712, G714, G716, G718, (hT.2.1 76), (hT.2.1 77), (hT.2.1 78), (hT.2.1 79), (hT.2.1 80), trivial⟩) 64 (m.1 8) ⟨by decide, by decide⟩ (r32 (by omega) (by omega)) (show 0 ≤ (64 : Int) ∧ (64 : Int) ≤ 64 by omega) (show 0 ≤ (m.1 8) ∧ (m.1 8) ≤ 4000 by omega)) (fun rr727 k728 => ?_)
              obtain ⟨y729, y731, y733, y735, y737, g730, g732, g734, g736, g738, h739, rfl⟩ := k728
              refine ⟨_, _, rfl, ?_⟩
              refine T_nf (st' := []) (l' := [(7, y684), (8, y686), (9, y688), (10, 0), (11, y707), (12, y694), (28, y709), (69, y729), (70, y731), (71, y733), (72, y735), (73, (m.1 73)), (74, (m.1 74)), (75, y737)]) (a' := [(65, F711), (66, F713), (67, F715), (68, F717), (76, (m.2 76)), (77, (m.2 77)), (78, (m.2 78)), (79, (m.2 79)), (80, (m.2 80))]) rfl rfl rfl rfl rfl ?_
              replace h739 : (0 : Int) = 0 → y737 = 1 ∧ y729 = (64 : Int) := h739
              have u740 : (m.1 8) + 1 ≤ y686 := by omega
              have hAgC : agr (m.2 65) F711 (m.1 28) := by first | exact agr_r _ _ | exact hAgC | exact agr_t hAgC hAg (by omega)
              have u741 : 1 ≤ (m.1 73) := by omega
              refine T_ld 121 (.ref 189) rfl (fun _ => rfl) ?_
              refine T_ld 122 (.int (i32 1)) rfl (fun _ => rfl) ?_
              refine T_pf (l' := [(7, y684), (8, y686), (9, y688), (10, 0), (11, y707), (12, y694), (28, y709), (69, y729), (70, y731), (71, 1), (72, y735), (73, (m.1 73)), (74, (m.1 74)), (75, y737)]) 125 1 rfl rfl rfl rfl rfl rfl ?_
              refine T_ld 126 (.ref 189) rfl (fun _ => rfl) ?_
              refine T_ld 127 (.long (i64 (m.1 12))) rfl (fun _ => rfl) ?_
              refine T_pf (l' := [(7, y684), (8, y686), (9, y688), (10, 0), (11, y707), (12, y694), (28, y709), (69, y729), (70, y731), (71, 1), (72, (m.1 12)), (73, (m.1 73)), (74, (m.1 74)), (75, y737)]) 130 (m.1 12) rfl rfl rfl rfl rfl rfl ?_
              have g742 : (-9223372036854775808) ≤ (m.1 12) ∧ (m.1 12) ≤ 9223372036854775807 := ⟨by omega, by omega⟩
              have hXE : XS F711 F715 (m.2 76) (m.2 78) (m.2 79) (m.2 80) B y709 (m.1 73) (m.1 74) (um y737) := by
                rw [show um y737 = 1 from if_neg (by omega)]
                exact XS_of hXS hEX (by rw [show ar 400 = 0 from rfl]; omega)
              refine T_goto 219 rfl (fun _ => rfl) ?_
              refine T_ret rfl (fun _ => rfl) ?_
              exact ⟨y684, y686, y688, 0, y707, y694, y709, y729, y731, 1, (m.1 12), (m.1 73), (m.1 74), y737, F711, F713, F715, F717, (m.2 76), (m.2 77), (m.2 78), (m.2 79), (m.2 80), g685, g687, g689, ⟨by omega, by omega⟩, g708, g695, g710, g730, g732, ⟨by omega, by omega⟩, g742, f73, f74, g738, G712, G714, G716, G718, (hT.2.1 76), (hT.2.1 77), (hT.2.1 78), (hT.2.1 79), (hT.2.1 80), (by omega), (by first | (first | exact hLx | (intro h9; exfalso; omega)) | (exfalso; omega)), (fun _ => ⟨(by omega), (by omega), (by omega), (by omega), (by first | (exact hXE) | (exfalso; omega)), (by first | (exact hAgC) | (exfalso; omega))⟩), rfl⟩
            · skip
              clear c720
              clear h719
              have hf743 : 1 ≤ y705 := by omega
              clear g693
              refine Tm_lv (a := [(0, .ref 189), (1, .int (i32 (m.1 8))), (2, .long (i64 (m.1 12)))]) rfl rfl ⟨rfl, rfl, rfl, trivial⟩ ?_
              exact J113_231 y684 y686 y688 y705 y707 y694 y709 F711 F713 F715 F717 g685 g687 g689 g706 g708 g695 g710 G712 G714 G716 G718 (by omega) (by omega) (by omega)
          · skip
            replace h696 : LxP y684 y686 y688 (m.1 6) y690 := h696
            have hLx := h696
            clear h697
            replace h698 : (m.1 8) ≤ y686 := h698
            clear h699
            have hf744 : 1 ≤ y690 := by omega
            refine T_ld 103 (.ref 189) rfl (fun _ => rfl) ?_
            refine T_ld 106 (.int (i32 400)) rfl (fun _ => rfl) ?_
            refine T_ld 108 (.int (i32 64)) rfl (fun _ => rfl) ?_
            refine T_ld 109 (.int (i32 0)) rfl (fun _ => rfl) ?_
            refine T_ld 110 (.long (i64 (m.1 12))) rfl (fun _ => rfl) ?_
            refine T_call 113 248 [.ref 189, .int (i32 400), .int (i32 64), .int (i32 0), .long (i64 (m.1 12))] [] rfl (fun _ => rfl) rfl (c_node w (mO m [(7, y684), (8, y686), (9, y688), (10, y690), (11, y692), (12, y694), (28, (m.1 28)), (69, (m.1 69)), (70, (m.1 70)), (71, (m.1 71)), (72, (m.1 72)), (73, (m.1 73)), (74, (m.1 74)), (75, (m.1 75))] [(65, (m.2 65)), (66, (m.2 66)), (67, (m.2 67)), (68, (m.2 68)), (76, (m.2 76)), (77, (m.2 77)), (78, (m.2 78)), (79, (m.2 79)), (80, (m.2 80))]) c N D (by omega) (Ty_mO hT rfl rfl ⟨g685, g687, g689, g691, g693, g695, f28, f69, f70, f71, f72, f73, f74, f75, trivial⟩ ⟨(hT.2.1 65), (hT.2.1 66), (hT.2.1 67), (hT.2.1 68), (hT.2.1 76), (hT.2.1 77), (hT.2.1 78), (hT.2.1 79), (hT.2.1 80), trivial⟩) 400 64 0 (m.1 12) B (0 + lh (m.2 79) (m.2 80) (m.1 73)) ⟨by decide, by decide⟩ ⟨by decide, by decide⟩ ⟨by decide, by decide⟩ (r64 (by omega) (by omega)) (fun (h : y690 = 0) => absurd h (by omega))) (fun rr745 k746 => ?_)
            obtain ⟨y747, y749, y751, F753, F755, F757, F759, g748, g750, g752, G754, G756, G758, G760, h761, c762, rfl⟩ := k746
            refine ⟨_, _, rfl, ?_⟩
            refine T_nf (st' := []) (l' := [(7, y684), (8, y686), (9, y688), (10, y747), (11, y749), (12, y694), (28, y751), (69, (m.1 69)), (70, (m.1 70)), (71, (m.1 71)), (72, (m.1 72)), (73, (m.1 73)), (74, (m.1 74)), (75, (m.1 75))]) (a' := [(65, F753), (66, F755), (67, F757), (68, F759), (76, (m.2 76)), (77, (m.2 77)), (78, (m.2 78)), (79, (m.2 79)), (80, (m.2 80))]) rfl rfl rfl rfl rfl ?_
            replace h761 : y747 = 0 → y690 = 0 := h761
            have hf763 : 1 ≤ y747 := by omega
            clear c762
            clear h761
            clear g691 g693 h696 hf744
            refine Tm_lv (a := [(0, .ref 189), (1, .int (i32 (m.1 8))), (2, .long (i64 (m.1 12)))]) rfl rfl ⟨rfl, rfl, rfl, trivial⟩ ?_
            exact J113_231 y684 y686 y688 y747 y749 y694 y751 F753 F755 F757 F759 g685 g687 g689 g748 g750 g695 g752 G754 G756 G758 G760 (by omega) (by omega) (by omega)
      · skip
        refine T_gf 36 (.int (i32 (m.1 74))) rfl rfl rfl rfl rfl rfl ?_
        refine T_ld 38 (.int (i32 24)) rfl (fun _ => rfl) ?_
        refine T_icmp 50 41 rfl rfl rfl (r32 (by omega) (by omega)) ⟨by decide, by decide⟩ (fun (h764 : (m.1 74) ≠ 24) => ?_) (fun (h764 : ¬ ((m.1 74) ≠ 24)) => ?_)
        · skip
          refine T_gf 54 (.int (i32 (m.1 10))) rfl rfl rfl rfl rfl rfl ?_
          refine T_if 58 57 rfl rfl rfl (r32 (by omega) (by omega)) (fun (h765 : (m.1 10) ≤ 0) => ?_) (fun (h765 : ¬ ((m.1 10) ≤ 0)) => by exfalso; omega)
          refine T_ld 59 (.ref 189) rfl (fun _ => rfl) ?_
          refine T_ld 60 (.ref 189) rfl (fun _ => rfl) ?_
          refine T_gf1 63 (.int (i32 (m.1 74))) rfl rfl rfl rfl ?_
          refine T_ld 64 (.int (i32 1)) rfl (fun _ => rfl) ?_
          refine T_iadd 65 rfl rfl ?_
          refine T_pf (l' := [(7, (m.1 7)), (8, (m.1 8)), (9, (m.1 9)), (10, (m.1 10)), (11, (m.1 11)), (12, (m.1 12)), (28, (m.1 28)), (69, (m.1 69)), (70, (m.1 70)), (71, (m.1 71)), (72, (m.1 72)), (73, (m.1 73)), (74, (m.1 74) + 1), (75, (m.1 75))]) 68 ((m.1 74) + 1) rfl rfl rfl rfl rfl rfl ?_
          have g766 : 0 ≤ (m.1 74) + 1 ∧ (m.1 74) + 1 ≤ 24 := ⟨by omega, by omega⟩
          refine T_ld 69 (.ref 189) rfl (fun _ => rfl) ?_
          refine T_ld 70 (.int (i32 1)) rfl (fun _ => rfl) ?_
          refine T_ld 71 (.int (i32 (m.1 8))) rfl (fun _ => rfl) ?_
          refine T_gf 75 (.int (i32 (m.1 7))) rfl rfl rfl rfl rfl rfl ?_
          refine T_call 78 246 [.ref 189, .int (i32 1), .int (i32 (m.1 8)), .int (i32 (m.1 7))] [] rfl (fun _ => rfl) rfl (c_open w (mO m [(7, (m.1 7)), (8, (m.1 8)), (9, (m.1 9)), (10, (m.1 10)), (11, (m.1 11)), (12, (m.1 12)), (28, (m.1 28)), (69, (m.1 69)), (70, (m.1 70)), (71, (m.1 71)), (72, (m.1 72)), (73, (m.1 73)), (74, (m.1 74) + 1), (75, (m.1 75))] [(65, (m.2 65)), (66, (m.2 66)), (67, (m.2 67)), (68, (m.2 68)), (76, (m.2 76)), (77, (m.2 77)), (78, (m.2 78)), (79, (m.2 79)), (80, (m.2 80))]) c N D (by omega) (Ty_mO hT rfl rfl ⟨f7, f8, f9, f10, f11, f12, f28, f69, f70, f71, f72, f73, g766, f75, trivial⟩ ⟨(hT.2.1 65), (hT.2.1 66), (hT.2.1 67), (hT.2.1 68), (hT.2.1 76), (hT.2.1 77), (hT.2.1 78), (hT.2.1 79), (hT.2.1 80), trivial⟩) 1 (m.1 8) (m.1 7) ⟨by decide, by decide⟩ (r32 (by omega) (by omega)) (r32 (by omega) (by omega)) (show (m.1 73) ≤ 59 by omega) (show 0 ≤ (1 : Int) ∧ (1 : Int) ≤ 2 by omega) (show 0 ≤ (m.1 8) ∧ (m.1 8) ≤ 4000 by omega) (show 0 ≤ (m.1 7) ∧ (m.1 7) ≤ 330 by omega)) (fun rr767 k768 => ?_)
          obtain ⟨y769, F771, F773, F775, F777, F779, g770, G772, G774, G776, G778, G780, h781, h782, h783, h784, h785, h786, rfl⟩ := k768
          refine ⟨_, _, rfl, ?_⟩
          refine T_nf (st' := []) (l' := [(7, (m.1 7)), (8, (m.1 8)), (9, (m.1 9)), (10, (m.1 10)), (11, (m.1 11)), (12, (m.1 12)), (28, (m.1 28)), (69, (m.1 69)), (70, (m.1 70)), (71, (m.1 71)), (72, (m.1 72)), (73, y769), (74, (m.1 74) + 1), (75, (m.1 75))]) (a' := [(65, (m.2 65)), (66, (m.2 66)), (67, (m.2 67)), (68, (m.2 68)), (76, F771), (77, F773), (78, F775), (79, F777), (80, F779)]) rfl rfl rfl rfl rfl ?_
          replace h781 : y769 = (m.1 73) + 1 := h781
          have hO0 := h781
          replace h782 : F771 = upI (m.2 76) (m.1 73) (1 : Int) := h782
          have hO1 := h782
          replace h783 : F775 = upI (m.2 78) (m.1 73) (m.1 7) := h783
          have hO2 := h783
          replace h784 : F777 = upI (m.2 79) (m.1 73) 0 := h784
          have hO3 := h784
          replace h785 : ∀ j, j < 9 * (m.1 73) → F779 j = (m.2 80) j := h785
          have hW1 := h785
          replace h786 : ∀ j, 9 * (m.1 73) ≤ j → j < 9 * (m.1 73) + 9 → F779 j = -1 := h786
          have hW2 := h786
          have u787 : (m.1 8) ≤ (m.1 8) := by omega
          have hAgC : agr (m.2 65) (m.2 65) (m.1 28) := by first | exact agr_r _ _ | exact hAgC | exact agr_t hAgC hAg (by omega)
          have u788 : 1 ≤ y769 := by omega
          refine T_ld 79 (.ref 189) rfl (fun _ => rfl) ?_
          refine T_call 82 212 [.ref 189] [] rfl (fun _ => rfl) rfl (c_next w (mO m [(7, (m.1 7)), (8, (m.1 8)), (9, (m.1 9)), (10, (m.1 10)), (11, (m.1 11)), (12, (m.1 12)), (28, (m.1 28)), (69, (m.1 69)), (70, (m.1 70)), (71, (m.1 71)), (72, (m.1 72)), (73, y769), (74, (m.1 74) + 1), (75, (m.1 75))] [(65, (m.2 65)), (66, (m.2 66)), (67, (m.2 67)), (68, (m.2 68)), (76, F771), (77, F773), (78, F775), (79, F777), (80, F779)]) c N D (by omega) (Ty_mO hT rfl rfl ⟨f7, f8, f9, f10, f11, f12, f28, f69, f70, f71, f72, g770, g766, f75, trivial⟩ ⟨(hT.2.1 65), (hT.2.1 66), (hT.2.1 67), (hT.2.1 68), G772, G774, G776, G778, G780, trivial⟩) (show (m.1 10) = 0 → (m.1 8) + (m.1 9) ≤ (m.1 6) by first | omega | (intro h9; have h8 := hLx h9; omega))) (fun rr789 k790 => ?_)
          obtain ⟨y791, y793, y795, y797, y799, y801, g792, g794, g796, g798, g800, g802, h803, h804, h805, h806, rfl⟩ := k790
          refine ⟨_, _, rfl, ?_⟩
          refine T_nf (st' := []) (l' := [(7, y791), (8, y793), (9, y795), (10, y797), (11, y799), (12, y801), (28, (m.1 28)), (69, (m.1 69)), (70, (m.1 70)), (71, (m.1 71)), (72, (m.1 72)), (73, y769), (74, (m.1 74) + 1), (75, (m.1 75))]) (a' := [(65, (m.2 65)), (66, (m.2 66)), (67, (m.2 67)), (68, (m.2 68)), (76, F771), (77, F773), (78, F775), (79, F777), (80, F779)]) rfl rfl rfl rfl rfl ?_
          by_cases hf807 : y797 = 0
          · skip
            subst hf807
            replace h803 : LxP y791 y793 y795 (m.1 6) (0 : Int) := h803
            have hLx := h803
            replace h804 : (m.1 10) = 0 := h804 rfl
            replace h805 : (m.1 8) ≤ y793 := h805
            replace h806 : (m.1 8) + (m.1 9) ≤ y793 := h806 rfl
            have u808 : (m.1 8) + 1 ≤ y793 := by omega
            have hAgC : agr (m.2 65) (m.2 65) (m.1 28) := by first | exact agr_r _ _ | exact hAgC | exact agr_t hAgC hAg (by omega)
            have u809 : 1 ≤ y769 := by omega
            clear g798
            have hXE : XS (m.2 65) (m.2 67) F771 F775 F777 F779 B (m.1 28) y769 ((m.1 74) + 1) (um (m.1 75)) := by
              rw [hO0, hO1, hO2, hO3, show um (m.1 75) = 0 from if_pos (by omega)]
              exact XS_pre hXS (by omega) (by omega) hW1 hW2
            refine T_goto 219 rfl (fun _ => rfl) ?_
            refine T_ret rfl (fun _ => rfl) ?_
            exact ⟨y791, y793, y795, 0, y799, y801, (m.1 28), (m.1 69), (m.1 70), (m.1 71), (m.1 72), y769, (m.1 74) + 1, (m.1 75), (m.2 65), (m.2 66), (m.2 67), (m.2 68), F771, F773, F775, F777, F779, g792, g794, g796, ⟨by omega, by omega⟩, g800, g802, f28, f69, f70, f71, f72, g770, g766, f75, (hT.2.1 65), (hT.2.1 66), (hT.2.1 67), (hT.2.1 68), G772, G774, G776, G778, G780, (by omega), (by first | (first | exact hLx | (intro h9; exfalso; omega)) | (exfalso; omega)), (fun _ => ⟨(by omega), (by omega), (by omega), (by omega), (by first | (exact hXE) | (exfalso; omega)), (by first | (exact hAgC) | (exfalso; omega))⟩), rfl⟩
          · skip
            replace h803 : LxP y791 y793 y795 (m.1 6) y797 := h803
            have hLx := h803
            clear h804
            replace h805 : (m.1 8) ≤ y793 := h805
            clear h806
            have hf810 : 1 ≤ y797 := by omega
            refine Tm_lv (a := [(0, .ref 189), (1, .int (i32 (m.1 8)))]) rfl rfl ⟨rfl, rfl, trivial⟩ ?_
            exact J82_273 y791 y793 y795 y797 y799 y801 y769 F771 F773 F775 F777 F779 g792 g794 g796 g798 g800 g802 g770 G772 G774 G776 G778 G780 (by omega) (by omega) (by omega) (by omega)
        · skip
          refine T_ld 42 (.ref 189) rfl (fun _ => rfl) ?_
          refine T_ld 43 (.int (i32 4)) rfl (fun _ => rfl) ?_
          refine T_gf 47 (.int (i32 (m.1 8))) rfl rfl rfl rfl rfl rfl ?_
          refine T_call 50 222 [.ref 189, .int (i32 4), .int (i32 (m.1 8))] [] rfl (fun _ => rfl) rfl (c_wrong w (mO m [(7, (m.1 7)), (8, (m.1 8)), (9, (m.1 9)), (10, (m.1 10)), (11, (m.1 11)), (12, (m.1 12)), (28, (m.1 28)), (69, (m.1 69)), (70, (m.1 70)), (71, (m.1 71)), (72, (m.1 72)), (73, (m.1 73)), (74, (m.1 74)), (75, (m.1 75))] [(65, (m.2 65)), (66, (m.2 66)), (67, (m.2 67)), (68, (m.2 68)), (76, (m.2 76)), (77, (m.2 77)), (78, (m.2 78)), (79, (m.2 79)), (80, (m.2 80))]) c N D (by omega) (Ty_mO hT rfl rfl ⟨f7, f8, f9, f10, f11, f12, f28, f69, f70, f71, f72, f73, f74, f75, trivial⟩ ⟨(hT.2.1 65), (hT.2.1 66), (hT.2.1 67), (hT.2.1 68), (hT.2.1 76), (hT.2.1 77), (hT.2.1 78), (hT.2.1 79), (hT.2.1 80), trivial⟩) 4 (m.1 8) ⟨by decide, by decide⟩ (r32 (by omega) (by omega)) (show 1 ≤ (4 : Int) ∧ (4 : Int) ≤ 8 by omega) (show 0 ≤ (m.1 8) ∧ (m.1 8) ≤ 4000 by omega)) (fun rr811 k812 => ?_)
          obtain ⟨y813, y815, g814, g816, h817, rfl⟩ := k812
          refine ⟨_, _, rfl, ?_⟩
          refine T_nf (st' := []) (l' := [(7, (m.1 7)), (8, (m.1 8)), (9, (m.1 9)), (10, y813), (11, y815), (12, (m.1 12)), (28, (m.1 28)), (69, (m.1 69)), (70, (m.1 70)), (71, (m.1 71)), (72, (m.1 72)), (73, (m.1 73)), (74, (m.1 74)), (75, (m.1 75))]) (a' := [(65, (m.2 65)), (66, (m.2 66)), (67, (m.2 67)), (68, (m.2 68)), (76, (m.2 76)), (77, (m.2 77)), (78, (m.2 78)), (79, (m.2 79)), (80, (m.2 80))]) rfl rfl rfl rfl rfl ?_
          replace h817 : (0 < (m.1 10) → y813 = (m.1 10) ∧ y815 = (m.1 11)) ∧ ((m.1 10) ≤ 0 → y813 = (4 : Int) ∧ y815 = (m.1 8)) := h817
          have hf818 : 1 ≤ y813 := by omega
          refine Tm_lv (a := [(0, .ref 189), (1, .int (i32 (m.1 8)))]) rfl rfl ⟨rfl, rfl, trivial⟩ ?_
          exact J50_293 y813 y815 g814 g816 (by omega) (by omega) (by omega)
