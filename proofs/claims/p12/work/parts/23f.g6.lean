def Q_endChoice (m : mR) (c : Nat → Option am_C) (N : Nat) (B : Int) : ag_Re af_T → Prop := fun R => ∃ (y7 : Int) (y8 : Int) (y9 : Int) (y10 : Int) (y11 : Int) (y12 : Int) (y28 : Int) (y69 : Int) (y70 : Int) (y71 : Int) (y72 : Int) (y73 : Int) (y74 : Int) (y75 : Int) (F65 : Int → Int) (F66 : Int → Int) (F67 : Int → Int) (F68 : Int → Int), (0 ≤ y7 ∧ y7 ≤ 330) ∧ (0 ≤ y8 ∧ y8 ≤ 4000) ∧ (0 ≤ y9 ∧ y9 ≤ 4000) ∧ (0 ≤ y10 ∧ y10 ≤ 8) ∧ ((-1) ≤ y11 ∧ y11 ≤ 4000) ∧ ((-9223372036854775808) ≤ y12 ∧ y12 ≤ 9223372036854775807) ∧ (0 ≤ y28 ∧ y28 ≤ 800) ∧ (0 ≤ y69 ∧ y69 ≤ 1024) ∧ (0 ≤ y70 ∧ y70 ≤ 4000) ∧ (0 ≤ y71 ∧ y71 ≤ 1) ∧ ((-9223372036854775808) ≤ y72 ∧ y72 ≤ 9223372036854775807) ∧ (0 ≤ y73 ∧ y73 ≤ 60) ∧ (0 ≤ y74 ∧ y74 ≤ 24) ∧ (0 ≤ y75 ∧ y75 ≤ 3) ∧ (∀ j, 0 ≤ F65 j ∧ F65 j ≤ 408) ∧ (∀ j, 0 ≤ F66 j ∧ F66 j ≤ 64) ∧ (∀ j, 0 ≤ F67 j ∧ F67 j ≤ 191) ∧ (∀ j, (-9223372036854775808) ≤ F68 j ∧ F68 j ≤ 9223372036854775807) ∧ (y10 = 0 → (m.1 10) = 0) ∧ (LxP y7 y8 y9 (m.1 6) y10) ∧ (y10 = 0 → ((m.1 8) + 1 ≤ y8 ∨ (y8 = (m.1 8) ∧ (y75 = 3 ∨ (y75 = 2 ∧ y73 + 1 ≤ (m.1 73))))) ∧ (y75 ≠ 0 → y69 ≤ 64) ∧ (y75 ≠ 3 → 1 ≤ y73) ∧ ((m.1 28) ≤ y28) ∧ (XS F65 F67 (m.2 76) (m.2 78) (m.2 79) (m.2 80) B y28 y73 y74 (um y75)) ∧ (agr (m.2 65) F65 (m.1 28))) ∧ R = (.inl (none), (mhp (mO m [(7, y7), (8, y8), (9, y9), (10, y10), (11, y11), (12, y12), (28, y28), (69, y69), (70, y70), (71, y71), (72, y72), (73, y73), (74, y74), (75, y75)] [(65, F65), (66, F66), (67, F67), (68, F68)]) c, N), 0, 0)
set_option maxHeartbeats 8000000 in
theorem c_endChoice (w : wX) (m : mR) (c : Nat → Option am_C) (N D : Nat) (hD : 7 ≤ D) (hT : Ty m) (B : Int) (hLx0 : LxP (m.1 7) (m.1 8) (m.1 9) (m.1 6) (m.1 10)) (hf0 : m.1 10 = 0) (hC : (XS (m.2 65) (m.2 67) (m.2 76) (m.2 78) (m.2 79) (m.2 80) B (m.1 28) (m.1 73) (m.1 74) 1) ∧ (1 ≤ (m.1 73)) ∧ ((m.2 76) ((m.1 73) - 1) = 0) ∧ ((m.1 69) ≤ 64)) : TC w D 264 [.ref 189] (mhp m c, N) (Q_endChoice m c N B) := by
  obtain ⟨D, rfl⟩ : ∃ k, D = k + 1 := ⟨D - 1, by omega⟩
  have hLx := hLx0
  have f7 : 0 ≤ m.1 7 ∧ m.1 7 ≤ 330 := hT.1 7
  have f8 : 0 ≤ m.1 8 ∧ m.1 8 ≤ 4000 := hT.1 8
  have f9 : 0 ≤ m.1 9 ∧ m.1 9 ≤ 4000 := hT.1 9
  have f10 : 0 ≤ m.1 10 ∧ m.1 10 ≤ 8 := hT.1 10
  have f11 : (-1) ≤ m.1 11 ∧ m.1 11 ≤ 4000 := hT.1 11
  have f12 : (-9223372036854775808) ≤ m.1 12 ∧ m.1 12 ≤ 9223372036854775807 := hT.1 12
  have f28 : 0 ≤ m.1 28 ∧ m.1 28 ≤ 800 := hT.1 28
  have f69 : 0 ≤ m.1 69 ∧ m.1 69 ≤ 1024 := hT.1 69
  have f70 : 0 ≤ m.1 70 ∧ m.1 70 ≤ 4000 := hT.1 70
  have f71 : 0 ≤ m.1 71 ∧ m.1 71 ≤ 1 := hT.1 71
  have f72 : (-9223372036854775808) ≤ m.1 72 ∧ m.1 72 ≤ 9223372036854775807 := hT.1 72
  have f73 : 0 ≤ m.1 73 ∧ m.1 73 ≤ 60 := hT.1 73
  have f74 : 0 ≤ m.1 74 ∧ m.1 74 ≤ 24 := hT.1 74
  have f75 : 0 ≤ m.1 75 ∧ m.1 75 ≤ 3 := hT.1 75
  have f6 : 0 ≤ m.1 6 ∧ m.1 6 ≤ 4000 := hT.1 6
  refine Tc_of rfl ?_
  show TT w D pm_264 (0, [(0, .ref 189)], [], (mhp m c, N), 0, 0) (Q_endChoice m c N B)
  rw [show (mhp m c, N) = (mhp (mO m [(7, (m.1 7)), (8, (m.1 8)), (9, (m.1 9)), (10, (m.1 10)), (11, (m.1 11)), (12, (m.1 12)), (28, (m.1 28)), (69, (m.1 69)), (70, (m.1 70)), (71, (m.1 71)), (72, (m.1 72)), (73, (m.1 73)), (74, (m.1 74)), (75, (m.1 75))] [(65, (m.2 65)), (66, (m.2 66)), (67, (m.2 67)), (68, (m.2 68))]) c, N) from congrArg (fun M => (mhp M c, N)) (mO_pad m [7, 8, 9, 10, 11, 12, 28, 69, 70, 71, 72, 73, 74, 75] [65, 66, 67, 68])]
  obtain ⟨hXS, c1, c2, c3⟩ := hC
  have hb := OS_hi hXS.1.2
  have hXC := XC_0 hXS (by omega) (by omega) (hT.2.1 79 _).1
  have hAgC := agr_r (m.2 65) (m.1 28)
  have h7 := hLx (by omega)
  refine T_ld 1 (.ref 189) rfl (fun _ => rfl) ?_
  refine T_ld 2 (.ref 189) rfl (fun _ => rfl) ?_
  refine T_gf1 5 (.int (i32 (m.1 73))) rfl rfl rfl rfl ?_
  refine T_ld 6 (.int (i32 1)) rfl (fun _ => rfl) ?_
  refine T_isub 7 rfl rfl ?_
  refine T_pf (l' := [(7, (m.1 7)), (8, (m.1 8)), (9, (m.1 9)), (10, (m.1 10)), (11, (m.1 11)), (12, (m.1 12)), (28, (m.1 28)), (69, (m.1 69)), (70, (m.1 70)), (71, (m.1 71)), (72, (m.1 72)), (73, (m.1 73) - 1), (74, (m.1 74)), (75, (m.1 75))]) 10 ((m.1 73) - 1) rfl rfl rfl rfl rfl rfl ?_
  have g4 : 0 ≤ (m.1 73) - 1 ∧ (m.1 73) - 1 ≤ 60 := ⟨by omega, by omega⟩
  refine T_ld 11 (.ref 189) rfl (fun _ => rfl) ?_
  refine T_ld 12 (.ref 189) rfl (fun _ => rfl) ?_
  refine T_gf1 15 (.int (i32 (m.1 74))) rfl rfl rfl rfl ?_
  refine T_ld 16 (.int (i32 1)) rfl (fun _ => rfl) ?_
  refine T_isub 17 rfl rfl ?_
  refine T_pf (l' := [(7, (m.1 7)), (8, (m.1 8)), (9, (m.1 9)), (10, (m.1 10)), (11, (m.1 11)), (12, (m.1 12)), (28, (m.1 28)), (69, (m.1 69)), (70, (m.1 70)), (71, (m.1 71)), (72, (m.1 72)), (73, (m.1 73) - 1), (74, (m.1 74) - 1), (75, (m.1 75))]) 20 ((m.1 74) - 1) rfl rfl rfl rfl rfl rfl ?_
  have g5 : 0 ≤ (m.1 74) - 1 ∧ (m.1 74) - 1 ≤ 24 := ⟨by omega, by omega⟩
  refine T_gf 24 (.int (i32 ((m.1 73) - 1))) rfl rfl rfl rfl rfl rfl ?_
  have J32_7 : ∀ (s6 : Int), (R32 s6) → (0 ≤ s6) → (s6 ≤ 1) → TT w D pm_264 (32, [(0, .ref 189)], [.int (i32 s6)], (mhp (mO m [(7, (m.1 7)), (8, (m.1 8)), (9, (m.1 9)), (10, (m.1 10)), (11, (m.1 11)), (12, (m.1 12)), (28, (m.1 28)), (69, (m.1 69)), (70, (m.1 70)), (71, (m.1 71)), (72, (m.1 72)), (73, (m.1 73) - 1), (74, (m.1 74) - 1), (75, (m.1 75))] [(65, (m.2 65)), (66, (m.2 66)), (67, (m.2 67)), (68, (m.2 68))]) c, N), 0, 0) (Q_endChoice m c N B) := by
    intro s6 q8 ic9 ic10
    obtain ⟨q8a, q8b⟩ := id q8
    refine T_sto 33 [(1, .int (i32 s6)), (0, .ref 189)] rfl (fun _ => rfl) ?_
    have L33_26 : ∀ (n : Nat) (v12 : Int) (y13 : Int) (y14 : Int) (y15 : Int) (y16 : Int) (y17 : Int) (y18 : Int) (y19 : Int) (y20 : Int) (y21 : Int) (F22 : Int → Int) (F23 : Int → Int) (F24 : Int → Int) (F25 : Int → Int), (R32 v12) → (0 ≤ y13 ∧ y13 ≤ 8) → ((-1) ≤ y14 ∧ y14 ≤ 4000) → (0 ≤ y15 ∧ y15 ≤ 800) → (0 ≤ y16 ∧ y16 ≤ 1024) → (0 ≤ y17 ∧ y17 ≤ 4000) → (0 ≤ y18 ∧ y18 ≤ 1) → ((-9223372036854775808) ≤ y19 ∧ y19 ≤ 9223372036854775807) → (0 ≤ y20 ∧ y20 ≤ 60) → (0 ≤ y21 ∧ y21 ≤ 24) → (∀ j, 0 ≤ F22 j ∧ F22 j ≤ 408) → (∀ j, 0 ≤ F23 j ∧ F23 j ≤ 64) → (∀ j, 0 ≤ F24 j ∧ F24 j ≤ 191) → (∀ j, (-9223372036854775808) ≤ F25 j ∧ F25 j ≤ 9223372036854775807) → (0 ≤ v12) → (v12 ≤ 1) → (v12 = 0 ∨ v12 = 1) → (v12 = 1 → 1 ≤ y20) → (y20 + 1 ≤ (m.1 73)) → (y13 = 0 → (XC F22 F24 (m.2 76) (m.2 78) (m.2 79) (m.2 80) B y15 y20 y21) ∧ (y16 ≤ 64) ∧ ((m.1 28) ≤ y15) ∧ (v12 = 0 → y20 = 0) ∧ (agr (m.2 65) F22 (m.1 28))) → y20 < (n : Int) → TT w D pm_264 (33, [(0, .ref 189), (1, .int (i32 v12))], [], (mhp (mO m [(7, (m.1 7)), (8, (m.1 8)), (9, (m.1 9)), (10, y13), (11, y14), (12, (m.1 12)), (28, y15), (69, y16), (70, y17), (71, y18), (72, y19), (73, y20), (74, y21), (75, (m.1 75))] [(65, F22), (66, F23), (67, F24), (68, F25)]) c, N), 0, 0) (Q_endChoice m c N B) := by
      intro n
      induction n with
      | zero =>
        intro v12 y13 y14 y15 y16 y17 y18 y19 y20 y21 F22 F23 F24 F25 q27 q28 q29 q30 q31 q32 q33 q34 q35 q36 q37 q38 q39 q40 ic41 ic42 ic43 ic44 ic45 c46 hmu
        obtain ⟨q27a, q27b⟩ := id q27
        exfalso
        omega
      | succ n ih =>
        intro v12 y13 y14 y15 y16 y17 y18 y19 y20 y21 F22 F23 F24 F25 q27 q28 q29 q30 q31 q32 q33 q34 q35 q36 q37 q38 q39 q40 ic41 ic42 ic43 ic44 ic45 c46 hmu
        obtain ⟨q27a, q27b⟩ := id q27
        have ih47 := ih
        by_cases hf48 : y13 = 0
        · skip
          subst hf48
          obtain ⟨c49, c50, c51, c52, c53⟩ := c46 rfl
          have hXC := c49
          have hAgC := c53
          refine T_ld 34 (.int (i32 v12)) rfl (fun _ => rfl) ?_
          refine T_if 195 37 rfl rfl rfl (r32 (by omega) (by omega)) (fun (h54 : v12 = 0) => ?_) (fun (h54 : ¬ (v12 = 0)) => ?_)
          · skip
            refine T_gf 199 (.int (i32 y20)) rfl rfl rfl rfl rfl rfl ?_
            refine T_if 208 202 rfl rfl rfl (r32 (by omega) (by omega)) (fun (h55 : y20 ≠ 0) => ?_) (fun (h55 : ¬ (y20 ≠ 0)) => ?_)
            · skip
              obtain ⟨hXB, hh2⟩ := XC_bra hXC (by omega) (by omega) (hT.2.1 76 _) (hT.2.1 79 _).1
              refine T_gf 212 (.ref 239) rfl rfl rfl rfl rfl rfl ?_
              refine T_gf 216 (.int (i32 y20)) rfl rfl rfl rfl rfl rfl ?_
              refine T_ld 217 (.int (i32 1)) rfl (fun _ => rfl) ?_
              refine T_isub 218 rfl rfl ?_
              refine T_iald 219 77 (m.2 77) rfl rfl rfl (by omega) (show (y20 - 1) < (60 : Int) by omega) rfl ?_
              have e56 : 0 ≤ m.2 77 (y20 - 1) ∧ m.2 77 (y20 - 1) ≤ 4000 := hT.2.1 77 (y20 - 1)
              refine T_sto 220 [(2, .int (i32 ((m.2 77) (y20 - 1)))), (0, .ref 189), (1, .int (i32 v12))] rfl (fun _ => rfl) ?_
              refine T_ld 221 (.ref 189) rfl (fun _ => rfl) ?_
              refine T_ld 223 (.int (i32 41)) rfl (fun _ => rfl) ?_
              refine T_call 226 232 [.ref 189, .int (i32 41)] [] rfl (fun _ => rfl) rfl (c_need w (mO m [(7, (m.1 7)), (8, (m.1 8)), (9, (m.1 9)), (10, 0), (11, y14), (12, (m.1 12)), (28, y15), (69, y16), (70, y17), (71, y18), (72, y19), (73, y20), (74, y21), (75, (m.1 75))] [(65, F22), (66, F23), (67, F24), (68, F25)]) c N D (by omega) (Ty_mO hT rfl rfl ⟨f7, f8, f9, ⟨(by omega : (0 : Int) ≤ 0), (by omega : (0 : Int) ≤ 8)⟩, q29, f12, q30, q31, q32, q33, q34, q35, q36, f75, trivial⟩ ⟨q37, q38, q39, q40, trivial⟩) 41 ⟨by decide, by decide⟩ (show 1 ≤ (41 : Int) by omega) (show LxP (m.1 7) (m.1 8) (m.1 9) (m.1 6) (0 : Int) by first | exact hLx | (intro h9; exfalso; omega) | (intro h9; have h8 := hLx (by omega); omega))) (fun rr57 k58 => ?_)
              obtain ⟨y59, y61, y63, y65, y67, y69, g60, g62, g64, g66, g68, g70, h71, h72, h73, h74, rfl⟩ := k58
              refine ⟨_, _, rfl, ?_⟩
              refine T_nf (st' := []) (l' := [(7, y59), (8, y61), (9, y63), (10, y65), (11, y67), (12, y69), (28, y15), (69, y16), (70, y17), (71, y18), (72, y19), (73, y20), (74, y21), (75, (m.1 75))]) (a' := [(65, F22), (66, F23), (67, F24), (68, F25)]) rfl rfl rfl rfl rfl ?_
              by_cases hf75 : y65 = 0
              · skip
                subst hf75
                replace h71 : LxP y59 y61 y63 (m.1 6) (0 : Int) := h71
                have hLx := h71
                replace h72 : (0 : Int) = 0 ∧ (m.1 7) = (41 : Int) := h72 rfl
                replace h73 : (m.1 8) ≤ y61 := h73
                replace h74 : (m.1 8) + (m.1 9) ≤ y61 := h74 rfl
                have hAgC : agr (m.2 65) F22 (m.1 28) := by first | exact agr_r _ _ | exact hAgC | exact agr_t hAgC hAg (by omega)
                clear q8a q8b q8 ic9 ic10 q28 q29 g66
                refine T_ld 227 (.ref 189) rfl (fun _ => rfl) ?_
                refine T_ld 228 (.ref 189) rfl (fun _ => rfl) ?_
                refine T_gf1 231 (.int (i32 y20)) rfl rfl rfl rfl ?_
                refine T_ld 232 (.int (i32 1)) rfl (fun _ => rfl) ?_
                refine T_isub 233 rfl rfl ?_
                refine T_pf (l' := [(7, y59), (8, y61), (9, y63), (10, 0), (11, y67), (12, y69), (28, y15), (69, y16), (70, y17), (71, y18), (72, y19), (73, y20 - 1), (74, y21), (75, (m.1 75))]) 236 (y20 - 1) rfl rfl rfl rfl rfl rfl ?_
                have g76 : 0 ≤ y20 - 1 ∧ y20 - 1 ≤ 60 := ⟨by omega, by omega⟩
                refine T_ld 237 (.ref 189) rfl (fun _ => rfl) ?_
                refine T_ld 238 (.int (i32 ((m.2 77) (y20 - 1)))) rfl (fun _ => rfl) ?_
                refine T_pf (l' := [(7, y59), (8, y61), (9, y63), (10, 0), (11, y67), (12, y69), (28, y15), (69, y16), (70, (m.2 77) (y20 - 1)), (71, y18), (72, y19), (73, y20 - 1), (74, y21), (75, (m.1 75))]) 241 ((m.2 77) (y20 - 1)) rfl rfl rfl rfl rfl rfl ?_
                have g77 : 0 ≤ (m.2 77) (y20 - 1) ∧ (m.2 77) (y20 - 1) ≤ 4000 := ⟨by omega, by omega⟩
                refine T_ld 242 (.ref 189) rfl (fun _ => rfl) ?_
                refine T_ld 243 (.int (i32 1)) rfl (fun _ => rfl) ?_
                refine T_pf (l' := [(7, y59), (8, y61), (9, y63), (10, 0), (11, y67), (12, y69), (28, y15), (69, y16), (70, (m.2 77) (y20 - 1)), (71, y18), (72, y19), (73, y20 - 1), (74, y21), (75, 1)]) 246 1 rfl rfl rfl rfl rfl rfl ?_
                have hXE : XS F22 F24 (m.2 76) (m.2 78) (m.2 79) (m.2 80) B y15 (y20 - 1) y21 (um (1 : Int)) := by
                  rw [show um (1 : Int) = 1 from if_neg (by omega)]
                  exact hXB
                refine T_ret rfl (fun _ => rfl) ?_
                exact ⟨y59, y61, y63, 0, y67, y69, y15, y16, (m.2 77) (y20 - 1), y18, y19, y20 - 1, y21, 1, F22, F23, F24, F25, g60, g62, g64, ⟨by omega, by omega⟩, g68, g70, q30, q31, g77, q33, q34, g76, q36, ⟨by omega, by omega⟩, q37, q38, q39, q40, (by omega), (by first | (first | exact hLx | (intro h9; exfalso; omega)) | (exfalso; omega)), (fun _ => ⟨(by omega), (by omega), (by omega), (by omega), (by first | (exact hXE) | (exfalso; omega)), (by first | (exact hAgC) | (exfalso; omega))⟩), rfl⟩
              · skip
                replace h71 : LxP y59 y61 y63 (m.1 6) y65 := h71
                have hLx := h71
                clear h72
                replace h73 : (m.1 8) ≤ y61 := h73
                clear h74
                have hf78 : 1 ≤ y65 := by omega
                clear q8a q8b q8 ic9 ic10 q28 q29
                refine T_ld 227 (.ref 189) rfl (fun _ => rfl) ?_
                refine T_ld 228 (.ref 189) rfl (fun _ => rfl) ?_
                refine T_gf1 231 (.int (i32 y20)) rfl rfl rfl rfl ?_
                refine T_ld 232 (.int (i32 1)) rfl (fun _ => rfl) ?_
                refine T_isub 233 rfl rfl ?_
                refine T_pf (l' := [(7, y59), (8, y61), (9, y63), (10, y65), (11, y67), (12, y69), (28, y15), (69, y16), (70, y17), (71, y18), (72, y19), (73, y20 - 1), (74, y21), (75, (m.1 75))]) 236 (y20 - 1) rfl rfl rfl rfl rfl rfl ?_
                have g79 : 0 ≤ y20 - 1 ∧ y20 - 1 ≤ 60 := ⟨by omega, by omega⟩
                refine T_ld 237 (.ref 189) rfl (fun _ => rfl) ?_
                refine T_ld 238 (.int (i32 ((m.2 77) (y20 - 1)))) rfl (fun _ => rfl) ?_
                refine T_pf (l' := [(7, y59), (8, y61), (9, y63), (10, y65), (11, y67), (12, y69), (28, y15), (69, y16), (70, (m.2 77) (y20 - 1)), (71, y18), (72, y19), (73, y20 - 1), (74, y21), (75, (m.1 75))]) 241 ((m.2 77) (y20 - 1)) rfl rfl rfl rfl rfl rfl ?_
                have g80 : 0 ≤ (m.2 77) (y20 - 1) ∧ (m.2 77) (y20 - 1) ≤ 4000 := ⟨by omega, by omega⟩
                refine T_ld 242 (.ref 189) rfl (fun _ => rfl) ?_
                refine T_ld 243 (.int (i32 1)) rfl (fun _ => rfl) ?_
                refine T_pf (l' := [(7, y59), (8, y61), (9, y63), (10, y65), (11, y67), (12, y69), (28, y15), (69, y16), (70, (m.2 77) (y20 - 1)), (71, y18), (72, y19), (73, y20 - 1), (74, y21), (75, 1)]) 246 1 rfl rfl rfl rfl rfl rfl ?_
                refine T_ret rfl (fun _ => rfl) ?_
                exact ⟨y59, y61, y63, y65, y67, y69, y15, y16, (m.2 77) (y20 - 1), y18, y19, y20 - 1, y21, 1, F22, F23, F24, F25, g60, g62, g64, g66, g68, g70, q30, q31, g80, q33, q34, g79, q36, ⟨by omega, by omega⟩, q37, q38, q39, q40, (by omega), (by first | (first | exact hLx | (intro h9; exfalso; omega)) | (exfalso; omega)), (fun h => absurd h (by omega)), rfl⟩
            · skip
              refine T_ld 203 (.ref 189) rfl (fun _ => rfl) ?_
              refine T_ld 204 (.int (i32 3)) rfl (fun _ => rfl) ?_
              refine T_pf (l' := [(7, (m.1 7)), (8, (m.1 8)), (9, (m.1 9)), (10, 0), (11, y14), (12, (m.1 12)), (28, y15), (69, y16), (70, y17), (71, y18), (72, y19), (73, y20), (74, y21), (75, 3)]) 207 3 rfl rfl rfl rfl rfl rfl ?_
              have hXE : XS F22 F24 (m.2 76) (m.2 78) (m.2 79) (m.2 80) B y15 y20 y21 (um (3 : Int)) := by
                rw [show um (3 : Int) = 1 from if_neg (by omega)]
                have e : y20 = 0 := by omega
                have H := hXC
                rw [e] at H ⊢
                exact XC_end H
              refine T_ret rfl (fun _ => rfl) ?_
              exact ⟨(m.1 7), (m.1 8), (m.1 9), 0, y14, (m.1 12), y15, y16, y17, y18, y19, y20, y21, 3, F22, F23, F24, F25, f7, f8, f9, ⟨by omega, by omega⟩, q29, f12, q30, q31, q32, q33, q34, q35, q36, ⟨by omega, by omega⟩, q37, q38, q39, q40, (by omega), (by first | (first | exact hLx | (intro h9; exfalso; omega)) | (exfalso; omega)), (fun _ => ⟨(by omega), (by omega), (by omega), (by omega), (by first | (exact hXE) | (exfalso; omega)), (by first | (exact hAgC) | (exfalso; omega))⟩), rfl⟩
          · skip
            refine T_gf 41 (.ref 238) rfl rfl rfl rfl rfl rfl ?_
            refine T_gf 45 (.int (i32 y20)) rfl rfl rfl rfl rfl rfl ?_
            refine T_ld 46 (.int (i32 1)) rfl (fun _ => rfl) ?_
            refine T_isub 47 rfl rfl ?_
            refine T_iald 48 76 (m.2 76) rfl rfl rfl (by omega) (show (y20 - 1) < (60 : Int) by omega) rfl ?_
            have e81 : 0 ≤ m.2 76 (y20 - 1) ∧ m.2 76 (y20 - 1) ≤ 2 := hT.2.1 76 (y20 - 1)
            refine T_if 195 51 rfl rfl rfl (r32 (by omega) (by omega)) (fun (h82 : (m.2 76) (y20 - 1) ≠ 0) => ?_) (fun (h82 : ¬ ((m.2 76) (y20 - 1) ≠ 0)) => ?_)
            · skip
              refine T_gf 199 (.int (i32 y20)) rfl rfl rfl rfl rfl rfl ?_
              refine T_if 208 202 rfl rfl rfl (r32 (by omega) (by omega)) (fun (h83 : y20 ≠ 0) => ?_) (fun (h83 : ¬ (y20 ≠ 0)) => ?_)
              · skip
                obtain ⟨hXB, hh2⟩ := XC_bra hXC (by omega) (by omega) (hT.2.1 76 _) (hT.2.1 79 _).1
                refine T_gf 212 (.ref 239) rfl rfl rfl rfl rfl rfl ?_
                refine T_gf 216 (.int (i32 y20)) rfl rfl rfl rfl rfl rfl ?_
                refine T_ld 217 (.int (i32 1)) rfl (fun _ => rfl) ?_
                refine T_isub 218 rfl rfl ?_
                refine T_iald 219 77 (m.2 77) rfl rfl rfl (by omega) (show (y20 - 1) < (60 : Int) by omega) rfl ?_
                have e84 : 0 ≤ m.2 77 (y20 - 1) ∧ m.2 77 (y20 - 1) ≤ 4000 := hT.2.1 77 (y20 - 1)
                refine T_sto 220 [(2, .int (i32 ((m.2 77) (y20 - 1)))), (0, .ref 189), (1, .int (i32 v12))] rfl (fun _ => rfl) ?_
                refine T_ld 221 (.ref 189) rfl (fun _ => rfl) ?_
                refine T_ld 223 (.int (i32 41)) rfl (fun _ => rfl) ?_
                refine T_call 226 232 [.ref 189, .int (i32 41)] [] rfl (fun _ => rfl) rfl (c_need w (mO m [(7, (m.1 7)), (8, (m.1 8)), (9, (m.1 9)), (10, 0), (11, y14), (12, (m.1 12)), (28, y15), (69, y16), (70, y17), (71, y18), (72, y19), (73, y20), (74, y21), (75, (m.1 75))] [(65, F22), (66, F23), (67, F24), (68, F25)]) c N D (by omega) (Ty_mO hT rfl rfl ⟨f7, f8, f9, ⟨(by omega : (0 : Int) ≤ 0), (by omega : (0 : Int) ≤ 8)⟩, q29, f12, q30, q31, q32, q33, q34, q35, q36, f75, trivial⟩ ⟨q37, q38, q39, q40, trivial⟩) 41 ⟨by decide, by decide⟩ (show 1 ≤ (41 : Int) by omega) (show LxP (m.1 7) (m.1 8) (m.1 9) (m.1 6) (0 : Int) by first | exact hLx | (intro h9; exfalso; omega) | (intro h9; have h8 := hLx (by omega); omega))) (fun rr85 k86 => ?_)
                obtain ⟨y87, y89, y91, y93, y95, y97, g88, g90, g92, g94, g96, g98, h99, h100, h101, h102, rfl⟩ := k86
                refine ⟨_, _, rfl, ?_⟩
                refine T_nf (st' := []) (l' := [(7, y87), (8, y89), (9, y91), (10, y93), (11, y95), (12, y97), (28, y15), (69, y16), (70, y17), (71, y18), (72, y19), (73, y20), (74, y21), (75, (m.1 75))]) (a' := [(65, F22), (66, F23), (67, F24), (68, F25)]) rfl rfl rfl rfl rfl ?_
                by_cases hf103 : y93 = 0
                · skip
                  subst hf103
                  replace h99 : LxP y87 y89 y91 (m.1 6) (0 : Int) := h99
                  have hLx := h99
                  replace h100 : (0 : Int) = 0 ∧ (m.1 7) = (41 : Int) := h100 rfl
                  replace h101 : (m.1 8) ≤ y89 := h101
                  replace h102 : (m.1 8) + (m.1 9) ≤ y89 := h102 rfl
                  have hAgC : agr (m.2 65) F22 (m.1 28) := by first | exact agr_r _ _ | exact hAgC | exact agr_t hAgC hAg (by omega)
                  clear q8a q8b q8 ic9 ic10 q28 q29 g94
                  refine T_ld 227 (.ref 189) rfl (fun _ => rfl) ?_
                  refine T_ld 228 (.ref 189) rfl (fun _ => rfl) ?_
                  refine T_gf1 231 (.int (i32 y20)) rfl rfl rfl rfl ?_
                  refine T_ld 232 (.int (i32 1)) rfl (fun _ => rfl) ?_
                  refine T_isub 233 rfl rfl ?_
                  refine T_pf (l' := [(7, y87), (8, y89), (9, y91), (10, 0), (11, y95), (12, y97), (28, y15), (69, y16), (70, y17), (71, y18), (72, y19), (73, y20 - 1), (74, y21), (75, (m.1 75))]) 236 (y20 - 1) rfl rfl rfl rfl rfl rfl ?_
                  have g104 : 0 ≤ y20 - 1 ∧ y20 - 1 ≤ 60 := ⟨by omega, by omega⟩
                  refine T_ld 237 (.ref 189) rfl (fun _ => rfl) ?_
                  refine T_ld 238 (.int (i32 ((m.2 77) (y20 - 1)))) rfl (fun _ => rfl) ?_
                  refine T_pf (l' := [(7, y87), (8, y89), (9, y91), (10, 0), (11, y95), (12, y97), (28, y15), (69, y16), (70, (m.2 77) (y20 - 1)), (71, y18), (72, y19), (73, y20 - 1), (74, y21), (75, (m.1 75))]) 241 ((m.2 77) (y20 - 1)) rfl rfl rfl rfl rfl rfl ?_
                  have g105 : 0 ≤ (m.2 77) (y20 - 1) ∧ (m.2 77) (y20 - 1) ≤ 4000 := ⟨by omega, by omega⟩
                  refine T_ld 242 (.ref 189) rfl (fun _ => rfl) ?_
                  refine T_ld 243 (.int (i32 1)) rfl (fun _ => rfl) ?_
                  refine T_pf (l' := [(7, y87), (8, y89), (9, y91), (10, 0), (11, y95), (12, y97), (28, y15), (69, y16), (70, (m.2 77) (y20 - 1)), (71, y18), (72, y19), (73, y20 - 1), (74, y21), (75, 1)]) 246 1 rfl rfl rfl rfl rfl rfl ?_
                  have hXE : XS F22 F24 (m.2 76) (m.2 78) (m.2 79) (m.2 80) B y15 (y20 - 1) y21 (um (1 : Int)) := by
                    rw [show um (1 : Int) = 1 from if_neg (by omega)]
                    exact hXB
                  refine T_ret rfl (fun _ => rfl) ?_
                  exact ⟨y87, y89, y91, 0, y95, y97, y15, y16, (m.2 77) (y20 - 1), y18, y19, y20 - 1, y21, 1, F22, F23, F24, F25, g88, g90, g92, ⟨by omega, by omega⟩, g96, g98, q30, q31, g105, q33, q34, g104, q36, ⟨by omega, by omega⟩, q37, q38, q39, q40, (by omega), (by first | (first | exact hLx | (intro h9; exfalso; omega)) | (exfalso; omega)), (fun _ => ⟨(by omega), (by omega), (by omega), (by omega), (by first | (exact hXE) | (exfalso; omega)), (by first | (exact hAgC) | (exfalso; omega))⟩), rfl⟩
                · skip
                  replace h99 : LxP y87 y89 y91 (m.1 6) y93 := h99
                  have hLx := h99
                  clear h100
                  replace h101 : (m.1 8) ≤ y89 := h101
                  clear h102
                  have hf106 : 1 ≤ y93 := by omega
                  clear q8a q8b q8 ic9 ic10 q28 q29
                  refine T_ld 227 (.ref 189) rfl (fun _ => rfl) ?_
                  refine T_ld 228 (.ref 189) rfl (fun _ => rfl) ?_
                  refine T_gf1 231 (.int (i32 y20)) rfl rfl rfl rfl ?_
                  refine T_ld 232 (.int (i32 1)) rfl (fun _ => rfl) ?_
                  refine T_isub 233 rfl rfl ?_
                  refine T_pf (l' := [(7, y87), (8, y89), (9, y91), (10, y93), (11, y95), (12, y97), (28, y15), (69, y16), (70, y17), (71, y18), (72, y19), (73, y20 - 1), (74, y21), (75, (m.1 75))]) 236 (y20 - 1) rfl rfl rfl rfl rfl rfl ?_
                  have g107 : 0 ≤ y20 - 1 ∧ y20 - 1 ≤ 60 := ⟨by omega, by omega⟩
                  refine T_ld 237 (.ref 189) rfl (fun _ => rfl) ?_
                  refine T_ld 238 (.int (i32 ((m.2 77) (y20 - 1)))) rfl (fun _ => rfl) ?_
                  refine T_pf (l' := [(7, y87), (8, y89), (9, y91), (10, y93), (11, y95), (12, y97), (28, y15), (69, y16), (70, (m.2 77) (y20 - 1)), (71, y18), (72, y19), (73, y20 - 1), (74, y21), (75, (m.1 75))]) 241 ((m.2 77) (y20 - 1)) rfl rfl rfl rfl rfl rfl ?_
                  have g108 : 0 ≤ (m.2 77) (y20 - 1) ∧ (m.2 77) (y20 - 1) ≤ 4000 := ⟨by omega, by omega⟩
                  refine T_ld 242 (.ref 189) rfl (fun _ => rfl) ?_
                  refine T_ld 243 (.int (i32 1)) rfl (fun _ => rfl) ?_
                  refine T_pf (l' := [(7, y87), (8, y89), (9, y91), (10, y93), (11, y95), (12, y97), (28, y15), (69, y16), (70, (m.2 77) (y20 - 1)), (71, y18), (72, y19), (73, y20 - 1), (74, y21), (75, 1)]) 246 1 rfl rfl rfl rfl rfl rfl ?_
                  refine T_ret rfl (fun _ => rfl) ?_
                  exact ⟨y87, y89, y91, y93, y95, y97, y15, y16, (m.2 77) (y20 - 1), y18, y19, y20 - 1, y21, 1, F22, F23, F24, F25, g88, g90, g92, g94, g96, g98, q30, q31, g108, q33, q34, g107, q36, ⟨by omega, by omega⟩, q37, q38, q39, q40, (by omega), (by first | (first | exact hLx | (intro h9; exfalso; omega)) | (exfalso; omega)), (fun h => absurd h (by omega)), rfl⟩
              · skip
                refine T_ld 203 (.ref 189) rfl (fun _ => rfl) ?_
                refine T_ld 204 (.int (i32 3)) rfl (fun _ => rfl) ?_
                refine T_pf (l' := [(7, (m.1 7)), (8, (m.1 8)), (9, (m.1 9)), (10, 0), (11, y14), (12, (m.1 12)), (28, y15), (69, y16), (70, y17), (71, y18), (72, y19), (73, y20), (74, y21), (75, 3)]) 207 3 rfl rfl rfl rfl rfl rfl ?_
                have hXE : XS F22 F24 (m.2 76) (m.2 78) (m.2 79) (m.2 80) B y15 y20 y21 (um (3 : Int)) := by
                  rw [show um (3 : Int) = 1 from if_neg (by omega)]
                  have e : y20 = 0 := by omega
                  have H := hXC
                  rw [e] at H ⊢
                  exact XC_end H
                refine T_ret rfl (fun _ => rfl) ?_
                exact ⟨(m.1 7), (m.1 8), (m.1 9), 0, y14, (m.1 12), y15, y16, y17, y18, y19, y20, y21, 3, F22, F23, F24, F25, f7, f8, f9, ⟨by omega, by omega⟩, q29, f12, q30, q31, q32, q33, q34, q35, q36, ⟨by omega, by omega⟩, q37, q38, q39, q40, (by omega), (by first | (first | exact hLx | (intro h9; exfalso; omega)) | (exfalso; omega)), (fun _ => ⟨(by omega), (by omega), (by omega), (by omega), (by first | (exact hXE) | (exfalso; omega)), (by first | (exact hAgC) | (exfalso; omega))⟩), rfl⟩
            · skip
              have hd1 := XC_de hXC (by omega)
              have hh3 := XC_h hXC (by omega) (by omega)
              have hl0 : 0 ≤ lh (m.2 79) (m.2 80) (y20 - 1) := lh_0 (hT.2.1 79) _ _
              refine T_gf 55 (.int (i32 y20)) rfl rfl rfl rfl rfl rfl ?_
              refine T_ld 56 (.int (i32 1)) rfl (fun _ => rfl) ?_
              refine T_isub 57 rfl rfl ?_
              refine T_sto 58 [(2, .int (i32 (y20 - 1))), (0, .ref 189), (1, .int (i32 v12))] rfl (fun _ => rfl) ?_
              refine T_ld 59 (.ref 189) rfl (fun _ => rfl) ?_
              refine T_gf 63 (.ref 247) rfl rfl rfl rfl rfl rfl ?_
              refine T_ld 64 (.int (i32 (y20 - 1))) rfl (fun _ => rfl) ?_
              refine T_iald 65 85 (m.2 85) rfl rfl rfl (by omega) (show (y20 - 1) < (60 : Int) by omega) rfl ?_
              have e109 : 0 ≤ m.2 85 (y20 - 1) ∧ m.2 85 (y20 - 1) ≤ 64 := hT.2.1 85 (y20 - 1)
              refine T_gf 69 (.ref 251) rfl rfl rfl rfl rfl rfl ?_
              refine T_ld 70 (.int (i32 (y20 - 1))) rfl (fun _ => rfl) ?_
              refine T_bald 71 89 (m.2 89) rfl rfl rfl (by omega) (show (y20 - 1) < (60 : Int) by omega) rfl ?_
              have e110 : 0 ≤ m.2 89 (y20 - 1) ∧ m.2 89 (y20 - 1) ≤ 1 := hT.2.1 89 (y20 - 1)
              refine T_gf 75 (.ref 253) rfl rfl rfl rfl rfl rfl ?_
              refine T_ld 76 (.int (i32 (y20 - 1))) rfl (fun _ => rfl) ?_
              refine T_lald 77 91 (m.2 91) rfl rfl rfl (by omega) (show (y20 - 1) < (60 : Int) by omega) rfl ?_
              have e111 : (-9223372036854775808) ≤ m.2 91 (y20 - 1) ∧ m.2 91 (y20 - 1) ≤ 9223372036854775807 := hT.2.1 91 (y20 - 1)
              refine T_gf 81 (.ref 248) rfl rfl rfl rfl rfl rfl ?_
              refine T_ld 82 (.int (i32 (y20 - 1))) rfl (fun _ => rfl) ?_
              refine T_iald 83 86 (m.2 86) rfl rfl rfl (by omega) (show (y20 - 1) < (60 : Int) by omega) rfl ?_
              have e112 : 0 ≤ m.2 86 (y20 - 1) ∧ m.2 86 (y20 - 1) ≤ 4000 := hT.2.1 86 (y20 - 1)
              refine T_call 86 258 [.ref 189, .int (i32 ((m.2 85) (y20 - 1))), .int (i32 ((m.2 89) (y20 - 1))), .long (i64 ((m.2 91) (y20 - 1))), .int (i32 ((m.2 86) (y20 - 1)))] [] rfl (fun _ => rfl) rfl (c_wantBit w (mO m [(7, (m.1 7)), (8, (m.1 8)), (9, (m.1 9)), (10, 0), (11, y14), (12, (m.1 12)), (28, y15), (69, y16), (70, y17), (71, y18), (72, y19), (73, y20), (74, y21), (75, (m.1 75))] [(65, F22), (66, F23), (67, F24), (68, F25)]) c N D (by omega) (Ty_mO hT rfl rfl ⟨f7, f8, f9, ⟨(by omega : (0 : Int) ≤ 0), (by omega : (0 : Int) ≤ 8)⟩, q29, f12, q30, q31, q32, q33, q34, q35, q36, f75, trivial⟩ ⟨q37, q38, q39, q40, trivial⟩) ((m.2 85) (y20 - 1)) ((m.2 89) (y20 - 1)) ((m.2 91) (y20 - 1)) ((m.2 86) (y20 - 1)) (r32 (by omega) (by omega)) (r32 (by omega) (by omega)) (r64 (by omega) (by omega)) (r32 (by omega) (by omega)) (show 0 ≤ ((m.2 86) (y20 - 1)) ∧ ((m.2 86) (y20 - 1)) ≤ 4000 by omega) (fun _ => trivial)) (fun rr113 k114 => ?_)
              obtain ⟨y115, y117, g116, g118, h119, c120, rfl⟩ := k114
              refine ⟨_, _, rfl, ?_⟩
              refine T_nf (st' := []) (l' := [(7, (m.1 7)), (8, (m.1 8)), (9, (m.1 9)), (10, y115), (11, y117), (12, (m.1 12)), (28, y15), (69, y16), (70, y17), (71, y18), (72, y19), (73, y20), (74, y21), (75, (m.1 75))]) (a' := [(65, F22), (66, F23), (67, F24), (68, F25)]) rfl rfl rfl rfl rfl ?_
              by_cases hf121 : y115 = 0
              · skip
                subst hf121
                replace h119 : (0 : Int) = 0 := h119 rfl
                clear c120
                have hAgC : agr (m.2 65) F22 (m.1 28) := by first | exact agr_r _ _ | exact hAgC | exact agr_t hAgC hAg (by omega)
                clear q8a q8b q8 ic9 ic10 q28 q29 g116
                refine T_ld 87 (.ref 189) rfl (fun _ => rfl) ?_
                refine T_gf 91 (.ref 249) rfl rfl rfl rfl rfl rfl ?_
                refine T_ld 92 (.int (i32 (y20 - 1))) rfl (fun _ => rfl) ?_
                refine T_iald 93 87 (m.2 87) rfl rfl rfl (by omega) (show (y20 - 1) < (60 : Int) by omega) rfl ?_
                have e122 : 0 ≤ m.2 87 (y20 - 1) ∧ m.2 87 (y20 - 1) ≤ 64 := hT.2.1 87 (y20 - 1)
                refine T_gf 97 (.ref 252) rfl rfl rfl rfl rfl rfl ?_
                refine T_ld 98 (.int (i32 (y20 - 1))) rfl (fun _ => rfl) ?_
                refine T_bald 99 90 (m.2 90) rfl rfl rfl (by omega) (show (y20 - 1) < (60 : Int) by omega) rfl ?_
                have e123 : 0 ≤ m.2 90 (y20 - 1) ∧ m.2 90 (y20 - 1) ≤ 1 := hT.2.1 90 (y20 - 1)
                refine T_gf 103 (.ref 254) rfl rfl rfl rfl rfl rfl ?_
                refine T_ld 104 (.int (i32 (y20 - 1))) rfl (fun _ => rfl) ?_
                refine T_lald 105 92 (m.2 92) rfl rfl rfl (by omega) (show (y20 - 1) < (60 : Int) by omega) rfl ?_
                have e124 : (-9223372036854775808) ≤ m.2 92 (y20 - 1) ∧ m.2 92 (y20 - 1) ≤ 9223372036854775807 := hT.2.1 92 (y20 - 1)
                refine T_gf 109 (.ref 250) rfl rfl rfl rfl rfl rfl ?_
                refine T_ld 110 (.int (i32 (y20 - 1))) rfl (fun _ => rfl) ?_
                refine T_iald 111 88 (m.2 88) rfl rfl rfl (by omega) (show (y20 - 1) < (60 : Int) by omega) rfl ?_
                have e125 : 0 ≤ m.2 88 (y20 - 1) ∧ m.2 88 (y20 - 1) ≤ 4000 := hT.2.1 88 (y20 - 1)
                refine T_gf 115 (.int (i32 y16)) rfl rfl rfl rfl rfl rfl ?_
                refine T_gf 119 (.int (i32 y18)) rfl rfl rfl rfl rfl rfl ?_
                refine T_gf 123 (.long (i64 y19)) rfl rfl rfl rfl rfl rfl ?_
                refine T_gf 127 (.int (i32 y17)) rfl rfl rfl rfl rfl rfl ?_
                refine T_call 130 261 [.ref 189, .int (i32 ((m.2 87) (y20 - 1))), .int (i32 ((m.2 90) (y20 - 1))), .long (i64 ((m.2 92) (y20 - 1))), .int (i32 ((m.2 88) (y20 - 1))), .int (i32 y16), .int (i32 y18), .long (i64 y19), .int (i32 y17)] [] rfl (fun _ => rfl) rfl (c_common w (mO m [(7, (m.1 7)), (8, (m.1 8)), (9, (m.1 9)), (10, 0), (11, y117), (12, (m.1 12)), (28, y15), (69, y16), (70, y17), (71, y18), (72, y19), (73, y20), (74, y21), (75, (m.1 75))] [(65, F22), (66, F23), (67, F24), (68, F25)]) c N D (by omega) (Ty_mO hT rfl rfl ⟨f7, f8, f9, ⟨(by omega : (0 : Int) ≤ 0), (by omega : (0 : Int) ≤ 8)⟩, g118, f12, q30, q31, q32, q33, q34, q35, q36, f75, trivial⟩ ⟨q37, q38, q39, q40, trivial⟩) ((m.2 87) (y20 - 1)) ((m.2 90) (y20 - 1)) ((m.2 92) (y20 - 1)) ((m.2 88) (y20 - 1)) y16 y18 y19 y17 (r32 (by omega) (by omega)) (r32 (by omega) (by omega)) (r64 (by omega) (by omega)) (r32 (by omega) (by omega)) (r32 (by omega) (by omega)) (r32 (by omega) (by omega)) (r64 (by omega) (by omega)) (r32 (by omega) (by omega)) (show 0 ≤ ((m.2 88) (y20 - 1)) ∧ ((m.2 88) (y20 - 1)) ≤ 4000 by omega) (show 0 ≤ y17 ∧ y17 ≤ 4000 by omega) (show 0 ≤ ((m.2 87) (y20 - 1)) ∧ ((m.2 87) (y20 - 1)) ≤ 1024 by omega) (show 0 ≤ y16 ∧ y16 ≤ 1024 by omega) (fun _ => trivial)) (fun rr126 k127 => ?_)
                obtain ⟨y128, y130, x132, g129, g131, g133, h134, h135, c136, rfl⟩ := k127
                refine ⟨_, _, rfl, ?_⟩
                refine T_nf (st' := [.int (i32 x132)]) (l' := [(7, (m.1 7)), (8, (m.1 8)), (9, (m.1 9)), (10, y128), (11, y130), (12, (m.1 12)), (28, y15), (69, y16), (70, y17), (71, y18), (72, y19), (73, y20), (74, y21), (75, (m.1 75))]) (a' := [(65, F22), (66, F23), (67, F24), (68, F25)]) rfl rfl rfl rfl rfl ?_
                obtain ⟨g133a, g133b⟩ := g133
                by_cases hf137 : y128 = 0
                · skip
                  subst hf137
                  replace h134 : (0 : Int) = 0 := h134 rfl
                  replace h135 : x132 = 64 ∨ x132 = ((m.2 87) (y20 - 1)) ∨ x132 = y16 := h135
                  clear c136
                  have hAgC : agr (m.2 65) F22 (m.1 28) := by first | exact agr_r _ _ | exact hAgC | exact agr_t hAgC hAg (by omega)
                  clear g118 g129
                  refine T_sto 131 [(3, .int (i32 x132)), (2, .int (i32 (y20 - 1))), (0, .ref 189), (1, .int (i32 v12))] rfl (fun _ => rfl) ?_
                  have hAr : ar 407 ≤ 1 + lh (m.2 79) (m.2 80) y20 := by rw [show ar 407 = 3 from rfl]; omega
                  have hCk : CNk 407 0 := by refine ⟨?_, ?_, ?_, ?_⟩ <;> omega
                  have hEX := hXC.1
                  refine T_ld 132 (.ref 189) rfl (fun _ => rfl) ?_
                  refine T_ld 135 (.int (i32 407)) rfl (fun _ => rfl) ?_
                  refine T_ld 136 (.int (i32 x132)) rfl (fun _ => rfl) ?_
                  refine T_ld 137 (.int (i32 0)) rfl (fun _ => rfl) ?_
                  refine T_ld 138 (.long (i64 0)) rfl (fun _ => rfl) ?_
                  refine T_call 141 248 [.ref 189, .int (i32 407), .int (i32 x132), .int (i32 0), .long (i64 0)] [] rfl (fun _ => rfl) rfl (c_node w (mO m [(7, (m.1 7)), (8, (m.1 8)), (9, (m.1 9)), (10, 0), (11, y130), (12, (m.1 12)), (28, y15), (69, y16), (70, y17), (71, y18), (72, y19), (73, y20), (74, y21), (75, (m.1 75))] [(65, F22), (66, F23), (67, F24), (68, F25)]) c N D (by omega) (Ty_mO hT rfl rfl ⟨f7, f8, f9, ⟨(by omega : (0 : Int) ≤ 0), (by omega : (0 : Int) ≤ 8)⟩, g131, f12, q30, q31, q32, q33, q34, q35, q36, f75, trivial⟩ ⟨q37, q38, q39, q40, trivial⟩) 407 x132 0 0 B (1 + lh (m.2 79) (m.2 80) y20) ⟨by decide, by decide⟩ (r32 (by omega) (by omega)) ⟨by decide, by decide⟩ ⟨by decide, by decide⟩ (fun _ => ⟨(show 0 ≤ (407 : Int) ∧ (407 : Int) ≤ 408 by first | omega | decide), (show 0 ≤ x132 ∧ x132 ≤ 64 by first | omega | decide), (show 0 ≤ (0 : Int) ∧ (0 : Int) ≤ 191 by first | omega | decide), (show CNk (407 : Int) (0 : Int) by first | exact hCk | (refine ⟨?_, ?_, ?_, ?_⟩ <;> omega)), (show ar (407 : Int) ≤ (1 + lh (m.2 79) (m.2 80) y20) by first | exact hAr | omega), (show EX F22 F24 B y15 (1 + lh (m.2 79) (m.2 80) y20) by first | exact hEX | assumption)⟩)) (fun rr138 k139 => ?_)
                  obtain ⟨y140, y142, y144, F146, F148, F150, F152, g141, g143, g145, G147, G149, G151, G153, h154, c155, rfl⟩ := k139
                  refine ⟨_, _, rfl, ?_⟩
                  refine T_nf (st' := []) (l' := [(7, (m.1 7)), (8, (m.1 8)), (9, (m.1 9)), (10, y140), (11, y142), (12, (m.1 12)), (28, y144), (69, y16), (70, y17), (71, y18), (72, y19), (73, y20), (74, y21), (75, (m.1 75))]) (a' := [(65, F146), (66, F148), (67, F150), (68, F152)]) rfl rfl rfl rfl rfl ?_
                  by_cases hf156 : y140 = 0
                  · skip
                    subst hf156
                    replace h154 : (0 : Int) = 0 := h154 rfl
                    obtain ⟨c157, c158, c159⟩ := c155 rfl
                    replace c157 : y144 = y15 + 1 := c157
                    replace c158 : EX F146 F150 B y144 ((1 + lh (m.2 79) (m.2 80) y20) + 1 - ar (407 : Int)) := c158
                    have hEX := c158
                    replace c159 : agr F22 F146 y15 := c159
                    have hAg := c159
                    clear c155
                    have hAgC : agr (m.2 65) F146 (m.1 28) := by first | exact agr_r _ _ | exact hAgC | exact agr_t hAgC hAg (by omega)
                    clear q30 c49 c51 c53 g131 g141 c157 c159
                    have hXC1 := XC_1 hXC (by omega) (by omega) hEX (by rw [show ar 407 = 3 from rfl]; omega)
                    refine T_ld 142 (.ref 189) rfl (fun _ => rfl) ?_
                    refine T_ld 143 (.int (i32 x132)) rfl (fun _ => rfl) ?_
                    refine T_gf 147 (.ref 248) rfl rfl rfl rfl rfl rfl ?_
                    refine T_ld 148 (.int (i32 (y20 - 1))) rfl (fun _ => rfl) ?_
                    refine T_iald 149 86 (m.2 86) rfl rfl rfl (by omega) (show (y20 - 1) < (60 : Int) by omega) rfl ?_
                    have e160 : 0 ≤ m.2 86 (y20 - 1) ∧ m.2 86 (y20 - 1) ≤ 4000 := hT.2.1 86 (y20 - 1)
                    refine T_call 152 250 [.ref 189, .int (i32 x132), .int (i32 ((m.2 86) (y20 - 1)))] [] rfl (fun _ => rfl) rfl (c_unit w (mO m [(7, (m.1 7)), (8, (m.1 8)), (9, (m.1 9)), (10, 0), (11, y142), (12, (m.1 12)), (28, y144), (69, y16), (70, y17), (71, y18), (72, y19), (73, y20), (74, y21), (75, (m.1 75))] [(65, F146), (66, F148), (67, F150), (68, F152)]) c N D (by omega) (Ty_mO hT rfl rfl ⟨f7, f8, f9, ⟨(by omega : (0 : Int) ≤ 0), (by omega : (0 : Int) ≤ 8)⟩, g143, f12, g145, q31, q32, q33, q34, q35, q36, f75, trivial⟩ ⟨G147, G149, G151, G153, trivial⟩) x132 ((m.2 86) (y20 - 1)) (r32 (by omega) (by omega)) (r32 (by omega) (by omega)) (show 0 ≤ x132 ∧ x132 ≤ 1024 by omega) (show 0 ≤ ((m.2 86) (y20 - 1)) ∧ ((m.2 86) (y20 - 1)) ≤ 4000 by omega)) (fun rr161 k162 => ?_)
                    obtain ⟨y163, y165, y167, y169, g164, g166, g168, g170, h171, rfl⟩ := k162
                    refine ⟨_, _, rfl, ?_⟩
                    refine T_nf (st' := []) (l' := [(7, (m.1 7)), (8, (m.1 8)), (9, (m.1 9)), (10, 0), (11, y142), (12, (m.1 12)), (28, y144), (69, y163), (70, y165), (71, y167), (72, y169), (73, y20), (74, y21), (75, (m.1 75))]) (a' := [(65, F146), (66, F148), (67, F150), (68, F152)]) rfl rfl rfl rfl rfl ?_
                    replace h171 : y163 = x132 := h171
                    have hAgC : agr (m.2 65) F146 (m.1 28) := by first | exact agr_r _ _ | exact hAgC | exact agr_t hAgC hAg (by omega)
                    clear q31 q32 q33 q34 c50 h135
                    refine T_ld 153 (.ref 189) rfl (fun _ => rfl) ?_
                    refine T_ld 154 (.ref 189) rfl (fun _ => rfl) ?_
                    refine T_gf1 157 (.int (i32 y20)) rfl rfl rfl rfl ?_
                    refine T_ld 158 (.int (i32 1)) rfl (fun _ => rfl) ?_
                    refine T_isub 159 rfl rfl ?_
                    refine T_pf (l' := [(7, (m.1 7)), (8, (m.1 8)), (9, (m.1 9)), (10, 0), (11, y142), (12, (m.1 12)), (28, y144), (69, y163), (70, y165), (71, y167), (72, y169), (73, y20 - 1), (74, y21), (75, (m.1 75))]) 162 (y20 - 1) rfl rfl rfl rfl rfl rfl ?_
                    have g172 : 0 ≤ y20 - 1 ∧ y20 - 1 ≤ 60 := ⟨by omega, by omega⟩
                    refine T_ld 163 (.ref 189) rfl (fun _ => rfl) ?_
                    refine T_ld 164 (.ref 189) rfl (fun _ => rfl) ?_
                    refine T_gf1 167 (.int (i32 y21)) rfl rfl rfl rfl ?_
                    refine T_ld 168 (.int (i32 1)) rfl (fun _ => rfl) ?_
                    refine T_isub 169 rfl rfl ?_
                    refine T_pf (l' := [(7, (m.1 7)), (8, (m.1 8)), (9, (m.1 9)), (10, 0), (11, y142), (12, (m.1 12)), (28, y144), (69, y163), (70, y165), (71, y167), (72, y169), (73, y20 - 1), (74, y21 - 1), (75, (m.1 75))]) 172 (y21 - 1) rfl rfl rfl rfl rfl rfl ?_
                    have g173 : 0 ≤ y21 - 1 ∧ y21 - 1 ≤ 24 := ⟨by omega, by omega⟩
                    have hXC := hXC1
                    refine T_gf 176 (.int (i32 (y20 - 1))) rfl rfl rfl rfl rfl rfl ?_
                    refine T_if 190 179 rfl rfl rfl (r32 (by omega) (by omega)) (fun (h174 : y20 - 1 ≤ 0) => ?_) (fun (h174 : ¬ (y20 - 1 ≤ 0)) => ?_)
                    · skip
                      refine T_ld 191 (.int (i32 0)) rfl (fun _ => rfl) ?_
                      refine T_sto 192 [(1, .int (i32 0)), (3, .int (i32 x132)), (2, .int (i32 (y20 - 1))), (0, .ref 189)] rfl (fun _ => rfl) ?_
                      refine T_goto 33 rfl (fun _ => rfl) ?_
                      refine Tm_lv (a := [(0, .ref 189), (1, .int (i32 0))]) rfl rfl ⟨rfl, rfl, trivial⟩ ?_
                      exact ih47 0 0 y142 y144 y163 y165 y167 y169 (y20 - 1) (y21 - 1) F146 F148 F150 F152 ⟨by decide, by decide⟩ ⟨by omega, by omega⟩ g143 g145 g164 g166 g168 g170 g172 g173 G147 G149 G151 G153 (by omega) (by omega) (by omega) (by omega) (by omega) (fun _ => ⟨(by exact hXC), (by omega), (by omega), (by omega), (by exact hAgC)⟩) (by omega)
                    · skip
                      refine T_gf 183 (.int (i32 0)) rfl rfl rfl rfl rfl rfl ?_
                      refine T_if 190 186 rfl rfl rfl ⟨by decide, by decide⟩ (fun h175 => absurd (show (0 : Int) ≠ 0 from h175) (by decide)) (fun _ => ?_)
                      refine T_ld 187 (.int (i32 1)) rfl (fun _ => rfl) ?_
                      refine T_goto 191 rfl (fun _ => rfl) ?_
                      refine T_sto 192 [(1, .int (i32 1)), (3, .int (i32 x132)), (2, .int (i32 (y20 - 1))), (0, .ref 189)] rfl (fun _ => rfl) ?_
                      refine T_goto 33 rfl (fun _ => rfl) ?_
                      refine Tm_lv (a := [(0, .ref 189), (1, .int (i32 1))]) rfl rfl ⟨rfl, rfl, trivial⟩ ?_
                      exact ih47 1 0 y142 y144 y163 y165 y167 y169 (y20 - 1) (y21 - 1) F146 F148 F150 F152 ⟨by decide, by decide⟩ ⟨by omega, by omega⟩ g143 g145 g164 g166 g168 g170 g172 g173 G147 G149 G151 G153 (by omega) (by omega) (by omega) (by omega) (by omega) (fun _ => ⟨(by exact hXC), (by omega), (by omega), (by omega), (by exact hAgC)⟩) (by omega)
                  · skip
                    clear c155
                    clear h154
                    have hf176 : 1 ≤ y140 := by omega
                    clear q30 c49 c51 c53 g131
                    refine T_ld 142 (.ref 189) rfl (fun _ => rfl) ?_
                    refine T_ld 143 (.int (i32 x132)) rfl (fun _ => rfl) ?_
                    refine T_gf 147 (.ref 248) rfl rfl rfl rfl rfl rfl ?_
                    refine T_ld 148 (.int (i32 (y20 - 1))) rfl (fun _ => rfl) ?_
                    refine T_iald 149 86 (m.2 86) rfl rfl rfl (by omega) (show (y20 - 1) < (60 : Int) by omega) rfl ?_
                    have e177 : 0 ≤ m.2 86 (y20 - 1) ∧ m.2 86 (y20 - 1) ≤ 4000 := hT.2.1 86 (y20 - 1)
                    refine T_call 152 250 [.ref 189, .int (i32 x132), .int (i32 ((m.2 86) (y20 - 1)))] [] rfl (fun _ => rfl) rfl (c_unit w (mO m [(7, (m.1 7)), (8, (m.1 8)), (9, (m.1 9)), (10, y140), (11, y142), (12, (m.1 12)), (28, y144), (69, y16), (70, y17), (71, y18), (72, y19), (73, y20), (74, y21), (75, (m.1 75))] [(65, F146), (66, F148), (67, F150), (68, F152)]) c N D (by omega) (Ty_mO hT rfl rfl ⟨f7, f8, f9, g141, g143, f12, g145, q31, q32, q33, q34, q35, q36, f75, trivial⟩ ⟨G147, G149, G151, G153, trivial⟩) x132 ((m.2 86) (y20 - 1)) (r32 (by omega) (by omega)) (r32 (by omega) (by omega)) (show 0 ≤ x132 ∧ x132 ≤ 1024 by omega) (show 0 ≤ ((m.2 86) (y20 - 1)) ∧ ((m.2 86) (y20 - 1)) ≤ 4000 by omega)) (fun rr178 k179 => ?_)
                    obtain ⟨y180, y182, y184, y186, g181, g183, g185, g187, h188, rfl⟩ := k179
                    refine ⟨_, _, rfl, ?_⟩
                    refine T_nf (st' := []) (l' := [(7, (m.1 7)), (8, (m.1 8)), (9, (m.1 9)), (10, y140), (11, y142), (12, (m.1 12)), (28, y144), (69, y180), (70, y182), (71, y184), (72, y186), (73, y20), (74, y21), (75, (m.1 75))]) (a' := [(65, F146), (66, F148), (67, F150), (68, F152)]) rfl rfl rfl rfl rfl ?_
                    replace h188 : y180 = x132 := h188
                    clear q31 q32 q33 q34 c50 h135
                    refine T_ld 153 (.ref 189) rfl (fun _ => rfl) ?_
                    refine T_ld 154 (.ref 189) rfl (fun _ => rfl) ?_
                    refine T_gf1 157 (.int (i32 y20)) rfl rfl rfl rfl ?_
                    refine T_ld 158 (.int (i32 1)) rfl (fun _ => rfl) ?_
                    refine T_isub 159 rfl rfl ?_
                    refine T_pf (l' := [(7, (m.1 7)), (8, (m.1 8)), (9, (m.1 9)), (10, y140), (11, y142), (12, (m.1 12)), (28, y144), (69, y180), (70, y182), (71, y184), (72, y186), (73, y20 - 1), (74, y21), (75, (m.1 75))]) 162 (y20 - 1) rfl rfl rfl rfl rfl rfl ?_
                    have g189 : 0 ≤ y20 - 1 ∧ y20 - 1 ≤ 60 := ⟨by omega, by omega⟩
                    refine T_ld 163 (.ref 189) rfl (fun _ => rfl) ?_
                    refine T_ld 164 (.ref 189) rfl (fun _ => rfl) ?_
                    refine T_gf1 167 (.int (i32 y21)) rfl rfl rfl rfl ?_
                    refine T_ld 168 (.int (i32 1)) rfl (fun _ => rfl) ?_
                    refine T_isub 169 rfl rfl ?_
                    refine T_pf (l' := [(7, (m.1 7)), (8, (m.1 8)), (9, (m.1 9)), (10, y140), (11, y142), (12, (m.1 12)), (28, y144), (69, y180), (70, y182), (71, y184), (72, y186), (73, y20 - 1), (74, y21 - 1), (75, (m.1 75))]) 172 (y21 - 1) rfl rfl rfl rfl rfl rfl ?_
                    have g190 : 0 ≤ y21 - 1 ∧ y21 - 1 ≤ 24 := ⟨by omega, by omega⟩
                    refine T_gf 176 (.int (i32 (y20 - 1))) rfl rfl rfl rfl rfl rfl ?_
                    refine T_if 190 179 rfl rfl rfl (r32 (by omega) (by omega)) (fun (h191 : y20 - 1 ≤ 0) => ?_) (fun (h191 : ¬ (y20 - 1 ≤ 0)) => ?_)
                    · skip
                      refine T_ld 191 (.int (i32 0)) rfl (fun _ => rfl) ?_
                      refine T_sto 192 [(1, .int (i32 0)), (3, .int (i32 x132)), (2, .int (i32 (y20 - 1))), (0, .ref 189)] rfl (fun _ => rfl) ?_
                      refine T_goto 33 rfl (fun _ => rfl) ?_
                      refine Tm_lv (a := [(0, .ref 189), (1, .int (i32 0))]) rfl rfl ⟨rfl, rfl, trivial⟩ ?_
                      exact ih47 0 y140 y142 y144 y180 y182 y184 y186 (y20 - 1) (y21 - 1) F146 F148 F150 F152 ⟨by decide, by decide⟩ g141 g143 g145 g181 g183 g185 g187 g189 g190 G147 G149 G151 G153 (by omega) (by omega) (by omega) (by omega) (by omega) (fun h => absurd h (by omega)) (by omega)
                    · skip
                      refine T_gf 183 (.int (i32 y140)) rfl rfl rfl rfl rfl rfl ?_
                      refine T_if 190 186 rfl rfl rfl (r32 (by omega) (by omega)) (fun (h192 : y140 ≠ 0) => ?_) (fun (h192 : ¬ (y140 ≠ 0)) => by exfalso; omega)
                      refine T_ld 191 (.int (i32 0)) rfl (fun _ => rfl) ?_
                      refine T_sto 192 [(1, .int (i32 0)), (3, .int (i32 x132)), (2, .int (i32 (y20 - 1))), (0, .ref 189)] rfl (fun _ => rfl) ?_
                      refine T_goto 33 rfl (fun _ => rfl) ?_
                      refine Tm_lv (a := [(0, .ref 189), (1, .int (i32 0))]) rfl rfl ⟨rfl, rfl, trivial⟩ ?_
                      exact ih47 0 y140 y142 y144 y180 y182 y184 y186 (y20 - 1) (y21 - 1) F146 F148 F150 F152 ⟨by decide, by decide⟩ g141 g143 g145 g181 g183 g185 g187 g189 g190 G147 G149 G151 G153 (by omega) (by omega) (by omega) (by omega) (by omega) (fun h => absurd h (by omega)) (by omega)
                · skip
                  clear c136
                  clear h134
                  replace h135 : x132 = 64 ∨ x132 = ((m.2 87) (y20 - 1)) ∨ x132 = y16 := h135
                  have hf193 : 1 ≤ y128 := by omega
                  clear g118
                  refine T_sto 131 [(3, .int (i32 x132)), (2, .int (i32 (y20 - 1))), (0, .ref 189), (1, .int (i32 v12))] rfl (fun _ => rfl) ?_
                  refine T_ld 132 (.ref 189) rfl (fun _ => rfl) ?_
                  refine T_ld 135 (.int (i32 407)) rfl (fun _ => rfl) ?_
                  refine T_ld 136 (.int (i32 x132)) rfl (fun _ => rfl) ?_
                  refine T_ld 137 (.int (i32 0)) rfl (fun _ => rfl) ?_
                  refine T_ld 138 (.long (i64 0)) rfl (fun _ => rfl) ?_
                  refine T_call 141 248 [.ref 189, .int (i32 407), .int (i32 x132), .int (i32 0), .long (i64 0)] [] rfl (fun _ => rfl) rfl (c_node w (mO m [(7, (m.1 7)), (8, (m.1 8)), (9, (m.1 9)), (10, y128), (11, y130), (12, (m.1 12)), (28, y15), (69, y16), (70, y17), (71, y18), (72, y19), (73, y20), (74, y21), (75, (m.1 75))] [(65, F22), (66, F23), (67, F24), (68, F25)]) c N D (by omega) (Ty_mO hT rfl rfl ⟨f7, f8, f9, g129, g131, f12, q30, q31, q32, q33, q34, q35, q36, f75, trivial⟩ ⟨q37, q38, q39, q40, trivial⟩) 407 x132 0 0 B (1 + lh (m.2 79) (m.2 80) y20) ⟨by decide, by decide⟩ (r32 (by omega) (by omega)) ⟨by decide, by decide⟩ ⟨by decide, by decide⟩ (fun (h : y128 = 0) => absurd h (by omega))) (fun rr194 k195 => ?_)
                  obtain ⟨y196, y198, y200, F202, F204, F206, F208, g197, g199, g201, G203, G205, G207, G209, h210, c211, rfl⟩ := k195
                  refine ⟨_, _, rfl, ?_⟩
                  refine T_nf (st' := []) (l' := [(7, (m.1 7)), (8, (m.1 8)), (9, (m.1 9)), (10, y196), (11, y198), (12, (m.1 12)), (28, y200), (69, y16), (70, y17), (71, y18), (72, y19), (73, y20), (74, y21), (75, (m.1 75))]) (a' := [(65, F202), (66, F204), (67, F206), (68, F208)]) rfl rfl rfl rfl rfl ?_
                  replace h210 : y196 = 0 → y128 = 0 := h210
                  have hf212 : 1 ≤ y196 := by omega
                  clear c211
                  clear h210
                  clear q30 c49 c51 c53 g129 g131 hf193
                  refine T_ld 142 (.ref 189) rfl (fun _ => rfl) ?_
                  refine T_ld 143 (.int (i32 x132)) rfl (fun _ => rfl) ?_
                  refine T_gf 147 (.ref 248) rfl rfl rfl rfl rfl rfl ?_
                  refine T_ld 148 (.int (i32 (y20 - 1))) rfl (fun _ => rfl) ?_
                  refine T_iald 149 86 (m.2 86) rfl rfl rfl (by omega) (show (y20 - 1) < (60 : Int) by omega) rfl ?_
                  have e213 : 0 ≤ m.2 86 (y20 - 1) ∧ m.2 86 (y20 - 1) ≤ 4000 := hT.2.1 86 (y20 - 1)
                  refine T_call 152 250 [.ref 189, .int (i32 x132), .int (i32 ((m.2 86) (y20 - 1)))] [] rfl (fun _ => rfl) rfl (c_unit w (mO m [(7, (m.1 7)), (8, (m.1 8)), (9, (m.1 9)), (10, y196), (11, y198), (12, (m.1 12)), (28, y200), (69, y16), (70, y17), (71, y18), (72, y19), (73, y20), (74, y21), (75, (m.1 75))] [(65, F202), (66, F204), (67, F206), (68, F208)]) c N D (by omega) (Ty_mO hT rfl rfl ⟨f7, f8, f9, g197, g199, f12, g201, q31, q32, q33, q34, q35, q36, f75, trivial⟩ ⟨G203, G205, G207, G209, trivial⟩) x132 ((m.2 86) (y20 - 1)) (r32 (by omega) (by omega)) (r32 (by omega) (by omega)) (show 0 ≤ x132 ∧ x132 ≤ 1024 by omega) (show 0 ≤ ((m.2 86) (y20 - 1)) ∧ ((m.2 86) (y20 - 1)) ≤ 4000 by omega)) (fun rr214 k215 => ?_)
                  obtain ⟨y216, y218, y220, y222, g217, g219, g221, g223, h224, rfl⟩ := k215
                  refine ⟨_, _, rfl, ?_⟩
                  refine T_nf (st' := []) (l' := [(7, (m.1 7)), (8, (m.1 8)), (9, (m.1 9)), (10, y196), (11, y198), (12, (m.1 12)), (28, y200), (69, y216), (70, y218), (71, y220), (72, y222), (73, y20), (74, y21), (75, (m.1 75))]) (a' := [(65, F202), (66, F204), (67, F206), (68, F208)]) rfl rfl rfl rfl rfl ?_
                  replace h224 : y216 = x132 := h224
                  clear q31 q32 q33 q34 c50 h135
                  refine T_ld 153 (.ref 189) rfl (fun _ => rfl) ?_
                  refine T_ld 154 (.ref 189) rfl (fun _ => rfl) ?_
                  refine T_gf1 157 (.int (i32 y20)) rfl rfl rfl rfl ?_
                  refine T_ld 158 (.int (i32 1)) rfl (fun _ => rfl) ?_
                  refine T_isub 159 rfl rfl ?_
                  refine T_pf (l' := [(7, (m.1 7)), (8, (m.1 8)), (9, (m.1 9)), (10, y196), (11, y198), (12, (m.1 12)), (28, y200), (69, y216), (70, y218), (71, y220), (72, y222), (73, y20 - 1), (74, y21), (75, (m.1 75))]) 162 (y20 - 1) rfl rfl rfl rfl rfl rfl ?_
                  have g225 : 0 ≤ y20 - 1 ∧ y20 - 1 ≤ 60 := ⟨by omega, by omega⟩
                  refine T_ld 163 (.ref 189) rfl (fun _ => rfl) ?_
                  refine T_ld 164 (.ref 189) rfl (fun _ => rfl) ?_
                  refine T_gf1 167 (.int (i32 y21)) rfl rfl rfl rfl ?_
                  refine T_ld 168 (.int (i32 1)) rfl (fun _ => rfl) ?_
                  refine T_isub 169 rfl rfl ?_
                  refine T_pf (l' := [(7, (m.1 7)), (8, (m.1 8)), (9, (m.1 9)), (10, y196), (11, y198), (12, (m.1 12)), (28, y200), (69, y216), (70, y218), (71, y220), (72, y222), (73, y20 - 1), (74, y21 - 1), (75, (m.1 75))]) 172 (y21 - 1) rfl rfl rfl rfl rfl rfl ?_
                  have g226 : 0 ≤ y21 - 1 ∧ y21 - 1 ≤ 24 := ⟨by omega, by omega⟩
                  refine T_gf 176 (.int (i32 (y20 - 1))) rfl rfl rfl rfl rfl rfl ?_
                  refine T_if 190 179 rfl rfl rfl (r32 (by omega) (by omega)) (fun (h227 : y20 - 1 ≤ 0) => ?_) (fun (h227 : ¬ (y20 - 1 ≤ 0)) => ?_)
                  · skip
                    refine T_ld 191 (.int (i32 0)) rfl (fun _ => rfl) ?_
                    refine T_sto 192 [(1, .int (i32 0)), (3, .int (i32 x132)), (2, .int (i32 (y20 - 1))), (0, .ref 189)] rfl (fun _ => rfl) ?_
                    refine T_goto 33 rfl (fun _ => rfl) ?_
                    refine Tm_lv (a := [(0, .ref 189), (1, .int (i32 0))]) rfl rfl ⟨rfl, rfl, trivial⟩ ?_
                    exact ih47 0 y196 y198 y200 y216 y218 y220 y222 (y20 - 1) (y21 - 1) F202 F204 F206 F208 ⟨by decide, by decide⟩ g197 g199 g201 g217 g219 g221 g223 g225 g226 G203 G205 G207 G209 (by omega) (by omega) (by omega) (by omega) (by omega) (fun h => absurd h (by omega)) (by omega)
                  · skip
                    refine T_gf 183 (.int (i32 y196)) rfl rfl rfl rfl rfl rfl ?_
                    refine T_if 190 186 rfl rfl rfl (r32 (by omega) (by omega)) (fun (h228 : y196 ≠ 0) => ?_) (fun (h228 : ¬ (y196 ≠ 0)) => by exfalso; omega)
                    refine T_ld 191 (.int (i32 0)) rfl (fun _ => rfl) ?_
                    refine T_sto 192 [(1, .int (i32 0)), (3, .int (i32 x132)), (2, .int (i32 (y20 - 1))), (0, .ref 189)] rfl (fun _ => rfl) ?_
                    refine T_goto 33 rfl (fun _ => rfl) ?_
                    refine Tm_lv (a := [(0, .ref 189), (1, .int (i32 0))]) rfl rfl ⟨rfl, rfl, trivial⟩ ?_
                    exact ih47 0 y196 y198 y200 y216 y218 y220 y222 (y20 - 1) (y21 - 1) F202 F204 F206 F208 ⟨by decide, by decide⟩ g197 g199 g201 g217 g219 g221 g223 g225 g226 G203 G205 G207 G209 (by omega) (by omega) (by omega) (by omega) (by omega) (fun h => absurd h (by omega)) (by omega)
              · skip
                clear c120
                clear h119
                have hf229 : 1 ≤ y115 := by omega
                clear q8a q8b q8 ic9 ic10 q28 q29
                refine T_ld 87 (.ref 189) rfl (fun _ => rfl) ?_
                refine T_gf 91 (.ref 249) rfl rfl rfl rfl rfl rfl ?_
                refine T_ld 92 (.int (i32 (y20 - 1))) rfl (fun _ => rfl) ?_
                refine T_iald 93 87 (m.2 87) rfl rfl rfl (by omega) (show (y20 - 1) < (60 : Int) by omega) rfl ?_
                have e230 : 0 ≤ m.2 87 (y20 - 1) ∧ m.2 87 (y20 - 1) ≤ 64 := hT.2.1 87 (y20 - 1)
                refine T_gf 97 (.ref 252) rfl rfl rfl rfl rfl rfl ?_
                refine T_ld 98 (.int (i32 (y20 - 1))) rfl (fun _ => rfl) ?_
                refine T_bald 99 90 (m.2 90) rfl rfl rfl (by omega) (show (y20 - 1) < (60 : Int) by omega) rfl ?_
                have e231 : 0 ≤ m.2 90 (y20 - 1) ∧ m.2 90 (y20 - 1) ≤ 1 := hT.2.1 90 (y20 - 1)
                refine T_gf 103 (.ref 254) rfl rfl rfl rfl rfl rfl ?_
                refine T_ld 104 (.int (i32 (y20 - 1))) rfl (fun _ => rfl) ?_
                refine T_lald 105 92 (m.2 92) rfl rfl rfl (by omega) (show (y20 - 1) < (60 : Int) by omega) rfl ?_
                have e232 : (-9223372036854775808) ≤ m.2 92 (y20 - 1) ∧ m.2 92 (y20 - 1) ≤ 9223372036854775807 := hT.2.1 92 (y20 - 1)
                refine T_gf 109 (.ref 250) rfl rfl rfl rfl rfl rfl ?_
                refine T_ld 110 (.int (i32 (y20 - 1))) rfl (fun _ => rfl) ?_
                refine T_iald 111 88 (m.2 88) rfl rfl rfl (by omega) (show (y20 - 1) < (60 : Int) by omega) rfl ?_
                have e233 : 0 ≤ m.2 88 (y20 - 1) ∧ m.2 88 (y20 - 1) ≤ 4000 := hT.2.1 88 (y20 - 1)
                refine T_gf 115 (.int (i32 y16)) rfl rfl rfl rfl rfl rfl ?_
                refine T_gf 119 (.int (i32 y18)) rfl rfl rfl rfl rfl rfl ?_
                refine T_gf 123 (.long (i64 y19)) rfl rfl rfl rfl rfl rfl ?_
                refine T_gf 127 (.int (i32 y17)) rfl rfl rfl rfl rfl rfl ?_
                refine T_call 130 261 [.ref 189, .int (i32 ((m.2 87) (y20 - 1))), .int (i32 ((m.2 90) (y20 - 1))), .long (i64 ((m.2 92) (y20 - 1))), .int (i32 ((m.2 88) (y20 - 1))), .int (i32 y16), .int (i32 y18), .long (i64 y19), .int (i32 y17)] [] rfl (fun _ => rfl) rfl (c_common w (mO m [(7, (m.1 7)), (8, (m.1 8)), (9, (m.1 9)), (10, y115), (11, y117), (12, (m.1 12)), (28, y15), (69, y16), (70, y17), (71, y18), (72, y19), (73, y20), (74, y21), (75, (m.1 75))] [(65, F22), (66, F23), (67, F24), (68, F25)]) c N D (by omega) (Ty_mO hT rfl rfl ⟨f7, f8, f9, g116, g118, f12, q30, q31, q32, q33, q34, q35, q36, f75, trivial⟩ ⟨q37, q38, q39, q40, trivial⟩) ((m.2 87) (y20 - 1)) ((m.2 90) (y20 - 1)) ((m.2 92) (y20 - 1)) ((m.2 88) (y20 - 1)) y16 y18 y19 y17 (r32 (by omega) (by omega)) (r32 (by omega) (by omega)) (r64 (by omega) (by omega)) (r32 (by omega) (by omega)) (r32 (by omega) (by omega)) (r32 (by omega) (by omega)) (r64 (by omega) (by omega)) (r32 (by omega) (by omega)) (show 0 ≤ ((m.2 88) (y20 - 1)) ∧ ((m.2 88) (y20 - 1)) ≤ 4000 by omega) (show 0 ≤ y17 ∧ y17 ≤ 4000 by omega) (show 0 ≤ ((m.2 87) (y20 - 1)) ∧ ((m.2 87) (y20 - 1)) ≤ 1024 by omega) (show 0 ≤ y16 ∧ y16 ≤ 1024 by omega) (fun (h : y115 = 0) => absurd h (by omega))) (fun rr234 k235 => ?_)
                obtain ⟨y236, y238, x240, g237, g239, g241, h242, h243, c244, rfl⟩ := k235
                refine ⟨_, _, rfl, ?_⟩
                refine T_nf (st' := [.int (i32 x240)]) (l' := [(7, (m.1 7)), (8, (m.1 8)), (9, (m.1 9)), (10, y236), (11, y238), (12, (m.1 12)), (28, y15), (69, y16), (70, y17), (71, y18), (72, y19), (73, y20), (74, y21), (75, (m.1 75))]) (a' := [(65, F22), (66, F23), (67, F24), (68, F25)]) rfl rfl rfl rfl rfl ?_
                obtain ⟨g241a, g241b⟩ := g241
                replace h242 : y236 = 0 → y115 = 0 := h242
                replace h243 : x240 = 64 ∨ x240 = ((m.2 87) (y20 - 1)) ∨ x240 = y16 := h243
                have hf245 : 1 ≤ y236 := by omega
                clear c244
                clear h242
                clear g116 g118 hf229
                refine T_sto 131 [(3, .int (i32 x240)), (2, .int (i32 (y20 - 1))), (0, .ref 189), (1, .int (i32 v12))] rfl (fun _ => rfl) ?_
                refine T_ld 132 (.ref 189) rfl (fun _ => rfl) ?_
                refine T_ld 135 (.int (i32 407)) rfl (fun _ => rfl) ?_
                refine T_ld 136 (.int (i32 x240)) rfl (fun _ => rfl) ?_
                refine T_ld 137 (.int (i32 0)) rfl (fun _ => rfl) ?_
                refine T_ld 138 (.long (i64 0)) rfl (fun _ => rfl) ?_
                refine T_call 141 248 [.ref 189, .int (i32 407), .int (i32 x240), .int (i32 0), .long (i64 0)] [] rfl (fun _ => rfl) rfl (c_node w (mO m [(7, (m.1 7)), (8, (m.1 8)), (9, (m.1 9)), (10, y236), (11, y238), (12, (m.1 12)), (28, y15), (69, y16), (70, y17), (71, y18), (72, y19), (73, y20), (74, y21), (75, (m.1 75))] [(65, F22), (66, F23), (67, F24), (68, F25)]) c N D (by omega) (Ty_mO hT rfl rfl ⟨f7, f8, f9, g237, g239, f12, q30, q31, q32, q33, q34, q35, q36, f75, trivial⟩ ⟨q37, q38, q39, q40, trivial⟩) 407 x240 0 0 B (1 + lh (m.2 79) (m.2 80) y20) ⟨by decide, by decide⟩ (r32 (by omega) (by omega)) ⟨by decide, by decide⟩ ⟨by decide, by decide⟩ (fun (h : y236 = 0) => absurd h (by omega))) (fun rr246 k247 => ?_)
                obtain ⟨y248, y250, y252, F254, F256, F258, F260, g249, g251, g253, G255, G257, G259, G261, h262, c263, rfl⟩ := k247
                refine ⟨_, _, rfl, ?_⟩
                refine T_nf (st' := []) (l' := [(7, (m.1 7)), (8, (m.1 8)), (9, (m.1 9)), (10, y248), (11, y250), (12, (m.1 12)), (28, y252), (69, y16), (70, y17), (71, y18), (72, y19), (73, y20), (74, y21), (75, (m.1 75))]) (a' := [(65, F254), (66, F256), (67, F258), (68, F260)]) rfl rfl rfl rfl rfl ?_
                replace h262 : y248 = 0 → y236 = 0 := h262
                have hf264 : 1 ≤ y248 := by omega
                clear c263
                clear h262
                clear q30 c49 c51 c53 g237 g239 hf245
                refine T_ld 142 (.ref 189) rfl (fun _ => rfl) ?_
                refine T_ld 143 (.int (i32 x240)) rfl (fun _ => rfl) ?_
                refine T_gf 147 (.ref 248) rfl rfl rfl rfl rfl rfl ?_
                refine T_ld 148 (.int (i32 (y20 - 1))) rfl (fun _ => rfl) ?_
                refine T_iald 149 86 (m.2 86) rfl rfl rfl (by omega) (show (y20 - 1) < (60 : Int) by omega) rfl ?_
                have e265 : 0 ≤ m.2 86 (y20 - 1) ∧ m.2 86 (y20 - 1) ≤ 4000 := hT.2.1 86 (y20 - 1)
                refine T_call 152 250 [.ref 189, .int (i32 x240), .int (i32 ((m.2 86) (y20 - 1)))] [] rfl (fun _ => rfl) rfl (c_unit w (mO m [(7, (m.1 7)), (8, (m.1 8)), (9, (m.1 9)), (10, y248), (11, y250), (12, (m.1 12)), (28, y252), (69, y16), (70, y17), (71, y18), (72, y19), (73, y20), (74, y21), (75, (m.1 75))] [(65, F254), (66, F256), (67, F258), (68, F260)]) c N D (by omega) (Ty_mO hT rfl rfl ⟨f7, f8, f9, g249, g251, f12, g253, q31, q32, q33, q34, q35, q36, f75, trivial⟩ ⟨G255, G257, G259, G261, trivial⟩) x240 ((m.2 86) (y20 - 1)) (r32 (by omega) (by omega)) (r32 (by omega) (by omega)) (show 0 ≤ x240 ∧ x240 ≤ 1024 by omega) (show 0 ≤ ((m.2 86) (y20 - 1)) ∧ ((m.2 86) (y20 - 1)) ≤ 4000 by omega)) (fun rr266 k267 => ?_)
                obtain ⟨y268, y270, y272, y274, g269, g271, g273, g275, h276, rfl⟩ := k267
                refine ⟨_, _, rfl, ?_⟩
                refine T_nf (st' := []) (l' := [(7, (m.1 7)), (8, (m.1 8)), (9, (m.1 9)), (10, y248), (11, y250), (12, (m.1 12)), (28, y252), (69, y268), (70, y270), (71, y272), (72, y274), (73, y20), (74, y21), (75, (m.1 75))]) (a' := [(65, F254), (66, F256), (67, F258), (68, F260)]) rfl rfl rfl rfl rfl ?_
                replace h276 : y268 = x240 := h276
                clear q31 q32 q33 q34 c50 h243
                refine T_ld 153 (.ref 189) rfl (fun _ => rfl) ?_
                refine T_ld 154 (.ref 189) rfl (fun _ => rfl) ?_
                refine T_gf1 157 (.int (i32 y20)) rfl rfl rfl rfl ?_
                refine T_ld 158 (.int (i32 1)) rfl (fun _ => rfl) ?_
                refine T_isub 159 rfl rfl ?_
                refine T_pf (l' := [(7, (m.1 7)), (8, (m.1 8)), (9, (m.1 9)), (10, y248), (11, y250), (12, (m.1 12)), (28, y252), (69, y268), (70, y270), (71, y272), (72, y274), (73, y20 - 1), (74, y21), (75, (m.1 75))]) 162 (y20 - 1) rfl rfl rfl rfl rfl rfl ?_
                have g277 : 0 ≤ y20 - 1 ∧ y20 - 1 ≤ 60 := ⟨by omega, by omega⟩
                refine T_ld 163 (.ref 189) rfl (fun _ => rfl) ?_
                refine T_ld 164 (.ref 189) rfl (fun _ => rfl) ?_
                refine T_gf1 167 (.int (i32 y21)) rfl rfl rfl rfl ?_
                refine T_ld 168 (.int (i32 1)) rfl (fun _ => rfl) ?_
                refine T_isub 169 rfl rfl ?_
                refine T_pf (l' := [(7, (m.1 7)), (8, (m.1 8)), (9, (m.1 9)), (10, y248), (11, y250), (12, (m.1 12)), (28, y252), (69, y268), (70, y270), (71, y272), (72, y274), (73, y20 - 1), (74, y21 - 1), (75, (m.1 75))]) 172 (y21 - 1) rfl rfl rfl rfl rfl rfl ?_
                have g278 : 0 ≤ y21 - 1 ∧ y21 - 1 ≤ 24 := ⟨by omega, by omega⟩
                refine T_gf 176 (.int (i32 (y20 - 1))) rfl rfl rfl rfl rfl rfl ?_
                refine T_if 190 179 rfl rfl rfl (r32 (by omega) (by omega)) (fun (h279 : y20 - 1 ≤ 0) => ?_) (fun (h279 : ¬ (y20 - 1 ≤ 0)) => ?_)
                · skip
                  refine T_ld 191 (.int (i32 0)) rfl (fun _ => rfl) ?_
                  refine T_sto 192 [(1, .int (i32 0)), (3, .int (i32 x240)), (2, .int (i32 (y20 - 1))), (0, .ref 189)] rfl (fun _ => rfl) ?_
                  refine T_goto 33 rfl (fun _ => rfl) ?_
                  refine Tm_lv (a := [(0, .ref 189), (1, .int (i32 0))]) rfl rfl ⟨rfl, rfl, trivial⟩ ?_
                  exact ih47 0 y248 y250 y252 y268 y270 y272 y274 (y20 - 1) (y21 - 1) F254 F256 F258 F260 ⟨by decide, by decide⟩ g249 g251 g253 g269 g271 g273 g275 g277 g278 G255 G257 G259 G261 (by omega) (by omega) (by omega) (by omega) (by omega) (fun h => absurd h (by omega)) (by omega)
                · skip
                  refine T_gf 183 (.int (i32 y248)) rfl rfl rfl rfl rfl rfl ?_
                  refine T_if 190 186 rfl rfl rfl (r32 (by omega) (by omega)) (fun (h280 : y248 ≠ 0) => ?_) (fun (h280 : ¬ (y248 ≠ 0)) => by exfalso; omega)
                  refine T_ld 191 (.int (i32 0)) rfl (fun _ => rfl) ?_
                  refine T_sto 192 [(1, .int (i32 0)), (3, .int (i32 x240)), (2, .int (i32 (y20 - 1))), (0, .ref 189)] rfl (fun _ => rfl) ?_
                  refine T_goto 33 rfl (fun _ => rfl) ?_
                  refine Tm_lv (a := [(0, .ref 189), (1, .int (i32 0))]) rfl rfl ⟨rfl, rfl, trivial⟩ ?_
                  exact ih47 0 y248 y250 y252 y268 y270 y272 y274 (y20 - 1) (y21 - 1) F254 F256 F258 F260 ⟨by decide, by decide⟩ g249 g251 g253 g269 g271 g273 g275 g277 g278 G255 G257 G259 G261 (by omega) (by omega) (by omega) (by omega) (by omega) (fun h => absurd h (by omega)) (by omega)
        · skip
          clear c46
          have hf281 : 1 ≤ y13 := by omega
          refine T_ld 34 (.int (i32 v12)) rfl (fun _ => rfl) ?_
          refine T_if 195 37 rfl rfl rfl (r32 (by omega) (by omega)) (fun (h282 : v12 = 0) => ?_) (fun (h282 : ¬ (v12 = 0)) => ?_)
          · skip
            refine T_gf 199 (.int (i32 y20)) rfl rfl rfl rfl rfl rfl ?_
            refine T_if 208 202 rfl rfl rfl (r32 (by omega) (by omega)) (fun (h283 : y20 ≠ 0) => ?_) (fun (h283 : ¬ (y20 ≠ 0)) => ?_)
            · skip
              refine T_gf 212 (.ref 239) rfl rfl rfl rfl rfl rfl ?_
              refine T_gf 216 (.int (i32 y20)) rfl rfl rfl rfl rfl rfl ?_
              refine T_ld 217 (.int (i32 1)) rfl (fun _ => rfl) ?_
              refine T_isub 218 rfl rfl ?_
              refine T_iald 219 77 (m.2 77) rfl rfl rfl (by omega) (show (y20 - 1) < (60 : Int) by omega) rfl ?_
              have e284 : 0 ≤ m.2 77 (y20 - 1) ∧ m.2 77 (y20 - 1) ≤ 4000 := hT.2.1 77 (y20 - 1)
              refine T_sto 220 [(2, .int (i32 ((m.2 77) (y20 - 1)))), (0, .ref 189), (1, .int (i32 v12))] rfl (fun _ => rfl) ?_
              refine T_ld 221 (.ref 189) rfl (fun _ => rfl) ?_
              refine T_ld 223 (.int (i32 41)) rfl (fun _ => rfl) ?_
              refine T_call 226 232 [.ref 189, .int (i32 41)] [] rfl (fun _ => rfl) rfl (c_need w (mO m [(7, (m.1 7)), (8, (m.1 8)), (9, (m.1 9)), (10, y13), (11, y14), (12, (m.1 12)), (28, y15), (69, y16), (70, y17), (71, y18), (72, y19), (73, y20), (74, y21), (75, (m.1 75))] [(65, F22), (66, F23), (67, F24), (68, F25)]) c N D (by omega) (Ty_mO hT rfl rfl ⟨f7, f8, f9, q28, q29, f12, q30, q31, q32, q33, q34, q35, q36, f75, trivial⟩ ⟨q37, q38, q39, q40, trivial⟩) 41 ⟨by decide, by decide⟩ (show 1 ≤ (41 : Int) by omega) (show LxP (m.1 7) (m.1 8) (m.1 9) (m.1 6) y13 by first | exact hLx | (intro h9; exfalso; omega) | (intro h9; have h8 := hLx (by omega); omega))) (fun rr285 k286 => ?_)
              obtain ⟨y287, y289, y291, y293, y295, y297, g288, g290, g292, g294, g296, g298, h299, h300, h301, h302, rfl⟩ := k286
              refine ⟨_, _, rfl, ?_⟩
              refine T_nf (st' := []) (l' := [(7, y287), (8, y289), (9, y291), (10, y293), (11, y295), (12, y297), (28, y15), (69, y16), (70, y17), (71, y18), (72, y19), (73, y20), (74, y21), (75, (m.1 75))]) (a' := [(65, F22), (66, F23), (67, F24), (68, F25)]) rfl rfl rfl rfl rfl ?_
              replace h299 : LxP y287 y289 y291 (m.1 6) y293 := h299
              replace h300 : y293 = 0 → y13 = 0 ∧ (m.1 7) = (41 : Int) := h300
              replace h301 : (m.1 8) ≤ y289 := h301
              replace h302 : y293 = 0 → (m.1 8) + (m.1 9) ≤ y289 := h302
              have hf303 : 1 ≤ y293 := by omega
              clear h300
              clear h302
              have hLx := h299
              clear q8a q8b q8 ic9 ic10 q28 q29 hf281
              refine T_ld 227 (.ref 189) rfl (fun _ => rfl) ?_
              refine T_ld 228 (.ref 189) rfl (fun _ => rfl) ?_
              refine T_gf1 231 (.int (i32 y20)) rfl rfl rfl rfl ?_
              refine T_ld 232 (.int (i32 1)) rfl (fun _ => rfl) ?_
              refine T_isub 233 rfl rfl ?_
              refine T_pf (l' := [(7, y287), (8, y289), (9, y291), (10, y293), (11, y295), (12, y297), (28, y15), (69, y16), (70, y17), (71, y18), (72, y19), (73, y20 - 1), (74, y21), (75, (m.1 75))]) 236 (y20 - 1) rfl rfl rfl rfl rfl rfl ?_
              have g304 : 0 ≤ y20 - 1 ∧ y20 - 1 ≤ 60 := ⟨by omega, by omega⟩
              refine T_ld 237 (.ref 189) rfl (fun _ => rfl) ?_
              refine T_ld 238 (.int (i32 ((m.2 77) (y20 - 1)))) rfl (fun _ => rfl) ?_
              refine T_pf (l' := [(7, y287), (8, y289), (9, y291), (10, y293), (11, y295), (12, y297), (28, y15), (69, y16), (70, (m.2 77) (y20 - 1)), (71, y18), (72, y19), (73, y20 - 1), (74, y21), (75, (m.1 75))]) 241 ((m.2 77) (y20 - 1)) rfl rfl rfl rfl rfl rfl ?_
              have g305 : 0 ≤ (m.2 77) (y20 - 1) ∧ (m.2 77) (y20 - 1) ≤ 4000 := ⟨by omega, by omega⟩
              refine T_ld 242 (.ref 189) rfl (fun _ => rfl) ?_
              refine T_ld 243 (.int (i32 1)) rfl (fun _ => rfl) ?_
              refine T_pf (l' := [(7, y287), (8, y289), (9, y291), (10, y293), (11, y295), (12, y297), (28, y15), (69, y16), (70, (m.2 77) (y20 - 1)), (71, y18), (72, y19), (73, y20 - 1), (74, y21), (75, 1)]) 246 1 rfl rfl rfl rfl rfl rfl ?_
              refine T_ret rfl (fun _ => rfl) ?_
              exact ⟨y287, y289, y291, y293, y295, y297, y15, y16, (m.2 77) (y20 - 1), y18, y19, y20 - 1, y21, 1, F22, F23, F24, F25, g288, g290, g292, g294, g296, g298, q30, q31, g305, q33, q34, g304, q36, ⟨by omega, by omega⟩, q37, q38, q39, q40, (by omega), (by first | (first | exact hLx | (intro h9; exfalso; omega)) | (exfalso; omega)), (fun h => absurd h (by omega)), rfl⟩
            · skip
              refine T_ld 203 (.ref 189) rfl (fun _ => rfl) ?_
              refine T_ld 204 (.int (i32 3)) rfl (fun _ => rfl) ?_
              refine T_pf (l' := [(7, (m.1 7)), (8, (m.1 8)), (9, (m.1 9)), (10, y13), (11, y14), (12, (m.1 12)), (28, y15), (69, y16), (70, y17), (71, y18), (72, y19), (73, y20), (74, y21), (75, 3)]) 207 3 rfl rfl rfl rfl rfl rfl ?_
              refine T_ret rfl (fun _ => rfl) ?_
              exact ⟨(m.1 7), (m.1 8), (m.1 9), y13, y14, (m.1 12), y15, y16, y17, y18, y19, y20, y21, 3, F22, F23, F24, F25, f7, f8, f9, q28, q29, f12, q30, q31, q32, q33, q34, q35, q36, ⟨by omega, by omega⟩, q37, q38, q39, q40, (by omega), (by first | (first | exact hLx | (intro h9; exfalso; omega)) | (exfalso; omega)), (fun h => absurd h (by omega)), rfl⟩
          · skip
            refine T_gf 41 (.ref 238) rfl rfl rfl rfl rfl rfl ?_
            refine T_gf 45 (.int (i32 y20)) rfl rfl rfl rfl rfl rfl ?_
            refine T_ld 46 (.int (i32 1)) rfl (fun _ => rfl) ?_
            refine T_isub 47 rfl rfl ?_
            refine T_iald 48 76 (m.2 76) rfl rfl rfl (by omega) (show (y20 - 1) < (60 : Int) by omega) rfl ?_
            have e306 : 0 ≤ m.2 76 (y20 - 1) ∧ m.2 76 (y20 - 1) ≤ 2 := hT.2.1 76 (y20 - 1)
            refine T_if 195 51 rfl rfl rfl (r32 (by omega) (by omega)) (fun (h307 : (m.2 76) (y20 - 1) ≠ 0) => ?_) (fun (h307 : ¬ ((m.2 76) (y20 - 1) ≠ 0)) => ?_)
            · skip
              refine T_gf 199 (.int (i32 y20)) rfl rfl rfl rfl rfl rfl ?_
              refine T_if 208 202 rfl rfl rfl (r32 (by omega) (by omega)) (fun (h308 : y20 ≠ 0) => ?_) (fun (h308 : ¬ (y20 ≠ 0)) => ?_)
              · skip
                refine T_gf 212 (.ref 239) rfl rfl rfl rfl rfl rfl ?_
                refine T_gf 216 (.int (i32 y20)) rfl rfl rfl rfl rfl rfl ?_
                refine T_ld 217 (.int (i32 1)) rfl (fun _ => rfl) ?_
                refine T_isub 218 rfl rfl ?_
                refine T_iald 219 77 (m.2 77) rfl rfl rfl (by omega) (show (y20 - 1) < (60 : Int) by omega) rfl ?_
                have e309 : 0 ≤ m.2 77 (y20 - 1) ∧ m.2 77 (y20 - 1) ≤ 4000 := hT.2.1 77 (y20 - 1)
                refine T_sto 220 [(2, .int (i32 ((m.2 77) (y20 - 1)))), (0, .ref 189), (1, .int (i32 v12))] rfl (fun _ => rfl) ?_
                refine T_ld 221 (.ref 189) rfl (fun _ => rfl) ?_
                refine T_ld 223 (.int (i32 41)) rfl (fun _ => rfl) ?_
                refine T_call 226 232 [.ref 189, .int (i32 41)] [] rfl (fun _ => rfl) rfl (c_need w (mO m [(7, (m.1 7)), (8, (m.1 8)), (9, (m.1 9)), (10, y13), (11, y14), (12, (m.1 12)), (28, y15), (69, y16), (70, y17), (71, y18), (72, y19), (73, y20), (74, y21), (75, (m.1 75))] [(65, F22), (66, F23), (67, F24), (68, F25)]) c N D (by omega) (Ty_mO hT rfl rfl ⟨f7, f8, f9, q28, q29, f12, q30, q31, q32, q33, q34, q35, q36, f75, trivial⟩ ⟨q37, q38, q39, q40, trivial⟩) 41 ⟨by decide, by decide⟩ (show 1 ≤ (41 : Int) by omega) (show LxP (m.1 7) (m.1 8) (m.1 9) (m.1 6) y13 by first | exact hLx | (intro h9; exfalso; omega) | (intro h9; have h8 := hLx (by omega); omega))) (fun rr310 k311 => ?_)
                obtain ⟨y312, y314, y316, y318, y320, y322, g313, g315, g317, g319, g321, g323, h324, h325, h326, h327, rfl⟩ := k311
                refine ⟨_, _, rfl, ?_⟩
                refine T_nf (st' := []) (l' := [(7, y312), (8, y314), (9, y316), (10, y318), (11, y320), (12, y322), (28, y15), (69, y16), (70, y17), (71, y18), (72, y19), (73, y20), (74, y21), (75, (m.1 75))]) (a' := [(65, F22), (66, F23), (67, F24), (68, F25)]) rfl rfl rfl rfl rfl ?_
                replace h324 : LxP y312 y314 y316 (m.1 6) y318 := h324
                replace h325 : y318 = 0 → y13 = 0 ∧ (m.1 7) = (41 : Int) := h325
                replace h326 : (m.1 8) ≤ y314 := h326
                replace h327 : y318 = 0 → (m.1 8) + (m.1 9) ≤ y314 := h327
                have hf328 : 1 ≤ y318 := by omega
                clear h325
                clear h327
                have hLx := h324
                clear q8a q8b q8 ic9 ic10 q28 q29 hf281
                refine T_ld 227 (.ref 189) rfl (fun _ => rfl) ?_
                refine T_ld 228 (.ref 189) rfl (fun _ => rfl) ?_
                refine T_gf1 231 (.int (i32 y20)) rfl rfl rfl rfl ?_
                refine T_ld 232 (.int (i32 1)) rfl (fun _ => rfl) ?_
                refine T_isub 233 rfl rfl ?_
                refine T_pf (l' := [(7, y312), (8, y314), (9, y316), (10, y318), (11, y320), (12, y322), (28, y15), (69, y16), (70, y17), (71, y18), (72, y19), (73, y20 - 1), (74, y21), (75, (m.1 75))]) 236 (y20 - 1) rfl rfl rfl rfl rfl rfl ?_
                have g329 : 0 ≤ y20 - 1 ∧ y20 - 1 ≤ 60 := ⟨by omega, by omega⟩
                refine T_ld 237 (.ref 189) rfl (fun _ => rfl) ?_
                refine T_ld 238 (.int (i32 ((m.2 77) (y20 - 1)))) rfl (fun _ => rfl) ?_
                refine T_pf (l' := [(7, y312), (8, y314), (9, y316), (10, y318), (11, y320), (12, y322), (28, y15), (69, y16), (70, (m.2 77) (y20 - 1)), (71, y18), (72, y19), (73, y20 - 1), (74, y21), (75, (m.1 75))]) 241 ((m.2 77) (y20 - 1)) rfl rfl rfl rfl rfl rfl ?_
                have g330 : 0 ≤ (m.2 77) (y20 - 1) ∧ (m.2 77) (y20 - 1) ≤ 4000 := ⟨by omega, by omega⟩
                refine T_ld 242 (.ref 189) rfl (fun _ => rfl) ?_
                refine T_ld 243 (.int (i32 1)) rfl (fun _ => rfl) ?_
                refine T_pf (l' := [(7, y312), (8, y314), (9, y316), (10, y318), (11, y320), (12, y322), (28, y15), (69, y16), (70, (m.2 77) (y20 - 1)), (71, y18), (72, y19), (73, y20 - 1), (74, y21), (75, 1)]) 246 1 rfl rfl rfl rfl rfl rfl ?_
                refine T_ret rfl (fun _ => rfl) ?_
                exact ⟨y312, y314, y316, y318, y320, y322, y15, y16, (m.2 77) (y20 - 1), y18, y19, y20 - 1, y21, 1, F22, F23, F24, F25, g313, g315, g317, g319, g321, g323, q30, q31, g330, q33, q34, g329, q36, ⟨by omega, by omega⟩, q37, q38, q39, q40, (by omega), (by first | (first | exact hLx | (intro h9; exfalso; omega)) | (exfalso; omega)), (fun h => absurd h (by omega)), rfl⟩
              · skip
                refine T_ld 203 (.ref 189) rfl (fun _ => rfl) ?_
                refine T_ld 204 (.int (i32 3)) rfl (fun _ => rfl) ?_
                refine T_pf (l' := [(7, (m.1 7)), (8, (m.1 8)), (9, (m.1 9)), (10, y13), (11, y14), (12, (m.1 12)), (28, y15), (69, y16), (70, y17), (71, y18), (72, y19), (73, y20), (74, y21), (75, 3)]) 207 3 rfl rfl rfl rfl rfl rfl ?_
                refine T_ret rfl (fun _ => rfl) ?_
                exact ⟨(m.1 7), (m.1 8), (m.1 9), y13, y14, (m.1 12), y15, y16, y17, y18, y19, y20, y21, 3, F22, F23, F24, F25, f7, f8, f9, q28, q29, f12, q30, q31, q32, q33, q34, q35, q36, ⟨by omega, by omega⟩, q37, q38, q39, q40, (by omega), (by first | (first | exact hLx | (intro h9; exfalso; omega)) | (exfalso; omega)), (fun h => absurd h (by omega)), rfl⟩
            · skip
              refine T_gf 55 (.int (i32 y20)) rfl rfl rfl rfl rfl rfl ?_
              refine T_ld 56 (.int (i32 1)) rfl (fun _ => rfl) ?_
              refine T_isub 57 rfl rfl ?_
              refine T_sto 58 [(2, .int (i32 (y20 - 1))), (0, .ref 189), (1, .int (i32 v12))] rfl (fun _ => rfl) ?_
              refine T_ld 59 (.ref 189) rfl (fun _ => rfl) ?_
              refine T_gf 63 (.ref 247) rfl rfl rfl rfl rfl rfl ?_
              refine T_ld 64 (.int (i32 (y20 - 1))) rfl (fun _ => rfl) ?_
              refine T_iald 65 85 (m.2 85) rfl rfl rfl (by omega) (show (y20 - 1) < (60 : Int) by omega) rfl ?_
              have e331 : 0 ≤ m.2 85 (y20 - 1) ∧ m.2 85 (y20 - 1) ≤ 64 := hT.2.1 85 (y20 - 1)
              refine T_gf 69 (.ref 251) rfl rfl rfl rfl rfl rfl ?_
              refine T_ld 70 (.int (i32 (y20 - 1))) rfl (fun _ => rfl) ?_
              refine T_bald 71 89 (m.2 89) rfl rfl rfl (by omega) (show (y20 - 1) < (60 : Int) by omega) rfl ?_
              have e332 : 0 ≤ m.2 89 (y20 - 1) ∧ m.2 89 (y20 - 1) ≤ 1 := hT.2.1 89 (y20 - 1)
              refine T_gf 75 (.ref 253) rfl rfl rfl rfl rfl rfl ?_
              refine T_ld 76 (.int (i32 (y20 - 1))) rfl (fun _ => rfl) ?_
              refine T_lald 77 91 (m.2 91) rfl rfl rfl (by omega) (show (y20 - 1) < (60 : Int) by omega) rfl ?_
              have e333 : (-9223372036854775808) ≤ m.2 91 (y20 - 1) ∧ m.2 91 (y20 - 1) ≤ 9223372036854775807 := hT.2.1 91 (y20 - 1)
              refine T_gf 81 (.ref 248) rfl rfl rfl rfl rfl rfl ?_
              refine T_ld 82 (.int (i32 (y20 - 1))) rfl (fun _ => rfl) ?_
              refine T_iald 83 86 (m.2 86) rfl rfl rfl (by omega) (show (y20 - 1) < (60 : Int) by omega) rfl ?_
              have e334 : 0 ≤ m.2 86 (y20 - 1) ∧ m.2 86 (y20 - 1) ≤ 4000 := hT.2.1 86 (y20 - 1)
              refine T_call 86 258 [.ref 189, .int (i32 ((m.2 85) (y20 - 1))), .int (i32 ((m.2 89) (y20 - 1))), .long (i64 ((m.2 91) (y20 - 1))), .int (i32 ((m.2 86) (y20 - 1)))] [] rfl (fun _ => rfl) rfl (c_wantBit w (mO m [(7, (m.1 7)), (8, (m.1 8)), (9, (m.1 9)), (10, y13), (11, y14), (12, (m.1 12)), (28, y15), (69, y16), (70, y17), (71, y18), (72, y19), (73, y20), (74, y21), (75, (m.1 75))] [(65, F22), (66, F23), (67, F24), (68, F25)]) c N D (by omega) (Ty_mO hT rfl rfl ⟨f7, f8, f9, q28, q29, f12, q30, q31, q32, q33, q34, q35, q36, f75, trivial⟩ ⟨q37, q38, q39, q40, trivial⟩) ((m.2 85) (y20 - 1)) ((m.2 89) (y20 - 1)) ((m.2 91) (y20 - 1)) ((m.2 86) (y20 - 1)) (r32 (by omega) (by omega)) (r32 (by omega) (by omega)) (r64 (by omega) (by omega)) (r32 (by omega) (by omega)) (show 0 ≤ ((m.2 86) (y20 - 1)) ∧ ((m.2 86) (y20 - 1)) ≤ 4000 by omega) (fun (h : y13 = 0) => absurd h (by omega))) (fun rr335 k336 => ?_)
              obtain ⟨y337, y339, g338, g340, h341, c342, rfl⟩ := k336
              refine ⟨_, _, rfl, ?_⟩
              refine T_nf (st' := []) (l' := [(7, (m.1 7)), (8, (m.1 8)), (9, (m.1 9)), (10, y337), (11, y339), (12, (m.1 12)), (28, y15), (69, y16), (70, y17), (71, y18), (72, y19), (73, y20), (74, y21), (75, (m.1 75))]) (a' := [(65, F22), (66, F23), (67, F24), (68, F25)]) rfl rfl rfl rfl rfl ?_
              replace h341 : y337 = 0 → y13 = 0 := h341
              have hf343 : 1 ≤ y337 := by omega
              clear c342
              clear h341
              clear q8a q8b q8 ic9 ic10 q28 q29 hf281
              refine T_ld 87 (.ref 189) rfl (fun _ => rfl) ?_
              refine T_gf 91 (.ref 249) rfl rfl rfl rfl rfl rfl ?_
              refine T_ld 92 (.int (i32 (y20 - 1))) rfl (fun _ => rfl) ?_
              refine T_iald 93 87 (m.2 87) rfl rfl rfl (by omega) (show (y20 - 1) < (60 : Int) by omega) rfl ?_
              have e344 : 0 ≤ m.2 87 (y20 - 1) ∧ m.2 87 (y20 - 1) ≤ 64 := hT.2.1 87 (y20 - 1)
              refine T_gf 97 (.ref 252) rfl rfl rfl rfl rfl rfl ?_
              refine T_ld 98 (.int (i32 (y20 - 1))) rfl (fun _ => rfl) ?_
              refine T_bald 99 90 (m.2 90) rfl rfl rfl (by omega) (show (y20 - 1) < (60 : Int) by omega) rfl ?_
              have e345 : 0 ≤ m.2 90 (y20 - 1) ∧ m.2 90 (y20 - 1) ≤ 1 := hT.2.1 90 (y20 - 1)
              refine T_gf 103 (.ref 254) rfl rfl rfl rfl rfl rfl ?_
              refine T_ld 104 (.int (i32 (y20 - 1))) rfl (fun _ => rfl) ?_
              refine T_lald 105 92 (m.2 92) rfl rfl rfl (by omega) (show (y20 - 1) < (60 : Int) by omega) rfl ?_
              have e346 : (-9223372036854775808) ≤ m.2 92 (y20 - 1) ∧ m.2 92 (y20 - 1) ≤ 9223372036854775807 := hT.2.1 92 (y20 - 1)
              refine T_gf 109 (.ref 250) rfl rfl rfl rfl rfl rfl ?_
              refine T_ld 110 (.int (i32 (y20 - 1))) rfl (fun _ => rfl) ?_
              refine T_iald 111 88 (m.2 88) rfl rfl rfl (by omega) (show (y20 - 1) < (60 : Int) by omega) rfl ?_
              have e347 : 0 ≤ m.2 88 (y20 - 1) ∧ m.2 88 (y20 - 1) ≤ 4000 := hT.2.1 88 (y20 - 1)
              refine T_gf 115 (.int (i32 y16)) rfl rfl rfl rfl rfl rfl ?_
              refine T_gf 119 (.int (i32 y18)) rfl rfl rfl rfl rfl rfl ?_
              refine T_gf 123 (.long (i64 y19)) rfl rfl rfl rfl rfl rfl ?_
              refine T_gf 127 (.int (i32 y17)) rfl rfl rfl rfl rfl rfl ?_
              refine T_call 130 261 [.ref 189, .int (i32 ((m.2 87) (y20 - 1))), .int (i32 ((m.2 90) (y20 - 1))), .long (i64 ((m.2 92) (y20 - 1))), .int (i32 ((m.2 88) (y20 - 1))), .int (i32 y16), .int (i32 y18), .long (i64 y19), .int (i32 y17)] [] rfl (fun _ => rfl) rfl (c_common w (mO m [(7, (m.1 7)), (8, (m.1 8)), (9, (m.1 9)), (10, y337), (11, y339), (12, (m.1 12)), (28, y15), (69, y16), (70, y17), (71, y18), (72, y19), (73, y20), (74, y21), (75, (m.1 75))] [(65, F22), (66, F23), (67, F24), (68, F25)]) c N D (by omega) (Ty_mO hT rfl rfl ⟨f7, f8, f9, g338, g340, f12, q30, q31, q32, q33, q34, q35, q36, f75, trivial⟩ ⟨q37, q38, q39, q40, trivial⟩) ((m.2 87) (y20 - 1)) ((m.2 90) (y20 - 1)) ((m.2 92) (y20 - 1)) ((m.2 88) (y20 - 1)) y16 y18 y19 y17 (r32 (by omega) (by omega)) (r32 (by omega) (by omega)) (r64 (by omega) (by omega)) (r32 (by omega) (by omega)) (r32 (by omega) (by omega)) (r32 (by omega) (by omega)) (r64 (by omega) (by omega)) (r32 (by omega) (by omega)) (show 0 ≤ ((m.2 88) (y20 - 1)) ∧ ((m.2 88) (y20 - 1)) ≤ 4000 by omega) (show 0 ≤ y17 ∧ y17 ≤ 4000 by omega) (show 0 ≤ ((m.2 87) (y20 - 1)) ∧ ((m.2 87) (y20 - 1)) ≤ 1024 by omega) (show 0 ≤ y16 ∧ y16 ≤ 1024 by omega) (fun (h : y337 = 0) => absurd h (by omega))) (fun rr348 k349 => ?_)
              obtain ⟨y350, y352, x354, g351, g353, g355, h356, h357, c358, rfl⟩ := k349
              refine ⟨_, _, rfl, ?_⟩
              refine T_nf (st' := [.int (i32 x354)]) (l' := [(7, (m.1 7)), (8, (m.1 8)), (9, (m.1 9)), (10, y350), (11, y352), (12, (m.1 12)), (28, y15), (69, y16), (70, y17), (71, y18), (72, y19), (73, y20), (74, y21), (75, (m.1 75))]) (a' := [(65, F22), (66, F23), (67, F24), (68, F25)]) rfl rfl rfl rfl rfl ?_
              obtain ⟨g355a, g355b⟩ := g355
              replace h356 : y350 = 0 → y337 = 0 := h356
              replace h357 : x354 = 64 ∨ x354 = ((m.2 87) (y20 - 1)) ∨ x354 = y16 := h357
              have hf359 : 1 ≤ y350 := by omega
              clear c358
              clear h356
              clear g338 g340 hf343
              refine T_sto 131 [(3, .int (i32 x354)), (2, .int (i32 (y20 - 1))), (0, .ref 189), (1, .int (i32 v12))] rfl (fun _ => rfl) ?_
              refine T_ld 132 (.ref 189) rfl (fun _ => rfl) ?_
              refine T_ld 135 (.int (i32 407)) rfl (fun _ => rfl) ?_
              refine T_ld 136 (.int (i32 x354)) rfl (fun _ => rfl) ?_
              refine T_ld 137 (.int (i32 0)) rfl (fun _ => rfl) ?_
              refine T_ld 138 (.long (i64 0)) rfl (fun _ => rfl) ?_
              refine T_call 141 248 [.ref 189, .int (i32 407), .int (i32 x354), .int (i32 0), .long (i64 0)] [] rfl (fun _ => rfl) rfl (c_node w (mO m [(7, (m.1 7)), (8, (m.1 8)), (9, (m.1 9)), (10, y350), (11, y352), (12, (m.1 12)), (28, y15), (69, y16), (70, y17), (71, y18), (72, y19), (73, y20), (74, y21), (75, (m.1 75))] [(65, F22), (66, F23), (67, F24), (68, F25)]) c N D (by omega) (Ty_mO hT rfl rfl ⟨f7, f8, f9, g351, g353, f12, q30, q31, q32, q33, q34, q35, q36, f75, trivial⟩ ⟨q37, q38, q39, q40, trivial⟩) 407 x354 0 0 B (1 + lh (m.2 79) (m.2 80) y20) ⟨by decide, by decide⟩ (r32 (by omega) (by omega)) ⟨by decide, by decide⟩ ⟨by decide, by decide⟩ (fun (h : y350 = 0) => absurd h (by omega))) (fun rr360 k361 => ?_)
              obtain ⟨y362, y364, y366, F368, F370, F372, F374, g363, g365, g367, G369, G371, G373, G375, h376, c377, rfl⟩ := k361
              refine ⟨_, _, rfl, ?_⟩
              refine T_nf (st' := []) (l' := [(7, (m.1 7)), (8, (m.1 8)), (9, (m.1 9)), (10, y362), (11, y364), (12, (m.1 12)), (28, y366), (69, y16), (70, y17), (71, y18), (72, y19), (73, y20), (74, y21), (75, (m.1 75))]) (a' := [(65, F368), (66, F370), (67, F372), (68, F374)]) rfl rfl rfl rfl rfl ?_
              replace h376 : y362 = 0 → y350 = 0 := h376
              have hf378 : 1 ≤ y362 := by omega
              clear c377
              clear h376
              clear q30 g351 g353 hf359
              refine T_ld 142 (.ref 189) rfl (fun _ => rfl) ?_
              refine T_ld 143 (.int (i32 x354)) rfl (fun _ => rfl) ?_
              refine T_gf 147 (.ref 248) rfl rfl rfl rfl rfl rfl ?_
              refine T_ld 148 (.int (i32 (y20 - 1))) rfl (fun _ => rfl) ?_
              refine T_iald 149 86 (m.2 86) rfl rfl rfl (by omega) (show (y20 - 1) < (60 : Int) by omega) rfl ?_
              have e379 : 0 ≤ m.2 86 (y20 - 1) ∧ m.2 86 (y20 - 1) ≤ 4000 := hT.2.1 86 (y20 - 1)
              refine T_call 152 250 [.ref 189, .int (i32 x354), .int (i32 ((m.2 86) (y20 - 1)))] [] rfl (fun _ => rfl) rfl (c_unit w (mO m [(7, (m.1 7)), (8, (m.1 8)), (9, (m.1 9)), (10, y362), (11, y364), (12, (m.1 12)), (28, y366), (69, y16), (70, y17), (71, y18), (72, y19), (73, y20), (74, y21), (75, (m.1 75))] [(65, F368), (66, F370), (67, F372), (68, F374)]) c N D (by omega) (Ty_mO hT rfl rfl ⟨f7, f8, f9, g363, g365, f12, g367, q31, q32, q33, q34, q35, q36, f75, trivial⟩ ⟨G369, G371, G373, G375, trivial⟩) x354 ((m.2 86) (y20 - 1)) (r32 (by omega) (by omega)) (r32 (by omega) (by omega)) (show 0 ≤ x354 ∧ x354 ≤ 1024 by omega) (show 0 ≤ ((m.2 86) (y20 - 1)) ∧ ((m.2 86) (y20 - 1)) ≤ 4000 by omega)) (fun rr380 k381 => ?_)
              obtain ⟨y382, y384, y386, y388, g383, g385, g387, g389, h390, rfl⟩ := k381
              refine ⟨_, _, rfl, ?_⟩
              refine T_nf (st' := []) (l' := [(7, (m.1 7)), (8, (m.1 8)), (9, (m.1 9)), (10, y362), (11, y364), (12, (m.1 12)), (28, y366), (69, y382), (70, y384), (71, y386), (72, y388), (73, y20), (74, y21), (75, (m.1 75))]) (a' := [(65, F368), (66, F370), (67, F372), (68, F374)]) rfl rfl rfl rfl rfl ?_
              replace h390 : y382 = x354 := h390
              clear q31 q32 q33 q34 h357
              refine T_ld 153 (.ref 189) rfl (fun _ => rfl) ?_
              refine T_ld 154 (.ref 189) rfl (fun _ => rfl) ?_
              refine T_gf1 157 (.int (i32 y20)) rfl rfl rfl rfl ?_
              refine T_ld 158 (.int (i32 1)) rfl (fun _ => rfl) ?_
              refine T_isub 159 rfl rfl ?_
              refine T_pf (l' := [(7, (m.1 7)), (8, (m.1 8)), (9, (m.1 9)), (10, y362), (11, y364), (12, (m.1 12)), (28, y366), (69, y382), (70, y384), (71, y386), (72, y388), (73, y20 - 1), (74, y21), (75, (m.1 75))]) 162 (y20 - 1) rfl rfl rfl rfl rfl rfl ?_
              have g391 : 0 ≤ y20 - 1 ∧ y20 - 1 ≤ 60 := ⟨by omega, by omega⟩
              refine T_ld 163 (.ref 189) rfl (fun _ => rfl) ?_
              refine T_ld 164 (.ref 189) rfl (fun _ => rfl) ?_
              refine T_gf1 167 (.int (i32 y21)) rfl rfl rfl rfl ?_
              refine T_ld 168 (.int (i32 1)) rfl (fun _ => rfl) ?_
              refine T_isub 169 rfl rfl ?_
              refine T_pf (l' := [(7, (m.1 7)), (8, (m.1 8)), (9, (m.1 9)), (10, y362), (11, y364), (12, (m.1 12)), (28, y366), (69, y382), (70, y384), (71, y386), (72, y388), (73, y20 - 1), (74, y21 - 1), (75, (m.1 75))]) 172 (y21 - 1) rfl rfl rfl rfl rfl rfl ?_
              have g392 : 0 ≤ y21 - 1 ∧ y21 - 1 ≤ 24 := ⟨by omega, by omega⟩
              refine T_gf 176 (.int (i32 (y20 - 1))) rfl rfl rfl rfl rfl rfl ?_
              refine T_if 190 179 rfl rfl rfl (r32 (by omega) (by omega)) (fun (h393 : y20 - 1 ≤ 0) => ?_) (fun (h393 : ¬ (y20 - 1 ≤ 0)) => ?_)
              · skip
                refine T_ld 191 (.int (i32 0)) rfl (fun _ => rfl) ?_
                refine T_sto 192 [(1, .int (i32 0)), (3, .int (i32 x354)), (2, .int (i32 (y20 - 1))), (0, .ref 189)] rfl (fun _ => rfl) ?_
                refine T_goto 33 rfl (fun _ => rfl) ?_
                refine Tm_lv (a := [(0, .ref 189), (1, .int (i32 0))]) rfl rfl ⟨rfl, rfl, trivial⟩ ?_
                exact ih47 0 y362 y364 y366 y382 y384 y386 y388 (y20 - 1) (y21 - 1) F368 F370 F372 F374 ⟨by decide, by decide⟩ g363 g365 g367 g383 g385 g387 g389 g391 g392 G369 G371 G373 G375 (by omega) (by omega) (by omega) (by omega) (by omega) (fun h => absurd h (by omega)) (by omega)
              · skip
                refine T_gf 183 (.int (i32 y362)) rfl rfl rfl rfl rfl rfl ?_
                refine T_if 190 186 rfl rfl rfl (r32 (by omega) (by omega)) (fun (h394 : y362 ≠ 0) => ?_) (fun (h394 : ¬ (y362 ≠ 0)) => by exfalso; omega)
                refine T_ld 191 (.int (i32 0)) rfl (fun _ => rfl) ?_
                refine T_sto 192 [(1, .int (i32 0)), (3, .int (i32 x354)), (2, .int (i32 (y20 - 1))), (0, .ref 189)] rfl (fun _ => rfl) ?_
                refine T_goto 33 rfl (fun _ => rfl) ?_
                refine Tm_lv (a := [(0, .ref 189), (1, .int (i32 0))]) rfl rfl ⟨rfl, rfl, trivial⟩ ?_
                exact ih47 0 y362 y364 y366 y382 y384 y386 y388 (y20 - 1) (y21 - 1) F368 F370 F372 F374 ⟨by decide, by decide⟩ g363 g365 g367 g383 g385 g387 g389 g391 g392 G369 G371 G373 G375 (by omega) (by omega) (by omega) (by omega) (by omega) (fun h => absurd h (by omega)) (by omega)
    refine Tm_lv (a := [(0, .ref 189), (1, .int (i32 s6))]) rfl rfl ⟨rfl, rfl, trivial⟩ ?_
    exact L33_26 ((((m.1 73) - 1) : Int) + 1).toNat s6 (m.1 10) (m.1 11) (m.1 28) (m.1 69) (m.1 70) (m.1 71) (m.1 72) ((m.1 73) - 1) ((m.1 74) - 1) (m.2 65) (m.2 66) (m.2 67) (m.2 68) (r32 (by omega) (by omega)) f10 f11 f28 f69 f70 f71 f72 g4 g5 (hT.2.1 65) (hT.2.1 66) (hT.2.1 67) (hT.2.1 68) (by omega) (by omega) (by omega) (by omega) (by omega) (fun _ => ⟨(by exact hXC), (by omega), (by omega), (by omega), (by exact hAgC)⟩) (by omega)
  refine T_if 31 27 rfl rfl rfl (r32 (by omega) (by omega)) (fun (h395 : (m.1 73) - 1 ≤ 0) => ?_) (fun (h395 : ¬ ((m.1 73) - 1 ≤ 0)) => ?_)
  · skip
    refine T_ld 32 (.int (i32 0)) rfl (fun _ => rfl) ?_
    exact J32_7 0 ⟨by decide, by decide⟩ (by omega) (by omega)
  · skip
    refine T_ld 28 (.int (i32 1)) rfl (fun _ => rfl) ?_
    refine T_goto 32 rfl (fun _ => rfl) ?_
    exact J32_7 1 ⟨by decide, by decide⟩ (by omega) (by omega)
def Q_endOr (m : mR) (c : Nat → Option am_C) (N : Nat) (k : Int) (B : Int) : ag_Re af_T → Prop := fun R => ∃ (y7 : Int) (y8 : Int) (y9 : Int) (y10 : Int) (y11 : Int) (y12 : Int) (y28 : Int) (y69 : Int) (y70 : Int) (y71 : Int) (y72 : Int) (y73 : Int) (y74 : Int) (y75 : Int) (F65 : Int → Int) (F66 : Int → Int) (F67 : Int → Int) (F68 : Int → Int) (F76 : Int → Int) (F77 : Int → Int) (F78 : Int → Int) (F79 : Int → Int) (F80 : Int → Int) (F85 : Int → Int) (F86 : Int → Int) (F87 : Int → Int) (F88 : Int → Int) (F89 : Int → Int) (F90 : Int → Int) (F91 : Int → Int) (F92 : Int → Int), (0 ≤ y7 ∧ y7 ≤ 330) ∧ (0 ≤ y8 ∧ y8 ≤ 4000) ∧ (0 ≤ y9 ∧ y9 ≤ 4000) ∧ (0 ≤ y10 ∧ y10 ≤ 8) ∧ ((-1) ≤ y11 ∧ y11 ≤ 4000) ∧ ((-9223372036854775808) ≤ y12 ∧ y12 ≤ 9223372036854775807) ∧ (0 ≤ y28 ∧ y28 ≤ 800) ∧ (0 ≤ y69 ∧ y69 ≤ 1024) ∧ (0 ≤ y70 ∧ y70 ≤ 4000) ∧ (0 ≤ y71 ∧ y71 ≤ 1) ∧ ((-9223372036854775808) ≤ y72 ∧ y72 ≤ 9223372036854775807) ∧ (0 ≤ y73 ∧ y73 ≤ 60) ∧ (0 ≤ y74 ∧ y74 ≤ 24) ∧ (0 ≤ y75 ∧ y75 ≤ 3) ∧ (∀ j, 0 ≤ F65 j ∧ F65 j ≤ 408) ∧ (∀ j, 0 ≤ F66 j ∧ F66 j ≤ 64) ∧ (∀ j, 0 ≤ F67 j ∧ F67 j ≤ 191) ∧ (∀ j, (-9223372036854775808) ≤ F68 j ∧ F68 j ≤ 9223372036854775807) ∧ (∀ j, 0 ≤ F76 j ∧ F76 j ≤ 2) ∧ (∀ j, 0 ≤ F77 j ∧ F77 j ≤ 4000) ∧ (∀ j, 0 ≤ F78 j ∧ F78 j ≤ 330) ∧ (∀ j, 0 ≤ F79 j ∧ F79 j ≤ 2) ∧ (∀ j, (-1) ≤ F80 j ∧ F80 j ≤ 330) ∧ (∀ j, 0 ≤ F85 j ∧ F85 j ≤ 64) ∧ (∀ j, 0 ≤ F86 j ∧ F86 j ≤ 4000) ∧ (∀ j, 0 ≤ F87 j ∧ F87 j ≤ 64) ∧ (∀ j, 0 ≤ F88 j ∧ F88 j ≤ 4000) ∧ (∀ j, 0 ≤ F89 j ∧ F89 j ≤ 1) ∧ (∀ j, 0 ≤ F90 j ∧ F90 j ≤ 1) ∧ (∀ j, (-9223372036854775808) ≤ F91 j ∧ F91 j ≤ 9223372036854775807) ∧ (∀ j, (-9223372036854775808) ≤ F92 j ∧ F92 j ≤ 9223372036854775807) ∧ (y10 = 0 → (m.1 10) = 0) ∧ (LxP y7 y8 y9 (m.1 6) y10) ∧ (y10 = 0 → ((m.1 8) + 1 ≤ y8 ∨ (y8 = (m.1 8) ∧ (y75 = 3 ∨ (y75 = 2 ∧ y73 + 1 ≤ (m.1 73))))) ∧ (y75 ≠ 0 → y69 ≤ 64) ∧ (y75 ≠ 3 → 1 ≤ y73) ∧ ((m.1 28) ≤ y28) ∧ (XS F65 F67 F76 F78 F79 F80 B y28 y73 y74 (um y75)) ∧ (agr (m.2 65) F65 (m.1 28))) ∧ R = (.inl (none), (mhp (mO m [(7, y7), (8, y8), (9, y9), (10, y10), (11, y11), (12, y12), (28, y28), (69, y69), (70, y70), (71, y71), (72, y72), (73, y73), (74, y74), (75, y75)] [(65, F65), (66, F66), (67, F67), (68, F68), (76, F76), (77, F77), (78, F78), (79, F79), (80, F80), (85, F85), (86, F86), (87, F87), (88, F88), (89, F89), (90, F90), (91, F91), (92, F92)]) c, N), 0, 0)
set_option maxHeartbeats 8000000 in
theorem c_endOr (w : wX) (m : mR) (c : Nat → Option am_C) (N D : Nat) (hD : 8 ≤ D) (hT : Ty m) (k : Int) (B : Int) (qk : R32 k) (hLx0 : LxP (m.1 7) (m.1 8) (m.1 9) (m.1 6) (m.1 10)) (hf0 : m.1 10 = 0) (hC : (XS (m.2 65) (m.2 67) (m.2 76) (m.2 78) (m.2 79) (m.2 80) B (m.1 28) (m.1 73) (m.1 74) 1) ∧ (k = (m.1 73) - 1) ∧ (1 ≤ (m.1 73)) ∧ ((m.2 76) k = 0) ∧ ((m.1 69) ≤ 64) ∧ ((m.1 75) = 2)) : TC w D 263 [.ref 189, .int (i32 k)] (mhp m c, N) (Q_endOr m c N k B) := by
  obtain ⟨D, rfl⟩ : ∃ k, D = k + 1 := ⟨D - 1, by omega⟩
  obtain ⟨qka, qkb⟩ := id qk
  have hLx := hLx0
  have f7 : 0 ≤ m.1 7 ∧ m.1 7 ≤ 330 := hT.1 7
  have f8 : 0 ≤ m.1 8 ∧ m.1 8 ≤ 4000 := hT.1 8
  have f9 : 0 ≤ m.1 9 ∧ m.1 9 ≤ 4000 := hT.1 9
  have f10 : 0 ≤ m.1 10 ∧ m.1 10 ≤ 8 := hT.1 10
  have f11 : (-1) ≤ m.1 11 ∧ m.1 11 ≤ 4000 := hT.1 11
  have f12 : (-9223372036854775808) ≤ m.1 12 ∧ m.1 12 ≤ 9223372036854775807 := hT.1 12
  have f28 : 0 ≤ m.1 28 ∧ m.1 28 ≤ 800 := hT.1 28
  have f69 : 0 ≤ m.1 69 ∧ m.1 69 ≤ 1024 := hT.1 69
  have f70 : 0 ≤ m.1 70 ∧ m.1 70 ≤ 4000 := hT.1 70
  have f71 : 0 ≤ m.1 71 ∧ m.1 71 ≤ 1 := hT.1 71
  have f72 : (-9223372036854775808) ≤ m.1 72 ∧ m.1 72 ≤ 9223372036854775807 := hT.1 72
  have f73 : 0 ≤ m.1 73 ∧ m.1 73 ≤ 60 := hT.1 73
  have f74 : 0 ≤ m.1 74 ∧ m.1 74 ≤ 24 := hT.1 74
  have f75 : 0 ≤ m.1 75 ∧ m.1 75 ≤ 3 := hT.1 75
  have f6 : 0 ≤ m.1 6 ∧ m.1 6 ≤ 4000 := hT.1 6
  refine Tc_of rfl ?_
  show TT w D pm_263 (0, [(0, .ref 189), (1, .int (i32 k))], [], (mhp m c, N), 0, 0) (Q_endOr m c N k B)
  rw [show (mhp m c, N) = (mhp (mO m [(7, (m.1 7)), (8, (m.1 8)), (9, (m.1 9)), (10, (m.1 10)), (11, (m.1 11)), (12, (m.1 12)), (28, (m.1 28)), (69, (m.1 69)), (70, (m.1 70)), (71, (m.1 71)), (72, (m.1 72)), (73, (m.1 73)), (74, (m.1 74)), (75, (m.1 75))] [(65, (m.2 65)), (66, (m.2 66)), (67, (m.2 67)), (68, (m.2 68)), (76, (m.2 76)), (77, (m.2 77)), (78, (m.2 78)), (79, (m.2 79)), (80, (m.2 80)), (85, (m.2 85)), (86, (m.2 86)), (87, (m.2 87)), (88, (m.2 88)), (89, (m.2 89)), (90, (m.2 90)), (91, (m.2 91)), (92, (m.2 92))]) c, N) from congrArg (fun M => (mhp M c, N)) (mO_pad m [7, 8, 9, 10, 11, 12, 28, 69, 70, 71, 72, 73, 74, 75] [65, 66, 67, 68, 76, 77, 78, 79, 80, 85, 86, 87, 88, 89, 90, 91, 92])]
  obtain ⟨hXS, hk, c1, hok, c2, c3⟩ := hC
  have hb := OS_hi hXS.1.2
  have hAgC := agr_r (m.2 65) (m.1 28)
  have h7 := hLx (by omega)
  have hok2 : (m.2 76) ((m.1 73) - 1) = 0 := by rw [← hk]; exact hok
  have J151_80 : ∀ (y62 : Int) (y63 : Int) (y64 : Int) (y65 : Int) (y66 : Int) (y67 : Int) (y68 : Int) (y69 : Int) (y70 : Int) (y71 : Int) (y72 : Int) (y73 : Int) (y74 : Int) (y75 : Int) (F76 : Int → Int) (F77 : Int → Int) (F78 : Int → Int) (F79 : Int → Int), (0 ≤ y62 ∧ y62 ≤ 330) → (0 ≤ y63 ∧ y63 ≤ 4000) → (0 ≤ y64 ∧ y64 ≤ 4000) → (0 ≤ y65 ∧ y65 ≤ 8) → ((-1) ≤ y66 ∧ y66 ≤ 4000) → ((-9223372036854775808) ≤ y67 ∧ y67 ≤ 9223372036854775807) → (0 ≤ y68 ∧ y68 ≤ 800) → (0 ≤ y69 ∧ y69 ≤ 1024) → (0 ≤ y70 ∧ y70 ≤ 4000) → (0 ≤ y71 ∧ y71 ≤ 1) → ((-9223372036854775808) ≤ y72 ∧ y72 ≤ 9223372036854775807) → (0 ≤ y73 ∧ y73 ≤ 60) → (0 ≤ y74 ∧ y74 ≤ 24) → (0 ≤ y75 ∧ y75 ≤ 3) → (∀ j, 0 ≤ F76 j ∧ F76 j ≤ 408) → (∀ j, 0 ≤ F77 j ∧ F77 j ≤ 64) → (∀ j, 0 ≤ F78 j ∧ F78 j ≤ 191) → (∀ j, (-9223372036854775808) ≤ F79 j ∧ F79 j ≤ 9223372036854775807) → (1 ≤ y65) → (y65 ≤ 8) → TT w D pm_263 (151, [(0, .ref 189), (1, .int (i32 k))], [], (mhp (mO m [(7, y62), (8, y63), (9, y64), (10, y65), (11, y66), (12, y67), (28, y68), (69, y69), (70, y70), (71, y71), (72, y72), (73, y73), (74, y74), (75, y75)] [(65, F76), (66, F77), (67, F78), (68, F79), (76, (m.2 76)), (77, (m.2 77)), (78, (m.2 78)), (79, (m.2 79)), (80, (m.2 80)), (85, (m.2 85)), (86, (m.2 86)), (87, (m.2 87)), (88, (m.2 88)), (89, (m.2 89)), (90, (m.2 90)), (91, (m.2 91)), (92, (m.2 92))]) c, N), 0, 0) (Q_endOr m c N k B) := by
    intro y62 y63 y64 y65 y66 y67 y68 y69 y70 y71 y72 y73 y74 y75 F76 F77 F78 F79 q81 q82 q83 q84 q85 q86 q87 q88 q89 q90 q91 q92 q93 q94 q95 q96 q97 q98 ic99 ic100
    refine T_ret rfl (fun _ => rfl) ?_
    exact ⟨y62, y63, y64, y65, y66, y67, y68, y69, y70, y71, y72, y73, y74, y75, F76, F77, F78, F79, (m.2 76), (m.2 77), (m.2 78), (m.2 79), (m.2 80), (m.2 85), (m.2 86), (m.2 87), (m.2 88), (m.2 89), (m.2 90), (m.2 91), (m.2 92), q81, q82, q83, q84, q85, q86, q87, q88, q89, q90, q91, q92, q93, q94, q95, q96, q97, q98, (hT.2.1 76), (hT.2.1 77), (hT.2.1 78), (hT.2.1 79), (hT.2.1 80), (hT.2.1 85), (hT.2.1 86), (hT.2.1 87), (hT.2.1 88), (hT.2.1 89), (hT.2.1 90), (hT.2.1 91), (hT.2.1 92), (by omega), (by first | (first | exact hLx | (intro h9; exfalso; omega)) | (exfalso; omega)), (fun h => absurd h (by omega)), rfl⟩
  have J144_120 : ∀ (y102 : Int) (y103 : Int) (y104 : Int) (y105 : Int) (y106 : Int) (y107 : Int) (y108 : Int) (y109 : Int) (y110 : Int) (F111 : Int → Int) (F112 : Int → Int) (F113 : Int → Int) (F114 : Int → Int) (F115 : Int → Int) (F116 : Int → Int) (F117 : Int → Int) (F118 : Int → Int) (F119 : Int → Int), (0 ≤ y102 ∧ y102 ≤ 330) → (0 ≤ y103 ∧ y103 ≤ 4000) → (0 ≤ y104 ∧ y104 ≤ 4000) → (0 ≤ y105 ∧ y105 ≤ 8) → ((-1) ≤ y106 ∧ y106 ≤ 4000) → ((-9223372036854775808) ≤ y107 ∧ y107 ≤ 9223372036854775807) → (0 ≤ y108 ∧ y108 ≤ 60) → (0 ≤ y109 ∧ y109 ≤ 24) → (0 ≤ y110 ∧ y110 ≤ 3) → (∀ j, 0 ≤ F111 j ∧ F111 j ≤ 2) → (∀ j, 0 ≤ F112 j ∧ F112 j ≤ 4000) → (∀ j, 0 ≤ F113 j ∧ F113 j ≤ 330) → (∀ j, 0 ≤ F114 j ∧ F114 j ≤ 2) → (∀ j, (-1) ≤ F115 j ∧ F115 j ≤ 330) → (∀ j, 0 ≤ F116 j ∧ F116 j ≤ 64) → (∀ j, 0 ≤ F117 j ∧ F117 j ≤ 4000) → (∀ j, 0 ≤ F118 j ∧ F118 j ≤ 1) → (∀ j, (-9223372036854775808) ≤ F119 j ∧ F119 j ≤ 9223372036854775807) → (1 ≤ y105) → (y105 ≤ 8) → TT w D pm_263 (144, [(0, .ref 189), (1, .int (i32 k))], [], (mhp (mO m [(7, y102), (8, y103), (9, y104), (10, y105), (11, y106), (12, y107), (28, (m.1 28)), (69, (m.1 69)), (70, (m.1 70)), (71, (m.1 71)), (72, (m.1 72)), (73, y108), (74, y109), (75, y110)] [(65, (m.2 65)), (66, (m.2 66)), (67, (m.2 67)), (68, (m.2 68)), (76, F111), (77, F112), (78, F113), (79, F114), (80, F115), (85, (m.2 85)), (86, (m.2 86)), (87, F116), (88, F117), (89, (m.2 89)), (90, F118), (91, (m.2 91)), (92, F119)]) c, N), 0, 0) (Q_endOr m c N k B) := by
    intro y102 y103 y104 y105 y106 y107 y108 y109 y110 F111 F112 F113 F114 F115 F116 F117 F118 F119 q121 q122 q123 q124 q125 q126 q127 q128 q129 q130 q131 q132 q133 q134 q135 q136 q137 q138 ic139 ic140
    refine T_goto 151 rfl (fun _ => rfl) ?_
    refine T_ret rfl (fun _ => rfl) ?_
    exact ⟨y102, y103, y104, y105, y106, y107, (m.1 28), (m.1 69), (m.1 70), (m.1 71), (m.1 72), y108, y109, y110, (m.2 65), (m.2 66), (m.2 67), (m.2 68), F111, F112, F113, F114, F115, (m.2 85), (m.2 86), F116, F117, (m.2 89), F118, (m.2 91), F119, q121, q122, q123, q124, q125, q126, f28, f69, f70, f71, f72, q127, q128, q129, (hT.2.1 65), (hT.2.1 66), (hT.2.1 67), (hT.2.1 68), q130, q131, q132, q133, q134, (hT.2.1 85), (hT.2.1 86), q135, q136, (hT.2.1 89), q137, (hT.2.1 91), q138, (by omega), (by first | (first | exact hLx | (intro h9; exfalso; omega)) | (exfalso; omega)), (fun h => absurd h (by omega)), rfl⟩
  refine T_gf 4 (.ref 241) rfl rfl rfl rfl rfl rfl ?_
  refine T_ld 5 (.int (i32 k)) rfl (fun _ => rfl) ?_
  refine T_iald 6 79 (m.2 79) rfl rfl rfl (by omega) (show k < (60 : Int) by omega) rfl ?_
  have e142 : 0 ≤ (m.2 79) k ∧ (m.2 79) k ≤ 2 := (hT.2.1 79) k
  refine T_if 77 9 rfl rfl rfl (r32 (by omega) (by omega)) (fun (h143 : (m.2 79) k ≠ 0) => ?_) (fun (h143 : ¬ ((m.2 79) k ≠ 0)) => ?_)
  · skip
    refine T_gf 81 (.ref 241) rfl rfl rfl rfl rfl rfl ?_
    refine T_ld 82 (.int (i32 k)) rfl (fun _ => rfl) ?_
    refine T_iald 83 79 (m.2 79) rfl rfl rfl (by omega) (show k < (60 : Int) by omega) rfl ?_
    have e144 : 0 ≤ (m.2 79) k ∧ (m.2 79) k ≤ 2 := (hT.2.1 79) k
    refine T_ld 84 (.int (i32 1)) rfl (fun _ => rfl) ?_
    refine T_icmp 147 87 rfl rfl rfl (r32 (by omega) (by omega)) ⟨by decide, by decide⟩ (fun (h145 : (m.2 79) k ≠ 1) => ?_) (fun (h145 : ¬ ((m.2 79) k ≠ 1)) => ?_)
    · skip
      refine T_ld 148 (.ref 189) rfl (fun _ => rfl) ?_
      refine T_call 151 264 [.ref 189] [] rfl (fun _ => rfl) rfl (c_endChoice w (mO m [(7, (m.1 7)), (8, (m.1 8)), (9, (m.1 9)), (10, (m.1 10)), (11, (m.1 11)), (12, (m.1 12)), (28, (m.1 28)), (69, (m.1 69)), (70, (m.1 70)), (71, (m.1 71)), (72, (m.1 72)), (73, (m.1 73)), (74, (m.1 74)), (75, (m.1 75))] [(65, (m.2 65)), (66, (m.2 66)), (67, (m.2 67)), (68, (m.2 68)), (76, (m.2 76)), (77, (m.2 77)), (78, (m.2 78)), (79, (m.2 79)), (80, (m.2 80)), (85, (m.2 85)), (86, (m.2 86)), (87, (m.2 87)), (88, (m.2 88)), (89, (m.2 89)), (90, (m.2 90)), (91, (m.2 91)), (92, (m.2 92))]) c N D (by omega) (Ty_mO hT rfl rfl ⟨f7, f8, f9, f10, f11, f12, f28, f69, f70, f71, f72, f73, f74, f75, trivial⟩ ⟨(hT.2.1 65), (hT.2.1 66), (hT.2.1 67), (hT.2.1 68), (hT.2.1 76), (hT.2.1 77), (hT.2.1 78), (hT.2.1 79), (hT.2.1 80), (hT.2.1 85), (hT.2.1 86), (hT.2.1 87), (hT.2.1 88), (hT.2.1 89), (hT.2.1 90), (hT.2.1 91), (hT.2.1 92), trivial⟩) B (show LxP (m.1 7) (m.1 8) (m.1 9) (m.1 6) (m.1 10) by first | exact hLx | (intro h9; exfalso; omega)) (show (m.1 10) = 0 by omega) ⟨(show XS (m.2 65) (m.2 67) (m.2 76) (m.2 78) (m.2 79) (m.2 80) B (m.1 28) (m.1 73) (m.1 74) 1 by first | exact hXS | assumption), (show 1 ≤ (m.1 73) by omega), (show (m.2 76) ((m.1 73) - 1) = 0 by first | assumption | omega), (show (m.1 69) ≤ 64 by omega)⟩) (fun rr146 k147 => ?_)
      obtain ⟨y148, y150, y152, y154, y156, y158, y160, y162, y164, y166, y168, y170, y172, y174, F176, F178, F180, F182, g149, g151, g153, g155, g157, g159, g161, g163, g165, g167, g169, g171, g173, g175, G177, G179, G181, G183, h184, h185, c186, rfl⟩ := k147
      refine ⟨_, _, rfl, ?_⟩
      refine T_nf (st' := []) (l' := [(7, y148), (8, y150), (9, y152), (10, y154), (11, y156), (12, y158), (28, y160), (69, y162), (70, y164), (71, y166), (72, y168), (73, y170), (74, y172), (75, y174)]) (a' := [(65, F176), (66, F178), (67, F180), (68, F182), (76, (m.2 76)), (77, (m.2 77)), (78, (m.2 78)), (79, (m.2 79)), (80, (m.2 80)), (85, (m.2 85)), (86, (m.2 86)), (87, (m.2 87)), (88, (m.2 88)), (89, (m.2 89)), (90, (m.2 90)), (91, (m.2 91)), (92, (m.2 92))]) rfl rfl rfl rfl rfl ?_
      by_cases hf187 : y154 = 0
      · skip
        subst hf187
        replace h184 : (m.1 10) = 0 := h184 rfl
        replace h185 : LxP y148 y150 y152 (m.1 6) (0 : Int) := h185
        have hLx := h185
        obtain ⟨c188, c189, c190, c191, c192, c193⟩ := c186 rfl
        replace c188 : (m.1 8) + 1 ≤ y150 ∨ (y150 = (m.1 8) ∧ (y174 = 3 ∨ (y174 = 2 ∧ y170 + 1 ≤ (m.1 73)))) := c188
        replace c189 : y174 ≠ 0 → y162 ≤ 64 := c189
        replace c190 : y174 ≠ 3 → 1 ≤ y170 := c190
        replace c191 : (m.1 28) ≤ y160 := c191
        replace c192 : XS F176 F180 (m.2 76) (m.2 78) (m.2 79) (m.2 80) B y160 y170 y172 (um y174) := c192
        have hXE := c192
        replace c193 : agr (m.2 65) F176 (m.1 28) := c193
        have hAg := c193
        clear c186
        have hAgC : agr (m.2 65) F176 (m.1 28) := by first | exact agr_r _ _ | exact hAgC | exact agr_t hAgC hAg (by omega)
        clear g155
        refine T_ret rfl (fun _ => rfl) ?_
        exact ⟨y148, y150, y152, 0, y156, y158, y160, y162, y164, y166, y168, y170, y172, y174, F176, F178, F180, F182, (m.2 76), (m.2 77), (m.2 78), (m.2 79), (m.2 80), (m.2 85), (m.2 86), (m.2 87), (m.2 88), (m.2 89), (m.2 90), (m.2 91), (m.2 92), g149, g151, g153, ⟨by omega, by omega⟩, g157, g159, g161, g163, g165, g167, g169, g171, g173, g175, G177, G179, G181, G183, (hT.2.1 76), (hT.2.1 77), (hT.2.1 78), (hT.2.1 79), (hT.2.1 80), (hT.2.1 85), (hT.2.1 86), (hT.2.1 87), (hT.2.1 88), (hT.2.1 89), (hT.2.1 90), (hT.2.1 91), (hT.2.1 92), (by omega), (by first | (first | exact hLx | (intro h9; exfalso; omega)) | (exfalso; omega)), (fun _ => ⟨(by omega), (by omega), (by omega), (by omega), (by first | (exact hXE) | (exfalso; omega)), (by first | (exact hAgC) | (exfalso; omega))⟩), rfl⟩
      · skip
        clear c186
        clear h184
        replace h185 : LxP y148 y150 y152 (m.1 6) y154 := h185
        have hLx := h185
        have hf194 : 1 ≤ y154 := by omega
        exact J151_80 y148 y150 y152 y154 y156 y158 y160 y162 y164 y166 y168 y170 y172 y174 F176 F178 F180 F182 g149 g151 g153 g155 g157 g159 g161 g163 g165 g167 g169 g171 g173 g175 G177 G179 G181 G183 (by omega) (by omega)
    · skip
      refine T_gf 91 (.ref 249) rfl rfl rfl rfl rfl rfl ?_
      refine T_ld 92 (.int (i32 k)) rfl (fun _ => rfl) ?_
      refine T_gf 96 (.int (i32 (m.1 69))) rfl rfl rfl rfl rfl rfl ?_
      have G195 : ∀ j, 0 ≤ (upI (m.2 87) k (m.1 69)) j ∧ (upI (m.2 87) k (m.1 69)) j ≤ 64 := upI_rg (hT.2.1 87) ⟨by omega, by omega⟩
      refine T_iast (a' := [(65, (m.2 65)), (66, (m.2 66)), (67, (m.2 67)), (68, (m.2 68)), (76, (m.2 76)), (77, (m.2 77)), (78, (m.2 78)), (79, (m.2 79)), (80, (m.2 80)), (85, (m.2 85)), (86, (m.2 86)), (87, upI (m.2 87) k (m.1 69)), (88, (m.2 88)), (89, (m.2 89)), (90, (m.2 90)), (91, (m.2 91)), (92, (m.2 92))]) 97 87 (m.2 87) rfl rfl rfl (by omega) (show k < (60 : Int) by omega) rfl rfl ?_
      refine T_gf 101 (.ref 250) rfl rfl rfl rfl rfl rfl ?_
      refine T_ld 102 (.int (i32 k)) rfl (fun _ => rfl) ?_
      refine T_gf 106 (.int (i32 (m.1 70))) rfl rfl rfl rfl rfl rfl ?_
      have G196 : ∀ j, 0 ≤ (upI (m.2 88) k (m.1 70)) j ∧ (upI (m.2 88) k (m.1 70)) j ≤ 4000 := upI_rg (hT.2.1 88) ⟨by omega, by omega⟩
      refine T_iast (a' := [(65, (m.2 65)), (66, (m.2 66)), (67, (m.2 67)), (68, (m.2 68)), (76, (m.2 76)), (77, (m.2 77)), (78, (m.2 78)), (79, (m.2 79)), (80, (m.2 80)), (85, (m.2 85)), (86, (m.2 86)), (87, upI (m.2 87) k (m.1 69)), (88, upI (m.2 88) k (m.1 70)), (89, (m.2 89)), (90, (m.2 90)), (91, (m.2 91)), (92, (m.2 92))]) 107 88 (m.2 88) rfl rfl rfl (by omega) (show k < (60 : Int) by omega) rfl rfl ?_
      refine T_gf 111 (.ref 252) rfl rfl rfl rfl rfl rfl ?_
      refine T_ld 112 (.int (i32 k)) rfl (fun _ => rfl) ?_
      refine T_gf 116 (.int (i32 (m.1 71))) rfl rfl rfl rfl rfl rfl ?_
      have G197 : ∀ j, 0 ≤ (upI (m.2 90) k (m.1 71)) j ∧ (upI (m.2 90) k (m.1 71)) j ≤ 1 := upI_rg (hT.2.1 90) ⟨by omega, by omega⟩
      refine T_bast (a' := [(65, (m.2 65)), (66, (m.2 66)), (67, (m.2 67)), (68, (m.2 68)), (76, (m.2 76)), (77, (m.2 77)), (78, (m.2 78)), (79, (m.2 79)), (80, (m.2 80)), (85, (m.2 85)), (86, (m.2 86)), (87, upI (m.2 87) k (m.1 69)), (88, upI (m.2 88) k (m.1 70)), (89, (m.2 89)), (90, upI (m.2 90) k (m.1 71)), (91, (m.2 91)), (92, (m.2 92))]) 117 90 (m.2 90) rfl rfl rfl (by omega) (show k < (60 : Int) by omega) (by omega) rfl rfl ?_
      refine T_gf 121 (.ref 254) rfl rfl rfl rfl rfl rfl ?_
      refine T_ld 122 (.int (i32 k)) rfl (fun _ => rfl) ?_
      refine T_gf 126 (.long (i64 (m.1 72))) rfl rfl rfl rfl rfl rfl ?_
      have G198 : ∀ j, (-9223372036854775808) ≤ (upI (m.2 92) k (m.1 72)) j ∧ (upI (m.2 92) k (m.1 72)) j ≤ 9223372036854775807 := upI_rg (hT.2.1 92) ⟨by omega, by omega⟩
      refine T_last (a' := [(65, (m.2 65)), (66, (m.2 66)), (67, (m.2 67)), (68, (m.2 68)), (76, (m.2 76)), (77, (m.2 77)), (78, (m.2 78)), (79, (m.2 79)), (80, (m.2 80)), (85, (m.2 85)), (86, (m.2 86)), (87, upI (m.2 87) k (m.1 69)), (88, upI (m.2 88) k (m.1 70)), (89, (m.2 89)), (90, upI (m.2 90) k (m.1 71)), (91, (m.2 91)), (92, upI (m.2 92) k (m.1 72))]) 127 92 (m.2 92) rfl rfl rfl (by omega) (show k < (60 : Int) by omega) rfl rfl ?_
      refine T_gf 131 (.ref 241) rfl rfl rfl rfl rfl rfl ?_
      refine T_ld 132 (.int (i32 k)) rfl (fun _ => rfl) ?_
      refine T_ld 133 (.int (i32 2)) rfl (fun _ => rfl) ?_
      have G199 : ∀ j, 0 ≤ (upI (m.2 79) k 2) j ∧ (upI (m.2 79) k 2) j ≤ 2 := upI_rg (hT.2.1 79) ⟨by omega, by omega⟩
      refine T_iast (a' := [(65, (m.2 65)), (66, (m.2 66)), (67, (m.2 67)), (68, (m.2 68)), (76, (m.2 76)), (77, (m.2 77)), (78, (m.2 78)), (79, upI (m.2 79) k 2), (80, (m.2 80)), (85, (m.2 85)), (86, (m.2 86)), (87, upI (m.2 87) k (m.1 69)), (88, upI (m.2 88) k (m.1 70)), (89, (m.2 89)), (90, upI (m.2 90) k (m.1 71)), (91, (m.2 91)), (92, upI (m.2 92) k (m.1 72))]) 134 79 (m.2 79) rfl rfl rfl (by omega) (show k < (60 : Int) by omega) rfl rfl ?_
      have hXT : XT (m.2 65) (m.2 67) (m.2 76) (m.2 78) (upI (m.2 79) k 2) (m.2 80) B (m.1 28) (m.1 73) (m.1 74) 0 := XT_st (x := 2) (U' := 0) hk hXS.1 (by omega) (by omega)
      refine T_ld 135 (.ref 189) rfl (fun _ => rfl) ?_
      refine T_ld 137 (.int (i32 58)) rfl (fun _ => rfl) ?_
      refine T_call 140 232 [.ref 189, .int (i32 58)] [] rfl (fun _ => rfl) rfl (c_need w (mO m [(7, (m.1 7)), (8, (m.1 8)), (9, (m.1 9)), (10, (m.1 10)), (11, (m.1 11)), (12, (m.1 12)), (28, (m.1 28)), (69, (m.1 69)), (70, (m.1 70)), (71, (m.1 71)), (72, (m.1 72)), (73, (m.1 73)), (74, (m.1 74)), (75, (m.1 75))] [(65, (m.2 65)), (66, (m.2 66)), (67, (m.2 67)), (68, (m.2 68)), (76, (m.2 76)), (77, (m.2 77)), (78, (m.2 78)), (79, upI (m.2 79) k 2), (80, (m.2 80)), (85, (m.2 85)), (86, (m.2 86)), (87, upI (m.2 87) k (m.1 69)), (88, upI (m.2 88) k (m.1 70)), (89, (m.2 89)), (90, upI (m.2 90) k (m.1 71)), (91, (m.2 91)), (92, upI (m.2 92) k (m.1 72))]) c N D (by omega) (Ty_mO hT rfl rfl ⟨f7, f8, f9, f10, f11, f12, f28, f69, f70, f71, f72, f73, f74, f75, trivial⟩ ⟨(hT.2.1 65), (hT.2.1 66), (hT.2.1 67), (hT.2.1 68), (hT.2.1 76), (hT.2.1 77), (hT.2.1 78), G199, (hT.2.1 80), (hT.2.1 85), (hT.2.1 86), G195, G196, (hT.2.1 89), G197, (hT.2.1 91), G198, trivial⟩) 58 ⟨by decide, by decide⟩ (show 1 ≤ (58 : Int) by omega) (show LxP (m.1 7) (m.1 8) (m.1 9) (m.1 6) (m.1 10) by first | exact hLx | (intro h9; exfalso; omega) | (intro h9; have h8 := hLx (by omega); omega))) (fun rr200 k201 => ?_)
      obtain ⟨y202, y204, y206, y208, y210, y212, g203, g205, g207, g209, g211, g213, h214, h215, h216, h217, rfl⟩ := k201
      refine ⟨_, _, rfl, ?_⟩
      refine T_nf (st' := []) (l' := [(7, y202), (8, y204), (9, y206), (10, y208), (11, y210), (12, y212), (28, (m.1 28)), (69, (m.1 69)), (70, (m.1 70)), (71, (m.1 71)), (72, (m.1 72)), (73, (m.1 73)), (74, (m.1 74)), (75, (m.1 75))]) (a' := [(65, (m.2 65)), (66, (m.2 66)), (67, (m.2 67)), (68, (m.2 68)), (76, (m.2 76)), (77, (m.2 77)), (78, (m.2 78)), (79, upI (m.2 79) k 2), (80, (m.2 80)), (85, (m.2 85)), (86, (m.2 86)), (87, upI (m.2 87) k (m.1 69)), (88, upI (m.2 88) k (m.1 70)), (89, (m.2 89)), (90, upI (m.2 90) k (m.1 71)), (91, (m.2 91)), (92, upI (m.2 92) k (m.1 72))]) rfl rfl rfl rfl rfl ?_
      by_cases hf218 : y208 = 0
      · skip
        subst hf218
        replace h214 : LxP y202 y204 y206 (m.1 6) (0 : Int) := h214
        have hLx := h214
        replace h215 : (m.1 10) = 0 ∧ (m.1 7) = (58 : Int) := h215 rfl
        replace h216 : (m.1 8) ≤ y204 := h216
        replace h217 : (m.1 8) + (m.1 9) ≤ y204 := h217 rfl
        have hAgC : agr (m.2 65) (m.2 65) (m.1 28) := by first | exact agr_r _ _ | exact hAgC | exact agr_t hAgC hAg (by omega)
        clear g209
        have hTop : (m.1 73) = 0 ∨ (m.2 76) ((m.1 73) - 1) = 2 ∨ ((m.2 76) ((m.1 73) - 1) = 0 ∧ (upI (m.2 79) k 2) ((m.1 73) - 1) = 2) := Or.inr (Or.inr ⟨hok2, by rw [← hk, upI_s]⟩)
        refine T_ld 141 (.ref 189) rfl (fun _ => rfl) ?_
        refine T_call 144 245 [.ref 189] [] rfl (fun _ => rfl) rfl (c_beginChoice w (mO m [(7, y202), (8, y204), (9, y206), (10, 0), (11, y210), (12, y212), (28, (m.1 28)), (69, (m.1 69)), (70, (m.1 70)), (71, (m.1 71)), (72, (m.1 72)), (73, (m.1 73)), (74, (m.1 74)), (75, (m.1 75))] [(65, (m.2 65)), (66, (m.2 66)), (67, (m.2 67)), (68, (m.2 68)), (76, (m.2 76)), (77, (m.2 77)), (78, (m.2 78)), (79, upI (m.2 79) k 2), (80, (m.2 80)), (85, (m.2 85)), (86, (m.2 86)), (87, upI (m.2 87) k (m.1 69)), (88, upI (m.2 88) k (m.1 70)), (89, (m.2 89)), (90, upI (m.2 90) k (m.1 71)), (91, (m.2 91)), (92, upI (m.2 92) k (m.1 72))]) c N D (by omega) (Ty_mO hT rfl rfl ⟨g203, g205, g207, ⟨(by omega : (0 : Int) ≤ 0), (by omega : (0 : Int) ≤ 8)⟩, g211, g213, f28, f69, f70, f71, f72, f73, f74, f75, trivial⟩ ⟨(hT.2.1 65), (hT.2.1 66), (hT.2.1 67), (hT.2.1 68), (hT.2.1 76), (hT.2.1 77), (hT.2.1 78), G199, (hT.2.1 80), (hT.2.1 85), (hT.2.1 86), G195, G196, (hT.2.1 89), G197, (hT.2.1 91), G198, trivial⟩) B 0 (fun _ => ⟨(show XT (m.2 65) (m.2 67) (m.2 76) (m.2 78) (upI (m.2 79) k 2) (m.2 80) B (m.1 28) (m.1 73) (m.1 74) 0 by first | exact hXT | exact hXS.1), (show (m.1 73) = 0 ∨ (m.2 76) ((m.1 73) - 1) = 2 ∨ ((m.2 76) ((m.1 73) - 1) = 0 ∧ (upI (m.2 79) k 2) ((m.1 73) - 1) = 2) by first | exact hTop | omega)⟩)) (fun rr219 k220 => ?_)
        obtain ⟨y221, y223, y225, y227, y229, F231, F233, F235, F237, F239, g222, g224, g226, g228, g230, G232, G234, G236, G238, G240, h241, c242, rfl⟩ := k220
        refine ⟨_, _, rfl, ?_⟩
        refine T_nf (st' := []) (l' := [(7, y202), (8, y204), (9, y206), (10, y221), (11, y223), (12, y212), (28, (m.1 28)), (69, (m.1 69)), (70, (m.1 70)), (71, (m.1 71)), (72, (m.1 72)), (73, y225), (74, y227), (75, y229)]) (a' := [(65, (m.2 65)), (66, (m.2 66)), (67, (m.2 67)), (68, (m.2 68)), (76, F231), (77, F233), (78, F235), (79, F237), (80, F239), (85, (m.2 85)), (86, (m.2 86)), (87, upI (m.2 87) k (m.1 69)), (88, upI (m.2 88) k (m.1 70)), (89, (m.2 89)), (90, upI (m.2 90) k (m.1 71)), (91, (m.2 91)), (92, upI (m.2 92) k (m.1 72))]) rfl rfl rfl rfl rfl ?_
        by_cases hf243 : y221 = 0
        · skip
          subst hf243
          replace h241 : (0 : Int) = 0 := h241 rfl
          obtain ⟨c244, c245, c246⟩ := c242 rfl
          replace c244 : XS (m.2 65) (m.2 67) F231 F235 F237 F239 B (m.1 28) y225 y227 0 := c244
          have hXS := c244
          replace c245 : y225 = (m.1 73) + 1 := c245
          replace c246 : y229 = 0 := c246
          clear c242
          have hAgC : agr (m.2 65) (m.2 65) (m.1 28) := by first | exact agr_r _ _ | exact hAgC | exact agr_t hAgC hAg (by omega)
          clear g211 g222
          have hXE : XS (m.2 65) (m.2 67) F231 F235 F237 F239 B (m.1 28) y225 y227 (um y229) := by
            rw [show um y229 = 0 from if_pos (by omega)]
            exact hXS
          refine T_goto 151 rfl (fun _ => rfl) ?_
          refine T_ret rfl (fun _ => rfl) ?_
          exact ⟨y202, y204, y206, 0, y223, y212, (m.1 28), (m.1 69), (m.1 70), (m.1 71), (m.1 72), y225, y227, y229, (m.2 65), (m.2 66), (m.2 67), (m.2 68), F231, F233, F235, F237, F239, (m.2 85), (m.2 86), upI (m.2 87) k (m.1 69), upI (m.2 88) k (m.1 70), (m.2 89), upI (m.2 90) k (m.1 71), (m.2 91), upI (m.2 92) k (m.1 72), g203, g205, g207, ⟨by omega, by omega⟩, g224, g213, f28, f69, f70, f71, f72, g226, g228, g230, (hT.2.1 65), (hT.2.1 66), (hT.2.1 67), (hT.2.1 68), G232, G234, G236, G238, G240, (hT.2.1 85), (hT.2.1 86), G195, G196, (hT.2.1 89), G197, (hT.2.1 91), G198, (by omega), (by first | (first | exact hLx | (intro h9; exfalso; omega)) | (exfalso; omega)), (fun _ => ⟨(by omega), (by omega), (by omega), (by omega), (by first | (exact hXE) | (exfalso; omega)), (by first | (exact hAgC) | (exfalso; omega))⟩), rfl⟩
        · skip
          clear c242
          clear h241
          have hf247 : 1 ≤ y221 := by omega
          clear g211
          exact J144_120 y202 y204 y206 y221 y223 y212 y225 y227 y229 F231 F233 F235 F237 F239 (upI (m.2 87) k (m.1 69)) (upI (m.2 88) k (m.1 70)) (upI (m.2 90) k (m.1 71)) (upI (m.2 92) k (m.1 72)) g203 g205 g207 g222 g224 g213 g226 g228 g230 G232 G234 G236 G238 G240 G195 G196 G197 G198 (by omega) (by omega)
      · skip
        replace h214 : LxP y202 y204 y206 (m.1 6) y208 := h214
        have hLx := h214
        clear h215
        replace h216 : (m.1 8) ≤ y204 := h216
        clear h217
        have hf248 : 1 ≤ y208 := by omega
        refine T_ld 141 (.ref 189) rfl (fun _ => rfl) ?_
        refine T_call 144 245 [.ref 189] [] rfl (fun _ => rfl) rfl (c_beginChoice w (mO m [(7, y202), (8, y204), (9, y206), (10, y208), (11, y210), (12, y212), (28, (m.1 28)), (69, (m.1 69)), (70, (m.1 70)), (71, (m.1 71)), (72, (m.1 72)), (73, (m.1 73)), (74, (m.1 74)), (75, (m.1 75))] [(65, (m.2 65)), (66, (m.2 66)), (67, (m.2 67)), (68, (m.2 68)), (76, (m.2 76)), (77, (m.2 77)), (78, (m.2 78)), (79, upI (m.2 79) k 2), (80, (m.2 80)), (85, (m.2 85)), (86, (m.2 86)), (87, upI (m.2 87) k (m.1 69)), (88, upI (m.2 88) k (m.1 70)), (89, (m.2 89)), (90, upI (m.2 90) k (m.1 71)), (91, (m.2 91)), (92, upI (m.2 92) k (m.1 72))]) c N D (by omega) (Ty_mO hT rfl rfl ⟨g203, g205, g207, g209, g211, g213, f28, f69, f70, f71, f72, f73, f74, f75, trivial⟩ ⟨(hT.2.1 65), (hT.2.1 66), (hT.2.1 67), (hT.2.1 68), (hT.2.1 76), (hT.2.1 77), (hT.2.1 78), G199, (hT.2.1 80), (hT.2.1 85), (hT.2.1 86), G195, G196, (hT.2.1 89), G197, (hT.2.1 91), G198, trivial⟩) B 0 (fun (h : y208 = 0) => absurd h (by omega))) (fun rr249 k250 => ?_)
        obtain ⟨y251, y253, y255, y257, y259, F261, F263, F265, F267, F269, g252, g254, g256, g258, g260, G262, G264, G266, G268, G270, h271, c272, rfl⟩ := k250
        refine ⟨_, _, rfl, ?_⟩
        refine T_nf (st' := []) (l' := [(7, y202), (8, y204), (9, y206), (10, y251), (11, y253), (12, y212), (28, (m.1 28)), (69, (m.1 69)), (70, (m.1 70)), (71, (m.1 71)), (72, (m.1 72)), (73, y255), (74, y257), (75, y259)]) (a' := [(65, (m.2 65)), (66, (m.2 66)), (67, (m.2 67)), (68, (m.2 68)), (76, F261), (77, F263), (78, F265), (79, F267), (80, F269), (85, (m.2 85)), (86, (m.2 86)), (87, upI (m.2 87) k (m.1 69)), (88, upI (m.2 88) k (m.1 70)), (89, (m.2 89)), (90, upI (m.2 90) k (m.1 71)), (91, (m.2 91)), (92, upI (m.2 92) k (m.1 72))]) rfl rfl rfl rfl rfl ?_
        replace h271 : y251 = 0 → y208 = 0 := h271
        have hf273 : 1 ≤ y251 := by omega
        clear c272
        clear h271
        clear g209 g211 h214 hf248
        exact J144_120 y202 y204 y206 y251 y253 y212 y255 y257 y259 F261 F263 F265 F267 F269 (upI (m.2 87) k (m.1 69)) (upI (m.2 88) k (m.1 70)) (upI (m.2 90) k (m.1 71)) (upI (m.2 92) k (m.1 72)) g203 g205 g207 g252 g254 g213 g256 g258 g260 G262 G264 G266 G268 G270 G195 G196 G197 G198 (by omega) (by omega)
  · skip
    refine T_gf 13 (.int (i32 (m.1 7))) rfl rfl rfl rfl rfl rfl ?_
    refine T_ld 15 (.int (i32 63)) rfl (fun _ => rfl) ?_
    refine T_icmp 77 18 rfl rfl rfl (r32 (by omega) (by omega)) ⟨by decide, by decide⟩ (fun (h274 : (m.1 7) ≠ 63) => ?_) (fun (h274 : ¬ ((m.1 7) ≠ 63)) => ?_)
    · skip
      refine T_gf 81 (.ref 241) rfl rfl rfl rfl rfl rfl ?_
      refine T_ld 82 (.int (i32 k)) rfl (fun _ => rfl) ?_
      refine T_iald 83 79 (m.2 79) rfl rfl rfl (by omega) (show k < (60 : Int) by omega) rfl ?_
      have e275 : 0 ≤ (m.2 79) k ∧ (m.2 79) k ≤ 2 := (hT.2.1 79) k
      refine T_ld 84 (.int (i32 1)) rfl (fun _ => rfl) ?_
      refine T_icmp 147 87 rfl rfl rfl (r32 (by omega) (by omega)) ⟨by decide, by decide⟩ (fun (h276 : (m.2 79) k ≠ 1) => ?_) (fun (h276 : ¬ ((m.2 79) k ≠ 1)) => by exfalso; omega)
      refine T_ld 148 (.ref 189) rfl (fun _ => rfl) ?_
      refine T_call 151 264 [.ref 189] [] rfl (fun _ => rfl) rfl (c_endChoice w (mO m [(7, (m.1 7)), (8, (m.1 8)), (9, (m.1 9)), (10, (m.1 10)), (11, (m.1 11)), (12, (m.1 12)), (28, (m.1 28)), (69, (m.1 69)), (70, (m.1 70)), (71, (m.1 71)), (72, (m.1 72)), (73, (m.1 73)), (74, (m.1 74)), (75, (m.1 75))] [(65, (m.2 65)), (66, (m.2 66)), (67, (m.2 67)), (68, (m.2 68)), (76, (m.2 76)), (77, (m.2 77)), (78, (m.2 78)), (79, (m.2 79)), (80, (m.2 80)), (85, (m.2 85)), (86, (m.2 86)), (87, (m.2 87)), (88, (m.2 88)), (89, (m.2 89)), (90, (m.2 90)), (91, (m.2 91)), (92, (m.2 92))]) c N D (by omega) (Ty_mO hT rfl rfl ⟨f7, f8, f9, f10, f11, f12, f28, f69, f70, f71, f72, f73, f74, f75, trivial⟩ ⟨(hT.2.1 65), (hT.2.1 66), (hT.2.1 67), (hT.2.1 68), (hT.2.1 76), (hT.2.1 77), (hT.2.1 78), (hT.2.1 79), (hT.2.1 80), (hT.2.1 85), (hT.2.1 86), (hT.2.1 87), (hT.2.1 88), (hT.2.1 89), (hT.2.1 90), (hT.2.1 91), (hT.2.1 92), trivial⟩) B (show LxP (m.1 7) (m.1 8) (m.1 9) (m.1 6) (m.1 10) by first | exact hLx | (intro h9; exfalso; omega)) (show (m.1 10) = 0 by omega) ⟨(show XS (m.2 65) (m.2 67) (m.2 76) (m.2 78) (m.2 79) (m.2 80) B (m.1 28) (m.1 73) (m.1 74) 1 by first | exact hXS | assumption), (show 1 ≤ (m.1 73) by omega), (show (m.2 76) ((m.1 73) - 1) = 0 by first | assumption | omega), (show (m.1 69) ≤ 64 by omega)⟩) (fun rr277 k278 => ?_)
      obtain ⟨y279, y281, y283, y285, y287, y289, y291, y293, y295, y297, y299, y301, y303, y305, F307, F309, F311, F313, g280, g282, g284, g286, g288, g290, g292, g294, g296, g298, g300, g302, g304, g306, G308, G310, G312, G314, h315, h316, c317, rfl⟩ := k278
      refine ⟨_, _, rfl, ?_⟩
      refine T_nf (st' := []) (l' := [(7, y279), (8, y281), (9, y283), (10, y285), (11, y287), (12, y289), (28, y291), (69, y293), (70, y295), (71, y297), (72, y299), (73, y301), (74, y303), (75, y305)]) (a' := [(65, F307), (66, F309), (67, F311), (68, F313), (76, (m.2 76)), (77, (m.2 77)), (78, (m.2 78)), (79, (m.2 79)), (80, (m.2 80)), (85, (m.2 85)), (86, (m.2 86)), (87, (m.2 87)), (88, (m.2 88)), (89, (m.2 89)), (90, (m.2 90)), (91, (m.2 91)), (92, (m.2 92))]) rfl rfl rfl rfl rfl ?_
      by_cases hf318 : y285 = 0
      · skip
        subst hf318
        replace h315 : (m.1 10) = 0 := h315 rfl
        replace h316 : LxP y279 y281 y283 (m.1 6) (0 : Int) := h316
        have hLx := h316
        obtain ⟨c319, c320, c321, c322, c323, c324⟩ := c317 rfl
        replace c319 : (m.1 8) + 1 ≤ y281 ∨ (y281 = (m.1 8) ∧ (y305 = 3 ∨ (y305 = 2 ∧ y301 + 1 ≤ (m.1 73)))) := c319
        replace c320 : y305 ≠ 0 → y293 ≤ 64 := c320
        replace c321 : y305 ≠ 3 → 1 ≤ y301 := c321
        replace c322 : (m.1 28) ≤ y291 := c322
        replace c323 : XS F307 F311 (m.2 76) (m.2 78) (m.2 79) (m.2 80) B y291 y301 y303 (um y305) := c323
        have hXE := c323
        replace c324 : agr (m.2 65) F307 (m.1 28) := c324
        have hAg := c324
        clear c317
        have hAgC : agr (m.2 65) F307 (m.1 28) := by first | exact agr_r _ _ | exact hAgC | exact agr_t hAgC hAg (by omega)
        clear g286
        refine T_ret rfl (fun _ => rfl) ?_
        exact ⟨y279, y281, y283, 0, y287, y289, y291, y293, y295, y297, y299, y301, y303, y305, F307, F309, F311, F313, (m.2 76), (m.2 77), (m.2 78), (m.2 79), (m.2 80), (m.2 85), (m.2 86), (m.2 87), (m.2 88), (m.2 89), (m.2 90), (m.2 91), (m.2 92), g280, g282, g284, ⟨by omega, by omega⟩, g288, g290, g292, g294, g296, g298, g300, g302, g304, g306, G308, G310, G312, G314, (hT.2.1 76), (hT.2.1 77), (hT.2.1 78), (hT.2.1 79), (hT.2.1 80), (hT.2.1 85), (hT.2.1 86), (hT.2.1 87), (hT.2.1 88), (hT.2.1 89), (hT.2.1 90), (hT.2.1 91), (hT.2.1 92), (by omega), (by first | (first | exact hLx | (intro h9; exfalso; omega)) | (exfalso; omega)), (fun _ => ⟨(by omega), (by omega), (by omega), (by omega), (by first | (exact hXE) | (exfalso; omega)), (by first | (exact hAgC) | (exfalso; omega))⟩), rfl⟩
      · skip
        clear c317
        clear h315
        replace h316 : LxP y279 y281 y283 (m.1 6) y285 := h316
        have hLx := h316
        have hf325 : 1 ≤ y285 := by omega
        exact J151_80 y279 y281 y283 y285 y287 y289 y291 y293 y295 y297 y299 y301 y303 y305 F307 F309 F311 F313 g280 g282 g284 g286 g288 g290 g292 g294 g296 g298 g300 g302 g304 g306 G308 G310 G312 G314 (by omega) (by omega)
    · skip
      refine T_gf 22 (.ref 247) rfl rfl rfl rfl rfl rfl ?_
      refine T_ld 23 (.int (i32 k)) rfl (fun _ => rfl) ?_
      refine T_gf 27 (.int (i32 (m.1 69))) rfl rfl rfl rfl rfl rfl ?_
      have G326 : ∀ j, 0 ≤ (upI (m.2 85) k (m.1 69)) j ∧ (upI (m.2 85) k (m.1 69)) j ≤ 64 := upI_rg (hT.2.1 85) ⟨by omega, by omega⟩
      refine T_iast (a' := [(65, (m.2 65)), (66, (m.2 66)), (67, (m.2 67)), (68, (m.2 68)), (76, (m.2 76)), (77, (m.2 77)), (78, (m.2 78)), (79, (m.2 79)), (80, (m.2 80)), (85, upI (m.2 85) k (m.1 69)), (86, (m.2 86)), (87, (m.2 87)), (88, (m.2 88)), (89, (m.2 89)), (90, (m.2 90)), (91, (m.2 91)), (92, (m.2 92))]) 28 85 (m.2 85) rfl rfl rfl (by omega) (show k < (60 : Int) by omega) rfl rfl ?_
      refine T_gf 32 (.ref 248) rfl rfl rfl rfl rfl rfl ?_
      refine T_ld 33 (.int (i32 k)) rfl (fun _ => rfl) ?_
      refine T_gf 37 (.int (i32 (m.1 70))) rfl rfl rfl rfl rfl rfl ?_
      have G327 : ∀ j, 0 ≤ (upI (m.2 86) k (m.1 70)) j ∧ (upI (m.2 86) k (m.1 70)) j ≤ 4000 := upI_rg (hT.2.1 86) ⟨by omega, by omega⟩
      refine T_iast (a' := [(65, (m.2 65)), (66, (m.2 66)), (67, (m.2 67)), (68, (m.2 68)), (76, (m.2 76)), (77, (m.2 77)), (78, (m.2 78)), (79, (m.2 79)), (80, (m.2 80)), (85, upI (m.2 85) k (m.1 69)), (86, upI (m.2 86) k (m.1 70)), (87, (m.2 87)), (88, (m.2 88)), (89, (m.2 89)), (90, (m.2 90)), (91, (m.2 91)), (92, (m.2 92))]) 38 86 (m.2 86) rfl rfl rfl (by omega) (show k < (60 : Int) by omega) rfl rfl ?_
      refine T_gf 42 (.ref 251) rfl rfl rfl rfl rfl rfl ?_
      refine T_ld 43 (.int (i32 k)) rfl (fun _ => rfl) ?_
      refine T_gf 47 (.int (i32 (m.1 71))) rfl rfl rfl rfl rfl rfl ?_
      have G328 : ∀ j, 0 ≤ (upI (m.2 89) k (m.1 71)) j ∧ (upI (m.2 89) k (m.1 71)) j ≤ 1 := upI_rg (hT.2.1 89) ⟨by omega, by omega⟩
      refine T_bast (a' := [(65, (m.2 65)), (66, (m.2 66)), (67, (m.2 67)), (68, (m.2 68)), (76, (m.2 76)), (77, (m.2 77)), (78, (m.2 78)), (79, (m.2 79)), (80, (m.2 80)), (85, upI (m.2 85) k (m.1 69)), (86, upI (m.2 86) k (m.1 70)), (87, (m.2 87)), (88, (m.2 88)), (89, upI (m.2 89) k (m.1 71)), (90, (m.2 90)), (91, (m.2 91)), (92, (m.2 92))]) 48 89 (m.2 89) rfl rfl rfl (by omega) (show k < (60 : Int) by omega) (by omega) rfl rfl ?_
      refine T_gf 52 (.ref 253) rfl rfl rfl rfl rfl rfl ?_
      refine T_ld 53 (.int (i32 k)) rfl (fun _ => rfl) ?_
      refine T_gf 57 (.long (i64 (m.1 72))) rfl rfl rfl rfl rfl rfl ?_
      have G329 : ∀ j, (-9223372036854775808) ≤ (upI (m.2 91) k (m.1 72)) j ∧ (upI (m.2 91) k (m.1 72)) j ≤ 9223372036854775807 := upI_rg (hT.2.1 91) ⟨by omega, by omega⟩
      refine T_last (a' := [(65, (m.2 65)), (66, (m.2 66)), (67, (m.2 67)), (68, (m.2 68)), (76, (m.2 76)), (77, (m.2 77)), (78, (m.2 78)), (79, (m.2 79)), (80, (m.2 80)), (85, upI (m.2 85) k (m.1 69)), (86, upI (m.2 86) k (m.1 70)), (87, (m.2 87)), (88, (m.2 88)), (89, upI (m.2 89) k (m.1 71)), (90, (m.2 90)), (91, upI (m.2 91) k (m.1 72)), (92, (m.2 92))]) 58 91 (m.2 91) rfl rfl rfl (by omega) (show k < (60 : Int) by omega) rfl rfl ?_
      refine T_gf 62 (.ref 241) rfl rfl rfl rfl rfl rfl ?_
      refine T_ld 63 (.int (i32 k)) rfl (fun _ => rfl) ?_
      refine T_ld 64 (.int (i32 1)) rfl (fun _ => rfl) ?_
      have G330 : ∀ j, 0 ≤ (upI (m.2 79) k 1) j ∧ (upI (m.2 79) k 1) j ≤ 2 := upI_rg (hT.2.1 79) ⟨by omega, by omega⟩
      refine T_iast (a' := [(65, (m.2 65)), (66, (m.2 66)), (67, (m.2 67)), (68, (m.2 68)), (76, (m.2 76)), (77, (m.2 77)), (78, (m.2 78)), (79, upI (m.2 79) k 1), (80, (m.2 80)), (85, upI (m.2 85) k (m.1 69)), (86, upI (m.2 86) k (m.1 70)), (87, (m.2 87)), (88, (m.2 88)), (89, upI (m.2 89) k (m.1 71)), (90, (m.2 90)), (91, upI (m.2 91) k (m.1 72)), (92, (m.2 92))]) 65 79 (m.2 79) rfl rfl rfl (by omega) (show k < (60 : Int) by omega) rfl rfl ?_
      have hXT : XT (m.2 65) (m.2 67) (m.2 76) (m.2 78) (upI (m.2 79) k 1) (m.2 80) B (m.1 28) (m.1 73) (m.1 74) 0 := XT_st (x := 1) (U' := 0) hk hXS.1 (by omega) (by omega)
      refine T_ld 66 (.ref 189) rfl (fun _ => rfl) ?_
      refine T_call 69 212 [.ref 189] [] rfl (fun _ => rfl) rfl (c_next w (mO m [(7, (m.1 7)), (8, (m.1 8)), (9, (m.1 9)), (10, (m.1 10)), (11, (m.1 11)), (12, (m.1 12)), (28, (m.1 28)), (69, (m.1 69)), (70, (m.1 70)), (71, (m.1 71)), (72, (m.1 72)), (73, (m.1 73)), (74, (m.1 74)), (75, (m.1 75))] [(65, (m.2 65)), (66, (m.2 66)), (67, (m.2 67)), (68, (m.2 68)), (76, (m.2 76)), (77, (m.2 77)), (78, (m.2 78)), (79, upI (m.2 79) k 1), (80, (m.2 80)), (85, upI (m.2 85) k (m.1 69)), (86, upI (m.2 86) k (m.1 70)), (87, (m.2 87)), (88, (m.2 88)), (89, upI (m.2 89) k (m.1 71)), (90, (m.2 90)), (91, upI (m.2 91) k (m.1 72)), (92, (m.2 92))]) c N D (by omega) (Ty_mO hT rfl rfl ⟨f7, f8, f9, f10, f11, f12, f28, f69, f70, f71, f72, f73, f74, f75, trivial⟩ ⟨(hT.2.1 65), (hT.2.1 66), (hT.2.1 67), (hT.2.1 68), (hT.2.1 76), (hT.2.1 77), (hT.2.1 78), G330, (hT.2.1 80), G326, G327, (hT.2.1 87), (hT.2.1 88), G328, (hT.2.1 90), G329, (hT.2.1 92), trivial⟩) (show (m.1 10) = 0 → (m.1 8) + (m.1 9) ≤ (m.1 6) by first | omega | (intro h9; have h8 := hLx h9; omega))) (fun rr331 k332 => ?_)
      obtain ⟨y333, y335, y337, y339, y341, y343, g334, g336, g338, g340, g342, g344, h345, h346, h347, h348, rfl⟩ := k332
      refine ⟨_, _, rfl, ?_⟩
      refine T_nf (st' := []) (l' := [(7, y333), (8, y335), (9, y337), (10, y339), (11, y341), (12, y343), (28, (m.1 28)), (69, (m.1 69)), (70, (m.1 70)), (71, (m.1 71)), (72, (m.1 72)), (73, (m.1 73)), (74, (m.1 74)), (75, (m.1 75))]) (a' := [(65, (m.2 65)), (66, (m.2 66)), (67, (m.2 67)), (68, (m.2 68)), (76, (m.2 76)), (77, (m.2 77)), (78, (m.2 78)), (79, upI (m.2 79) k 1), (80, (m.2 80)), (85, upI (m.2 85) k (m.1 69)), (86, upI (m.2 86) k (m.1 70)), (87, (m.2 87)), (88, (m.2 88)), (89, upI (m.2 89) k (m.1 71)), (90, (m.2 90)), (91, upI (m.2 91) k (m.1 72)), (92, (m.2 92))]) rfl rfl rfl rfl rfl ?_
      by_cases hf349 : y339 = 0
      · skip
        subst hf349
        replace h345 : LxP y333 y335 y337 (m.1 6) (0 : Int) := h345
        have hLx := h345
        replace h346 : (m.1 10) = 0 := h346 rfl
        replace h347 : (m.1 8) ≤ y335 := h347
        replace h348 : (m.1 8) + (m.1 9) ≤ y335 := h348 rfl
        have hAgC : agr (m.2 65) (m.2 65) (m.1 28) := by first | exact agr_r _ _ | exact hAgC | exact agr_t hAgC hAg (by omega)
        clear g340
        refine T_ld 70 (.ref 189) rfl (fun _ => rfl) ?_
        refine T_ld 71 (.int (i32 0)) rfl (fun _ => rfl) ?_
        refine T_pf (l' := [(7, y333), (8, y335), (9, y337), (10, 0), (11, y341), (12, y343), (28, (m.1 28)), (69, (m.1 69)), (70, (m.1 70)), (71, (m.1 71)), (72, (m.1 72)), (73, (m.1 73)), (74, (m.1 74)), (75, 0)]) 74 0 rfl rfl rfl rfl rfl rfl ?_
        have hXE : XS (m.2 65) (m.2 67) (m.2 76) (m.2 78) (upI (m.2 79) k 1) (m.2 80) B (m.1 28) (m.1 73) (m.1 74) (um (0 : Int)) := by
          rw [show um (0 : Int) = 0 from if_pos (by omega)]
          exact ⟨hXT, hXS.2⟩
        refine T_goto 151 rfl (fun _ => rfl) ?_
        refine T_ret rfl (fun _ => rfl) ?_
        exact ⟨y333, y335, y337, 0, y341, y343, (m.1 28), (m.1 69), (m.1 70), (m.1 71), (m.1 72), (m.1 73), (m.1 74), 0, (m.2 65), (m.2 66), (m.2 67), (m.2 68), (m.2 76), (m.2 77), (m.2 78), upI (m.2 79) k 1, (m.2 80), upI (m.2 85) k (m.1 69), upI (m.2 86) k (m.1 70), (m.2 87), (m.2 88), upI (m.2 89) k (m.1 71), (m.2 90), upI (m.2 91) k (m.1 72), (m.2 92), g334, g336, g338, ⟨by omega, by omega⟩, g342, g344, f28, f69, f70, f71, f72, f73, f74, ⟨by omega, by omega⟩, (hT.2.1 65), (hT.2.1 66), (hT.2.1 67), (hT.2.1 68), (hT.2.1 76), (hT.2.1 77), (hT.2.1 78), G330, (hT.2.1 80), G326, G327, (hT.2.1 87), (hT.2.1 88), G328, (hT.2.1 90), G329, (hT.2.1 92), (by omega), (by first | (first | exact hLx | (intro h9; exfalso; omega)) | (exfalso; omega)), (fun _ => ⟨(by omega), (by omega), (by omega), (by omega), (by first | (exact hXE) | (exfalso; omega)), (by first | (exact hAgC) | (exfalso; omega))⟩), rfl⟩
      · skip
        replace h345 : LxP y333 y335 y337 (m.1 6) y339 := h345
        have hLx := h345
        clear h346
        replace h347 : (m.1 8) ≤ y335 := h347
        clear h348
        have hf350 : 1 ≤ y339 := by omega
        refine T_ld 70 (.ref 189) rfl (fun _ => rfl) ?_
        refine T_ld 71 (.int (i32 0)) rfl (fun _ => rfl) ?_
        refine T_pf (l' := [(7, y333), (8, y335), (9, y337), (10, y339), (11, y341), (12, y343), (28, (m.1 28)), (69, (m.1 69)), (70, (m.1 70)), (71, (m.1 71)), (72, (m.1 72)), (73, (m.1 73)), (74, (m.1 74)), (75, 0)]) 74 0 rfl rfl rfl rfl rfl rfl ?_
        refine T_goto 151 rfl (fun _ => rfl) ?_
        refine T_ret rfl (fun _ => rfl) ?_
        exact ⟨y333, y335, y337, y339, y341, y343, (m.1 28), (m.1 69), (m.1 70), (m.1 71), (m.1 72), (m.1 73), (m.1 74), 0, (m.2 65), (m.2 66), (m.2 67), (m.2 68), (m.2 76), (m.2 77), (m.2 78), upI (m.2 79) k 1, (m.2 80), upI (m.2 85) k (m.1 69), upI (m.2 86) k (m.1 70), (m.2 87), (m.2 88), upI (m.2 89) k (m.1 71), (m.2 90), upI (m.2 91) k (m.1 72), (m.2 92), g334, g336, g338, g340, g342, g344, f28, f69, f70, f71, f72, f73, f74, ⟨by omega, by omega⟩, (hT.2.1 65), (hT.2.1 66), (hT.2.1 67), (hT.2.1 68), (hT.2.1 76), (hT.2.1 77), (hT.2.1 78), G330, (hT.2.1 80), G326, G327, (hT.2.1 87), (hT.2.1 88), G328, (hT.2.1 90), G329, (hT.2.1 92), (by omega), (by first | (first | exact hLx | (intro h9; exfalso; omega)) | (exfalso; omega)), (fun h => absurd h (by omega)), rfl⟩
def Q_goOn (m : mR) (c : Nat → Option am_C) (N : Nat) (B : Int) : ag_Re af_T → Prop := fun R => ∃ (y7 : Int) (y8 : Int) (y9 : Int) (y10 : Int) (y11 : Int) (y12 : Int) (y28 : Int) (y69 : Int) (y70 : Int) (y71 : Int) (y72 : Int) (y73 : Int) (y74 : Int) (y75 : Int) (F65 : Int → Int) (F66 : Int → Int) (F67 : Int → Int) (F68 : Int → Int) (F76 : Int → Int) (F77 : Int → Int) (F78 : Int → Int) (F79 : Int → Int) (F80 : Int → Int) (F81 : Int → Int) (F82 : Int → Int) (F83 : Int → Int) (F84 : Int → Int) (F85 : Int → Int) (F86 : Int → Int) (F87 : Int → Int) (F88 : Int → Int) (F89 : Int → Int) (F90 : Int → Int) (F91 : Int → Int) (F92 : Int → Int), (0 ≤ y7 ∧ y7 ≤ 330) ∧ (0 ≤ y8 ∧ y8 ≤ 4000) ∧ (0 ≤ y9 ∧ y9 ≤ 4000) ∧ (0 ≤ y10 ∧ y10 ≤ 8) ∧ ((-1) ≤ y11 ∧ y11 ≤ 4000) ∧ ((-9223372036854775808) ≤ y12 ∧ y12 ≤ 9223372036854775807) ∧ (0 ≤ y28 ∧ y28 ≤ 800) ∧ (0 ≤ y69 ∧ y69 ≤ 1024) ∧ (0 ≤ y70 ∧ y70 ≤ 4000) ∧ (0 ≤ y71 ∧ y71 ≤ 1) ∧ ((-9223372036854775808) ≤ y72 ∧ y72 ≤ 9223372036854775807) ∧ (0 ≤ y73 ∧ y73 ≤ 60) ∧ (0 ≤ y74 ∧ y74 ≤ 24) ∧ (0 ≤ y75 ∧ y75 ≤ 3) ∧ (∀ j, 0 ≤ F65 j ∧ F65 j ≤ 408) ∧ (∀ j, 0 ≤ F66 j ∧ F66 j ≤ 64) ∧ (∀ j, 0 ≤ F67 j ∧ F67 j ≤ 191) ∧ (∀ j, (-9223372036854775808) ≤ F68 j ∧ F68 j ≤ 9223372036854775807) ∧ (∀ j, 0 ≤ F76 j ∧ F76 j ≤ 2) ∧ (∀ j, 0 ≤ F77 j ∧ F77 j ≤ 4000) ∧ (∀ j, 0 ≤ F78 j ∧ F78 j ≤ 330) ∧ (∀ j, 0 ≤ F79 j ∧ F79 j ≤ 2) ∧ (∀ j, (-1) ≤ F80 j ∧ F80 j ≤ 330) ∧ (∀ j, 0 ≤ F81 j ∧ F81 j ≤ 64) ∧ (∀ j, 0 ≤ F82 j ∧ F82 j ≤ 4000) ∧ (∀ j, 0 ≤ F83 j ∧ F83 j ≤ 1) ∧ (∀ j, (-9223372036854775808) ≤ F84 j ∧ F84 j ≤ 9223372036854775807) ∧ (∀ j, 0 ≤ F85 j ∧ F85 j ≤ 64) ∧ (∀ j, 0 ≤ F86 j ∧ F86 j ≤ 4000) ∧ (∀ j, 0 ≤ F87 j ∧ F87 j ≤ 64) ∧ (∀ j, 0 ≤ F88 j ∧ F88 j ≤ 4000) ∧ (∀ j, 0 ≤ F89 j ∧ F89 j ≤ 1) ∧ (∀ j, 0 ≤ F90 j ∧ F90 j ≤ 1) ∧ (∀ j, (-9223372036854775808) ≤ F91 j ∧ F91 j ≤ 9223372036854775807) ∧ (∀ j, (-9223372036854775808) ≤ F92 j ∧ F92 j ≤ 9223372036854775807) ∧ (y10 = 0 → (m.1 10) = 0) ∧ (LxP y7 y8 y9 (m.1 6) y10) ∧ (y10 = 0 → ((m.1 8) + 1 ≤ y8 ∨ (y8 = (m.1 8) ∧ (y75 = 3 ∨ (y75 = 2 ∧ y73 + 1 ≤ (m.1 73))))) ∧ (y75 ≠ 0 → y69 ≤ 64) ∧ (y75 ≠ 3 → 1 ≤ y73) ∧ ((m.1 28) ≤ y28) ∧ (XS F65 F67 F76 F78 F79 F80 B y28 y73 y74 (um y75)) ∧ (agr (m.2 65) F65 (m.1 28))) ∧ R = (.inl (none), (mhp (mO m [(7, y7), (8, y8), (9, y9), (10, y10), (11, y11), (12, y12), (28, y28), (69, y69), (70, y70), (71, y71), (72, y72), (73, y73), (74, y74), (75, y75)] [(65, F65), (66, F66), (67, F67), (68, F68), (76, F76), (77, F77), (78, F78), (79, F79), (80, F80), (81, F81), (82, F82), (83, F83), (84, F84), (85, F85), (86, F86), (87, F87), (88, F88), (89, F89), (90, F90), (91, F91), (92, F92)]) c, N), 0, 0)
set_option maxHeartbeats 8000000 in
theorem c_goOn (w : wX) (m : mR) (c : Nat → Option am_C) (N D : Nat) (hD : 9 ≤ D) (hT : Ty m) (B : Int) (hLx0 : LxP (m.1 7) (m.1 8) (m.1 9) (m.1 6) (m.1 10)) (hf0 : m.1 10 = 0) (hC : (XS (m.2 65) (m.2 67) (m.2 76) (m.2 78) (m.2 79) (m.2 80) B (m.1 28) (m.1 73) (m.1 74) 1) ∧ (1 ≤ (m.1 73)) ∧ ((m.1 69) ≤ 64) ∧ ((m.1 75) = 2)) : TC w D 257 [.ref 189] (mhp m c, N) (Q_goOn m c N B) := by
  obtain ⟨D, rfl⟩ : ∃ k, D = k + 1 := ⟨D - 1, by omega⟩
  have hLx := hLx0
  have f7 : 0 ≤ m.1 7 ∧ m.1 7 ≤ 330 := hT.1 7
  have f8 : 0 ≤ m.1 8 ∧ m.1 8 ≤ 4000 := hT.1 8
  have f9 : 0 ≤ m.1 9 ∧ m.1 9 ≤ 4000 := hT.1 9
  have f10 : 0 ≤ m.1 10 ∧ m.1 10 ≤ 8 := hT.1 10
  have f11 : (-1) ≤ m.1 11 ∧ m.1 11 ≤ 4000 := hT.1 11
  have f12 : (-9223372036854775808) ≤ m.1 12 ∧ m.1 12 ≤ 9223372036854775807 := hT.1 12
  have f28 : 0 ≤ m.1 28 ∧ m.1 28 ≤ 800 := hT.1 28
  have f69 : 0 ≤ m.1 69 ∧ m.1 69 ≤ 1024 := hT.1 69
  have f70 : 0 ≤ m.1 70 ∧ m.1 70 ≤ 4000 := hT.1 70
  have f71 : 0 ≤ m.1 71 ∧ m.1 71 ≤ 1 := hT.1 71
  have f72 : (-9223372036854775808) ≤ m.1 72 ∧ m.1 72 ≤ 9223372036854775807 := hT.1 72
  have f73 : 0 ≤ m.1 73 ∧ m.1 73 ≤ 60 := hT.1 73
  have f74 : 0 ≤ m.1 74 ∧ m.1 74 ≤ 24 := hT.1 74
  have f75 : 0 ≤ m.1 75 ∧ m.1 75 ≤ 3 := hT.1 75
  have f6 : 0 ≤ m.1 6 ∧ m.1 6 ≤ 4000 := hT.1 6
  refine Tc_of rfl ?_
  show TT w D pm_257 (0, [(0, .ref 189)], [], (mhp m c, N), 0, 0) (Q_goOn m c N B)
  rw [show (mhp m c, N) = (mhp (mO m [(7, (m.1 7)), (8, (m.1 8)), (9, (m.1 9)), (10, (m.1 10)), (11, (m.1 11)), (12, (m.1 12)), (28, (m.1 28)), (69, (m.1 69)), (70, (m.1 70)), (71, (m.1 71)), (72, (m.1 72)), (73, (m.1 73)), (74, (m.1 74)), (75, (m.1 75))] [(65, (m.2 65)), (66, (m.2 66)), (67, (m.2 67)), (68, (m.2 68)), (76, (m.2 76)), (77, (m.2 77)), (78, (m.2 78)), (79, (m.2 79)), (80, (m.2 80)), (81, (m.2 81)), (82, (m.2 82)), (83, (m.2 83)), (84, (m.2 84)), (85, (m.2 85)), (86, (m.2 86)), (87, (m.2 87)), (88, (m.2 88)), (89, (m.2 89)), (90, (m.2 90)), (91, (m.2 91)), (92, (m.2 92))]) c, N) from congrArg (fun M => (mhp M c, N)) (mO_pad m [7, 8, 9, 10, 11, 12, 28, 69, 70, 71, 72, 73, 74, 75] [65, 66, 67, 68, 76, 77, 78, 79, 80, 81, 82, 83, 84, 85, 86, 87, 88, 89, 90, 91, 92])]
  obtain ⟨hXS, c1, c2, c3⟩ := hC
  have hb := OS_hi hXS.1.2
  have hAgC := agr_r (m.2 65) (m.1 28)
  have h7 := hLx (by omega)
  refine T_gf 4 (.int (i32 (m.1 73))) rfl rfl rfl rfl rfl rfl ?_
  refine T_ld 5 (.int (i32 1)) rfl (fun _ => rfl) ?_
  refine T_isub 6 rfl rfl ?_
  refine T_sto 7 [(1, .int (i32 ((m.1 73) - 1))), (0, .ref 189)] rfl (fun _ => rfl) ?_
  refine T_gf 11 (.ref 238) rfl rfl rfl rfl rfl rfl ?_
  refine T_ld 12 (.int (i32 ((m.1 73) - 1))) rfl (fun _ => rfl) ?_
  refine T_iald 13 76 (m.2 76) rfl rfl rfl (by omega) (show ((m.1 73) - 1) < (60 : Int) by omega) rfl ?_
  have e4 : 0 ≤ (m.2 76) ((m.1 73) - 1) ∧ (m.2 76) ((m.1 73) - 1) ≤ 2 := (hT.2.1 76) ((m.1 73) - 1)
  refine T_ld 14 (.int (i32 1)) rfl (fun _ => rfl) ?_
  refine T_icmp 130 17 rfl rfl rfl (r32 (by omega) (by omega)) ⟨by decide, by decide⟩ (fun (h5 : (m.2 76) ((m.1 73) - 1) ≠ 1) => ?_) (fun (h5 : ¬ ((m.2 76) ((m.1 73) - 1) ≠ 1)) => ?_)
  · skip
    refine T_gf 134 (.int (i32 (m.1 7))) rfl rfl rfl rfl rfl rfl ?_
    refine T_call 137 259 [.int (i32 (m.1 7))] [] rfl (fun _ => rfl) rfl (c_level w (mO m [(7, (m.1 7)), (8, (m.1 8)), (9, (m.1 9)), (10, (m.1 10)), (11, (m.1 11)), (12, (m.1 12)), (28, (m.1 28)), (69, (m.1 69)), (70, (m.1 70)), (71, (m.1 71)), (72, (m.1 72)), (73, (m.1 73)), (74, (m.1 74)), (75, (m.1 75))] [(65, (m.2 65)), (66, (m.2 66)), (67, (m.2 67)), (68, (m.2 68)), (76, (m.2 76)), (77, (m.2 77)), (78, (m.2 78)), (79, (m.2 79)), (80, (m.2 80)), (81, (m.2 81)), (82, (m.2 82)), (83, (m.2 83)), (84, (m.2 84)), (85, (m.2 85)), (86, (m.2 86)), (87, (m.2 87)), (88, (m.2 88)), (89, (m.2 89)), (90, (m.2 90)), (91, (m.2 91)), (92, (m.2 92))]) c N D (by omega) (Ty_mO hT rfl rfl ⟨f7, f8, f9, f10, f11, f12, f28, f69, f70, f71, f72, f73, f74, f75, trivial⟩ ⟨(hT.2.1 65), (hT.2.1 66), (hT.2.1 67), (hT.2.1 68), (hT.2.1 76), (hT.2.1 77), (hT.2.1 78), (hT.2.1 79), (hT.2.1 80), (hT.2.1 81), (hT.2.1 82), (hT.2.1 83), (hT.2.1 84), (hT.2.1 85), (hT.2.1 86), (hT.2.1 87), (hT.2.1 88), (hT.2.1 89), (hT.2.1 90), (hT.2.1 91), (hT.2.1 92), trivial⟩) (m.1 7) (r32 (by omega) (by omega))) (fun rr6 k7 => ?_)
    obtain ⟨x8, g9, h10, rfl⟩ := k7
    refine ⟨_, _, rfl, ?_⟩
    refine T_nf (st' := [.int (i32 x8)]) (l' := [(7, (m.1 7)), (8, (m.1 8)), (9, (m.1 9)), (10, (m.1 10)), (11, (m.1 11)), (12, (m.1 12)), (28, (m.1 28)), (69, (m.1 69)), (70, (m.1 70)), (71, (m.1 71)), (72, (m.1 72)), (73, (m.1 73)), (74, (m.1 74)), (75, (m.1 75))]) (a' := [(65, (m.2 65)), (66, (m.2 66)), (67, (m.2 67)), (68, (m.2 68)), (76, (m.2 76)), (77, (m.2 77)), (78, (m.2 78)), (79, (m.2 79)), (80, (m.2 80)), (81, (m.2 81)), (82, (m.2 82)), (83, (m.2 83)), (84, (m.2 84)), (85, (m.2 85)), (86, (m.2 86)), (87, (m.2 87)), (88, (m.2 88)), (89, (m.2 89)), (90, (m.2 90)), (91, (m.2 91)), (92, (m.2 92))]) rfl rfl rfl rfl rfl ?_
    obtain ⟨g9a, g9b⟩ := g9
    replace h10 : 0 ≤ x8 → 4 ≤ (m.1 7) ∧ (m.1 7) ≤ 124 := h10
    have u11 : (m.1 8) ≤ (m.1 8) := by omega
    have hAgC : agr (m.2 65) (m.2 65) (m.1 28) := by first | exact agr_r _ _ | exact hAgC | exact agr_t hAgC hAg (by omega)
    refine T_sto 138 [(2, .int (i32 x8)), (1, .int (i32 ((m.1 73) - 1))), (0, .ref 189)] rfl (fun _ => rfl) ?_
    refine T_ld 139 (.int (i32 x8)) rfl (fun _ => rfl) ?_
    refine T_ld 140 (.int (i32 2)) rfl (fun _ => rfl) ?_
    have J159_13 : ∀ (v12 : Int), (R32 v12) → ((-1) ≤ v12) → (v12 ≤ 8) → TT w D pm_257 (159, [(0, .ref 189), (1, .int (i32 ((m.1 73) - 1))), (2, .int (i32 v12))], [], (mhp (mO m [(7, (m.1 7)), (8, (m.1 8)), (9, (m.1 9)), (10, (m.1 10)), (11, (m.1 11)), (12, (m.1 12)), (28, (m.1 28)), (69, (m.1 69)), (70, (m.1 70)), (71, (m.1 71)), (72, (m.1 72)), (73, (m.1 73)), (74, (m.1 74)), (75, (m.1 75))] [(65, (m.2 65)), (66, (m.2 66)), (67, (m.2 67)), (68, (m.2 68)), (76, (m.2 76)), (77, (m.2 77)), (78, (m.2 78)), (79, (m.2 79)), (80, (m.2 80)), (81, (m.2 81)), (82, (m.2 82)), (83, (m.2 83)), (84, (m.2 84)), (85, (m.2 85)), (86, (m.2 86)), (87, (m.2 87)), (88, (m.2 88)), (89, (m.2 89)), (90, (m.2 90)), (91, (m.2 91)), (92, (m.2 92))]) c, N), 0, 0) (Q_goOn m c N B) := by
      intro v12 q14 ic15 ic16
      obtain ⟨q14a, q14b⟩ := id q14
      refine T_ld 161 (.int (i32 8)) rfl (fun _ => rfl) ?_
      refine T_sto 162 [(3, .int (i32 8)), (0, .ref 189), (1, .int (i32 ((m.1 73) - 1))), (2, .int (i32 v12))] rfl (fun _ => rfl) ?_
      have L162_31 : ∀ (n : Nat) (v18 : Int) (y19 : Int) (y20 : Int) (y21 : Int) (y22 : Int) (y23 : Int) (y24 : Int) (y25 : Int) (F26 : Int → Int) (F27 : Int → Int) (F28 : Int → Int) (F29 : Int → Int) (F30 : Int → Int), (R32 v18) → (0 ≤ y19 ∧ y19 ≤ 8) → ((-1) ≤ y20 ∧ y20 ≤ 4000) → (0 ≤ y21 ∧ y21 ≤ 800) → (0 ≤ y22 ∧ y22 ≤ 1024) → (0 ≤ y23 ∧ y23 ≤ 4000) → (0 ≤ y24 ∧ y24 ≤ 1) → ((-9223372036854775808) ≤ y25 ∧ y25 ≤ 9223372036854775807) → (∀ j, 0 ≤ F26 j ∧ F26 j ≤ 408) → (∀ j, 0 ≤ F27 j ∧ F27 j ≤ 64) → (∀ j, 0 ≤ F28 j ∧ F28 j ≤ 191) → (∀ j, (-9223372036854775808) ≤ F29 j ∧ F29 j ≤ 9223372036854775807) → (∀ j, (-1) ≤ F30 j ∧ F30 j ≤ 330) → (v18 ≤ 8) → ((-1) ≤ v18) → (y22 ≤ 64 * (9 - v18)) → (y19 = 0 → (XS F26 F28 (m.2 76) (m.2 78) (m.2 79) F30 B y21 (m.1 73) (m.1 74) 1) ∧ (y22 ≤ 64) ∧ ((m.1 28) ≤ y21) ∧ (agr (m.2 65) F26 (m.1 28))) → v18 + 1 < (n : Int) → TT w D pm_257 (162, [(0, .ref 189), (1, .int (i32 ((m.1 73) - 1))), (2, .int (i32 v12)), (3, .int (i32 v18))], [], (mhp (mO m [(7, (m.1 7)), (8, (m.1 8)), (9, (m.1 9)), (10, y19), (11, y20), (12, (m.1 12)), (28, y21), (69, y22), (70, y23), (71, y24), (72, y25), (73, (m.1 73)), (74, (m.1 74)), (75, (m.1 75))] [(65, F26), (66, F27), (67, F28), (68, F29), (76, (m.2 76)), (77, (m.2 77)), (78, (m.2 78)), (79, (m.2 79)), (80, F30), (81, (m.2 81)), (82, (m.2 82)), (83, (m.2 83)), (84, (m.2 84)), (85, (m.2 85)), (86, (m.2 86)), (87, (m.2 87)), (88, (m.2 88)), (89, (m.2 89)), (90, (m.2 90)), (91, (m.2 91)), (92, (m.2 92))]) c, N), 0, 0) (Q_goOn m c N B) := by
        intro n
        induction n with
        | zero =>
          intro v18 y19 y20 y21 y22 y23 y24 y25 F26 F27 F28 F29 F30 q32 q33 q34 q35 q36 q37 q38 q39 q40 q41 q42 q43 q44 ic45 ic46 ic47 c48 hmu
          obtain ⟨q32a, q32b⟩ := id q32
          exfalso
          omega
        | succ n ih =>
          intro v18 y19 y20 y21 y22 y23 y24 y25 F26 F27 F28 F29 F30 q32 q33 q34 q35 q36 q37 q38 q39 q40 q41 q42 q43 q44 ic45 ic46 ic47 c48 hmu
          obtain ⟨q32a, q32b⟩ := id q32
          have ih49 := ih
          by_cases hf50 : y19 = 0
          · skip
            subst hf50
            obtain ⟨c51, c52, c53, c54⟩ := c48 rfl
            have hXS := c51
            have hAgC := c54
            refine T_ld 163 (.int (i32 v18)) rfl (fun _ => rfl) ?_
            refine T_if 204 166 rfl rfl rfl (r32 (by omega) (by omega)) (fun (h55 : v18 < 0) => ?_) (fun (h55 : ¬ (v18 < 0)) => ?_)
            · skip
              refine T_gf 208 (.int (i32 0)) rfl rfl rfl rfl rfl rfl ?_
              refine T_if 212 211 rfl rfl rfl ⟨by decide, by decide⟩ (fun _ => ?_) (fun h56 => absurd (show (0 : Int) ≤ 0 by decide) h56)
              refine T_ld 213 (.int (i32 v12)) rfl (fun _ => rfl) ?_
              refine T_if 285 216 rfl rfl rfl (r32 (by omega) (by omega)) (fun (h57 : v12 < 0) => ?_) (fun (h57 : ¬ (v12 < 0)) => ?_)
              · skip
                refine T_ld 286 (.ref 189) rfl (fun _ => rfl) ?_
                refine T_ld 287 (.int (i32 ((m.1 73) - 1))) rfl (fun _ => rfl) ?_
                refine T_call 290 263 [.ref 189, .int (i32 ((m.1 73) - 1))] [] rfl (fun _ => rfl) rfl (c_endOr w (mO m [(7, (m.1 7)), (8, (m.1 8)), (9, (m.1 9)), (10, 0), (11, y20), (12, (m.1 12)), (28, y21), (69, y22), (70, y23), (71, y24), (72, y25), (73, (m.1 73)), (74, (m.1 74)), (75, (m.1 75))] [(65, F26), (66, F27), (67, F28), (68, F29), (76, (m.2 76)), (77, (m.2 77)), (78, (m.2 78)), (79, (m.2 79)), (80, F30), (81, (m.2 81)), (82, (m.2 82)), (83, (m.2 83)), (84, (m.2 84)), (85, (m.2 85)), (86, (m.2 86)), (87, (m.2 87)), (88, (m.2 88)), (89, (m.2 89)), (90, (m.2 90)), (91, (m.2 91)), (92, (m.2 92))]) c N D (by omega) (Ty_mO hT rfl rfl ⟨f7, f8, f9, ⟨(by omega : (0 : Int) ≤ 0), (by omega : (0 : Int) ≤ 8)⟩, q34, f12, q35, q36, q37, q38, q39, f73, f74, f75, trivial⟩ ⟨q40, q41, q42, q43, (hT.2.1 76), (hT.2.1 77), (hT.2.1 78), (hT.2.1 79), q44, (hT.2.1 81), (hT.2.1 82), (hT.2.1 83), (hT.2.1 84), (hT.2.1 85), (hT.2.1 86), (hT.2.1 87), (hT.2.1 88), (hT.2.1 89), (hT.2.1 90), (hT.2.1 91), (hT.2.1 92), trivial⟩) ((m.1 73) - 1) B (r32 (by omega) (by omega)) (show LxP (m.1 7) (m.1 8) (m.1 9) (m.1 6) (0 : Int) by first | exact hLx | (intro h9; exfalso; omega)) (show 0 = 0 by omega) ⟨(show XS F26 F28 (m.2 76) (m.2 78) (m.2 79) F30 B y21 (m.1 73) (m.1 74) 1 by first | exact hXS | assumption), (show ((m.1 73) - 1) = (m.1 73) - 1 by omega), (show 1 ≤ (m.1 73) by omega), (show (m.2 76) ((m.1 73) - 1) = 0 by omega), (show y22 ≤ 64 by omega), (show (m.1 75) = 2 by omega)⟩) (fun rr58 k59 => ?_)
                obtain ⟨y60, y62, y64, y66, y68, y70, y72, y74, y76, y78, y80, y82, y84, y86, F88, F90, F92, F94, F96, F98, F100, F102, F104, F106, F108, F110, F112, F114, F116, F118, F120, g61, g63, g65, g67, g69, g71, g73, g75, g77, g79, g81, g83, g85, g87, G89, G91, G93, G95, G97, G99, G101, G103, G105, G107, G109, G111, G113, G115, G117, G119, G121, h122, h123, c124, rfl⟩ := k59
                refine ⟨_, _, rfl, ?_⟩
                refine T_nf (st' := []) (l' := [(7, y60), (8, y62), (9, y64), (10, y66), (11, y68), (12, y70), (28, y72), (69, y74), (70, y76), (71, y78), (72, y80), (73, y82), (74, y84), (75, y86)]) (a' := [(65, F88), (66, F90), (67, F92), (68, F94), (76, F96), (77, F98), (78, F100), (79, F102), (80, F104), (81, (m.2 81)), (82, (m.2 82)), (83, (m.2 83)), (84, (m.2 84)), (85, F106), (86, F108), (87, F110), (88, F112), (89, F114), (90, F116), (91, F118), (92, F120)]) rfl rfl rfl rfl rfl ?_
                by_cases hf125 : y66 = 0
                · skip
                  subst hf125
                  replace h122 : (0 : Int) = 0 := h122 rfl
                  replace h123 : LxP y60 y62 y64 (m.1 6) (0 : Int) := h123
                  have hLx := h123
                  obtain ⟨c126, c127, c128, c129, c130, c131⟩ := c124 rfl
                  replace c126 : (m.1 8) + 1 ≤ y62 ∨ (y62 = (m.1 8) ∧ (y86 = 3 ∨ (y86 = 2 ∧ y82 + 1 ≤ (m.1 73)))) := c126
                  replace c127 : y86 ≠ 0 → y74 ≤ 64 := c127
                  replace c128 : y86 ≠ 3 → 1 ≤ y82 := c128
                  replace c129 : y21 ≤ y72 := c129
                  replace c130 : XS F88 F92 F96 F100 F102 F104 B y72 y82 y84 (um y86) := c130
                  have hXE := c130
                  replace c131 : agr F26 F88 y21 := c131
                  have hAg := c131
                  clear c124
                  have u132 : (m.1 8) ≤ y62 := by omega
                  have hAgC : agr (m.2 65) F88 (m.1 28) := by first | exact agr_r _ _ | exact hAgC | exact agr_t hAgC hAg (by omega)
                  clear g9a g9b h10 q33 q34 q35 q36 q37 q38 q39 ic47 c51 c52 c53 c54 g67 c129 c131
                  refine T_ret rfl (fun _ => rfl) ?_
                  exact ⟨y60, y62, y64, 0, y68, y70, y72, y74, y76, y78, y80, y82, y84, y86, F88, F90, F92, F94, F96, F98, F100, F102, F104, (m.2 81), (m.2 82), (m.2 83), (m.2 84), F106, F108, F110, F112, F114, F116, F118, F120, g61, g63, g65, ⟨by omega, by omega⟩, g69, g71, g73, g75, g77, g79, g81, g83, g85, g87, G89, G91, G93, G95, G97, G99, G101, G103, G105, (hT.2.1 81), (hT.2.1 82), (hT.2.1 83), (hT.2.1 84), G107, G109, G111, G113, G115, G117, G119, G121, (by omega), (by first | (first | exact hLx | (intro h9; exfalso; omega)) | (exfalso; omega)), (fun _ => ⟨(by omega), (by omega), (by omega), (by omega), (by first | (exact hXE) | (exfalso; omega)), (by first | (exact hAgC) | (exfalso; omega))⟩), rfl⟩
                · skip
                  clear c124
                  clear h122
                  replace h123 : LxP y60 y62 y64 (m.1 6) y66 := h123
                  have hLx := h123
                  have hf133 : 1 ≤ y66 := by omega
                  clear g9a g9b h10 q33 q34 q35 q36 q37 q38 q39 ic47 c51 c52 c53 c54
                  refine T_ret rfl (fun _ => rfl) ?_
                  exact ⟨y60, y62, y64, y66, y68, y70, y72, y74, y76, y78, y80, y82, y84, y86, F88, F90, F92, F94, F96, F98, F100, F102, F104, (m.2 81), (m.2 82), (m.2 83), (m.2 84), F106, F108, F110, F112, F114, F116, F118, F120, g61, g63, g65, g67, g69, g71, g73, g75, g77, g79, g81, g83, g85, g87, G89, G91, G93, G95, G97, G99, G101, G103, G105, (hT.2.1 81), (hT.2.1 82), (hT.2.1 83), (hT.2.1 84), G107, G109, G111, G113, G115, G117, G119, G121, (by omega), (by first | (first | exact hLx | (intro h9; exfalso; omega)) | (exfalso; omega)), (fun h => absurd h (by omega)), rfl⟩
              · skip
                refine T_ld 218 (.int (i32 9)) rfl (fun _ => rfl) ?_
                refine T_ld 219 (.int (i32 ((m.1 73) - 1))) rfl (fun _ => rfl) ?_
                refine T_imul 220 rfl rfl ?_
                refine T_ld 221 (.int (i32 v12)) rfl (fun _ => rfl) ?_
                refine T_iadd 222 rfl rfl ?_
                refine T_sto 223 [(3, .int (i32 ((9 * ((m.1 73) - 1)) + v12))), (0, .ref 189), (1, .int (i32 ((m.1 73) - 1))), (2, .int (i32 v12))] rfl (fun _ => rfl) ?_
                have hXE0 := XS_ws (i := ((9 * ((m.1 73) - 1)) + v12)) (x := (m.1 7)) (U' := 0) hXS (by omega) (by omega) (by omega) (by have := cn1_0 F30 ((9 * ((m.1 73) - 1)) + v12); split <;> omega)
                refine T_gf 227 (.ref 242) rfl rfl rfl rfl rfl rfl ?_
                refine T_ld 228 (.int (i32 ((9 * ((m.1 73) - 1)) + v12))) rfl (fun _ => rfl) ?_
                refine T_gf 232 (.int (i32 (m.1 7))) rfl rfl rfl rfl rfl rfl ?_
                have G134 : ∀ j, (-1) ≤ (upI F30 ((9 * ((m.1 73) - 1)) + v12) (m.1 7)) j ∧ (upI F30 ((9 * ((m.1 73) - 1)) + v12) (m.1 7)) j ≤ 330 := upI_rg q44 ⟨by omega, by omega⟩
                refine T_iast (a' := [(65, F26), (66, F27), (67, F28), (68, F29), (76, (m.2 76)), (77, (m.2 77)), (78, (m.2 78)), (79, (m.2 79)), (80, upI F30 ((9 * ((m.1 73) - 1)) + v12) (m.1 7)), (81, (m.2 81)), (82, (m.2 82)), (83, (m.2 83)), (84, (m.2 84)), (85, (m.2 85)), (86, (m.2 86)), (87, (m.2 87)), (88, (m.2 88)), (89, (m.2 89)), (90, (m.2 90)), (91, (m.2 91)), (92, (m.2 92))]) 233 80 F30 rfl rfl rfl (by omega) (show ((9 * ((m.1 73) - 1)) + v12) < (540 : Int) by omega) rfl rfl ?_
                refine T_gf 237 (.ref 243) rfl rfl rfl rfl rfl rfl ?_
                refine T_ld 238 (.int (i32 ((9 * ((m.1 73) - 1)) + v12))) rfl (fun _ => rfl) ?_
                refine T_gf 242 (.int (i32 y22)) rfl rfl rfl rfl rfl rfl ?_
                have G135 : ∀ j, 0 ≤ (upI (m.2 81) ((9 * ((m.1 73) - 1)) + v12) y22) j ∧ (upI (m.2 81) ((9 * ((m.1 73) - 1)) + v12) y22) j ≤ 64 := upI_rg (hT.2.1 81) ⟨by omega, by omega⟩
                refine T_iast (a' := [(65, F26), (66, F27), (67, F28), (68, F29), (76, (m.2 76)), (77, (m.2 77)), (78, (m.2 78)), (79, (m.2 79)), (80, upI F30 ((9 * ((m.1 73) - 1)) + v12) (m.1 7)), (81, upI (m.2 81) ((9 * ((m.1 73) - 1)) + v12) y22), (82, (m.2 82)), (83, (m.2 83)), (84, (m.2 84)), (85, (m.2 85)), (86, (m.2 86)), (87, (m.2 87)), (88, (m.2 88)), (89, (m.2 89)), (90, (m.2 90)), (91, (m.2 91)), (92, (m.2 92))]) 243 81 (m.2 81) rfl rfl rfl (by omega) (show ((9 * ((m.1 73) - 1)) + v12) < (540 : Int) by omega) rfl rfl ?_
                refine T_gf 247 (.ref 244) rfl rfl rfl rfl rfl rfl ?_
                refine T_ld 248 (.int (i32 ((9 * ((m.1 73) - 1)) + v12))) rfl (fun _ => rfl) ?_
                refine T_gf 252 (.int (i32 y23)) rfl rfl rfl rfl rfl rfl ?_
                have G136 : ∀ j, 0 ≤ (upI (m.2 82) ((9 * ((m.1 73) - 1)) + v12) y23) j ∧ (upI (m.2 82) ((9 * ((m.1 73) - 1)) + v12) y23) j ≤ 4000 := upI_rg (hT.2.1 82) ⟨by omega, by omega⟩
                refine T_iast (a' := [(65, F26), (66, F27), (67, F28), (68, F29), (76, (m.2 76)), (77, (m.2 77)), (78, (m.2 78)), (79, (m.2 79)), (80, upI F30 ((9 * ((m.1 73) - 1)) + v12) (m.1 7)), (81, upI (m.2 81) ((9 * ((m.1 73) - 1)) + v12) y22), (82, upI (m.2 82) ((9 * ((m.1 73) - 1)) + v12) y23), (83, (m.2 83)), (84, (m.2 84)), (85, (m.2 85)), (86, (m.2 86)), (87, (m.2 87)), (88, (m.2 88)), (89, (m.2 89)), (90, (m.2 90)), (91, (m.2 91)), (92, (m.2 92))]) 253 82 (m.2 82) rfl rfl rfl (by omega) (show ((9 * ((m.1 73) - 1)) + v12) < (540 : Int) by omega) rfl rfl ?_
                refine T_gf 257 (.ref 245) rfl rfl rfl rfl rfl rfl ?_
                refine T_ld 258 (.int (i32 ((9 * ((m.1 73) - 1)) + v12))) rfl (fun _ => rfl) ?_
                refine T_gf 262 (.int (i32 y24)) rfl rfl rfl rfl rfl rfl ?_
                have G137 : ∀ j, 0 ≤ (upI (m.2 83) ((9 * ((m.1 73) - 1)) + v12) y24) j ∧ (upI (m.2 83) ((9 * ((m.1 73) - 1)) + v12) y24) j ≤ 1 := upI_rg (hT.2.1 83) ⟨by omega, by omega⟩
                refine T_bast (a' := [(65, F26), (66, F27), (67, F28), (68, F29), (76, (m.2 76)), (77, (m.2 77)), (78, (m.2 78)), (79, (m.2 79)), (80, upI F30 ((9 * ((m.1 73) - 1)) + v12) (m.1 7)), (81, upI (m.2 81) ((9 * ((m.1 73) - 1)) + v12) y22), (82, upI (m.2 82) ((9 * ((m.1 73) - 1)) + v12) y23), (83, upI (m.2 83) ((9 * ((m.1 73) - 1)) + v12) y24), (84, (m.2 84)), (85, (m.2 85)), (86, (m.2 86)), (87, (m.2 87)), (88, (m.2 88)), (89, (m.2 89)), (90, (m.2 90)), (91, (m.2 91)), (92, (m.2 92))]) 263 83 (m.2 83) rfl rfl rfl (by omega) (show ((9 * ((m.1 73) - 1)) + v12) < (540 : Int) by omega) (by omega) rfl rfl ?_
                refine T_gf 267 (.ref 246) rfl rfl rfl rfl rfl rfl ?_
                refine T_ld 268 (.int (i32 ((9 * ((m.1 73) - 1)) + v12))) rfl (fun _ => rfl) ?_
                refine T_gf 272 (.long (i64 y25)) rfl rfl rfl rfl rfl rfl ?_
                have G138 : ∀ j, (-9223372036854775808) ≤ (upI (m.2 84) ((9 * ((m.1 73) - 1)) + v12) y25) j ∧ (upI (m.2 84) ((9 * ((m.1 73) - 1)) + v12) y25) j ≤ 9223372036854775807 := upI_rg (hT.2.1 84) ⟨by omega, by omega⟩
                refine T_last (a' := [(65, F26), (66, F27), (67, F28), (68, F29), (76, (m.2 76)), (77, (m.2 77)), (78, (m.2 78)), (79, (m.2 79)), (80, upI F30 ((9 * ((m.1 73) - 1)) + v12) (m.1 7)), (81, upI (m.2 81) ((9 * ((m.1 73) - 1)) + v12) y22), (82, upI (m.2 82) ((9 * ((m.1 73) - 1)) + v12) y23), (83, upI (m.2 83) ((9 * ((m.1 73) - 1)) + v12) y24), (84, upI (m.2 84) ((9 * ((m.1 73) - 1)) + v12) y25), (85, (m.2 85)), (86, (m.2 86)), (87, (m.2 87)), (88, (m.2 88)), (89, (m.2 89)), (90, (m.2 90)), (91, (m.2 91)), (92, (m.2 92))]) 273 84 (m.2 84) rfl rfl rfl (by omega) (show ((9 * ((m.1 73) - 1)) + v12) < (540 : Int) by omega) rfl rfl ?_
                refine T_ld 274 (.ref 189) rfl (fun _ => rfl) ?_
                refine T_call 277 212 [.ref 189] [] rfl (fun _ => rfl) rfl (c_next w (mO m [(7, (m.1 7)), (8, (m.1 8)), (9, (m.1 9)), (10, 0), (11, y20), (12, (m.1 12)), (28, y21), (69, y22), (70, y23), (71, y24), (72, y25), (73, (m.1 73)), (74, (m.1 74)), (75, (m.1 75))] [(65, F26), (66, F27), (67, F28), (68, F29), (76, (m.2 76)), (77, (m.2 77)), (78, (m.2 78)), (79, (m.2 79)), (80, upI F30 ((9 * ((m.1 73) - 1)) + v12) (m.1 7)), (81, upI (m.2 81) ((9 * ((m.1 73) - 1)) + v12) y22), (82, upI (m.2 82) ((9 * ((m.1 73) - 1)) + v12) y23), (83, upI (m.2 83) ((9 * ((m.1 73) - 1)) + v12) y24), (84, upI (m.2 84) ((9 * ((m.1 73) - 1)) + v12) y25), (85, (m.2 85)), (86, (m.2 86)), (87, (m.2 87)), (88, (m.2 88)), (89, (m.2 89)), (90, (m.2 90)), (91, (m.2 91)), (92, (m.2 92))]) c N D (by omega) (Ty_mO hT rfl rfl ⟨f7, f8, f9, ⟨(by omega : (0 : Int) ≤ 0), (by omega : (0 : Int) ≤ 8)⟩, q34, f12, q35, q36, q37, q38, q39, f73, f74, f75, trivial⟩ ⟨q40, q41, q42, q43, (hT.2.1 76), (hT.2.1 77), (hT.2.1 78), (hT.2.1 79), G134, G135, G136, G137, G138, (hT.2.1 85), (hT.2.1 86), (hT.2.1 87), (hT.2.1 88), (hT.2.1 89), (hT.2.1 90), (hT.2.1 91), (hT.2.1 92), trivial⟩) (show (0 : Int) = 0 → (m.1 8) + (m.1 9) ≤ (m.1 6) by first | omega | (intro h9; have h8 := hLx h9; omega))) (fun rr139 k140 => ?_)
                obtain ⟨y141, y143, y145, y147, y149, y151, g142, g144, g146, g148, g150, g152, h153, h154, h155, h156, rfl⟩ := k140
                refine ⟨_, _, rfl, ?_⟩
                refine T_nf (st' := []) (l' := [(7, y141), (8, y143), (9, y145), (10, y147), (11, y149), (12, y151), (28, y21), (69, y22), (70, y23), (71, y24), (72, y25), (73, (m.1 73)), (74, (m.1 74)), (75, (m.1 75))]) (a' := [(65, F26), (66, F27), (67, F28), (68, F29), (76, (m.2 76)), (77, (m.2 77)), (78, (m.2 78)), (79, (m.2 79)), (80, upI F30 ((9 * ((m.1 73) - 1)) + v12) (m.1 7)), (81, upI (m.2 81) ((9 * ((m.1 73) - 1)) + v12) y22), (82, upI (m.2 82) ((9 * ((m.1 73) - 1)) + v12) y23), (83, upI (m.2 83) ((9 * ((m.1 73) - 1)) + v12) y24), (84, upI (m.2 84) ((9 * ((m.1 73) - 1)) + v12) y25), (85, (m.2 85)), (86, (m.2 86)), (87, (m.2 87)), (88, (m.2 88)), (89, (m.2 89)), (90, (m.2 90)), (91, (m.2 91)), (92, (m.2 92))]) rfl rfl rfl rfl rfl ?_
                by_cases hf157 : y147 = 0
                · skip
                  subst hf157
                  replace h153 : LxP y141 y143 y145 (m.1 6) (0 : Int) := h153
                  have hLx := h153
                  replace h154 : (0 : Int) = 0 := h154 rfl
                  replace h155 : (m.1 8) ≤ y143 := h155
                  replace h156 : (m.1 8) + (m.1 9) ≤ y143 := h156 rfl
                  have u158 : (m.1 8) + 1 ≤ y143 := by omega
                  have hAgC : agr (m.2 65) F26 (m.1 28) := by first | exact agr_r _ _ | exact hAgC | exact agr_t hAgC hAg (by omega)
                  clear g9a g9b h10 q32a q32b q32 q33 q34 ic45 ic46 ic47 h55 g148
                  refine T_ld 278 (.ref 189) rfl (fun _ => rfl) ?_
                  refine T_ld 279 (.int (i32 0)) rfl (fun _ => rfl) ?_
                  refine T_pf (l' := [(7, y141), (8, y143), (9, y145), (10, 0), (11, y149), (12, y151), (28, y21), (69, y22), (70, y23), (71, y24), (72, y25), (73, (m.1 73)), (74, (m.1 74)), (75, 0)]) 282 0 rfl rfl rfl rfl rfl rfl ?_
                  have hXE : XS F26 F28 (m.2 76) (m.2 78) (m.2 79) (upI F30 ((9 * ((m.1 73) - 1)) + v12) (m.1 7)) B y21 (m.1 73) (m.1 74) (um (0 : Int)) := by
                    rw [show um (0 : Int) = 0 from if_pos (by omega)]
                    exact hXE0
                  refine T_goto 290 rfl (fun _ => rfl) ?_
                  refine T_ret rfl (fun _ => rfl) ?_
                  exact ⟨y141, y143, y145, 0, y149, y151, y21, y22, y23, y24, y25, (m.1 73), (m.1 74), 0, F26, F27, F28, F29, (m.2 76), (m.2 77), (m.2 78), (m.2 79), upI F30 ((9 * ((m.1 73) - 1)) + v12) (m.1 7), upI (m.2 81) ((9 * ((m.1 73) - 1)) + v12) y22, upI (m.2 82) ((9 * ((m.1 73) - 1)) + v12) y23, upI (m.2 83) ((9 * ((m.1 73) - 1)) + v12) y24, upI (m.2 84) ((9 * ((m.1 73) - 1)) + v12) y25, (m.2 85), (m.2 86), (m.2 87), (m.2 88), (m.2 89), (m.2 90), (m.2 91), (m.2 92), g142, g144, g146, ⟨by omega, by omega⟩, g150, g152, q35, q36, q37, q38, q39, f73, f74, ⟨by omega, by omega⟩, q40, q41, q42, q43, (hT.2.1 76), (hT.2.1 77), (hT.2.1 78), (hT.2.1 79), G134, G135, G136, G137, G138, (hT.2.1 85), (hT.2.1 86), (hT.2.1 87), (hT.2.1 88), (hT.2.1 89), (hT.2.1 90), (hT.2.1 91), (hT.2.1 92), (by omega), (by first | (first | exact hLx | (intro h9; exfalso; omega)) | (exfalso; omega)), (fun _ => ⟨(by omega), (by omega), (by omega), (by omega), (by first | (exact hXE) | (exfalso; omega)), (by first | (exact hAgC) | (exfalso; omega))⟩), rfl⟩
                · skip
                  replace h153 : LxP y141 y143 y145 (m.1 6) y147 := h153
                  have hLx := h153
                  clear h154
                  replace h155 : (m.1 8) ≤ y143 := h155
                  clear h156
                  have hf159 : 1 ≤ y147 := by omega
                  clear g9a g9b h10 q32a q32b q32 q33 q34 ic45 ic46 ic47 h55
                  refine T_ld 278 (.ref 189) rfl (fun _ => rfl) ?_
                  refine T_ld 279 (.int (i32 0)) rfl (fun _ => rfl) ?_
                  refine T_pf (l' := [(7, y141), (8, y143), (9, y145), (10, y147), (11, y149), (12, y151), (28, y21), (69, y22), (70, y23), (71, y24), (72, y25), (73, (m.1 73)), (74, (m.1 74)), (75, 0)]) 282 0 rfl rfl rfl rfl rfl rfl ?_
                  refine T_goto 290 rfl (fun _ => rfl) ?_
                  refine T_ret rfl (fun _ => rfl) ?_
                  exact ⟨y141, y143, y145, y147, y149, y151, y21, y22, y23, y24, y25, (m.1 73), (m.1 74), 0, F26, F27, F28, F29, (m.2 76), (m.2 77), (m.2 78), (m.2 79), upI F30 ((9 * ((m.1 73) - 1)) + v12) (m.1 7), upI (m.2 81) ((9 * ((m.1 73) - 1)) + v12) y22, upI (m.2 82) ((9 * ((m.1 73) - 1)) + v12) y23, upI (m.2 83) ((9 * ((m.1 73) - 1)) + v12) y24, upI (m.2 84) ((9 * ((m.1 73) - 1)) + v12) y25, (m.2 85), (m.2 86), (m.2 87), (m.2 88), (m.2 89), (m.2 90), (m.2 91), (m.2 92), g142, g144, g146, g148, g150, g152, q35, q36, q37, q38, q39, f73, f74, ⟨by omega, by omega⟩, q40, q41, q42, q43, (hT.2.1 76), (hT.2.1 77), (hT.2.1 78), (hT.2.1 79), G134, G135, G136, G137, G138, (hT.2.1 85), (hT.2.1 86), (hT.2.1 87), (hT.2.1 88), (hT.2.1 89), (hT.2.1 90), (hT.2.1 91), (hT.2.1 92), (by omega), (by first | (first | exact hLx | (intro h9; exfalso; omega)) | (exfalso; omega)), (fun h => absurd h (by omega)), rfl⟩
            · skip
              refine T_ld 167 (.int (i32 v18)) rfl (fun _ => rfl) ?_
              refine T_ld 168 (.int (i32 v12)) rfl (fun _ => rfl) ?_
              refine T_icmp 204 171 rfl rfl rfl (r32 (by omega) (by omega)) (r32 (by omega) (by omega)) (fun (h160 : v18 < v12) => ?_) (fun (h160 : ¬ (v18 < v12)) => ?_)
              · skip
                refine T_gf 208 (.int (i32 0)) rfl rfl rfl rfl rfl rfl ?_
                refine T_if 212 211 rfl rfl rfl ⟨by decide, by decide⟩ (fun _ => ?_) (fun h161 => absurd (show (0 : Int) ≤ 0 by decide) h161)
                refine T_ld 213 (.int (i32 v12)) rfl (fun _ => rfl) ?_
                refine T_if 285 216 rfl rfl rfl (r32 (by omega) (by omega)) (fun (h162 : v12 < 0) => by exfalso; omega) (fun (h162 : ¬ (v12 < 0)) => ?_)
                refine T_ld 218 (.int (i32 9)) rfl (fun _ => rfl) ?_
                refine T_ld 219 (.int (i32 ((m.1 73) - 1))) rfl (fun _ => rfl) ?_
                refine T_imul 220 rfl rfl ?_
                refine T_ld 221 (.int (i32 v12)) rfl (fun _ => rfl) ?_
                refine T_iadd 222 rfl rfl ?_
                refine T_sto 223 [(3, .int (i32 ((9 * ((m.1 73) - 1)) + v12))), (0, .ref 189), (1, .int (i32 ((m.1 73) - 1))), (2, .int (i32 v12))] rfl (fun _ => rfl) ?_
                have hXE0 := XS_ws (i := ((9 * ((m.1 73) - 1)) + v12)) (x := (m.1 7)) (U' := 0) hXS (by omega) (by omega) (by omega) (by have := cn1_0 F30 ((9 * ((m.1 73) - 1)) + v12); split <;> omega)
                refine T_gf 227 (.ref 242) rfl rfl rfl rfl rfl rfl ?_
                refine T_ld 228 (.int (i32 ((9 * ((m.1 73) - 1)) + v12))) rfl (fun _ => rfl) ?_
                refine T_gf 232 (.int (i32 (m.1 7))) rfl rfl rfl rfl rfl rfl ?_
                have G163 : ∀ j, (-1) ≤ (upI F30 ((9 * ((m.1 73) - 1)) + v12) (m.1 7)) j ∧ (upI F30 ((9 * ((m.1 73) - 1)) + v12) (m.1 7)) j ≤ 330 := upI_rg q44 ⟨by omega, by omega⟩
                refine T_iast (a' := [(65, F26), (66, F27), (67, F28), (68, F29), (76, (m.2 76)), (77, (m.2 77)), (78, (m.2 78)), (79, (m.2 79)), (80, upI F30 ((9 * ((m.1 73) - 1)) + v12) (m.1 7)), (81, (m.2 81)), (82, (m.2 82)), (83, (m.2 83)), (84, (m.2 84)), (85, (m.2 85)), (86, (m.2 86)), (87, (m.2 87)), (88, (m.2 88)), (89, (m.2 89)), (90, (m.2 90)), (91, (m.2 91)), (92, (m.2 92))]) 233 80 F30 rfl rfl rfl (by omega) (show ((9 * ((m.1 73) - 1)) + v12) < (540 : Int) by omega) rfl rfl ?_
                refine T_gf 237 (.ref 243) rfl rfl rfl rfl rfl rfl ?_
                refine T_ld 238 (.int (i32 ((9 * ((m.1 73) - 1)) + v12))) rfl (fun _ => rfl) ?_
                refine T_gf 242 (.int (i32 y22)) rfl rfl rfl rfl rfl rfl ?_
                have G164 : ∀ j, 0 ≤ (upI (m.2 81) ((9 * ((m.1 73) - 1)) + v12) y22) j ∧ (upI (m.2 81) ((9 * ((m.1 73) - 1)) + v12) y22) j ≤ 64 := upI_rg (hT.2.1 81) ⟨by omega, by omega⟩
                refine T_iast (a' := [(65, F26), (66, F27), (67, F28), (68, F29), (76, (m.2 76)), (77, (m.2 77)), (78, (m.2 78)), (79, (m.2 79)), (80, upI F30 ((9 * ((m.1 73) - 1)) + v12) (m.1 7)), (81, upI (m.2 81) ((9 * ((m.1 73) - 1)) + v12) y22), (82, (m.2 82)), (83, (m.2 83)), (84, (m.2 84)), (85, (m.2 85)), (86, (m.2 86)), (87, (m.2 87)), (88, (m.2 88)), (89, (m.2 89)), (90, (m.2 90)), (91, (m.2 91)), (92, (m.2 92))]) 243 81 (m.2 81) rfl rfl rfl (by omega) (show ((9 * ((m.1 73) - 1)) + v12) < (540 : Int) by omega) rfl rfl ?_
                refine T_gf 247 (.ref 244) rfl rfl rfl rfl rfl rfl ?_
                refine T_ld 248 (.int (i32 ((9 * ((m.1 73) - 1)) + v12))) rfl (fun _ => rfl) ?_
                refine T_gf 252 (.int (i32 y23)) rfl rfl rfl rfl rfl rfl ?_
                have G165 : ∀ j, 0 ≤ (upI (m.2 82) ((9 * ((m.1 73) - 1)) + v12) y23) j ∧ (upI (m.2 82) ((9 * ((m.1 73) - 1)) + v12) y23) j ≤ 4000 := upI_rg (hT.2.1 82) ⟨by omega, by omega⟩
                refine T_iast (a' := [(65, F26), (66, F27), (67, F28), (68, F29), (76, (m.2 76)), (77, (m.2 77)), (78, (m.2 78)), (79, (m.2 79)), (80, upI F30 ((9 * ((m.1 73) - 1)) + v12) (m.1 7)), (81, upI (m.2 81) ((9 * ((m.1 73) - 1)) + v12) y22), (82, upI (m.2 82) ((9 * ((m.1 73) - 1)) + v12) y23), (83, (m.2 83)), (84, (m.2 84)), (85, (m.2 85)), (86, (m.2 86)), (87, (m.2 87)), (88, (m.2 88)), (89, (m.2 89)), (90, (m.2 90)), (91, (m.2 91)), (92, (m.2 92))]) 253 82 (m.2 82) rfl rfl rfl (by omega) (show ((9 * ((m.1 73) - 1)) + v12) < (540 : Int) by omega) rfl rfl ?_
                refine T_gf 257 (.ref 245) rfl rfl rfl rfl rfl rfl ?_
                refine T_ld 258 (.int (i32 ((9 * ((m.1 73) - 1)) + v12))) rfl (fun _ => rfl) ?_
                refine T_gf 262 (.int (i32 y24)) rfl rfl rfl rfl rfl rfl ?_
                have G166 : ∀ j, 0 ≤ (upI (m.2 83) ((9 * ((m.1 73) - 1)) + v12) y24) j ∧ (upI (m.2 83) ((9 * ((m.1 73) - 1)) + v12) y24) j ≤ 1 := upI_rg (hT.2.1 83) ⟨by omega, by omega⟩
                refine T_bast (a' := [(65, F26), (66, F27), (67, F28), (68, F29), (76, (m.2 76)), (77, (m.2 77)), (78, (m.2 78)), (79, (m.2 79)), (80, upI F30 ((9 * ((m.1 73) - 1)) + v12) (m.1 7)), (81, upI (m.2 81) ((9 * ((m.1 73) - 1)) + v12) y22), (82, upI (m.2 82) ((9 * ((m.1 73) - 1)) + v12) y23), (83, upI (m.2 83) ((9 * ((m.1 73) - 1)) + v12) y24), (84, (m.2 84)), (85, (m.2 85)), (86, (m.2 86)), (87, (m.2 87)), (88, (m.2 88)), (89, (m.2 89)), (90, (m.2 90)), (91, (m.2 91)), (92, (m.2 92))]) 263 83 (m.2 83) rfl rfl rfl (by omega) (show ((9 * ((m.1 73) - 1)) + v12) < (540 : Int) by omega) (by omega) rfl rfl ?_
                refine T_gf 267 (.ref 246) rfl rfl rfl rfl rfl rfl ?_
                refine T_ld 268 (.int (i32 ((9 * ((m.1 73) - 1)) + v12))) rfl (fun _ => rfl) ?_
                refine T_gf 272 (.long (i64 y25)) rfl rfl rfl rfl rfl rfl ?_
                have G167 : ∀ j, (-9223372036854775808) ≤ (upI (m.2 84) ((9 * ((m.1 73) - 1)) + v12) y25) j ∧ (upI (m.2 84) ((9 * ((m.1 73) - 1)) + v12) y25) j ≤ 9223372036854775807 := upI_rg (hT.2.1 84) ⟨by omega, by omega⟩
                refine T_last (a' := [(65, F26), (66, F27), (67, F28), (68, F29), (76, (m.2 76)), (77, (m.2 77)), (78, (m.2 78)), (79, (m.2 79)), (80, upI F30 ((9 * ((m.1 73) - 1)) + v12) (m.1 7)), (81, upI (m.2 81) ((9 * ((m.1 73) - 1)) + v12) y22), (82, upI (m.2 82) ((9 * ((m.1 73) - 1)) + v12) y23), (83, upI (m.2 83) ((9 * ((m.1 73) - 1)) + v12) y24), (84, upI (m.2 84) ((9 * ((m.1 73) - 1)) + v12) y25), (85, (m.2 85)), (86, (m.2 86)), (87, (m.2 87)), (88, (m.2 88)), (89, (m.2 89)), (90, (m.2 90)), (91, (m.2 91)), (92, (m.2 92))]) 273 84 (m.2 84) rfl rfl rfl (by omega) (show ((9 * ((m.1 73) - 1)) + v12) < (540 : Int) by omega) rfl rfl ?_
                refine T_ld 274 (.ref 189) rfl (fun _ => rfl) ?_
                refine T_call 277 212 [.ref 189] [] rfl (fun _ => rfl) rfl (c_next w (mO m [(7, (m.1 7)), (8, (m.1 8)), (9, (m.1 9)), (10, 0), (11, y20), (12, (m.1 12)), (28, y21), (69, y22), (70, y23), (71, y24), (72, y25), (73, (m.1 73)), (74, (m.1 74)), (75, (m.1 75))] [(65, F26), (66, F27), (67, F28), (68, F29), (76, (m.2 76)), (77, (m.2 77)), (78, (m.2 78)), (79, (m.2 79)), (80, upI F30 ((9 * ((m.1 73) - 1)) + v12) (m.1 7)), (81, upI (m.2 81) ((9 * ((m.1 73) - 1)) + v12) y22), (82, upI (m.2 82) ((9 * ((m.1 73) - 1)) + v12) y23), (83, upI (m.2 83) ((9 * ((m.1 73) - 1)) + v12) y24), (84, upI (m.2 84) ((9 * ((m.1 73) - 1)) + v12) y25), (85, (m.2 85)), (86, (m.2 86)), (87, (m.2 87)), (88, (m.2 88)), (89, (m.2 89)), (90, (m.2 90)), (91, (m.2 91)), (92, (m.2 92))]) c N D (by omega) (Ty_mO hT rfl rfl ⟨f7, f8, f9, ⟨(by omega : (0 : Int) ≤ 0), (by omega : (0 : Int) ≤ 8)⟩, q34, f12, q35, q36, q37, q38, q39, f73, f74, f75, trivial⟩ ⟨q40, q41, q42, q43, (hT.2.1 76), (hT.2.1 77), (hT.2.1 78), (hT.2.1 79), G163, G164, G165, G166, G167, (hT.2.1 85), (hT.2.1 86), (hT.2.1 87), (hT.2.1 88), (hT.2.1 89), (hT.2.1 90), (hT.2.1 91), (hT.2.1 92), trivial⟩) (show (0 : Int) = 0 → (m.1 8) + (m.1 9) ≤ (m.1 6) by first | omega | (intro h9; have h8 := hLx h9; omega))) (fun rr168 k169 => ?_)
                obtain ⟨y170, y172, y174, y176, y178, y180, g171, g173, g175, g177, g179, g181, h182, h183, h184, h185, rfl⟩ := k169
                refine ⟨_, _, rfl, ?_⟩
                refine T_nf (st' := []) (l' := [(7, y170), (8, y172), (9, y174), (10, y176), (11, y178), (12, y180), (28, y21), (69, y22), (70, y23), (71, y24), (72, y25), (73, (m.1 73)), (74, (m.1 74)), (75, (m.1 75))]) (a' := [(65, F26), (66, F27), (67, F28), (68, F29), (76, (m.2 76)), (77, (m.2 77)), (78, (m.2 78)), (79, (m.2 79)), (80, upI F30 ((9 * ((m.1 73) - 1)) + v12) (m.1 7)), (81, upI (m.2 81) ((9 * ((m.1 73) - 1)) + v12) y22), (82, upI (m.2 82) ((9 * ((m.1 73) - 1)) + v12) y23), (83, upI (m.2 83) ((9 * ((m.1 73) - 1)) + v12) y24), (84, upI (m.2 84) ((9 * ((m.1 73) - 1)) + v12) y25), (85, (m.2 85)), (86, (m.2 86)), (87, (m.2 87)), (88, (m.2 88)), (89, (m.2 89)), (90, (m.2 90)), (91, (m.2 91)), (92, (m.2 92))]) rfl rfl rfl rfl rfl ?_
                by_cases hf186 : y176 = 0
                · skip
                  subst hf186
                  replace h182 : LxP y170 y172 y174 (m.1 6) (0 : Int) := h182
                  have hLx := h182
                  replace h183 : (0 : Int) = 0 := h183 rfl
                  replace h184 : (m.1 8) ≤ y172 := h184
                  replace h185 : (m.1 8) + (m.1 9) ≤ y172 := h185 rfl
                  have u187 : (m.1 8) + 1 ≤ y172 := by omega
                  have hAgC : agr (m.2 65) F26 (m.1 28) := by first | exact agr_r _ _ | exact hAgC | exact agr_t hAgC hAg (by omega)
                  clear g9a g9b h10 q32a q32b q32 q33 q34 ic45 ic46 ic47 h55 h160 g177
                  refine T_ld 278 (.ref 189) rfl (fun _ => rfl) ?_
                  refine T_ld 279 (.int (i32 0)) rfl (fun _ => rfl) ?_
                  refine T_pf (l' := [(7, y170), (8, y172), (9, y174), (10, 0), (11, y178), (12, y180), (28, y21), (69, y22), (70, y23), (71, y24), (72, y25), (73, (m.1 73)), (74, (m.1 74)), (75, 0)]) 282 0 rfl rfl rfl rfl rfl rfl ?_
                  have hXE : XS F26 F28 (m.2 76) (m.2 78) (m.2 79) (upI F30 ((9 * ((m.1 73) - 1)) + v12) (m.1 7)) B y21 (m.1 73) (m.1 74) (um (0 : Int)) := by
                    rw [show um (0 : Int) = 0 from if_pos (by omega)]
                    exact hXE0
                  refine T_goto 290 rfl (fun _ => rfl) ?_
                  refine T_ret rfl (fun _ => rfl) ?_
                  exact ⟨y170, y172, y174, 0, y178, y180, y21, y22, y23, y24, y25, (m.1 73), (m.1 74), 0, F26, F27, F28, F29, (m.2 76), (m.2 77), (m.2 78), (m.2 79), upI F30 ((9 * ((m.1 73) - 1)) + v12) (m.1 7), upI (m.2 81) ((9 * ((m.1 73) - 1)) + v12) y22, upI (m.2 82) ((9 * ((m.1 73) - 1)) + v12) y23, upI (m.2 83) ((9 * ((m.1 73) - 1)) + v12) y24, upI (m.2 84) ((9 * ((m.1 73) - 1)) + v12) y25, (m.2 85), (m.2 86), (m.2 87), (m.2 88), (m.2 89), (m.2 90), (m.2 91), (m.2 92), g171, g173, g175, ⟨by omega, by omega⟩, g179, g181, q35, q36, q37, q38, q39, f73, f74, ⟨by omega, by omega⟩, q40, q41, q42, q43, (hT.2.1 76), (hT.2.1 77), (hT.2.1 78), (hT.2.1 79), G163, G164, G165, G166, G167, (hT.2.1 85), (hT.2.1 86), (hT.2.1 87), (hT.2.1 88), (hT.2.1 89), (hT.2.1 90), (hT.2.1 91), (hT.2.1 92), (by omega), (by first | (first | exact hLx | (intro h9; exfalso; omega)) | (exfalso; omega)), (fun _ => ⟨(by omega), (by omega), (by omega), (by omega), (by first | (exact hXE) | (exfalso; omega)), (by first | (exact hAgC) | (exfalso; omega))⟩), rfl⟩
                · skip
                  replace h182 : LxP y170 y172 y174 (m.1 6) y176 := h182
                  have hLx := h182
                  clear h183
                  replace h184 : (m.1 8) ≤ y172 := h184
                  clear h185
                  have hf188 : 1 ≤ y176 := by omega
                  clear g9a g9b h10 q32a q32b q32 q33 q34 ic45 ic46 ic47 h55 h160
                  refine T_ld 278 (.ref 189) rfl (fun _ => rfl) ?_
                  refine T_ld 279 (.int (i32 0)) rfl (fun _ => rfl) ?_
                  refine T_pf (l' := [(7, y170), (8, y172), (9, y174), (10, y176), (11, y178), (12, y180), (28, y21), (69, y22), (70, y23), (71, y24), (72, y25), (73, (m.1 73)), (74, (m.1 74)), (75, 0)]) 282 0 rfl rfl rfl rfl rfl rfl ?_
                  refine T_goto 290 rfl (fun _ => rfl) ?_
                  refine T_ret rfl (fun _ => rfl) ?_
                  exact ⟨y170, y172, y174, y176, y178, y180, y21, y22, y23, y24, y25, (m.1 73), (m.1 74), 0, F26, F27, F28, F29, (m.2 76), (m.2 77), (m.2 78), (m.2 79), upI F30 ((9 * ((m.1 73) - 1)) + v12) (m.1 7), upI (m.2 81) ((9 * ((m.1 73) - 1)) + v12) y22, upI (m.2 82) ((9 * ((m.1 73) - 1)) + v12) y23, upI (m.2 83) ((9 * ((m.1 73) - 1)) + v12) y24, upI (m.2 84) ((9 * ((m.1 73) - 1)) + v12) y25, (m.2 85), (m.2 86), (m.2 87), (m.2 88), (m.2 89), (m.2 90), (m.2 91), (m.2 92), g171, g173, g175, g177, g179, g181, q35, q36, q37, q38, q39, f73, f74, ⟨by omega, by omega⟩, q40, q41, q42, q43, (hT.2.1 76), (hT.2.1 77), (hT.2.1 78), (hT.2.1 79), G163, G164, G165, G166, G167, (hT.2.1 85), (hT.2.1 86), (hT.2.1 87), (hT.2.1 88), (hT.2.1 89), (hT.2.1 90), (hT.2.1 91), (hT.2.1 92), (by omega), (by first | (first | exact hLx | (intro h9; exfalso; omega)) | (exfalso; omega)), (fun h => absurd h (by omega)), rfl⟩
              · skip
                refine T_gf 175 (.ref 242) rfl rfl rfl rfl rfl rfl ?_
                refine T_ld 177 (.int (i32 9)) rfl (fun _ => rfl) ?_
                refine T_ld 178 (.int (i32 ((m.1 73) - 1))) rfl (fun _ => rfl) ?_
                refine T_imul 179 rfl rfl ?_
                refine T_ld 180 (.int (i32 v18)) rfl (fun _ => rfl) ?_
                refine T_iadd 181 rfl rfl ?_
                refine T_iald 182 80 F30 rfl rfl rfl (by omega) (show ((9 * ((m.1 73) - 1)) + v18) < (540 : Int) by omega) rfl ?_
                have e189 : (-1) ≤ F30 ((9 * ((m.1 73) - 1)) + v18) ∧ F30 ((9 * ((m.1 73) - 1)) + v18) ≤ 330 := q44 ((9 * ((m.1 73) - 1)) + v18)
                refine T_if 188 185 rfl rfl rfl (r32 (by omega) (by omega)) (fun (h190 : (0 : Int) ≤ F30 ((9 * ((m.1 73) - 1)) + v18)) => ?_) (fun (h190 : ¬ ((0 : Int) ≤ F30 ((9 * ((m.1 73) - 1)) + v18))) => ?_)
                · skip
                  refine T_ld 189 (.ref 189) rfl (fun _ => rfl) ?_
                  refine T_ld 191 (.int (i32 9)) rfl (fun _ => rfl) ?_
                  refine T_ld 192 (.int (i32 ((m.1 73) - 1))) rfl (fun _ => rfl) ?_
                  refine T_imul 193 rfl rfl ?_
                  refine T_ld 194 (.int (i32 v18)) rfl (fun _ => rfl) ?_
                  refine T_iadd 195 rfl rfl ?_
                  refine T_call 198 260 [.ref 189, .int (i32 ((9 * ((m.1 73) - 1)) + v18))] [] rfl (fun _ => rfl) rfl (c_join w (mO m [(7, (m.1 7)), (8, (m.1 8)), (9, (m.1 9)), (10, 0), (11, y20), (12, (m.1 12)), (28, y21), (69, y22), (70, y23), (71, y24), (72, y25), (73, (m.1 73)), (74, (m.1 74)), (75, (m.1 75))] [(65, F26), (66, F27), (67, F28), (68, F29), (76, (m.2 76)), (77, (m.2 77)), (78, (m.2 78)), (79, (m.2 79)), (80, F30), (81, (m.2 81)), (82, (m.2 82)), (83, (m.2 83)), (84, (m.2 84)), (85, (m.2 85)), (86, (m.2 86)), (87, (m.2 87)), (88, (m.2 88)), (89, (m.2 89)), (90, (m.2 90)), (91, (m.2 91)), (92, (m.2 92))]) c N D (by omega) (Ty_mO hT rfl rfl ⟨f7, f8, f9, ⟨(by omega : (0 : Int) ≤ 0), (by omega : (0 : Int) ≤ 8)⟩, q34, f12, q35, q36, q37, q38, q39, f73, f74, f75, trivial⟩ ⟨q40, q41, q42, q43, (hT.2.1 76), (hT.2.1 77), (hT.2.1 78), (hT.2.1 79), q44, (hT.2.1 81), (hT.2.1 82), (hT.2.1 83), (hT.2.1 84), (hT.2.1 85), (hT.2.1 86), (hT.2.1 87), (hT.2.1 88), (hT.2.1 89), (hT.2.1 90), (hT.2.1 91), (hT.2.1 92), trivial⟩) ((9 * ((m.1 73) - 1)) + v18) B (r32 (by omega) (by omega)) (show 0 ≤ ((9 * ((m.1 73) - 1)) + v18) ∧ ((9 * ((m.1 73) - 1)) + v18) ≤ 539 by omega) (show y22 ≤ 900 by omega) (fun _ => ⟨(show XS F26 F28 (m.2 76) (m.2 78) (m.2 79) F30 B y21 (m.1 73) (m.1 74) 1 by first | exact hXS | assumption), (show y22 ≤ 64 by omega), (show 1 ≤ (m.1 73) by omega), (show 9 * ((m.1 73) - 1) ≤ ((9 * ((m.1 73) - 1)) + v18) ∧ ((9 * ((m.1 73) - 1)) + v18) < 9 * (m.1 73) by omega), (show 0 ≤ F30 ((9 * ((m.1 73) - 1)) + v18) by omega)⟩)) (fun rr191 k192 => ?_)
                  obtain ⟨y193, y195, y197, y199, y201, y203, y205, F207, F209, F211, F213, F215, g194, g196, g198, g200, g202, g204, g206, G208, G210, G212, G214, G216, h217, h218, c219, rfl⟩ := k192
                  refine ⟨_, _, rfl, ?_⟩
                  refine T_nf (st' := []) (l' := [(7, (m.1 7)), (8, (m.1 8)), (9, (m.1 9)), (10, y193), (11, y195), (12, (m.1 12)), (28, y197), (69, y199), (70, y201), (71, y203), (72, y205), (73, (m.1 73)), (74, (m.1 74)), (75, (m.1 75))]) (a' := [(65, F207), (66, F209), (67, F211), (68, F213), (76, (m.2 76)), (77, (m.2 77)), (78, (m.2 78)), (79, (m.2 79)), (80, F215), (81, (m.2 81)), (82, (m.2 82)), (83, (m.2 83)), (84, (m.2 84)), (85, (m.2 85)), (86, (m.2 86)), (87, (m.2 87)), (88, (m.2 88)), (89, (m.2 89)), (90, (m.2 90)), (91, (m.2 91)), (92, (m.2 92))]) rfl rfl rfl rfl rfl ?_
                  by_cases hf220 : y193 = 0
                  · skip
                    subst hf220
                    replace h217 : (0 : Int) = 0 := h217 rfl
                    replace h218 : y199 ≤ y22 + 64 := h218
                    obtain ⟨c221, c222, c223, c224, c225⟩ := c219 rfl
                    replace c221 : y199 ≤ 64 := c221
                    replace c222 : y197 = y21 + 1 := c222
                    replace c223 : XS F207 F211 (m.2 76) (m.2 78) (m.2 79) F215 B y197 (m.1 73) (m.1 74) 1 := c223
                    have hXS := c223
                    replace c224 : agr F26 F207 y21 := c224
                    have hAg := c224
                    replace c225 : F215 = upI F30 ((9 * ((m.1 73) - 1)) + v18) (-1) := c225
                    have hWS := c225
                    clear c219
                    have u226 : (m.1 8) ≤ (m.1 8) := by omega
                    have hAgC : agr (m.2 65) F207 (m.1 28) := by first | exact agr_r _ _ | exact hAgC | exact agr_t hAgC hAg (by omega)
                    clear g9a g9b h10 q33 q34 q35 q36 q37 q38 q39 ic47 c51 c52 c53 c54 h190 g194 h218 c222 c224 c225
                    refine T_iinc 201 [(3, .int (i32 (v18 + (-1)))), (0, .ref 189), (1, .int (i32 ((m.1 73) - 1))), (2, .int (i32 v12))] rfl rfl (by decide) rfl rfl ?_
                    refine T_goto 162 rfl (fun _ => rfl) ?_
                    refine Tm_lv (a := [(0, .ref 189), (1, .int (i32 ((m.1 73) - 1))), (2, .int (i32 v12)), (3, .int (i32 (v18 + (-1))))]) rfl rfl ⟨rfl, rfl, rfl, rfl, trivial⟩ ?_
                    exact ih49 (v18 + (-1)) 0 y195 y197 y199 y201 y203 y205 F207 F209 F211 F213 F215 (r32 (by omega) (by omega)) ⟨by omega, by omega⟩ g196 g198 g200 g202 g204 g206 G208 G210 G212 G214 G216 (by omega) (by omega) (by omega) (fun _ => ⟨(by exact hXS), (by omega), (by omega), (by exact hAgC)⟩) (by omega)
                  · skip
                    clear c219
                    clear h217
                    replace h218 : y199 ≤ y22 + 64 := h218
                    have hf227 : 1 ≤ y193 := by omega
                    clear g9a g9b h10 q33 q34 q35 q36 q37 q38 q39 ic47 c51 c52 c53 c54 h190 h218
                    refine T_iinc 201 [(3, .int (i32 (v18 + (-1)))), (0, .ref 189), (1, .int (i32 ((m.1 73) - 1))), (2, .int (i32 v12))] rfl rfl (by decide) rfl rfl ?_
                    refine T_goto 162 rfl (fun _ => rfl) ?_
                    refine Tm_lv (a := [(0, .ref 189), (1, .int (i32 ((m.1 73) - 1))), (2, .int (i32 v12)), (3, .int (i32 (v18 + (-1))))]) rfl rfl ⟨rfl, rfl, rfl, rfl, trivial⟩ ?_
                    exact ih49 (v18 + (-1)) y193 y195 y197 y199 y201 y203 y205 F207 F209 F211 F213 F215 (r32 (by omega) (by omega)) g194 g196 g198 g200 g202 g204 g206 G208 G210 G212 G214 G216 (by omega) (by omega) (by omega) (fun h => absurd h (by omega)) (by omega)
                · skip
                  refine T_goto 198 rfl (fun _ => rfl) ?_
                  refine T_iinc 201 [(3, .int (i32 (v18 + (-1)))), (0, .ref 189), (1, .int (i32 ((m.1 73) - 1))), (2, .int (i32 v12))] rfl rfl (by decide) rfl rfl ?_
                  refine T_goto 162 rfl (fun _ => rfl) ?_
                  refine Tm_lv (a := [(0, .ref 189), (1, .int (i32 ((m.1 73) - 1))), (2, .int (i32 v12)), (3, .int (i32 (v18 + (-1))))]) rfl rfl ⟨rfl, rfl, rfl, rfl, trivial⟩ ?_
                  exact ih49 (v18 + (-1)) 0 y20 y21 y22 y23 y24 y25 F26 F27 F28 F29 F30 (r32 (by omega) (by omega)) ⟨by omega, by omega⟩ q34 q35 q36 q37 q38 q39 q40 q41 q42 q43 q44 (by omega) (by omega) (by omega) (fun _ => ⟨(by exact hXS), (by omega), (by omega), (by exact hAgC)⟩) (by omega)
          · skip
            clear c48
            have hf228 : 1 ≤ y19 := by omega
            refine T_ld 163 (.int (i32 v18)) rfl (fun _ => rfl) ?_
            refine T_if 204 166 rfl rfl rfl (r32 (by omega) (by omega)) (fun (h229 : v18 < 0) => ?_) (fun (h229 : ¬ (v18 < 0)) => ?_)
            · skip
              refine T_gf 208 (.int (i32 y19)) rfl rfl rfl rfl rfl rfl ?_
              refine T_if 212 211 rfl rfl rfl (r32 (by omega) (by omega)) (fun (h230 : y19 ≤ 0) => by exfalso; omega) (fun (h230 : ¬ (y19 ≤ 0)) => ?_)
              refine T_ret rfl (fun _ => rfl) ?_
              exact ⟨(m.1 7), (m.1 8), (m.1 9), y19, y20, (m.1 12), y21, y22, y23, y24, y25, (m.1 73), (m.1 74), (m.1 75), F26, F27, F28, F29, (m.2 76), (m.2 77), (m.2 78), (m.2 79), F30, (m.2 81), (m.2 82), (m.2 83), (m.2 84), (m.2 85), (m.2 86), (m.2 87), (m.2 88), (m.2 89), (m.2 90), (m.2 91), (m.2 92), f7, f8, f9, q33, q34, f12, q35, q36, q37, q38, q39, f73, f74, f75, q40, q41, q42, q43, (hT.2.1 76), (hT.2.1 77), (hT.2.1 78), (hT.2.1 79), q44, (hT.2.1 81), (hT.2.1 82), (hT.2.1 83), (hT.2.1 84), (hT.2.1 85), (hT.2.1 86), (hT.2.1 87), (hT.2.1 88), (hT.2.1 89), (hT.2.1 90), (hT.2.1 91), (hT.2.1 92), (by omega), (by first | (first | exact hLx | (intro h9; exfalso; omega)) | (exfalso; omega)), (fun h => absurd h (by omega)), rfl⟩
            · skip
              refine T_ld 167 (.int (i32 v18)) rfl (fun _ => rfl) ?_
              refine T_ld 168 (.int (i32 v12)) rfl (fun _ => rfl) ?_
              refine T_icmp 204 171 rfl rfl rfl (r32 (by omega) (by omega)) (r32 (by omega) (by omega)) (fun (h231 : v18 < v12) => ?_) (fun (h231 : ¬ (v18 < v12)) => ?_)
              · skip
                refine T_gf 208 (.int (i32 y19)) rfl rfl rfl rfl rfl rfl ?_
                refine T_if 212 211 rfl rfl rfl (r32 (by omega) (by omega)) (fun (h232 : y19 ≤ 0) => by exfalso; omega) (fun (h232 : ¬ (y19 ≤ 0)) => ?_)
                refine T_ret rfl (fun _ => rfl) ?_
                exact ⟨(m.1 7), (m.1 8), (m.1 9), y19, y20, (m.1 12), y21, y22, y23, y24, y25, (m.1 73), (m.1 74), (m.1 75), F26, F27, F28, F29, (m.2 76), (m.2 77), (m.2 78), (m.2 79), F30, (m.2 81), (m.2 82), (m.2 83), (m.2 84), (m.2 85), (m.2 86), (m.2 87), (m.2 88), (m.2 89), (m.2 90), (m.2 91), (m.2 92), f7, f8, f9, q33, q34, f12, q35, q36, q37, q38, q39, f73, f74, f75, q40, q41, q42, q43, (hT.2.1 76), (hT.2.1 77), (hT.2.1 78), (hT.2.1 79), q44, (hT.2.1 81), (hT.2.1 82), (hT.2.1 83), (hT.2.1 84), (hT.2.1 85), (hT.2.1 86), (hT.2.1 87), (hT.2.1 88), (hT.2.1 89), (hT.2.1 90), (hT.2.1 91), (hT.2.1 92), (by omega), (by first | (first | exact hLx | (intro h9; exfalso; omega)) | (exfalso; omega)), (fun h => absurd h (by omega)), rfl⟩
              · skip
                refine T_gf 175 (.ref 242) rfl rfl rfl rfl rfl rfl ?_
                refine T_ld 177 (.int (i32 9)) rfl (fun _ => rfl) ?_
                refine T_ld 178 (.int (i32 ((m.1 73) - 1))) rfl (fun _ => rfl) ?_
                refine T_imul 179 rfl rfl ?_
                refine T_ld 180 (.int (i32 v18)) rfl (fun _ => rfl) ?_
                refine T_iadd 181 rfl rfl ?_
                refine T_iald 182 80 F30 rfl rfl rfl (by omega) (show ((9 * ((m.1 73) - 1)) + v18) < (540 : Int) by omega) rfl ?_
                have e233 : (-1) ≤ F30 ((9 * ((m.1 73) - 1)) + v18) ∧ F30 ((9 * ((m.1 73) - 1)) + v18) ≤ 330 := q44 ((9 * ((m.1 73) - 1)) + v18)
                refine T_if 188 185 rfl rfl rfl (r32 (by omega) (by omega)) (fun (h234 : (0 : Int) ≤ F30 ((9 * ((m.1 73) - 1)) + v18)) => ?_) (fun (h234 : ¬ ((0 : Int) ≤ F30 ((9 * ((m.1 73) - 1)) + v18))) => ?_)
                · skip
                  refine T_ld 189 (.ref 189) rfl (fun _ => rfl) ?_
                  refine T_ld 191 (.int (i32 9)) rfl (fun _ => rfl) ?_
                  refine T_ld 192 (.int (i32 ((m.1 73) - 1))) rfl (fun _ => rfl) ?_
                  refine T_imul 193 rfl rfl ?_
                  refine T_ld 194 (.int (i32 v18)) rfl (fun _ => rfl) ?_
                  refine T_iadd 195 rfl rfl ?_
                  refine T_call 198 260 [.ref 189, .int (i32 ((9 * ((m.1 73) - 1)) + v18))] [] rfl (fun _ => rfl) rfl (c_join w (mO m [(7, (m.1 7)), (8, (m.1 8)), (9, (m.1 9)), (10, y19), (11, y20), (12, (m.1 12)), (28, y21), (69, y22), (70, y23), (71, y24), (72, y25), (73, (m.1 73)), (74, (m.1 74)), (75, (m.1 75))] [(65, F26), (66, F27), (67, F28), (68, F29), (76, (m.2 76)), (77, (m.2 77)), (78, (m.2 78)), (79, (m.2 79)), (80, F30), (81, (m.2 81)), (82, (m.2 82)), (83, (m.2 83)), (84, (m.2 84)), (85, (m.2 85)), (86, (m.2 86)), (87, (m.2 87)), (88, (m.2 88)), (89, (m.2 89)), (90, (m.2 90)), (91, (m.2 91)), (92, (m.2 92))]) c N D (by omega) (Ty_mO hT rfl rfl ⟨f7, f8, f9, q33, q34, f12, q35, q36, q37, q38, q39, f73, f74, f75, trivial⟩ ⟨q40, q41, q42, q43, (hT.2.1 76), (hT.2.1 77), (hT.2.1 78), (hT.2.1 79), q44, (hT.2.1 81), (hT.2.1 82), (hT.2.1 83), (hT.2.1 84), (hT.2.1 85), (hT.2.1 86), (hT.2.1 87), (hT.2.1 88), (hT.2.1 89), (hT.2.1 90), (hT.2.1 91), (hT.2.1 92), trivial⟩) ((9 * ((m.1 73) - 1)) + v18) B (r32 (by omega) (by omega)) (show 0 ≤ ((9 * ((m.1 73) - 1)) + v18) ∧ ((9 * ((m.1 73) - 1)) + v18) ≤ 539 by omega) (show y22 ≤ 900 by omega) (fun (h : y19 = 0) => absurd h (by omega))) (fun rr235 k236 => ?_)
                  obtain ⟨y237, y239, y241, y243, y245, y247, y249, F251, F253, F255, F257, F259, g238, g240, g242, g244, g246, g248, g250, G252, G254, G256, G258, G260, h261, h262, c263, rfl⟩ := k236
                  refine ⟨_, _, rfl, ?_⟩
                  refine T_nf (st' := []) (l' := [(7, (m.1 7)), (8, (m.1 8)), (9, (m.1 9)), (10, y237), (11, y239), (12, (m.1 12)), (28, y241), (69, y243), (70, y245), (71, y247), (72, y249), (73, (m.1 73)), (74, (m.1 74)), (75, (m.1 75))]) (a' := [(65, F251), (66, F253), (67, F255), (68, F257), (76, (m.2 76)), (77, (m.2 77)), (78, (m.2 78)), (79, (m.2 79)), (80, F259), (81, (m.2 81)), (82, (m.2 82)), (83, (m.2 83)), (84, (m.2 84)), (85, (m.2 85)), (86, (m.2 86)), (87, (m.2 87)), (88, (m.2 88)), (89, (m.2 89)), (90, (m.2 90)), (91, (m.2 91)), (92, (m.2 92))]) rfl rfl rfl rfl rfl ?_
                  replace h261 : y237 = 0 → y19 = 0 := h261
                  replace h262 : y243 ≤ y22 + 64 := h262
                  have hf264 : 1 ≤ y237 := by omega
                  clear c263
                  clear h261
                  clear g9a g9b h10 q33 q34 q35 q36 q37 q38 q39 ic47 hf228 h234 h262
                  refine T_iinc 201 [(3, .int (i32 (v18 + (-1)))), (0, .ref 189), (1, .int (i32 ((m.1 73) - 1))), (2, .int (i32 v12))] rfl rfl (by decide) rfl rfl ?_
                  refine T_goto 162 rfl (fun _ => rfl) ?_
                  refine Tm_lv (a := [(0, .ref 189), (1, .int (i32 ((m.1 73) - 1))), (2, .int (i32 v12)), (3, .int (i32 (v18 + (-1))))]) rfl rfl ⟨rfl, rfl, rfl, rfl, trivial⟩ ?_
                  exact ih49 (v18 + (-1)) y237 y239 y241 y243 y245 y247 y249 F251 F253 F255 F257 F259 (r32 (by omega) (by omega)) g238 g240 g242 g244 g246 g248 g250 G252 G254 G256 G258 G260 (by omega) (by omega) (by omega) (fun h => absurd h (by omega)) (by omega)
                · skip
                  refine T_goto 198 rfl (fun _ => rfl) ?_
                  refine T_iinc 201 [(3, .int (i32 (v18 + (-1)))), (0, .ref 189), (1, .int (i32 ((m.1 73) - 1))), (2, .int (i32 v12))] rfl rfl (by decide) rfl rfl ?_
                  refine T_goto 162 rfl (fun _ => rfl) ?_
                  refine Tm_lv (a := [(0, .ref 189), (1, .int (i32 ((m.1 73) - 1))), (2, .int (i32 v12)), (3, .int (i32 (v18 + (-1))))]) rfl rfl ⟨rfl, rfl, rfl, rfl, trivial⟩ ?_
                  exact ih49 (v18 + (-1)) y19 y20 y21 y22 y23 y24 y25 F26 F27 F28 F29 F30 (r32 (by omega) (by omega)) q33 q34 q35 q36 q37 q38 q39 q40 q41 q42 q43 q44 (by omega) (by omega) (by omega) (fun h => absurd h (by omega)) (by omega)
      refine Tm_lv (a := [(0, .ref 189), (1, .int (i32 ((m.1 73) - 1))), (2, .int (i32 v12)), (3, .int (i32 8))]) rfl rfl ⟨rfl, rfl, rfl, rfl, trivial⟩ ?_
      exact L162_31 ((8 + 1 : Int) + 1).toNat 8 (m.1 10) (m.1 11) (m.1 28) (m.1 69) (m.1 70) (m.1 71) (m.1 72) (m.2 65) (m.2 66) (m.2 67) (m.2 68) (m.2 80) ⟨by decide, by decide⟩ f10 f11 f28 f69 f70 f71 f72 (hT.2.1 65) (hT.2.1 66) (hT.2.1 67) (hT.2.1 68) (hT.2.1 80) (by omega) (by omega) (by omega) (fun _ => ⟨(by exact hXS), (by omega), (by omega), (by exact hAgC)⟩) (by omega)
    refine T_icmp 159 143 rfl rfl rfl (r32 (by omega) (by omega)) ⟨by decide, by decide⟩ (fun (h265 : x8 ≠ 2) => ?_) (fun (h265 : ¬ (x8 ≠ 2)) => ?_)
    · skip
      refine Tm_lv (a := [(0, .ref 189), (1, .int (i32 ((m.1 73) - 1))), (2, .int (i32 x8))]) rfl rfl ⟨rfl, rfl, rfl, trivial⟩ ?_
      exact J159_13 x8 (r32 (by omega) (by omega)) (by omega) (by omega)
    · skip
      refine T_gf 147 (.ref 242) rfl rfl rfl rfl rfl rfl ?_
      refine T_ld 149 (.int (i32 9)) rfl (fun _ => rfl) ?_
      refine T_ld 150 (.int (i32 ((m.1 73) - 1))) rfl (fun _ => rfl) ?_
      refine T_imul 151 rfl rfl ?_
      refine T_ld 152 (.int (i32 2)) rfl (fun _ => rfl) ?_
      refine T_iadd 153 rfl rfl ?_
      refine T_iald 154 80 (m.2 80) rfl rfl rfl (by omega) (show ((9 * ((m.1 73) - 1)) + 2) < (540 : Int) by omega) rfl ?_
      have e266 : (-1) ≤ (m.2 80) ((9 * ((m.1 73) - 1)) + 2) ∧ (m.2 80) ((9 * ((m.1 73) - 1)) + 2) ≤ 330 := (hT.2.1 80) ((9 * ((m.1 73) - 1)) + 2)
      refine T_if 159 157 rfl rfl rfl (r32 (by omega) (by omega)) (fun (h267 : (m.2 80) ((9 * ((m.1 73) - 1)) + 2) < 0) => ?_) (fun (h267 : ¬ ((m.2 80) ((9 * ((m.1 73) - 1)) + 2) < 0)) => ?_)
      · skip
        refine Tm_lv (a := [(0, .ref 189), (1, .int (i32 ((m.1 73) - 1))), (2, .int (i32 x8))]) rfl rfl ⟨rfl, rfl, rfl, trivial⟩ ?_
        exact J159_13 x8 (r32 (by omega) (by omega)) (by omega) (by omega)
      · skip
        refine T_ld 158 (.int (i32 (-1))) rfl (fun _ => rfl) ?_
        refine T_sto 159 [(2, .int (i32 (-1))), (1, .int (i32 ((m.1 73) - 1))), (0, .ref 189)] rfl (fun _ => rfl) ?_
        refine Tm_lv (a := [(0, .ref 189), (1, .int (i32 ((m.1 73) - 1))), (2, .int (i32 (-1)))]) rfl rfl ⟨rfl, rfl, rfl, trivial⟩ ?_
        exact J159_13 (-1) ⟨by decide, by decide⟩ (by omega) (by omega)
  · skip
    obtain ⟨hXP, hh2⟩ := XS_pop1 hXS (by omega) (by omega) (hT.2.1 79 _).1
    have hos := hXS.1.2.2.2.1 ((m.1 73) - 1) (by omega) (by omega) (by omega)
    have hEX := hXP.1.1
    have hl0 : 0 ≤ lh (m.2 79) (m.2 80) ((m.1 73) - 1) := lh_0 (hT.2.1 79) _ _
    refine T_gf 21 (.ref 239) rfl rfl rfl rfl rfl rfl ?_
    refine T_ld 22 (.int (i32 ((m.1 73) - 1))) rfl (fun _ => rfl) ?_
    refine T_iald 23 77 (m.2 77) rfl rfl rfl (by omega) (show ((m.1 73) - 1) < (60 : Int) by omega) rfl ?_
    have e268 : 0 ≤ (m.2 77) ((m.1 73) - 1) ∧ (m.2 77) ((m.1 73) - 1) ≤ 4000 := (hT.2.1 77) ((m.1 73) - 1)
    refine T_sto 24 [(2, .int (i32 ((m.2 77) ((m.1 73) - 1)))), (1, .int (i32 ((m.1 73) - 1))), (0, .ref 189)] rfl (fun _ => rfl) ?_
    refine T_gf 28 (.int (i32 (m.1 69))) rfl rfl rfl rfl rfl rfl ?_
    refine T_sto 29 [(3, .int (i32 (m.1 69))), (2, .int (i32 ((m.2 77) ((m.1 73) - 1)))), (1, .int (i32 ((m.1 73) - 1))), (0, .ref 189)] rfl (fun _ => rfl) ?_
    refine T_gf 33 (.ref 240) rfl rfl rfl rfl rfl rfl ?_
    refine T_ld 34 (.int (i32 ((m.1 73) - 1))) rfl (fun _ => rfl) ?_
    refine T_iald 35 78 (m.2 78) rfl rfl rfl (by omega) (show ((m.1 73) - 1) < (60 : Int) by omega) rfl ?_
    have e269 : 0 ≤ (m.2 78) ((m.1 73) - 1) ∧ (m.2 78) ((m.1 73) - 1) ≤ 330 := (hT.2.1 78) ((m.1 73) - 1)
    refine T_ld 37 (.int (i32 33)) rfl (fun _ => rfl) ?_
    refine T_icmp 60 40 rfl rfl rfl (r32 (by omega) (by omega)) ⟨by decide, by decide⟩ (fun (h270 : (m.2 78) ((m.1 73) - 1) ≠ 33) => ?_) (fun (h270 : ¬ ((m.2 78) ((m.1 73) - 1) ≠ 33)) => ?_)
    · skip
      refine T_gf 64 (.ref 240) rfl rfl rfl rfl rfl rfl ?_
      refine T_ld 65 (.int (i32 ((m.1 73) - 1))) rfl (fun _ => rfl) ?_
      refine T_iald 66 78 (m.2 78) rfl rfl rfl (by omega) (show ((m.1 73) - 1) < (60 : Int) by omega) rfl ?_
      have e271 : 0 ≤ (m.2 78) ((m.1 73) - 1) ∧ (m.2 78) ((m.1 73) - 1) ≤ 330 := (hT.2.1 78) ((m.1 73) - 1)
      refine T_ld 68 (.int (i32 33)) rfl (fun _ => rfl) ?_
      have J73_273 : ∀ (v272 : Int), (R32 v272) → (0 ≤ v272) → (v272 ≤ 1024) → TT w D pm_257 (73, [(0, .ref 189), (1, .int (i32 ((m.1 73) - 1))), (2, .int (i32 ((m.2 77) ((m.1 73) - 1)))), (3, .int (i32 v272))], [], (mhp (mO m [(7, (m.1 7)), (8, (m.1 8)), (9, (m.1 9)), (10, (m.1 10)), (11, (m.1 11)), (12, (m.1 12)), (28, (m.1 28)), (69, (m.1 69)), (70, (m.1 70)), (71, (m.1 71)), (72, (m.1 72)), (73, (m.1 73)), (74, (m.1 74)), (75, (m.1 75))] [(65, (m.2 65)), (66, (m.2 66)), (67, (m.2 67)), (68, (m.2 68)), (76, (m.2 76)), (77, (m.2 77)), (78, (m.2 78)), (79, (m.2 79)), (80, (m.2 80)), (81, (m.2 81)), (82, (m.2 82)), (83, (m.2 83)), (84, (m.2 84)), (85, (m.2 85)), (86, (m.2 86)), (87, (m.2 87)), (88, (m.2 88)), (89, (m.2 89)), (90, (m.2 90)), (91, (m.2 91)), (92, (m.2 92))]) c, N), 0, 0) (Q_goOn m c N B) := by
        intro v272 q274 ic275 ic276
        obtain ⟨q274a, q274b⟩ := id q274
        refine T_ld 74 (.ref 189) rfl (fun _ => rfl) ?_
        refine T_ld 75 (.ref 189) rfl (fun _ => rfl) ?_
        refine T_gf1 78 (.int (i32 (m.1 73))) rfl rfl rfl rfl ?_
        refine T_ld 79 (.int (i32 1)) rfl (fun _ => rfl) ?_
        refine T_isub 80 rfl rfl ?_
        refine T_pf (l' := [(7, (m.1 7)), (8, (m.1 8)), (9, (m.1 9)), (10, (m.1 10)), (11, (m.1 11)), (12, (m.1 12)), (28, (m.1 28)), (69, (m.1 69)), (70, (m.1 70)), (71, (m.1 71)), (72, (m.1 72)), (73, (m.1 73) - 1), (74, (m.1 74)), (75, (m.1 75))]) 83 ((m.1 73) - 1) rfl rfl rfl rfl rfl rfl ?_
        have g278 : 0 ≤ (m.1 73) - 1 ∧ (m.1 73) - 1 ≤ 60 := ⟨by omega, by omega⟩
        refine T_ld 84 (.ref 189) rfl (fun _ => rfl) ?_
        refine T_ld 85 (.ref 189) rfl (fun _ => rfl) ?_
        refine T_gf1 88 (.int (i32 (m.1 74))) rfl rfl rfl rfl ?_
        refine T_ld 89 (.int (i32 1)) rfl (fun _ => rfl) ?_
        refine T_isub 90 rfl rfl ?_
        refine T_pf (l' := [(7, (m.1 7)), (8, (m.1 8)), (9, (m.1 9)), (10, (m.1 10)), (11, (m.1 11)), (12, (m.1 12)), (28, (m.1 28)), (69, (m.1 69)), (70, (m.1 70)), (71, (m.1 71)), (72, (m.1 72)), (73, (m.1 73) - 1), (74, (m.1 74) - 1), (75, (m.1 75))]) 93 ((m.1 74) - 1) rfl rfl rfl rfl rfl rfl ?_
        have g279 : 0 ≤ (m.1 74) - 1 ∧ (m.1 74) - 1 ≤ 24 := ⟨by omega, by omega⟩
        refine T_ld 94 (.ref 189) rfl (fun _ => rfl) ?_
        refine T_gf 98 (.ref 240) rfl rfl rfl rfl rfl rfl ?_
        refine T_ld 99 (.int (i32 ((m.1 73) - 1))) rfl (fun _ => rfl) ?_
        refine T_iald 100 78 (m.2 78) rfl rfl rfl (by omega) (show ((m.1 73) - 1) < (60 : Int) by omega) rfl ?_
        have e280 : 0 ≤ (m.2 78) ((m.1 73) - 1) ∧ (m.2 78) ((m.1 73) - 1) ≤ 330 := (hT.2.1 78) ((m.1 73) - 1)
        refine T_ld 102 (.int (i32 45)) rfl (fun _ => rfl) ?_
        refine T_icmp 111 105 rfl rfl rfl (r32 (by omega) (by omega)) ⟨by decide, by decide⟩ (fun (h281 : (m.2 78) ((m.1 73) - 1) ≠ 45) => ?_) (fun (h281 : ¬ ((m.2 78) ((m.1 73) - 1) ≠ 45)) => ?_)
        · skip
          refine T_gf 115 (.ref 240) rfl rfl rfl rfl rfl rfl ?_
          refine T_ld 116 (.int (i32 ((m.1 73) - 1))) rfl (fun _ => rfl) ?_
          refine T_iald 117 78 (m.2 78) rfl rfl rfl (by omega) (show ((m.1 73) - 1) < (60 : Int) by omega) rfl ?_
          have e282 : 0 ≤ (m.2 78) ((m.1 73) - 1) ∧ (m.2 78) ((m.1 73) - 1) ≤ 330 := (hT.2.1 78) ((m.1 73) - 1)
          have hA : ar ((m.2 78) ((m.1 73) - 1)) = 1 := ar_1 (by omega)
          have hAr : ar ((m.2 78) ((m.1 73) - 1)) ≤ 1 + lh (m.2 79) (m.2 80) ((m.1 73) - 1) := by omega
          have hCk : CNk ((m.2 78) ((m.1 73) - 1)) 0 := by refine ⟨?_, ?_, ?_, ?_⟩ <;> omega
          refine T_ld 118 (.int (i32 v272)) rfl (fun _ => rfl) ?_
          refine T_ld 119 (.int (i32 0)) rfl (fun _ => rfl) ?_
          refine T_ld 120 (.long (i64 0)) rfl (fun _ => rfl) ?_
          refine T_call 123 248 [.ref 189, .int (i32 ((m.2 78) ((m.1 73) - 1))), .int (i32 v272), .int (i32 0), .long (i64 0)] [] rfl (fun _ => rfl) rfl (c_node w (mO m [(7, (m.1 7)), (8, (m.1 8)), (9, (m.1 9)), (10, (m.1 10)), (11, (m.1 11)), (12, (m.1 12)), (28, (m.1 28)), (69, (m.1 69)), (70, (m.1 70)), (71, (m.1 71)), (72, (m.1 72)), (73, (m.1 73) - 1), (74, (m.1 74) - 1), (75, (m.1 75))] [(65, (m.2 65)), (66, (m.2 66)), (67, (m.2 67)), (68, (m.2 68)), (76, (m.2 76)), (77, (m.2 77)), (78, (m.2 78)), (79, (m.2 79)), (80, (m.2 80)), (81, (m.2 81)), (82, (m.2 82)), (83, (m.2 83)), (84, (m.2 84)), (85, (m.2 85)), (86, (m.2 86)), (87, (m.2 87)), (88, (m.2 88)), (89, (m.2 89)), (90, (m.2 90)), (91, (m.2 91)), (92, (m.2 92))]) c N D (by omega) (Ty_mO hT rfl rfl ⟨f7, f8, f9, f10, f11, f12, f28, f69, f70, f71, f72, g278, g279, f75, trivial⟩ ⟨(hT.2.1 65), (hT.2.1 66), (hT.2.1 67), (hT.2.1 68), (hT.2.1 76), (hT.2.1 77), (hT.2.1 78), (hT.2.1 79), (hT.2.1 80), (hT.2.1 81), (hT.2.1 82), (hT.2.1 83), (hT.2.1 84), (hT.2.1 85), (hT.2.1 86), (hT.2.1 87), (hT.2.1 88), (hT.2.1 89), (hT.2.1 90), (hT.2.1 91), (hT.2.1 92), trivial⟩) ((m.2 78) ((m.1 73) - 1)) v272 0 0 B (1 + lh (m.2 79) (m.2 80) ((m.1 73) - 1)) (r32 (by omega) (by omega)) (r32 (by omega) (by omega)) ⟨by decide, by decide⟩ ⟨by decide, by decide⟩ (fun _ => ⟨(show 0 ≤ ((m.2 78) ((m.1 73) - 1)) ∧ ((m.2 78) ((m.1 73) - 1)) ≤ 408 by first | omega | decide), (show 0 ≤ v272 ∧ v272 ≤ 64 by first | omega | decide), (show 0 ≤ (0 : Int) ∧ (0 : Int) ≤ 191 by first | omega | decide), (show CNk ((m.2 78) ((m.1 73) - 1)) (0 : Int) by first | exact hCk | (refine ⟨?_, ?_, ?_, ?_⟩ <;> omega)), (show ar ((m.2 78) ((m.1 73) - 1)) ≤ (1 + lh (m.2 79) (m.2 80) ((m.1 73) - 1)) by first | exact hAr | omega), (show EX (m.2 65) (m.2 67) B (m.1 28) (1 + lh (m.2 79) (m.2 80) ((m.1 73) - 1)) by first | exact hEX | assumption)⟩)) (fun rr283 k284 => ?_)
          obtain ⟨y285, y287, y289, F291, F293, F295, F297, g286, g288, g290, G292, G294, G296, G298, h299, c300, rfl⟩ := k284
          refine ⟨_, _, rfl, ?_⟩
          refine T_nf (st' := []) (l' := [(7, (m.1 7)), (8, (m.1 8)), (9, (m.1 9)), (10, y285), (11, y287), (12, (m.1 12)), (28, y289), (69, (m.1 69)), (70, (m.1 70)), (71, (m.1 71)), (72, (m.1 72)), (73, (m.1 73) - 1), (74, (m.1 74) - 1), (75, (m.1 75))]) (a' := [(65, F291), (66, F293), (67, F295), (68, F297), (76, (m.2 76)), (77, (m.2 77)), (78, (m.2 78)), (79, (m.2 79)), (80, (m.2 80)), (81, (m.2 81)), (82, (m.2 82)), (83, (m.2 83)), (84, (m.2 84)), (85, (m.2 85)), (86, (m.2 86)), (87, (m.2 87)), (88, (m.2 88)), (89, (m.2 89)), (90, (m.2 90)), (91, (m.2 91)), (92, (m.2 92))]) rfl rfl rfl rfl rfl ?_
          by_cases hf301 : y285 = 0
          · skip
            subst hf301
            replace h299 : (m.1 10) = 0 := h299 rfl
            obtain ⟨c302, c303, c304⟩ := c300 rfl
            replace c302 : y289 = (m.1 28) + 1 := c302
            replace c303 : EX F291 F295 B y289 ((1 + lh (m.2 79) (m.2 80) ((m.1 73) - 1)) + 1 - ar ((m.2 78) ((m.1 73) - 1))) := c303
            have hEX := c303
            replace c304 : agr (m.2 65) F291 (m.1 28) := c304
            have hAg := c304
            clear c300
            have u305 : (m.1 8) ≤ (m.1 8) := by omega
            have hAgC : agr (m.2 65) F291 (m.1 28) := by first | exact agr_r _ _ | exact hAgC | exact agr_t hAgC hAg (by omega)
            clear g286
            have hXE : XS F291 F295 (m.2 76) (m.2 78) (m.2 79) (m.2 80) B y289 ((m.1 73) - 1) ((m.1 74) - 1) (um (m.1 75)) := by
              rw [show um (m.1 75) = 1 from if_neg (by omega)]
              exact XS_of hXP hEX (by omega)
            refine T_ld 124 (.ref 189) rfl (fun _ => rfl) ?_
            refine T_ld 125 (.int (i32 v272)) rfl (fun _ => rfl) ?_
            refine T_ld 126 (.int (i32 ((m.2 77) ((m.1 73) - 1)))) rfl (fun _ => rfl) ?_
            refine T_call 129 250 [.ref 189, .int (i32 v272), .int (i32 ((m.2 77) ((m.1 73) - 1)))] [] rfl (fun _ => rfl) rfl (c_unit w (mO m [(7, (m.1 7)), (8, (m.1 8)), (9, (m.1 9)), (10, 0), (11, y287), (12, (m.1 12)), (28, y289), (69, (m.1 69)), (70, (m.1 70)), (71, (m.1 71)), (72, (m.1 72)), (73, (m.1 73) - 1), (74, (m.1 74) - 1), (75, (m.1 75))] [(65, F291), (66, F293), (67, F295), (68, F297), (76, (m.2 76)), (77, (m.2 77)), (78, (m.2 78)), (79, (m.2 79)), (80, (m.2 80)), (81, (m.2 81)), (82, (m.2 82)), (83, (m.2 83)), (84, (m.2 84)), (85, (m.2 85)), (86, (m.2 86)), (87, (m.2 87)), (88, (m.2 88)), (89, (m.2 89)), (90, (m.2 90)), (91, (m.2 91)), (92, (m.2 92))]) c N D (by omega) (Ty_mO hT rfl rfl ⟨f7, f8, f9, ⟨(by omega : (0 : Int) ≤ 0), (by omega : (0 : Int) ≤ 8)⟩, g288, f12, g290, f69, f70, f71, f72, g278, g279, f75, trivial⟩ ⟨G292, G294, G296, G298, (hT.2.1 76), (hT.2.1 77), (hT.2.1 78), (hT.2.1 79), (hT.2.1 80), (hT.2.1 81), (hT.2.1 82), (hT.2.1 83), (hT.2.1 84), (hT.2.1 85), (hT.2.1 86), (hT.2.1 87), (hT.2.1 88), (hT.2.1 89), (hT.2.1 90), (hT.2.1 91), (hT.2.1 92), trivial⟩) v272 ((m.2 77) ((m.1 73) - 1)) (r32 (by omega) (by omega)) (r32 (by omega) (by omega)) (show 0 ≤ v272 ∧ v272 ≤ 1024 by omega) (show 0 ≤ ((m.2 77) ((m.1 73) - 1)) ∧ ((m.2 77) ((m.1 73) - 1)) ≤ 4000 by omega)) (fun rr306 k307 => ?_)
            obtain ⟨y308, y310, y312, y314, g309, g311, g313, g315, h316, rfl⟩ := k307
            refine ⟨_, _, rfl, ?_⟩
            refine T_nf (st' := []) (l' := [(7, (m.1 7)), (8, (m.1 8)), (9, (m.1 9)), (10, 0), (11, y287), (12, (m.1 12)), (28, y289), (69, y308), (70, y310), (71, y312), (72, y314), (73, (m.1 73) - 1), (74, (m.1 74) - 1), (75, (m.1 75))]) (a' := [(65, F291), (66, F293), (67, F295), (68, F297), (76, (m.2 76)), (77, (m.2 77)), (78, (m.2 78)), (79, (m.2 79)), (80, (m.2 80)), (81, (m.2 81)), (82, (m.2 82)), (83, (m.2 83)), (84, (m.2 84)), (85, (m.2 85)), (86, (m.2 86)), (87, (m.2 87)), (88, (m.2 88)), (89, (m.2 89)), (90, (m.2 90)), (91, (m.2 91)), (92, (m.2 92))]) rfl rfl rfl rfl rfl ?_
            replace h316 : y308 = v272 := h316
            have u317 : (m.1 8) ≤ (m.1 8) := by omega
            have hAgC : agr (m.2 65) F291 (m.1 28) := by first | exact agr_r _ _ | exact hAgC | exact agr_t hAgC hAg (by omega)
            refine T_ret rfl (fun _ => rfl) ?_
            exact ⟨(m.1 7), (m.1 8), (m.1 9), 0, y287, (m.1 12), y289, y308, y310, y312, y314, (m.1 73) - 1, (m.1 74) - 1, (m.1 75), F291, F293, F295, F297, (m.2 76), (m.2 77), (m.2 78), (m.2 79), (m.2 80), (m.2 81), (m.2 82), (m.2 83), (m.2 84), (m.2 85), (m.2 86), (m.2 87), (m.2 88), (m.2 89), (m.2 90), (m.2 91), (m.2 92), f7, f8, f9, ⟨by omega, by omega⟩, g288, f12, g290, g309, g311, g313, g315, g278, g279, f75, G292, G294, G296, G298, (hT.2.1 76), (hT.2.1 77), (hT.2.1 78), (hT.2.1 79), (hT.2.1 80), (hT.2.1 81), (hT.2.1 82), (hT.2.1 83), (hT.2.1 84), (hT.2.1 85), (hT.2.1 86), (hT.2.1 87), (hT.2.1 88), (hT.2.1 89), (hT.2.1 90), (hT.2.1 91), (hT.2.1 92), (by omega), (by first | (first | exact hLx | (intro h9; exfalso; omega)) | (exfalso; omega)), (fun _ => ⟨(by omega), (by omega), (by omega), (by omega), (by first | (exact hXE) | (exfalso; omega)), (by first | (exact hAgC) | (exfalso; omega))⟩), rfl⟩
          · skip
            clear c300
            clear h299
            have hf318 : 1 ≤ y285 := by omega
            refine T_ld 124 (.ref 189) rfl (fun _ => rfl) ?_
            refine T_ld 125 (.int (i32 v272)) rfl (fun _ => rfl) ?_
            refine T_ld 126 (.int (i32 ((m.2 77) ((m.1 73) - 1)))) rfl (fun _ => rfl) ?_
            refine T_call 129 250 [.ref 189, .int (i32 v272), .int (i32 ((m.2 77) ((m.1 73) - 1)))] [] rfl (fun _ => rfl) rfl (c_unit w (mO m [(7, (m.1 7)), (8, (m.1 8)), (9, (m.1 9)), (10, y285), (11, y287), (12, (m.1 12)), (28, y289), (69, (m.1 69)), (70, (m.1 70)), (71, (m.1 71)), (72, (m.1 72)), (73, (m.1 73) - 1), (74, (m.1 74) - 1), (75, (m.1 75))] [(65, F291), (66, F293), (67, F295), (68, F297), (76, (m.2 76)), (77, (m.2 77)), (78, (m.2 78)), (79, (m.2 79)), (80, (m.2 80)), (81, (m.2 81)), (82, (m.2 82)), (83, (m.2 83)), (84, (m.2 84)), (85, (m.2 85)), (86, (m.2 86)), (87, (m.2 87)), (88, (m.2 88)), (89, (m.2 89)), (90, (m.2 90)), (91, (m.2 91)), (92, (m.2 92))]) c N D (by omega) (Ty_mO hT rfl rfl ⟨f7, f8, f9, g286, g288, f12, g290, f69, f70, f71, f72, g278, g279, f75, trivial⟩ ⟨G292, G294, G296, G298, (hT.2.1 76), (hT.2.1 77), (hT.2.1 78), (hT.2.1 79), (hT.2.1 80), (hT.2.1 81), (hT.2.1 82), (hT.2.1 83), (hT.2.1 84), (hT.2.1 85), (hT.2.1 86), (hT.2.1 87), (hT.2.1 88), (hT.2.1 89), (hT.2.1 90), (hT.2.1 91), (hT.2.1 92), trivial⟩) v272 ((m.2 77) ((m.1 73) - 1)) (r32 (by omega) (by omega)) (r32 (by omega) (by omega)) (show 0 ≤ v272 ∧ v272 ≤ 1024 by omega) (show 0 ≤ ((m.2 77) ((m.1 73) - 1)) ∧ ((m.2 77) ((m.1 73) - 1)) ≤ 4000 by omega)) (fun rr319 k320 => ?_)
            obtain ⟨y321, y323, y325, y327, g322, g324, g326, g328, h329, rfl⟩ := k320
            refine ⟨_, _, rfl, ?_⟩
            refine T_nf (st' := []) (l' := [(7, (m.1 7)), (8, (m.1 8)), (9, (m.1 9)), (10, y285), (11, y287), (12, (m.1 12)), (28, y289), (69, y321), (70, y323), (71, y325), (72, y327), (73, (m.1 73) - 1), (74, (m.1 74) - 1), (75, (m.1 75))]) (a' := [(65, F291), (66, F293), (67, F295), (68, F297), (76, (m.2 76)), (77, (m.2 77)), (78, (m.2 78)), (79, (m.2 79)), (80, (m.2 80)), (81, (m.2 81)), (82, (m.2 82)), (83, (m.2 83)), (84, (m.2 84)), (85, (m.2 85)), (86, (m.2 86)), (87, (m.2 87)), (88, (m.2 88)), (89, (m.2 89)), (90, (m.2 90)), (91, (m.2 91)), (92, (m.2 92))]) rfl rfl rfl rfl rfl ?_
            replace h329 : y321 = v272 := h329
            refine T_ret rfl (fun _ => rfl) ?_
            exact ⟨(m.1 7), (m.1 8), (m.1 9), y285, y287, (m.1 12), y289, y321, y323, y325, y327, (m.1 73) - 1, (m.1 74) - 1, (m.1 75), F291, F293, F295, F297, (m.2 76), (m.2 77), (m.2 78), (m.2 79), (m.2 80), (m.2 81), (m.2 82), (m.2 83), (m.2 84), (m.2 85), (m.2 86), (m.2 87), (m.2 88), (m.2 89), (m.2 90), (m.2 91), (m.2 92), f7, f8, f9, g286, g288, f12, g290, g322, g324, g326, g328, g278, g279, f75, G292, G294, G296, G298, (hT.2.1 76), (hT.2.1 77), (hT.2.1 78), (hT.2.1 79), (hT.2.1 80), (hT.2.1 81), (hT.2.1 82), (hT.2.1 83), (hT.2.1 84), (hT.2.1 85), (hT.2.1 86), (hT.2.1 87), (hT.2.1 88), (hT.2.1 89), (hT.2.1 90), (hT.2.1 91), (hT.2.1 92), (by omega), (by first | (first | exact hLx | (intro h9; exfalso; omega)) | (exfalso; omega)), (fun h => absurd h (by omega)), rfl⟩
        · skip
          refine T_ld 108 (.int (i32 408)) rfl (fun _ => rfl) ?_
          refine T_goto 117 rfl (fun _ => rfl) ?_
          have hA : ar 408 = 1 := ar_1 (by omega)
          have hAr : ar 408 ≤ 1 + lh (m.2 79) (m.2 80) ((m.1 73) - 1) := by omega
          have hCk : CNk 408 0 := by refine ⟨?_, ?_, ?_, ?_⟩ <;> omega
          refine T_ld 118 (.int (i32 v272)) rfl (fun _ => rfl) ?_
          refine T_ld 119 (.int (i32 0)) rfl (fun _ => rfl) ?_
          refine T_ld 120 (.long (i64 0)) rfl (fun _ => rfl) ?_
          refine T_call 123 248 [.ref 189, .int (i32 408), .int (i32 v272), .int (i32 0), .long (i64 0)] [] rfl (fun _ => rfl) rfl (c_node w (mO m [(7, (m.1 7)), (8, (m.1 8)), (9, (m.1 9)), (10, (m.1 10)), (11, (m.1 11)), (12, (m.1 12)), (28, (m.1 28)), (69, (m.1 69)), (70, (m.1 70)), (71, (m.1 71)), (72, (m.1 72)), (73, (m.1 73) - 1), (74, (m.1 74) - 1), (75, (m.1 75))] [(65, (m.2 65)), (66, (m.2 66)), (67, (m.2 67)), (68, (m.2 68)), (76, (m.2 76)), (77, (m.2 77)), (78, (m.2 78)), (79, (m.2 79)), (80, (m.2 80)), (81, (m.2 81)), (82, (m.2 82)), (83, (m.2 83)), (84, (m.2 84)), (85, (m.2 85)), (86, (m.2 86)), (87, (m.2 87)), (88, (m.2 88)), (89, (m.2 89)), (90, (m.2 90)), (91, (m.2 91)), (92, (m.2 92))]) c N D (by omega) (Ty_mO hT rfl rfl ⟨f7, f8, f9, f10, f11, f12, f28, f69, f70, f71, f72, g278, g279, f75, trivial⟩ ⟨(hT.2.1 65), (hT.2.1 66), (hT.2.1 67), (hT.2.1 68), (hT.2.1 76), (hT.2.1 77), (hT.2.1 78), (hT.2.1 79), (hT.2.1 80), (hT.2.1 81), (hT.2.1 82), (hT.2.1 83), (hT.2.1 84), (hT.2.1 85), (hT.2.1 86), (hT.2.1 87), (hT.2.1 88), (hT.2.1 89), (hT.2.1 90), (hT.2.1 91), (hT.2.1 92), trivial⟩) 408 v272 0 0 B (1 + lh (m.2 79) (m.2 80) ((m.1 73) - 1)) ⟨by decide, by decide⟩ (r32 (by omega) (by omega)) ⟨by decide, by decide⟩ ⟨by decide, by decide⟩ (fun _ => ⟨(show 0 ≤ (408 : Int) ∧ (408 : Int) ≤ 408 by first | omega | decide), (show 0 ≤ v272 ∧ v272 ≤ 64 by first | omega | decide), (show 0 ≤ (0 : Int) ∧ (0 : Int) ≤ 191 by first | omega | decide), (show CNk (408 : Int) (0 : Int) by first | exact hCk | (refine ⟨?_, ?_, ?_, ?_⟩ <;> omega)), (show ar (408 : Int) ≤ (1 + lh (m.2 79) (m.2 80) ((m.1 73) - 1)) by first | exact hAr | omega), (show EX (m.2 65) (m.2 67) B (m.1 28) (1 + lh (m.2 79) (m.2 80) ((m.1 73) - 1)) by first | exact hEX | assumption)⟩)) (fun rr330 k331 => ?_)
          obtain ⟨y332, y334, y336, F338, F340, F342, F344, g333, g335, g337, G339, G341, G343, G345, h346, c347, rfl⟩ := k331
          refine ⟨_, _, rfl, ?_⟩
          refine T_nf (st' := []) (l' := [(7, (m.1 7)), (8, (m.1 8)), (9, (m.1 9)), (10, y332), (11, y334), (12, (m.1 12)), (28, y336), (69, (m.1 69)), (70, (m.1 70)), (71, (m.1 71)), (72, (m.1 72)), (73, (m.1 73) - 1), (74, (m.1 74) - 1), (75, (m.1 75))]) (a' := [(65, F338), (66, F340), (67, F342), (68, F344), (76, (m.2 76)), (77, (m.2 77)), (78, (m.2 78)), (79, (m.2 79)), (80, (m.2 80)), (81, (m.2 81)), (82, (m.2 82)), (83, (m.2 83)), (84, (m.2 84)), (85, (m.2 85)), (86, (m.2 86)), (87, (m.2 87)), (88, (m.2 88)), (89, (m.2 89)), (90, (m.2 90)), (91, (m.2 91)), (92, (m.2 92))]) rfl rfl rfl rfl rfl ?_
          by_cases hf348 : y332 = 0
          · skip
            subst hf348
            replace h346 : (m.1 10) = 0 := h346 rfl
            obtain ⟨c349, c350, c351⟩ := c347 rfl
            replace c349 : y336 = (m.1 28) + 1 := c349
            replace c350 : EX F338 F342 B y336 ((1 + lh (m.2 79) (m.2 80) ((m.1 73) - 1)) + 1 - ar (408 : Int)) := c350
            have hEX := c350
            replace c351 : agr (m.2 65) F338 (m.1 28) := c351
            have hAg := c351
            clear c347
            have u352 : (m.1 8) ≤ (m.1 8) := by omega
            have hAgC : agr (m.2 65) F338 (m.1 28) := by first | exact agr_r _ _ | exact hAgC | exact agr_t hAgC hAg (by omega)
            clear g333
            have hXE : XS F338 F342 (m.2 76) (m.2 78) (m.2 79) (m.2 80) B y336 ((m.1 73) - 1) ((m.1 74) - 1) (um (m.1 75)) := by
              rw [show um (m.1 75) = 1 from if_neg (by omega)]
              exact XS_of hXP hEX (by omega)
            refine T_ld 124 (.ref 189) rfl (fun _ => rfl) ?_
            refine T_ld 125 (.int (i32 v272)) rfl (fun _ => rfl) ?_
            refine T_ld 126 (.int (i32 ((m.2 77) ((m.1 73) - 1)))) rfl (fun _ => rfl) ?_
            refine T_call 129 250 [.ref 189, .int (i32 v272), .int (i32 ((m.2 77) ((m.1 73) - 1)))] [] rfl (fun _ => rfl) rfl (c_unit w (mO m [(7, (m.1 7)), (8, (m.1 8)), (9, (m.1 9)), (10, 0), (11, y334), (12, (m.1 12)), (28, y336), (69, (m.1 69)), (70, (m.1 70)), (71, (m.1 71)), (72, (m.1 72)), (73, (m.1 73) - 1), (74, (m.1 74) - 1), (75, (m.1 75))] [(65, F338), (66, F340), (67, F342), (68, F344), (76, (m.2 76)), (77, (m.2 77)), (78, (m.2 78)), (79, (m.2 79)), (80, (m.2 80)), (81, (m.2 81)), (82, (m.2 82)), (83, (m.2 83)), (84, (m.2 84)), (85, (m.2 85)), (86, (m.2 86)), (87, (m.2 87)), (88, (m.2 88)), (89, (m.2 89)), (90, (m.2 90)), (91, (m.2 91)), (92, (m.2 92))]) c N D (by omega) (Ty_mO hT rfl rfl ⟨f7, f8, f9, ⟨(by omega : (0 : Int) ≤ 0), (by omega : (0 : Int) ≤ 8)⟩, g335, f12, g337, f69, f70, f71, f72, g278, g279, f75, trivial⟩ ⟨G339, G341, G343, G345, (hT.2.1 76), (hT.2.1 77), (hT.2.1 78), (hT.2.1 79), (hT.2.1 80), (hT.2.1 81), (hT.2.1 82), (hT.2.1 83), (hT.2.1 84), (hT.2.1 85), (hT.2.1 86), (hT.2.1 87), (hT.2.1 88), (hT.2.1 89), (hT.2.1 90), (hT.2.1 91), (hT.2.1 92), trivial⟩) v272 ((m.2 77) ((m.1 73) - 1)) (r32 (by omega) (by omega)) (r32 (by omega) (by omega)) (show 0 ≤ v272 ∧ v272 ≤ 1024 by omega) (show 0 ≤ ((m.2 77) ((m.1 73) - 1)) ∧ ((m.2 77) ((m.1 73) - 1)) ≤ 4000 by omega)) (fun rr353 k354 => ?_)
            obtain ⟨y355, y357, y359, y361, g356, g358, g360, g362, h363, rfl⟩ := k354
            refine ⟨_, _, rfl, ?_⟩
            refine T_nf (st' := []) (l' := [(7, (m.1 7)), (8, (m.1 8)), (9, (m.1 9)), (10, 0), (11, y334), (12, (m.1 12)), (28, y336), (69, y355), (70, y357), (71, y359), (72, y361), (73, (m.1 73) - 1), (74, (m.1 74) - 1), (75, (m.1 75))]) (a' := [(65, F338), (66, F340), (67, F342), (68, F344), (76, (m.2 76)), (77, (m.2 77)), (78, (m.2 78)), (79, (m.2 79)), (80, (m.2 80)), (81, (m.2 81)), (82, (m.2 82)), (83, (m.2 83)), (84, (m.2 84)), (85, (m.2 85)), (86, (m.2 86)), (87, (m.2 87)), (88, (m.2 88)), (89, (m.2 89)), (90, (m.2 90)), (91, (m.2 91)), (92, (m.2 92))]) rfl rfl rfl rfl rfl ?_
            replace h363 : y355 = v272 := h363
            have u364 : (m.1 8) ≤ (m.1 8) := by omega
            have hAgC : agr (m.2 65) F338 (m.1 28) := by first | exact agr_r _ _ | exact hAgC | exact agr_t hAgC hAg (by omega)
            refine T_ret rfl (fun _ => rfl) ?_
            exact ⟨(m.1 7), (m.1 8), (m.1 9), 0, y334, (m.1 12), y336, y355, y357, y359, y361, (m.1 73) - 1, (m.1 74) - 1, (m.1 75), F338, F340, F342, F344, (m.2 76), (m.2 77), (m.2 78), (m.2 79), (m.2 80), (m.2 81), (m.2 82), (m.2 83), (m.2 84), (m.2 85), (m.2 86), (m.2 87), (m.2 88), (m.2 89), (m.2 90), (m.2 91), (m.2 92), f7, f8, f9, ⟨by omega, by omega⟩, g335, f12, g337, g356, g358, g360, g362, g278, g279, f75, G339, G341, G343, G345, (hT.2.1 76), (hT.2.1 77), (hT.2.1 78), (hT.2.1 79), (hT.2.1 80), (hT.2.1 81), (hT.2.1 82), (hT.2.1 83), (hT.2.1 84), (hT.2.1 85), (hT.2.1 86), (hT.2.1 87), (hT.2.1 88), (hT.2.1 89), (hT.2.1 90), (hT.2.1 91), (hT.2.1 92), (by omega), (by first | (first | exact hLx | (intro h9; exfalso; omega)) | (exfalso; omega)), (fun _ => ⟨(by omega), (by omega), (by omega), (by omega), (by first | (exact hXE) | (exfalso; omega)), (by first | (exact hAgC) | (exfalso; omega))⟩), rfl⟩
          · skip
            clear c347
            clear h346
            have hf365 : 1 ≤ y332 := by omega
            refine T_ld 124 (.ref 189) rfl (fun _ => rfl) ?_
            refine T_ld 125 (.int (i32 v272)) rfl (fun _ => rfl) ?_
            refine T_ld 126 (.int (i32 ((m.2 77) ((m.1 73) - 1)))) rfl (fun _ => rfl) ?_
            refine T_call 129 250 [.ref 189, .int (i32 v272), .int (i32 ((m.2 77) ((m.1 73) - 1)))] [] rfl (fun _ => rfl) rfl (c_unit w (mO m [(7, (m.1 7)), (8, (m.1 8)), (9, (m.1 9)), (10, y332), (11, y334), (12, (m.1 12)), (28, y336), (69, (m.1 69)), (70, (m.1 70)), (71, (m.1 71)), (72, (m.1 72)), (73, (m.1 73) - 1), (74, (m.1 74) - 1), (75, (m.1 75))] [(65, F338), (66, F340), (67, F342), (68, F344), (76, (m.2 76)), (77, (m.2 77)), (78, (m.2 78)), (79, (m.2 79)), (80, (m.2 80)), (81, (m.2 81)), (82, (m.2 82)), (83, (m.2 83)), (84, (m.2 84)), (85, (m.2 85)), (86, (m.2 86)), (87, (m.2 87)), (88, (m.2 88)), (89, (m.2 89)), (90, (m.2 90)), (91, (m.2 91)), (92, (m.2 92))]) c N D (by omega) (Ty_mO hT rfl rfl ⟨f7, f8, f9, g333, g335, f12, g337, f69, f70, f71, f72, g278, g279, f75, trivial⟩ ⟨G339, G341, G343, G345, (hT.2.1 76), (hT.2.1 77), (hT.2.1 78), (hT.2.1 79), (hT.2.1 80), (hT.2.1 81), (hT.2.1 82), (hT.2.1 83), (hT.2.1 84), (hT.2.1 85), (hT.2.1 86), (hT.2.1 87), (hT.2.1 88), (hT.2.1 89), (hT.2.1 90), (hT.2.1 91), (hT.2.1 92), trivial⟩) v272 ((m.2 77) ((m.1 73) - 1)) (r32 (by omega) (by omega)) (r32 (by omega) (by omega)) (show 0 ≤ v272 ∧ v272 ≤ 1024 by omega) (show 0 ≤ ((m.2 77) ((m.1 73) - 1)) ∧ ((m.2 77) ((m.1 73) - 1)) ≤ 4000 by omega)) (fun rr366 k367 => ?_)
            obtain ⟨y368, y370, y372, y374, g369, g371, g373, g375, h376, rfl⟩ := k367
            refine ⟨_, _, rfl, ?_⟩
            refine T_nf (st' := []) (l' := [(7, (m.1 7)), (8, (m.1 8)), (9, (m.1 9)), (10, y332), (11, y334), (12, (m.1 12)), (28, y336), (69, y368), (70, y370), (71, y372), (72, y374), (73, (m.1 73) - 1), (74, (m.1 74) - 1), (75, (m.1 75))]) (a' := [(65, F338), (66, F340), (67, F342), (68, F344), (76, (m.2 76)), (77, (m.2 77)), (78, (m.2 78)), (79, (m.2 79)), (80, (m.2 80)), (81, (m.2 81)), (82, (m.2 82)), (83, (m.2 83)), (84, (m.2 84)), (85, (m.2 85)), (86, (m.2 86)), (87, (m.2 87)), (88, (m.2 88)), (89, (m.2 89)), (90, (m.2 90)), (91, (m.2 91)), (92, (m.2 92))]) rfl rfl rfl rfl rfl ?_
            replace h376 : y368 = v272 := h376
            refine T_ret rfl (fun _ => rfl) ?_
            exact ⟨(m.1 7), (m.1 8), (m.1 9), y332, y334, (m.1 12), y336, y368, y370, y372, y374, (m.1 73) - 1, (m.1 74) - 1, (m.1 75), F338, F340, F342, F344, (m.2 76), (m.2 77), (m.2 78), (m.2 79), (m.2 80), (m.2 81), (m.2 82), (m.2 83), (m.2 84), (m.2 85), (m.2 86), (m.2 87), (m.2 88), (m.2 89), (m.2 90), (m.2 91), (m.2 92), f7, f8, f9, g333, g335, f12, g337, g369, g371, g373, g375, g278, g279, f75, G339, G341, G343, G345, (hT.2.1 76), (hT.2.1 77), (hT.2.1 78), (hT.2.1 79), (hT.2.1 80), (hT.2.1 81), (hT.2.1 82), (hT.2.1 83), (hT.2.1 84), (hT.2.1 85), (hT.2.1 86), (hT.2.1 87), (hT.2.1 88), (hT.2.1 89), (hT.2.1 90), (hT.2.1 91), (hT.2.1 92), (by omega), (by first | (first | exact hLx | (intro h9; exfalso; omega)) | (exfalso; omega)), (fun h => absurd h (by omega)), rfl⟩
      refine T_icmp 73 71 rfl rfl rfl (r32 (by omega) (by omega)) ⟨by decide, by decide⟩ (fun (h377 : (m.2 78) ((m.1 73) - 1) ≠ 33) => ?_) (fun (h377 : ¬ ((m.2 78) ((m.1 73) - 1) ≠ 33)) => ?_)
      · skip
        refine Tm_lv (a := [(0, .ref 189), (1, .int (i32 ((m.1 73) - 1))), (2, .int (i32 ((m.2 77) ((m.1 73) - 1)))), (3, .int (i32 (m.1 69)))]) rfl rfl ⟨rfl, rfl, rfl, rfl, trivial⟩ ?_
        exact J73_273 (m.1 69) (r32 (by omega) (by omega)) (by omega) (by omega)
      · skip
        refine T_ld 72 (.int (i32 1)) rfl (fun _ => rfl) ?_
        refine T_sto 73 [(3, .int (i32 1)), (2, .int (i32 ((m.2 77) ((m.1 73) - 1)))), (1, .int (i32 ((m.1 73) - 1))), (0, .ref 189)] rfl (fun _ => rfl) ?_
        refine Tm_lv (a := [(0, .ref 189), (1, .int (i32 ((m.1 73) - 1))), (2, .int (i32 ((m.2 77) ((m.1 73) - 1)))), (3, .int (i32 1))]) rfl rfl ⟨rfl, rfl, rfl, rfl, trivial⟩ ?_
        exact J73_273 1 ⟨by decide, by decide⟩ (by omega) (by omega)
    · skip
      refine T_ld 41 (.ref 189) rfl (fun _ => rfl) ?_
      refine T_gf 45 (.int (i32 (m.1 69))) rfl rfl rfl rfl rfl rfl ?_
      refine T_gf 49 (.int (i32 (m.1 71))) rfl rfl rfl rfl rfl rfl ?_
      refine T_gf 53 (.long (i64 (m.1 72))) rfl rfl rfl rfl rfl rfl ?_
      refine T_gf 57 (.int (i32 (m.1 70))) rfl rfl rfl rfl rfl rfl ?_
      refine T_call 60 258 [.ref 189, .int (i32 (m.1 69)), .int (i32 (m.1 71)), .long (i64 (m.1 72)), .int (i32 (m.1 70))] [] rfl (fun _ => rfl) rfl (c_wantBit w (mO m [(7, (m.1 7)), (8, (m.1 8)), (9, (m.1 9)), (10, (m.1 10)), (11, (m.1 11)), (12, (m.1 12)), (28, (m.1 28)), (69, (m.1 69)), (70, (m.1 70)), (71, (m.1 71)), (72, (m.1 72)), (73, (m.1 73)), (74, (m.1 74)), (75, (m.1 75))] [(65, (m.2 65)), (66, (m.2 66)), (67, (m.2 67)), (68, (m.2 68)), (76, (m.2 76)), (77, (m.2 77)), (78, (m.2 78)), (79, (m.2 79)), (80, (m.2 80)), (81, (m.2 81)), (82, (m.2 82)), (83, (m.2 83)), (84, (m.2 84)), (85, (m.2 85)), (86, (m.2 86)), (87, (m.2 87)), (88, (m.2 88)), (89, (m.2 89)), (90, (m.2 90)), (91, (m.2 91)), (92, (m.2 92))]) c N D (by omega) (Ty_mO hT rfl rfl ⟨f7, f8, f9, f10, f11, f12, f28, f69, f70, f71, f72, f73, f74, f75, trivial⟩ ⟨(hT.2.1 65), (hT.2.1 66), (hT.2.1 67), (hT.2.1 68), (hT.2.1 76), (hT.2.1 77), (hT.2.1 78), (hT.2.1 79), (hT.2.1 80), (hT.2.1 81), (hT.2.1 82), (hT.2.1 83), (hT.2.1 84), (hT.2.1 85), (hT.2.1 86), (hT.2.1 87), (hT.2.1 88), (hT.2.1 89), (hT.2.1 90), (hT.2.1 91), (hT.2.1 92), trivial⟩) (m.1 69) (m.1 71) (m.1 72) (m.1 70) (r32 (by omega) (by omega)) (r32 (by omega) (by omega)) (r64 (by omega) (by omega)) (r32 (by omega) (by omega)) (show 0 ≤ (m.1 70) ∧ (m.1 70) ≤ 4000 by omega) (fun _ => trivial)) (fun rr378 k379 => ?_)
      obtain ⟨y380, y382, g381, g383, h384, c385, rfl⟩ := k379
      refine ⟨_, _, rfl, ?_⟩
      refine T_nf (st' := []) (l' := [(7, (m.1 7)), (8, (m.1 8)), (9, (m.1 9)), (10, y380), (11, y382), (12, (m.1 12)), (28, (m.1 28)), (69, (m.1 69)), (70, (m.1 70)), (71, (m.1 71)), (72, (m.1 72)), (73, (m.1 73)), (74, (m.1 74)), (75, (m.1 75))]) (a' := [(65, (m.2 65)), (66, (m.2 66)), (67, (m.2 67)), (68, (m.2 68)), (76, (m.2 76)), (77, (m.2 77)), (78, (m.2 78)), (79, (m.2 79)), (80, (m.2 80)), (81, (m.2 81)), (82, (m.2 82)), (83, (m.2 83)), (84, (m.2 84)), (85, (m.2 85)), (86, (m.2 86)), (87, (m.2 87)), (88, (m.2 88)), (89, (m.2 89)), (90, (m.2 90)), (91, (m.2 91)), (92, (m.2 92))]) rfl rfl rfl rfl rfl ?_
      by_cases hf386 : y380 = 0
      · skip
        subst hf386
        replace h384 : (m.1 10) = 0 := h384 rfl
        clear c385
        have u387 : (m.1 8) ≤ (m.1 8) := by omega
        have hAgC : agr (m.2 65) (m.2 65) (m.1 28) := by first | exact agr_r _ _ | exact hAgC | exact agr_t hAgC hAg (by omega)
        clear g381
        refine T_gf 64 (.ref 240) rfl rfl rfl rfl rfl rfl ?_
        refine T_ld 65 (.int (i32 ((m.1 73) - 1))) rfl (fun _ => rfl) ?_
        refine T_iald 66 78 (m.2 78) rfl rfl rfl (by omega) (show ((m.1 73) - 1) < (60 : Int) by omega) rfl ?_
        have e388 : 0 ≤ (m.2 78) ((m.1 73) - 1) ∧ (m.2 78) ((m.1 73) - 1) ≤ 330 := (hT.2.1 78) ((m.1 73) - 1)
        refine T_ld 68 (.int (i32 33)) rfl (fun _ => rfl) ?_
        refine T_icmp 73 71 rfl rfl rfl (r32 (by omega) (by omega)) ⟨by decide, by decide⟩ (fun (h389 : (m.2 78) ((m.1 73) - 1) ≠ 33) => by exfalso; omega) (fun (h389 : ¬ ((m.2 78) ((m.1 73) - 1) ≠ 33)) => ?_)
        refine T_ld 72 (.int (i32 1)) rfl (fun _ => rfl) ?_
        refine T_sto 73 [(3, .int (i32 1)), (2, .int (i32 ((m.2 77) ((m.1 73) - 1)))), (1, .int (i32 ((m.1 73) - 1))), (0, .ref 189)] rfl (fun _ => rfl) ?_
        refine T_ld 74 (.ref 189) rfl (fun _ => rfl) ?_
        refine T_ld 75 (.ref 189) rfl (fun _ => rfl) ?_
        refine T_gf1 78 (.int (i32 (m.1 73))) rfl rfl rfl rfl ?_
        refine T_ld 79 (.int (i32 1)) rfl (fun _ => rfl) ?_
        refine T_isub 80 rfl rfl ?_
        refine T_pf (l' := [(7, (m.1 7)), (8, (m.1 8)), (9, (m.1 9)), (10, 0), (11, y382), (12, (m.1 12)), (28, (m.1 28)), (69, (m.1 69)), (70, (m.1 70)), (71, (m.1 71)), (72, (m.1 72)), (73, (m.1 73) - 1), (74, (m.1 74)), (75, (m.1 75))]) 83 ((m.1 73) - 1) rfl rfl rfl rfl rfl rfl ?_
        have g390 : 0 ≤ (m.1 73) - 1 ∧ (m.1 73) - 1 ≤ 60 := ⟨by omega, by omega⟩
        refine T_ld 84 (.ref 189) rfl (fun _ => rfl) ?_
        refine T_ld 85 (.ref 189) rfl (fun _ => rfl) ?_
        refine T_gf1 88 (.int (i32 (m.1 74))) rfl rfl rfl rfl ?_
        refine T_ld 89 (.int (i32 1)) rfl (fun _ => rfl) ?_
        refine T_isub 90 rfl rfl ?_
        refine T_pf (l' := [(7, (m.1 7)), (8, (m.1 8)), (9, (m.1 9)), (10, 0), (11, y382), (12, (m.1 12)), (28, (m.1 28)), (69, (m.1 69)), (70, (m.1 70)), (71, (m.1 71)), (72, (m.1 72)), (73, (m.1 73) - 1), (74, (m.1 74) - 1), (75, (m.1 75))]) 93 ((m.1 74) - 1) rfl rfl rfl rfl rfl rfl ?_
        have g391 : 0 ≤ (m.1 74) - 1 ∧ (m.1 74) - 1 ≤ 24 := ⟨by omega, by omega⟩
        refine T_ld 94 (.ref 189) rfl (fun _ => rfl) ?_
        refine T_gf 98 (.ref 240) rfl rfl rfl rfl rfl rfl ?_
        refine T_ld 99 (.int (i32 ((m.1 73) - 1))) rfl (fun _ => rfl) ?_
        refine T_iald 100 78 (m.2 78) rfl rfl rfl (by omega) (show ((m.1 73) - 1) < (60 : Int) by omega) rfl ?_
        have e392 : 0 ≤ (m.2 78) ((m.1 73) - 1) ∧ (m.2 78) ((m.1 73) - 1) ≤ 330 := (hT.2.1 78) ((m.1 73) - 1)
        refine T_ld 102 (.int (i32 45)) rfl (fun _ => rfl) ?_
        refine T_icmp 111 105 rfl rfl rfl (r32 (by omega) (by omega)) ⟨by decide, by decide⟩ (fun (h393 : (m.2 78) ((m.1 73) - 1) ≠ 45) => ?_) (fun (h393 : ¬ ((m.2 78) ((m.1 73) - 1) ≠ 45)) => by exfalso; omega)
        refine T_gf 115 (.ref 240) rfl rfl rfl rfl rfl rfl ?_
        refine T_ld 116 (.int (i32 ((m.1 73) - 1))) rfl (fun _ => rfl) ?_
        refine T_iald 117 78 (m.2 78) rfl rfl rfl (by omega) (show ((m.1 73) - 1) < (60 : Int) by omega) rfl ?_
        have e394 : 0 ≤ (m.2 78) ((m.1 73) - 1) ∧ (m.2 78) ((m.1 73) - 1) ≤ 330 := (hT.2.1 78) ((m.1 73) - 1)
        have hA : ar ((m.2 78) ((m.1 73) - 1)) = 1 := ar_1 (by omega)
        have hAr : ar ((m.2 78) ((m.1 73) - 1)) ≤ 1 + lh (m.2 79) (m.2 80) ((m.1 73) - 1) := by omega
        have hCk : CNk ((m.2 78) ((m.1 73) - 1)) 0 := by refine ⟨?_, ?_, ?_, ?_⟩ <;> omega
        refine T_ld 118 (.int (i32 1)) rfl (fun _ => rfl) ?_
        refine T_ld 119 (.int (i32 0)) rfl (fun _ => rfl) ?_
        refine T_ld 120 (.long (i64 0)) rfl (fun _ => rfl) ?_
        refine T_call 123 248 [.ref 189, .int (i32 ((m.2 78) ((m.1 73) - 1))), .int (i32 1), .int (i32 0), .long (i64 0)] [] rfl (fun _ => rfl) rfl (c_node w (mO m [(7, (m.1 7)), (8, (m.1 8)), (9, (m.1 9)), (10, 0), (11, y382), (12, (m.1 12)), (28, (m.1 28)), (69, (m.1 69)), (70, (m.1 70)), (71, (m.1 71)), (72, (m.1 72)), (73, (m.1 73) - 1), (74, (m.1 74) - 1), (75, (m.1 75))] [(65, (m.2 65)), (66, (m.2 66)), (67, (m.2 67)), (68, (m.2 68)), (76, (m.2 76)), (77, (m.2 77)), (78, (m.2 78)), (79, (m.2 79)), (80, (m.2 80)), (81, (m.2 81)), (82, (m.2 82)), (83, (m.2 83)), (84, (m.2 84)), (85, (m.2 85)), (86, (m.2 86)), (87, (m.2 87)), (88, (m.2 88)), (89, (m.2 89)), (90, (m.2 90)), (91, (m.2 91)), (92, (m.2 92))]) c N D (by omega) (Ty_mO hT rfl rfl ⟨f7, f8, f9, ⟨(by omega : (0 : Int) ≤ 0), (by omega : (0 : Int) ≤ 8)⟩, g383, f12, f28, f69, f70, f71, f72, g390, g391, f75, trivial⟩ ⟨(hT.2.1 65), (hT.2.1 66), (hT.2.1 67), (hT.2.1 68), (hT.2.1 76), (hT.2.1 77), (hT.2.1 78), (hT.2.1 79), (hT.2.1 80), (hT.2.1 81), (hT.2.1 82), (hT.2.1 83), (hT.2.1 84), (hT.2.1 85), (hT.2.1 86), (hT.2.1 87), (hT.2.1 88), (hT.2.1 89), (hT.2.1 90), (hT.2.1 91), (hT.2.1 92), trivial⟩) ((m.2 78) ((m.1 73) - 1)) 1 0 0 B (1 + lh (m.2 79) (m.2 80) ((m.1 73) - 1)) (r32 (by omega) (by omega)) ⟨by decide, by decide⟩ ⟨by decide, by decide⟩ ⟨by decide, by decide⟩ (fun _ => ⟨(show 0 ≤ ((m.2 78) ((m.1 73) - 1)) ∧ ((m.2 78) ((m.1 73) - 1)) ≤ 408 by first | omega | decide), (show 0 ≤ (1 : Int) ∧ (1 : Int) ≤ 64 by first | omega | decide), (show 0 ≤ (0 : Int) ∧ (0 : Int) ≤ 191 by first | omega | decide), (show CNk ((m.2 78) ((m.1 73) - 1)) (0 : Int) by first | exact hCk | (refine ⟨?_, ?_, ?_, ?_⟩ <;> omega)), (show ar ((m.2 78) ((m.1 73) - 1)) ≤ (1 + lh (m.2 79) (m.2 80) ((m.1 73) - 1)) by first | exact hAr | omega), (show EX (m.2 65) (m.2 67) B (m.1 28) (1 + lh (m.2 79) (m.2 80) ((m.1 73) - 1)) by first | exact hEX | assumption)⟩)) (fun rr395 k396 => ?_)
        obtain ⟨y397, y399, y401, F403, F405, F407, F409, g398, g400, g402, G404, G406, G408, G410, h411, c412, rfl⟩ := k396
        refine ⟨_, _, rfl, ?_⟩
        refine T_nf (st' := []) (l' := [(7, (m.1 7)), (8, (m.1 8)), (9, (m.1 9)), (10, y397), (11, y399), (12, (m.1 12)), (28, y401), (69, (m.1 69)), (70, (m.1 70)), (71, (m.1 71)), (72, (m.1 72)), (73, (m.1 73) - 1), (74, (m.1 74) - 1), (75, (m.1 75))]) (a' := [(65, F403), (66, F405), (67, F407), (68, F409), (76, (m.2 76)), (77, (m.2 77)), (78, (m.2 78)), (79, (m.2 79)), (80, (m.2 80)), (81, (m.2 81)), (82, (m.2 82)), (83, (m.2 83)), (84, (m.2 84)), (85, (m.2 85)), (86, (m.2 86)), (87, (m.2 87)), (88, (m.2 88)), (89, (m.2 89)), (90, (m.2 90)), (91, (m.2 91)), (92, (m.2 92))]) rfl rfl rfl rfl rfl ?_
        by_cases hf413 : y397 = 0
        · skip
          subst hf413
          replace h411 : (0 : Int) = 0 := h411 rfl
          obtain ⟨c414, c415, c416⟩ := c412 rfl
          replace c414 : y401 = (m.1 28) + 1 := c414
          replace c415 : EX F403 F407 B y401 ((1 + lh (m.2 79) (m.2 80) ((m.1 73) - 1)) + 1 - ar ((m.2 78) ((m.1 73) - 1))) := c415
          have hEX := c415
          replace c416 : agr (m.2 65) F403 (m.1 28) := c416
          have hAg := c416
          clear c412
          have u417 : (m.1 8) ≤ (m.1 8) := by omega
          have hAgC : agr (m.2 65) F403 (m.1 28) := by first | exact agr_r _ _ | exact hAgC | exact agr_t hAgC hAg (by omega)
          clear g383 g398
          have hXE : XS F403 F407 (m.2 76) (m.2 78) (m.2 79) (m.2 80) B y401 ((m.1 73) - 1) ((m.1 74) - 1) (um (m.1 75)) := by
            rw [show um (m.1 75) = 1 from if_neg (by omega)]
            exact XS_of hXP hEX (by omega)
          refine T_ld 124 (.ref 189) rfl (fun _ => rfl) ?_
          refine T_ld 125 (.int (i32 1)) rfl (fun _ => rfl) ?_
          refine T_ld 126 (.int (i32 ((m.2 77) ((m.1 73) - 1)))) rfl (fun _ => rfl) ?_
          refine T_call 129 250 [.ref 189, .int (i32 1), .int (i32 ((m.2 77) ((m.1 73) - 1)))] [] rfl (fun _ => rfl) rfl (c_unit w (mO m [(7, (m.1 7)), (8, (m.1 8)), (9, (m.1 9)), (10, 0), (11, y399), (12, (m.1 12)), (28, y401), (69, (m.1 69)), (70, (m.1 70)), (71, (m.1 71)), (72, (m.1 72)), (73, (m.1 73) - 1), (74, (m.1 74) - 1), (75, (m.1 75))] [(65, F403), (66, F405), (67, F407), (68, F409), (76, (m.2 76)), (77, (m.2 77)), (78, (m.2 78)), (79, (m.2 79)), (80, (m.2 80)), (81, (m.2 81)), (82, (m.2 82)), (83, (m.2 83)), (84, (m.2 84)), (85, (m.2 85)), (86, (m.2 86)), (87, (m.2 87)), (88, (m.2 88)), (89, (m.2 89)), (90, (m.2 90)), (91, (m.2 91)), (92, (m.2 92))]) c N D (by omega) (Ty_mO hT rfl rfl ⟨f7, f8, f9, ⟨(by omega : (0 : Int) ≤ 0), (by omega : (0 : Int) ≤ 8)⟩, g400, f12, g402, f69, f70, f71, f72, g390, g391, f75, trivial⟩ ⟨G404, G406, G408, G410, (hT.2.1 76), (hT.2.1 77), (hT.2.1 78), (hT.2.1 79), (hT.2.1 80), (hT.2.1 81), (hT.2.1 82), (hT.2.1 83), (hT.2.1 84), (hT.2.1 85), (hT.2.1 86), (hT.2.1 87), (hT.2.1 88), (hT.2.1 89), (hT.2.1 90), (hT.2.1 91), (hT.2.1 92), trivial⟩) 1 ((m.2 77) ((m.1 73) - 1)) ⟨by decide, by decide⟩ (r32 (by omega) (by omega)) (show 0 ≤ (1 : Int) ∧ (1 : Int) ≤ 1024 by omega) (show 0 ≤ ((m.2 77) ((m.1 73) - 1)) ∧ ((m.2 77) ((m.1 73) - 1)) ≤ 4000 by omega)) (fun rr418 k419 => ?_)
          obtain ⟨y420, y422, y424, y426, g421, g423, g425, g427, h428, rfl⟩ := k419
          refine ⟨_, _, rfl, ?_⟩
          refine T_nf (st' := []) (l' := [(7, (m.1 7)), (8, (m.1 8)), (9, (m.1 9)), (10, 0), (11, y399), (12, (m.1 12)), (28, y401), (69, y420), (70, y422), (71, y424), (72, y426), (73, (m.1 73) - 1), (74, (m.1 74) - 1), (75, (m.1 75))]) (a' := [(65, F403), (66, F405), (67, F407), (68, F409), (76, (m.2 76)), (77, (m.2 77)), (78, (m.2 78)), (79, (m.2 79)), (80, (m.2 80)), (81, (m.2 81)), (82, (m.2 82)), (83, (m.2 83)), (84, (m.2 84)), (85, (m.2 85)), (86, (m.2 86)), (87, (m.2 87)), (88, (m.2 88)), (89, (m.2 89)), (90, (m.2 90)), (91, (m.2 91)), (92, (m.2 92))]) rfl rfl rfl rfl rfl ?_
          replace h428 : y420 = (1 : Int) := h428
          have u429 : (m.1 8) ≤ (m.1 8) := by omega
          have hAgC : agr (m.2 65) F403 (m.1 28) := by first | exact agr_r _ _ | exact hAgC | exact agr_t hAgC hAg (by omega)
          refine T_ret rfl (fun _ => rfl) ?_
          exact ⟨(m.1 7), (m.1 8), (m.1 9), 0, y399, (m.1 12), y401, y420, y422, y424, y426, (m.1 73) - 1, (m.1 74) - 1, (m.1 75), F403, F405, F407, F409, (m.2 76), (m.2 77), (m.2 78), (m.2 79), (m.2 80), (m.2 81), (m.2 82), (m.2 83), (m.2 84), (m.2 85), (m.2 86), (m.2 87), (m.2 88), (m.2 89), (m.2 90), (m.2 91), (m.2 92), f7, f8, f9, ⟨by omega, by omega⟩, g400, f12, g402, g421, g423, g425, g427, g390, g391, f75, G404, G406, G408, G410, (hT.2.1 76), (hT.2.1 77), (hT.2.1 78), (hT.2.1 79), (hT.2.1 80), (hT.2.1 81), (hT.2.1 82), (hT.2.1 83), (hT.2.1 84), (hT.2.1 85), (hT.2.1 86), (hT.2.1 87), (hT.2.1 88), (hT.2.1 89), (hT.2.1 90), (hT.2.1 91), (hT.2.1 92), (by omega), (by first | (first | exact hLx | (intro h9; exfalso; omega)) | (exfalso; omega)), (fun _ => ⟨(by omega), (by omega), (by omega), (by omega), (by first | (exact hXE) | (exfalso; omega)), (by first | (exact hAgC) | (exfalso; omega))⟩), rfl⟩
        · skip
          clear c412
          clear h411
          have hf430 : 1 ≤ y397 := by omega
          clear g383
          refine T_ld 124 (.ref 189) rfl (fun _ => rfl) ?_
          refine T_ld 125 (.int (i32 1)) rfl (fun _ => rfl) ?_
          refine T_ld 126 (.int (i32 ((m.2 77) ((m.1 73) - 1)))) rfl (fun _ => rfl) ?_
          refine T_call 129 250 [.ref 189, .int (i32 1), .int (i32 ((m.2 77) ((m.1 73) - 1)))] [] rfl (fun _ => rfl) rfl (c_unit w (mO m [(7, (m.1 7)), (8, (m.1 8)), (9, (m.1 9)), (10, y397), (11, y399), (12, (m.1 12)), (28, y401), (69, (m.1 69)), (70, (m.1 70)), (71, (m.1 71)), (72, (m.1 72)), (73, (m.1 73) - 1), (74, (m.1 74) - 1), (75, (m.1 75))] [(65, F403), (66, F405), (67, F407), (68, F409), (76, (m.2 76)), (77, (m.2 77)), (78, (m.2 78)), (79, (m.2 79)), (80, (m.2 80)), (81, (m.2 81)), (82, (m.2 82)), (83, (m.2 83)), (84, (m.2 84)), (85, (m.2 85)), (86, (m.2 86)), (87, (m.2 87)), (88, (m.2 88)), (89, (m.2 89)), (90, (m.2 90)), (91, (m.2 91)), (92, (m.2 92))]) c N D (by omega) (Ty_mO hT rfl rfl ⟨f7, f8, f9, g398, g400, f12, g402, f69, f70, f71, f72, g390, g391, f75, trivial⟩ ⟨G404, G406, G408, G410, (hT.2.1 76), (hT.2.1 77), (hT.2.1 78), (hT.2.1 79), (hT.2.1 80), (hT.2.1 81), (hT.2.1 82), (hT.2.1 83), (hT.2.1 84), (hT.2.1 85), (hT.2.1 86), (hT.2.1 87), (hT.2.1 88), (hT.2.1 89), (hT.2.1 90), (hT.2.1 91), (hT.2.1 92), trivial⟩) 1 ((m.2 77) ((m.1 73) - 1)) ⟨by decide, by decide⟩ (r32 (by omega) (by omega)) (show 0 ≤ (1 : Int) ∧ (1 : Int) ≤ 1024 by omega) (show 0 ≤ ((m.2 77) ((m.1 73) - 1)) ∧ ((m.2 77) ((m.1 73) - 1)) ≤ 4000 by omega)) (fun rr431 k432 => ?_)
          obtain ⟨y433, y435, y437, y439, g434, g436, g438, g440, h441, rfl⟩ := k432
          refine ⟨_, _, rfl, ?_⟩
          refine T_nf (st' := []) (l' := [(7, (m.1 7)), (8, (m.1 8)), (9, (m.1 9)), (10, y397), (11, y399), (12, (m.1 12)), (28, y401), (69, y433), (70, y435), (71, y437), (72, y439), (73, (m.1 73) - 1), (74, (m.1 74) - 1), (75, (m.1 75))]) (a' := [(65, F403), (66, F405), (67, F407), (68, F409), (76, (m.2 76)), (77, (m.2 77)), (78, (m.2 78)), (79, (m.2 79)), (80, (m.2 80)), (81, (m.2 81)), (82, (m.2 82)), (83, (m.2 83)), (84, (m.2 84)), (85, (m.2 85)), (86, (m.2 86)), (87, (m.2 87)), (88, (m.2 88)), (89, (m.2 89)), (90, (m.2 90)), (91, (m.2 91)), (92, (m.2 92))]) rfl rfl rfl rfl rfl ?_
          replace h441 : y433 = (1 : Int) := h441
          refine T_ret rfl (fun _ => rfl) ?_
          exact ⟨(m.1 7), (m.1 8), (m.1 9), y397, y399, (m.1 12), y401, y433, y435, y437, y439, (m.1 73) - 1, (m.1 74) - 1, (m.1 75), F403, F405, F407, F409, (m.2 76), (m.2 77), (m.2 78), (m.2 79), (m.2 80), (m.2 81), (m.2 82), (m.2 83), (m.2 84), (m.2 85), (m.2 86), (m.2 87), (m.2 88), (m.2 89), (m.2 90), (m.2 91), (m.2 92), f7, f8, f9, g398, g400, f12, g402, g434, g436, g438, g440, g390, g391, f75, G404, G406, G408, G410, (hT.2.1 76), (hT.2.1 77), (hT.2.1 78), (hT.2.1 79), (hT.2.1 80), (hT.2.1 81), (hT.2.1 82), (hT.2.1 83), (hT.2.1 84), (hT.2.1 85), (hT.2.1 86), (hT.2.1 87), (hT.2.1 88), (hT.2.1 89), (hT.2.1 90), (hT.2.1 91), (hT.2.1 92), (by omega), (by first | (first | exact hLx | (intro h9; exfalso; omega)) | (exfalso; omega)), (fun h => absurd h (by omega)), rfl⟩
      · skip
        clear c385
        clear h384
        have hf442 : 1 ≤ y380 := by omega
        refine T_gf 64 (.ref 240) rfl rfl rfl rfl rfl rfl ?_
        refine T_ld 65 (.int (i32 ((m.1 73) - 1))) rfl (fun _ => rfl) ?_
        refine T_iald 66 78 (m.2 78) rfl rfl rfl (by omega) (show ((m.1 73) - 1) < (60 : Int) by omega) rfl ?_
        have e443 : 0 ≤ (m.2 78) ((m.1 73) - 1) ∧ (m.2 78) ((m.1 73) - 1) ≤ 330 := (hT.2.1 78) ((m.1 73) - 1)
        refine T_ld 68 (.int (i32 33)) rfl (fun _ => rfl) ?_
        refine T_icmp 73 71 rfl rfl rfl (r32 (by omega) (by omega)) ⟨by decide, by decide⟩ (fun (h444 : (m.2 78) ((m.1 73) - 1) ≠ 33) => by exfalso; omega) (fun (h444 : ¬ ((m.2 78) ((m.1 73) - 1) ≠ 33)) => ?_)
        refine T_ld 72 (.int (i32 1)) rfl (fun _ => rfl) ?_
        refine T_sto 73 [(3, .int (i32 1)), (2, .int (i32 ((m.2 77) ((m.1 73) - 1)))), (1, .int (i32 ((m.1 73) - 1))), (0, .ref 189)] rfl (fun _ => rfl) ?_
        refine T_ld 74 (.ref 189) rfl (fun _ => rfl) ?_
        refine T_ld 75 (.ref 189) rfl (fun _ => rfl) ?_
        refine T_gf1 78 (.int (i32 (m.1 73))) rfl rfl rfl rfl ?_
        refine T_ld 79 (.int (i32 1)) rfl (fun _ => rfl) ?_
        refine T_isub 80 rfl rfl ?_
        refine T_pf (l' := [(7, (m.1 7)), (8, (m.1 8)), (9, (m.1 9)), (10, y380), (11, y382), (12, (m.1 12)), (28, (m.1 28)), (69, (m.1 69)), (70, (m.1 70)), (71, (m.1 71)), (72, (m.1 72)), (73, (m.1 73) - 1), (74, (m.1 74)), (75, (m.1 75))]) 83 ((m.1 73) - 1) rfl rfl rfl rfl rfl rfl ?_
        have g445 : 0 ≤ (m.1 73) - 1 ∧ (m.1 73) - 1 ≤ 60 := ⟨by omega, by omega⟩
        refine T_ld 84 (.ref 189) rfl (fun _ => rfl) ?_
        refine T_ld 85 (.ref 189) rfl (fun _ => rfl) ?_
        refine T_gf1 88 (.int (i32 (m.1 74))) rfl rfl rfl rfl ?_
        refine T_ld 89 (.int (i32 1)) rfl (fun _ => rfl) ?_
        refine T_isub 90 rfl rfl ?_
        refine T_pf (l' := [(7, (m.1 7)), (8, (m.1 8)), (9, (m.1 9)), (10, y380), (11, y382), (12, (m.1 12)), (28, (m.1 28)), (69, (m.1 69)), (70, (m.1 70)), (71, (m.1 71)), (72, (m.1 72)), (73, (m.1 73) - 1), (74, (m.1 74) - 1), (75, (m.1 75))]) 93 ((m.1 74) - 1) rfl rfl rfl rfl rfl rfl ?_
        have g446 : 0 ≤ (m.1 74) - 1 ∧ (m.1 74) - 1 ≤ 24 := ⟨by omega, by omega⟩
        refine T_ld 94 (.ref 189) rfl (fun _ => rfl) ?_
        refine T_gf 98 (.ref 240) rfl rfl rfl rfl rfl rfl ?_
        refine T_ld 99 (.int (i32 ((m.1 73) - 1))) rfl (fun _ => rfl) ?_
        refine T_iald 100 78 (m.2 78) rfl rfl rfl (by omega) (show ((m.1 73) - 1) < (60 : Int) by omega) rfl ?_
        have e447 : 0 ≤ (m.2 78) ((m.1 73) - 1) ∧ (m.2 78) ((m.1 73) - 1) ≤ 330 := (hT.2.1 78) ((m.1 73) - 1)
        refine T_ld 102 (.int (i32 45)) rfl (fun _ => rfl) ?_
        refine T_icmp 111 105 rfl rfl rfl (r32 (by omega) (by omega)) ⟨by decide, by decide⟩ (fun (h448 : (m.2 78) ((m.1 73) - 1) ≠ 45) => ?_) (fun (h448 : ¬ ((m.2 78) ((m.1 73) - 1) ≠ 45)) => by exfalso; omega)
        refine T_gf 115 (.ref 240) rfl rfl rfl rfl rfl rfl ?_
        refine T_ld 116 (.int (i32 ((m.1 73) - 1))) rfl (fun _ => rfl) ?_
        refine T_iald 117 78 (m.2 78) rfl rfl rfl (by omega) (show ((m.1 73) - 1) < (60 : Int) by omega) rfl ?_
        have e449 : 0 ≤ (m.2 78) ((m.1 73) - 1) ∧ (m.2 78) ((m.1 73) - 1) ≤ 330 := (hT.2.1 78) ((m.1 73) - 1)
        refine T_ld 118 (.int (i32 1)) rfl (fun _ => rfl) ?_
        refine T_ld 119 (.int (i32 0)) rfl (fun _ => rfl) ?_
        refine T_ld 120 (.long (i64 0)) rfl (fun _ => rfl) ?_
        refine T_call 123 248 [.ref 189, .int (i32 ((m.2 78) ((m.1 73) - 1))), .int (i32 1), .int (i32 0), .long (i64 0)] [] rfl (fun _ => rfl) rfl (c_node w (mO m [(7, (m.1 7)), (8, (m.1 8)), (9, (m.1 9)), (10, y380), (11, y382), (12, (m.1 12)), (28, (m.1 28)), (69, (m.1 69)), (70, (m.1 70)), (71, (m.1 71)), (72, (m.1 72)), (73, (m.1 73) - 1), (74, (m.1 74) - 1), (75, (m.1 75))] [(65, (m.2 65)), (66, (m.2 66)), (67, (m.2 67)), (68, (m.2 68)), (76, (m.2 76)), (77, (m.2 77)), (78, (m.2 78)), (79, (m.2 79)), (80, (m.2 80)), (81, (m.2 81)), (82, (m.2 82)), (83, (m.2 83)), (84, (m.2 84)), (85, (m.2 85)), (86, (m.2 86)), (87, (m.2 87)), (88, (m.2 88)), (89, (m.2 89)), (90, (m.2 90)), (91, (m.2 91)), (92, (m.2 92))]) c N D (by omega) (Ty_mO hT rfl rfl ⟨f7, f8, f9, g381, g383, f12, f28, f69, f70, f71, f72, g445, g446, f75, trivial⟩ ⟨(hT.2.1 65), (hT.2.1 66), (hT.2.1 67), (hT.2.1 68), (hT.2.1 76), (hT.2.1 77), (hT.2.1 78), (hT.2.1 79), (hT.2.1 80), (hT.2.1 81), (hT.2.1 82), (hT.2.1 83), (hT.2.1 84), (hT.2.1 85), (hT.2.1 86), (hT.2.1 87), (hT.2.1 88), (hT.2.1 89), (hT.2.1 90), (hT.2.1 91), (hT.2.1 92), trivial⟩) ((m.2 78) ((m.1 73) - 1)) 1 0 0 B (1 + lh (m.2 79) (m.2 80) ((m.1 73) - 1)) (r32 (by omega) (by omega)) ⟨by decide, by decide⟩ ⟨by decide, by decide⟩ ⟨by decide, by decide⟩ (fun (h : y380 = 0) => absurd h (by omega))) (fun rr450 k451 => ?_)
        obtain ⟨y452, y454, y456, F458, F460, F462, F464, g453, g455, g457, G459, G461, G463, G465, h466, c467, rfl⟩ := k451
        refine ⟨_, _, rfl, ?_⟩
        refine T_nf (st' := []) (l' := [(7, (m.1 7)), (8, (m.1 8)), (9, (m.1 9)), (10, y452), (11, y454), (12, (m.1 12)), (28, y456), (69, (m.1 69)), (70, (m.1 70)), (71, (m.1 71)), (72, (m.1 72)), (73, (m.1 73) - 1), (74, (m.1 74) - 1), (75, (m.1 75))]) (a' := [(65, F458), (66, F460), (67, F462), (68, F464), (76, (m.2 76)), (77, (m.2 77)), (78, (m.2 78)), (79, (m.2 79)), (80, (m.2 80)), (81, (m.2 81)), (82, (m.2 82)), (83, (m.2 83)), (84, (m.2 84)), (85, (m.2 85)), (86, (m.2 86)), (87, (m.2 87)), (88, (m.2 88)), (89, (m.2 89)), (90, (m.2 90)), (91, (m.2 91)), (92, (m.2 92))]) rfl rfl rfl rfl rfl ?_
        replace h466 : y452 = 0 → y380 = 0 := h466
        have hf468 : 1 ≤ y452 := by omega
        clear c467
        clear h466
        clear g381 g383 hf442
        refine T_ld 124 (.ref 189) rfl (fun _ => rfl) ?_
        refine T_ld 125 (.int (i32 1)) rfl (fun _ => rfl) ?_
        refine T_ld 126 (.int (i32 ((m.2 77) ((m.1 73) - 1)))) rfl (fun _ => rfl) ?_
        refine T_call 129 250 [.ref 189, .int (i32 1), .int (i32 ((m.2 77) ((m.1 73) - 1)))] [] rfl (fun _ => rfl) rfl (c_unit w (mO m [(7, (m.1 7)), (8, (m.1 8)), (9, (m.1 9)), (10, y452), (11, y454), (12, (m.1 12)), (28, y456), (69, (m.1 69)), (70, (m.1 70)), (71, (m.1 71)), (72, (m.1 72)), (73, (m.1 73) - 1), (74, (m.1 74) - 1), (75, (m.1 75))] [(65, F458), (66, F460), (67, F462), (68, F464), (76, (m.2 76)), (77, (m.2 77)), (78, (m.2 78)), (79, (m.2 79)), (80, (m.2 80)), (81, (m.2 81)), (82, (m.2 82)), (83, (m.2 83)), (84, (m.2 84)), (85, (m.2 85)), (86, (m.2 86)), (87, (m.2 87)), (88, (m.2 88)), (89, (m.2 89)), (90, (m.2 90)), (91, (m.2 91)), (92, (m.2 92))]) c N D (by omega) (Ty_mO hT rfl rfl ⟨f7, f8, f9, g453, g455, f12, g457, f69, f70, f71, f72, g445, g446, f75, trivial⟩ ⟨G459, G461, G463, G465, (hT.2.1 76), (hT.2.1 77), (hT.2.1 78), (hT.2.1 79), (hT.2.1 80), (hT.2.1 81), (hT.2.1 82), (hT.2.1 83), (hT.2.1 84), (hT.2.1 85), (hT.2.1 86), (hT.2.1 87), (hT.2.1 88), (hT.2.1 89), (hT.2.1 90), (hT.2.1 91), (hT.2.1 92), trivial⟩) 1 ((m.2 77) ((m.1 73) - 1)) ⟨by decide, by decide⟩ (r32 (by omega) (by omega)) (show 0 ≤ (1 : Int) ∧ (1 : Int) ≤ 1024 by omega) (show 0 ≤ ((m.2 77) ((m.1 73) - 1)) ∧ ((m.2 77) ((m.1 73) - 1)) ≤ 4000 by omega)) (fun rr469 k470 => ?_)
        obtain ⟨y471, y473, y475, y477, g472, g474, g476, g478, h479, rfl⟩ := k470
        refine ⟨_, _, rfl, ?_⟩
        refine T_nf (st' := []) (l' := [(7, (m.1 7)), (8, (m.1 8)), (9, (m.1 9)), (10, y452), (11, y454), (12, (m.1 12)), (28, y456), (69, y471), (70, y473), (71, y475), (72, y477), (73, (m.1 73) - 1), (74, (m.1 74) - 1), (75, (m.1 75))]) (a' := [(65, F458), (66, F460), (67, F462), (68, F464), (76, (m.2 76)), (77, (m.2 77)), (78, (m.2 78)), (79, (m.2 79)), (80, (m.2 80)), (81, (m.2 81)), (82, (m.2 82)), (83, (m.2 83)), (84, (m.2 84)), (85, (m.2 85)), (86, (m.2 86)), (87, (m.2 87)), (88, (m.2 88)), (89, (m.2 89)), (90, (m.2 90)), (91, (m.2 91)), (92, (m.2 92))]) rfl rfl rfl rfl rfl ?_
        replace h479 : y471 = (1 : Int) := h479
        refine T_ret rfl (fun _ => rfl) ?_
        exact ⟨(m.1 7), (m.1 8), (m.1 9), y452, y454, (m.1 12), y456, y471, y473, y475, y477, (m.1 73) - 1, (m.1 74) - 1, (m.1 75), F458, F460, F462, F464, (m.2 76), (m.2 77), (m.2 78), (m.2 79), (m.2 80), (m.2 81), (m.2 82), (m.2 83), (m.2 84), (m.2 85), (m.2 86), (m.2 87), (m.2 88), (m.2 89), (m.2 90), (m.2 91), (m.2 92), f7, f8, f9, g453, g455, f12, g457, g472, g474, g476, g478, g445, g446, f75, G459, G461, G463, G465, (hT.2.1 76), (hT.2.1 77), (hT.2.1 78), (hT.2.1 79), (hT.2.1 80), (hT.2.1 81), (hT.2.1 82), (hT.2.1 83), (hT.2.1 84), (hT.2.1 85), (hT.2.1 86), (hT.2.1 87), (hT.2.1 88), (hT.2.1 89), (hT.2.1 90), (hT.2.1 91), (hT.2.1 92), (by omega), (by first | (first | exact hLx | (intro h9; exfalso; omega)) | (exfalso; omega)), (fun h => absurd h (by omega)), rfl⟩
def Q_readExpr (m : mR) (c : Nat → Option am_C) (N : Nat) : ag_Re af_T → Prop := fun R => ∃ (y7 : Int) (y8 : Int) (y9 : Int) (y10 : Int) (y11 : Int) (y12 : Int) (y28 : Int) (y69 : Int) (y70 : Int) (y71 : Int) (y72 : Int) (y73 : Int) (y74 : Int) (y75 : Int) (F65 : Int → Int) (F66 : Int → Int) (F67 : Int → Int) (F68 : Int → Int) (F76 : Int → Int) (F77 : Int → Int) (F78 : Int → Int) (F79 : Int → Int) (F80 : Int → Int) (F81 : Int → Int) (F82 : Int → Int) (F83 : Int → Int) (F84 : Int → Int) (F85 : Int → Int) (F86 : Int → Int) (F87 : Int → Int) (F88 : Int → Int) (F89 : Int → Int) (F90 : Int → Int) (F91 : Int → Int) (F92 : Int → Int), (0 ≤ y7 ∧ y7 ≤ 330) ∧ (0 ≤ y8 ∧ y8 ≤ 4000) ∧ (0 ≤ y9 ∧ y9 ≤ 4000) ∧ (0 ≤ y10 ∧ y10 ≤ 8) ∧ ((-1) ≤ y11 ∧ y11 ≤ 4000) ∧ ((-9223372036854775808) ≤ y12 ∧ y12 ≤ 9223372036854775807) ∧ (0 ≤ y28 ∧ y28 ≤ 800) ∧ (0 ≤ y69 ∧ y69 ≤ 1024) ∧ (0 ≤ y70 ∧ y70 ≤ 4000) ∧ (0 ≤ y71 ∧ y71 ≤ 1) ∧ ((-9223372036854775808) ≤ y72 ∧ y72 ≤ 9223372036854775807) ∧ (0 ≤ y73 ∧ y73 ≤ 60) ∧ (0 ≤ y74 ∧ y74 ≤ 24) ∧ (0 ≤ y75 ∧ y75 ≤ 3) ∧ (∀ j, 0 ≤ F65 j ∧ F65 j ≤ 408) ∧ (∀ j, 0 ≤ F66 j ∧ F66 j ≤ 64) ∧ (∀ j, 0 ≤ F67 j ∧ F67 j ≤ 191) ∧ (∀ j, (-9223372036854775808) ≤ F68 j ∧ F68 j ≤ 9223372036854775807) ∧ (∀ j, 0 ≤ F76 j ∧ F76 j ≤ 2) ∧ (∀ j, 0 ≤ F77 j ∧ F77 j ≤ 4000) ∧ (∀ j, 0 ≤ F78 j ∧ F78 j ≤ 330) ∧ (∀ j, 0 ≤ F79 j ∧ F79 j ≤ 2) ∧ (∀ j, (-1) ≤ F80 j ∧ F80 j ≤ 330) ∧ (∀ j, 0 ≤ F81 j ∧ F81 j ≤ 64) ∧ (∀ j, 0 ≤ F82 j ∧ F82 j ≤ 4000) ∧ (∀ j, 0 ≤ F83 j ∧ F83 j ≤ 1) ∧ (∀ j, (-9223372036854775808) ≤ F84 j ∧ F84 j ≤ 9223372036854775807) ∧ (∀ j, 0 ≤ F85 j ∧ F85 j ≤ 64) ∧ (∀ j, 0 ≤ F86 j ∧ F86 j ≤ 4000) ∧ (∀ j, 0 ≤ F87 j ∧ F87 j ≤ 64) ∧ (∀ j, 0 ≤ F88 j ∧ F88 j ≤ 4000) ∧ (∀ j, 0 ≤ F89 j ∧ F89 j ≤ 1) ∧ (∀ j, 0 ≤ F90 j ∧ F90 j ≤ 1) ∧ (∀ j, (-9223372036854775808) ≤ F91 j ∧ F91 j ≤ 9223372036854775807) ∧ (∀ j, (-9223372036854775808) ≤ F92 j ∧ F92 j ≤ 9223372036854775807) ∧ (y10 = 0 → (m.1 10) = 0) ∧ (LxP y7 y8 y9 (m.1 6) y10) ∧ (y10 = 0 → ((m.1 8) + 1 ≤ y8) ∧ (y69 ≤ 64) ∧ ((m.1 28) ≤ y28) ∧ (okc F65 (m.1 28) y28) ∧ (CN F65 F67 y28) ∧ (agr (m.2 65) F65 (m.1 28))) ∧ R = (.inl (none), (mhp (mO m [(7, y7), (8, y8), (9, y9), (10, y10), (11, y11), (12, y12), (28, y28), (69, y69), (70, y70), (71, y71), (72, y72), (73, y73), (74, y74), (75, y75)] [(65, F65), (66, F66), (67, F67), (68, F68), (76, F76), (77, F77), (78, F78), (79, F79), (80, F80), (81, F81), (82, F82), (83, F83), (84, F84), (85, F85), (86, F86), (87, F87), (88, F88), (89, F89), (90, F90), (91, F91), (92, F92)]) c, N), 0, 0)
set_option maxHeartbeats 8000000 in
theorem c_readExpr (w : wX) (m : mR) (c : Nat → Option am_C) (N D : Nat) (hD : 10 ≤ D) (hT : Ty m) (hLx0 : LxP (m.1 7) (m.1 8) (m.1 9) (m.1 6) (m.1 10)) (hNM0 : ∀ k, (m.2 14) k + (m.2 15) k ≤ 4000) (hFA0 : ∀ k, (m.2 31) k + (m.2 32) k ≤ 4000) (hPA0 : ∀ k, (m.2 47) k + (m.2 48) k ≤ 4000) (hC : m.1 10 = 0 → (PN (m.1 13) (m.1 19) (m.1 20) (m.1 21) (m.1 22) (m.1 23) (m.1 25) (m.1 26) (m.2 16) (m.2 17)) ∧ (CN (m.2 65) (m.2 67) (m.1 28))) : TC w D 244 [.ref 189] (mhp m c, N) (Q_readExpr m c N) := by
  obtain ⟨D, rfl⟩ : ∃ k, D = k + 1 := ⟨D - 1, by omega⟩
  have hLx := hLx0
  have hNM := hNM0
  have hFA := hFA0
  have hPA := hPA0
  have f7 : 0 ≤ m.1 7 ∧ m.1 7 ≤ 330 := hT.1 7
  have f8 : 0 ≤ m.1 8 ∧ m.1 8 ≤ 4000 := hT.1 8
  have f9 : 0 ≤ m.1 9 ∧ m.1 9 ≤ 4000 := hT.1 9
  have f10 : 0 ≤ m.1 10 ∧ m.1 10 ≤ 8 := hT.1 10
  have f11 : (-1) ≤ m.1 11 ∧ m.1 11 ≤ 4000 := hT.1 11
  have f12 : (-9223372036854775808) ≤ m.1 12 ∧ m.1 12 ≤ 9223372036854775807 := hT.1 12
  have f28 : 0 ≤ m.1 28 ∧ m.1 28 ≤ 800 := hT.1 28
  have f69 : 0 ≤ m.1 69 ∧ m.1 69 ≤ 1024 := hT.1 69
  have f70 : 0 ≤ m.1 70 ∧ m.1 70 ≤ 4000 := hT.1 70
  have f71 : 0 ≤ m.1 71 ∧ m.1 71 ≤ 1 := hT.1 71
  have f72 : (-9223372036854775808) ≤ m.1 72 ∧ m.1 72 ≤ 9223372036854775807 := hT.1 72
  have f73 : 0 ≤ m.1 73 ∧ m.1 73 ≤ 60 := hT.1 73
  have f74 : 0 ≤ m.1 74 ∧ m.1 74 ≤ 24 := hT.1 74
  have f75 : 0 ≤ m.1 75 ∧ m.1 75 ≤ 3 := hT.1 75
  have f25 : 0 ≤ m.1 25 ∧ m.1 25 ≤ 16 := hT.1 25
  have f22 : 0 ≤ m.1 22 ∧ m.1 22 ≤ 8 := hT.1 22
  have f19 : 0 ≤ m.1 19 ∧ m.1 19 ≤ 12 := hT.1 19
  have f20 : 0 ≤ m.1 20 ∧ m.1 20 ≤ 12 := hT.1 20
  have f21 : 0 ≤ m.1 21 ∧ m.1 21 ≤ 16 := hT.1 21
  have f13 : 0 ≤ m.1 13 ∧ m.1 13 ≤ 120 := hT.1 13
  have f6 : 0 ≤ m.1 6 ∧ m.1 6 ≤ 4000 := hT.1 6
  have f23 : 0 ≤ m.1 23 ∧ m.1 23 ≤ 16 := hT.1 23
  have f26 : 0 ≤ m.1 26 ∧ m.1 26 ≤ 8 := hT.1 26
  refine Tc_of rfl ?_
  show TT w D pm_244 (0, [(0, .ref 189)], [], (mhp m c, N), 0, 0) (Q_readExpr m c N)
  rw [show (mhp m c, N) = (mhp (mO m [(7, (m.1 7)), (8, (m.1 8)), (9, (m.1 9)), (10, (m.1 10)), (11, (m.1 11)), (12, (m.1 12)), (28, (m.1 28)), (69, (m.1 69)), (70, (m.1 70)), (71, (m.1 71)), (72, (m.1 72)), (73, (m.1 73)), (74, (m.1 74)), (75, (m.1 75))] [(65, (m.2 65)), (66, (m.2 66)), (67, (m.2 67)), (68, (m.2 68)), (76, (m.2 76)), (77, (m.2 77)), (78, (m.2 78)), (79, (m.2 79)), (80, (m.2 80)), (81, (m.2 81)), (82, (m.2 82)), (83, (m.2 83)), (84, (m.2 84)), (85, (m.2 85)), (86, (m.2 86)), (87, (m.2 87)), (88, (m.2 88)), (89, (m.2 89)), (90, (m.2 90)), (91, (m.2 91)), (92, (m.2 92))]) c, N) from congrArg (fun M => (mhp M c, N)) (mO_pad m [7, 8, 9, 10, 11, 12, 28, 69, 70, 71, 72, 73, 74, 75] [65, 66, 67, 68, 76, 77, 78, 79, 80, 81, 82, 83, 84, 85, 86, 87, 88, 89, 90, 91, 92])]
  by_cases hf0 : m.1 10 = 0
  · skip
    obtain ⟨pPN, hCN⟩ := hC hf0
    have hAgC := agr_r (m.2 65) (m.1 28)
    refine T_ld 1 (.ref 189) rfl (fun _ => rfl) ?_
    refine T_ld 2 (.int (i32 0)) rfl (fun _ => rfl) ?_
    refine T_pf (l' := [(7, (m.1 7)), (8, (m.1 8)), (9, (m.1 9)), (10, (m.1 10)), (11, (m.1 11)), (12, (m.1 12)), (28, (m.1 28)), (69, (m.1 69)), (70, (m.1 70)), (71, (m.1 71)), (72, (m.1 72)), (73, 0), (74, (m.1 74)), (75, (m.1 75))]) 5 0 rfl rfl rfl rfl rfl rfl ?_
    refine T_ld 6 (.ref 189) rfl (fun _ => rfl) ?_
    refine T_ld 7 (.int (i32 0)) rfl (fun _ => rfl) ?_
    refine T_pf (l' := [(7, (m.1 7)), (8, (m.1 8)), (9, (m.1 9)), (10, (m.1 10)), (11, (m.1 11)), (12, (m.1 12)), (28, (m.1 28)), (69, (m.1 69)), (70, (m.1 70)), (71, (m.1 71)), (72, (m.1 72)), (73, 0), (74, 0), (75, (m.1 75))]) 10 0 rfl rfl rfl rfl rfl rfl ?_
    refine T_ld 11 (.ref 189) rfl (fun _ => rfl) ?_
    refine T_ld 12 (.int (i32 0)) rfl (fun _ => rfl) ?_
    refine T_pf (l' := [(7, (m.1 7)), (8, (m.1 8)), (9, (m.1 9)), (10, (m.1 10)), (11, (m.1 11)), (12, (m.1 12)), (28, (m.1 28)), (69, (m.1 69)), (70, (m.1 70)), (71, (m.1 71)), (72, (m.1 72)), (73, 0), (74, 0), (75, 0)]) 15 0 rfl rfl rfl rfl rfl rfl ?_
    refine T_ld 16 (.ref 189) rfl (fun _ => rfl) ?_
    have hXT : XT (m.2 65) (m.2 67) (m.2 76) (m.2 78) (m.2 79) (m.2 80) (m.1 28) (m.1 28) (0 : Int) (0 : Int) 0 := XT_new (by omega) hCN
    have hTop : (0 : Int) = 0 ∨ (m.2 76) ((0 : Int) - 1) = 2 ∨ ((m.2 76) ((0 : Int) - 1) = 0 ∧ (m.2 79) ((0 : Int) - 1) = 2) := Or.inl rfl
    refine T_call 19 245 [.ref 189] [] rfl (fun _ => rfl) rfl (c_beginChoice w (mO m [(7, (m.1 7)), (8, (m.1 8)), (9, (m.1 9)), (10, (m.1 10)), (11, (m.1 11)), (12, (m.1 12)), (28, (m.1 28)), (69, (m.1 69)), (70, (m.1 70)), (71, (m.1 71)), (72, (m.1 72)), (73, 0), (74, 0), (75, 0)] [(65, (m.2 65)), (66, (m.2 66)), (67, (m.2 67)), (68, (m.2 68)), (76, (m.2 76)), (77, (m.2 77)), (78, (m.2 78)), (79, (m.2 79)), (80, (m.2 80)), (81, (m.2 81)), (82, (m.2 82)), (83, (m.2 83)), (84, (m.2 84)), (85, (m.2 85)), (86, (m.2 86)), (87, (m.2 87)), (88, (m.2 88)), (89, (m.2 89)), (90, (m.2 90)), (91, (m.2 91)), (92, (m.2 92))]) c N D (by omega) (Ty_mO hT rfl rfl ⟨f7, f8, f9, f10, f11, f12, f28, f69, f70, f71, f72, ⟨(by omega : (0 : Int) ≤ 0), (by omega : (0 : Int) ≤ 60)⟩, ⟨(by omega : (0 : Int) ≤ 0), (by omega : (0 : Int) ≤ 24)⟩, ⟨(by omega : (0 : Int) ≤ 0), (by omega : (0 : Int) ≤ 3)⟩, trivial⟩ ⟨(hT.2.1 65), (hT.2.1 66), (hT.2.1 67), (hT.2.1 68), (hT.2.1 76), (hT.2.1 77), (hT.2.1 78), (hT.2.1 79), (hT.2.1 80), (hT.2.1 81), (hT.2.1 82), (hT.2.1 83), (hT.2.1 84), (hT.2.1 85), (hT.2.1 86), (hT.2.1 87), (hT.2.1 88), (hT.2.1 89), (hT.2.1 90), (hT.2.1 91), (hT.2.1 92), trivial⟩) (m.1 28) 0 (fun _ => ⟨(show XT (m.2 65) (m.2 67) (m.2 76) (m.2 78) (m.2 79) (m.2 80) (m.1 28) (m.1 28) (0 : Int) (0 : Int) 0 by first | exact hXT | exact hXS.1), (show (0 : Int) = 0 ∨ (m.2 76) ((0 : Int) - 1) = 2 ∨ ((m.2 76) ((0 : Int) - 1) = 0 ∧ (m.2 79) ((0 : Int) - 1) = 2) by first | exact hTop | omega)⟩)) (fun rr1 k2 => ?_)
    obtain ⟨y3, y5, y7, y9, y11, F13, F15, F17, F19, F21, g4, g6, g8, g10, g12, G14, G16, G18, G20, G22, h23, c24, rfl⟩ := k2
    refine ⟨_, _, rfl, ?_⟩
    refine T_nf (st' := []) (l' := [(7, (m.1 7)), (8, (m.1 8)), (9, (m.1 9)), (10, y3), (11, y5), (12, (m.1 12)), (28, (m.1 28)), (69, (m.1 69)), (70, (m.1 70)), (71, (m.1 71)), (72, (m.1 72)), (73, y7), (74, y9), (75, y11)]) (a' := [(65, (m.2 65)), (66, (m.2 66)), (67, (m.2 67)), (68, (m.2 68)), (76, F13), (77, F15), (78, F17), (79, F19), (80, F21), (81, (m.2 81)), (82, (m.2 82)), (83, (m.2 83)), (84, (m.2 84)), (85, (m.2 85)), (86, (m.2 86)), (87, (m.2 87)), (88, (m.2 88)), (89, (m.2 89)), (90, (m.2 90)), (91, (m.2 91)), (92, (m.2 92))]) rfl rfl rfl rfl rfl ?_
    by_cases hf25 : y3 = 0
    · skip
      subst hf25
      replace h23 : (m.1 10) = 0 := h23 rfl
      obtain ⟨c26, c27, c28⟩ := c24 rfl
      replace c26 : XS (m.2 65) (m.2 67) F13 F17 F19 F21 (m.1 28) (m.1 28) y7 y9 0 := c26
      have hXS := c26
      replace c27 : y7 = (0 : Int) + 1 := c27
      replace c28 : y11 = 0 := c28
      clear c24
      have u29 : (m.1 8) ≤ (m.1 8) := by omega
      have hAgC : agr (m.2 65) (m.2 65) (m.1 28) := by first | exact agr_r _ _ | exact hAgC | exact agr_t hAgC hAg (by omega)
      clear g4
      have L19_65 : ∀ (n : Nat) (y30 : Int) (y31 : Int) (y32 : Int) (y33 : Int) (y34 : Int) (y35 : Int) (y36 : Int) (y37 : Int) (y38 : Int) (y39 : Int) (y40 : Int) (y41 : Int) (y42 : Int) (y43 : Int) (F44 : Int → Int) (F45 : Int → Int) (F46 : Int → Int) (F47 : Int → Int) (F48 : Int → Int) (F49 : Int → Int) (F50 : Int → Int) (F51 : Int → Int) (F52 : Int → Int) (F53 : Int → Int) (F54 : Int → Int) (F55 : Int → Int) (F56 : Int → Int) (F57 : Int → Int) (F58 : Int → Int) (F59 : Int → Int) (F60 : Int → Int) (F61 : Int → Int) (F62 : Int → Int) (F63 : Int → Int) (F64 : Int → Int), (0 ≤ y30 ∧ y30 ≤ 330) → (0 ≤ y31 ∧ y31 ≤ 4000) → (0 ≤ y32 ∧ y32 ≤ 4000) → (0 ≤ y33 ∧ y33 ≤ 8) → ((-1) ≤ y34 ∧ y34 ≤ 4000) → ((-9223372036854775808) ≤ y35 ∧ y35 ≤ 9223372036854775807) → (0 ≤ y36 ∧ y36 ≤ 800) → (0 ≤ y37 ∧ y37 ≤ 1024) → (0 ≤ y38 ∧ y38 ≤ 4000) → (0 ≤ y39 ∧ y39 ≤ 1) → ((-9223372036854775808) ≤ y40 ∧ y40 ≤ 9223372036854775807) → (0 ≤ y41 ∧ y41 ≤ 60) → (0 ≤ y42 ∧ y42 ≤ 24) → (0 ≤ y43 ∧ y43 ≤ 3) → (∀ j, 0 ≤ F44 j ∧ F44 j ≤ 408) → (∀ j, 0 ≤ F45 j ∧ F45 j ≤ 64) → (∀ j, 0 ≤ F46 j ∧ F46 j ≤ 191) → (∀ j, (-9223372036854775808) ≤ F47 j ∧ F47 j ≤ 9223372036854775807) → (∀ j, 0 ≤ F48 j ∧ F48 j ≤ 2) → (∀ j, 0 ≤ F49 j ∧ F49 j ≤ 4000) → (∀ j, 0 ≤ F50 j ∧ F50 j ≤ 330) → (∀ j, 0 ≤ F51 j ∧ F51 j ≤ 2) → (∀ j, (-1) ≤ F52 j ∧ F52 j ≤ 330) → (∀ j, 0 ≤ F53 j ∧ F53 j ≤ 64) → (∀ j, 0 ≤ F54 j ∧ F54 j ≤ 4000) → (∀ j, 0 ≤ F55 j ∧ F55 j ≤ 1) → (∀ j, (-9223372036854775808) ≤ F56 j ∧ F56 j ≤ 9223372036854775807) → (∀ j, 0 ≤ F57 j ∧ F57 j ≤ 64) → (∀ j, 0 ≤ F58 j ∧ F58 j ≤ 4000) → (∀ j, 0 ≤ F59 j ∧ F59 j ≤ 64) → (∀ j, 0 ≤ F60 j ∧ F60 j ≤ 4000) → (∀ j, 0 ≤ F61 j ∧ F61 j ≤ 1) → (∀ j, 0 ≤ F62 j ∧ F62 j ≤ 1) → (∀ j, (-9223372036854775808) ≤ F63 j ∧ F63 j ≤ 9223372036854775807) → (∀ j, (-9223372036854775808) ≤ F64 j ∧ F64 j ≤ 9223372036854775807) → (LxP y30 y31 y32 (m.1 6) y33) → (y33 = 0 → (XS F44 F46 F48 F50 F51 F52 (m.1 28) y36 y41 y42 (um y43)) ∧ (y43 ≠ 0 → y37 ≤ 64) ∧ (y43 ≠ 3 → 1 ≤ y41) ∧ ((m.1 8) ≤ y31) ∧ (y43 ≠ 0 → (m.1 8) + 1 ≤ y31) ∧ ((m.1 28) ≤ y36) ∧ (agr (m.2 65) F44 (m.1 28))) → 1000000 * (8 - y33) + 200 * (4000 - y31) + 3 * y41 + (3 - y43) < (n : Int) → TT w D pm_244 (19, [(0, .ref 189)], [], (mhp (mO m [(7, y30), (8, y31), (9, y32), (10, y33), (11, y34), (12, y35), (28, y36), (69, y37), (70, y38), (71, y39), (72, y40), (73, y41), (74, y42), (75, y43)] [(65, F44), (66, F45), (67, F46), (68, F47), (76, F48), (77, F49), (78, F50), (79, F51), (80, F52), (81, F53), (82, F54), (83, F55), (84, F56), (85, F57), (86, F58), (87, F59), (88, F60), (89, F61), (90, F62), (91, F63), (92, F64)]) c, N), 0, 0) (Q_readExpr m c N) := by
        intro n
        induction n with
        | zero =>
          intro y30 y31 y32 y33 y34 y35 y36 y37 y38 y39 y40 y41 y42 y43 F44 F45 F46 F47 F48 F49 F50 F51 F52 F53 F54 F55 F56 F57 F58 F59 F60 F61 F62 F63 F64 q66 q67 q68 q69 q70 q71 q72 q73 q74 q75 q76 q77 q78 q79 q80 q81 q82 q83 q84 q85 q86 q87 q88 q89 q90 q91 q92 q93 q94 q95 q96 q97 q98 q99 q100 ic101 c102 hmu
          have hLx := ic101
          exfalso
          omega
        | succ n ih =>
          intro y30 y31 y32 y33 y34 y35 y36 y37 y38 y39 y40 y41 y42 y43 F44 F45 F46 F47 F48 F49 F50 F51 F52 F53 F54 F55 F56 F57 F58 F59 F60 F61 F62 F63 F64 q66 q67 q68 q69 q70 q71 q72 q73 q74 q75 q76 q77 q78 q79 q80 q81 q82 q83 q84 q85 q86 q87 q88 q89 q90 q91 q92 q93 q94 q95 q96 q97 q98 q99 q100 ic101 c102 hmu
          have hLx := ic101
          have ih103 := ih
          by_cases hf104 : y33 = 0
          · skip
            subst hf104
            obtain ⟨c105, c106, c107, c108, c109, c110, c111⟩ := c102 rfl
            have hXS := c105
            have hAgC := c111
            refine T_gf 23 (.int (i32 0)) rfl rfl rfl rfl rfl rfl ?_
            refine T_if 85 26 rfl rfl rfl ⟨by decide, by decide⟩ (fun h112 => absurd (show (0 : Int) ≠ 0 from h112) (by decide)) (fun _ => ?_)
            refine T_gf 30 (.int (i32 y43)) rfl rfl rfl rfl rfl rfl ?_
            refine T_ld 31 (.int (i32 3)) rfl (fun _ => rfl) ?_
            refine T_icmp 85 34 rfl rfl rfl (r32 (by omega) (by omega)) ⟨by decide, by decide⟩ (fun (h113 : y43 = 3) => ?_) (fun (h113 : ¬ (y43 = 3)) => ?_)
            · skip
              refine T_ret rfl (fun _ => rfl) ?_
              exact ⟨y30, y31, y32, 0, y34, y35, y36, y37, y38, y39, y40, y41, y42, y43, F44, F45, F46, F47, F48, F49, F50, F51, F52, F53, F54, F55, F56, F57, F58, F59, F60, F61, F62, F63, F64, q66, q67, q68, ⟨by omega, by omega⟩, q70, q71, q72, q73, q74, q75, q76, q77, q78, q79, q80, q81, q82, q83, q84, q85, q86, q87, q88, q89, q90, q91, q92, q93, q94, q95, q96, q97, q98, q99, q100, (by omega), (by first | (first | exact hLx | (intro h9; exfalso; omega)) | (exfalso; omega)), (fun _ => ⟨(by omega), (by omega), (by omega), (by first | (exact hXS.1.1.1) | (exfalso; omega)), (by first | (exact hXS.1.1.2.2) | (exfalso; omega)), (by first | (exact hAgC) | (exfalso; omega))⟩), rfl⟩
            · skip
              refine T_gf 38 (.int (i32 y43)) rfl rfl rfl rfl rfl rfl ?_
              by_cases h114 : y43 = 0
              · skip
                refine T_cast 0 h114 ?_
                refine T_pop 64 rfl (fun _ => rfl) ?_
                have hXS : XS F44 F46 F48 F50 F51 F52 (m.1 28) y36 y41 y42 0 := by
                  have H := hXS
                  rw [show um y43 = 0 from if_pos (by omega)] at H
                  exact H
                refine T_ld 65 (.ref 189) rfl (fun _ => rfl) ?_
                refine T_call 68 247 [.ref 189] [] rfl (fun _ => rfl) rfl (c_wantUnit w (mO m [(7, y30), (8, y31), (9, y32), (10, 0), (11, y34), (12, y35), (28, y36), (69, y37), (70, y38), (71, y39), (72, y40), (73, y41), (74, y42), (75, y43)] [(65, F44), (66, F45), (67, F46), (68, F47), (76, F48), (77, F49), (78, F50), (79, F51), (80, F52), (81, F53), (82, F54), (83, F55), (84, F56), (85, F57), (86, F58), (87, F59), (88, F60), (89, F61), (90, F62), (91, F63), (92, F64)]) c N D (by omega) (Ty_mO hT rfl rfl ⟨q66, q67, q68, ⟨(by omega : (0 : Int) ≤ 0), (by omega : (0 : Int) ≤ 8)⟩, q70, q71, q72, q73, q74, q75, q76, q77, q78, q79, trivial⟩ ⟨q80, q81, q82, q83, q84, q85, q86, q87, q88, q89, q90, q91, q92, q93, q94, q95, q96, q97, q98, q99, q100, trivial⟩) (m.1 28) (show LxP y30 y31 y32 (m.1 6) (0 : Int) by first | exact hLx | (intro h9; exfalso; omega)) (show ∀ k, (m.2 14) k + (m.2 15) k ≤ 4000 by assumption) (show ∀ k, (m.2 31) k + (m.2 32) k ≤ 4000 by assumption) (show ∀ k, (m.2 47) k + (m.2 48) k ≤ 4000 by assumption) (show 0 = 0 by omega) ⟨(show PN (m.1 13) (m.1 19) (m.1 20) (m.1 21) (m.1 22) (m.1 23) (m.1 25) (m.1 26) (m.2 16) (m.2 17) by assumption), (show XS F44 F46 F48 F50 F51 F52 (m.1 28) y36 y41 y42 0 by first | exact hXS | assumption), (show 1 ≤ y41 by omega), (show y43 = 0 by omega)⟩) (fun rr115 k116 => ?_)
                obtain ⟨y117, y119, y121, y123, y125, y127, y129, y131, y133, y135, y137, y139, y141, y143, F145, F147, F149, F151, F153, F155, F157, F159, F161, g118, g120, g122, g124, g126, g128, g130, g132, g134, g136, g138, g140, g142, g144, G146, G148, G150, G152, G154, G156, G158, G160, G162, h163, h164, c165, rfl⟩ := k116
                refine ⟨_, _, rfl, ?_⟩
                refine T_nf (st' := []) (l' := [(7, y117), (8, y119), (9, y121), (10, y123), (11, y125), (12, y127), (28, y129), (69, y131), (70, y133), (71, y135), (72, y137), (73, y139), (74, y141), (75, y143)]) (a' := [(65, F145), (66, F147), (67, F149), (68, F151), (76, F153), (77, F155), (78, F157), (79, F159), (80, F161), (81, F53), (82, F54), (83, F55), (84, F56), (85, F57), (86, F58), (87, F59), (88, F60), (89, F61), (90, F62), (91, F63), (92, F64)]) rfl rfl rfl rfl rfl ?_
                by_cases hf166 : y123 = 0
                · skip
                  subst hf166
                  replace h163 : (0 : Int) = 0 := h163 rfl
                  replace h164 : LxP y117 y119 y121 (m.1 6) (0 : Int) := h164
                  have hLx := h164
                  obtain ⟨c167, c168, c169, c170, c171, c172⟩ := c165 rfl
                  replace c167 : y31 + 1 ≤ y119 := c167
                  replace c168 : y143 = 0 ∨ (y143 = 1 ∧ y131 ≤ 64) := c168
                  replace c169 : 1 ≤ y139 := c169
                  replace c170 : y36 ≤ y129 := c170
                  replace c171 : XS F145 F149 F153 F157 F159 F161 (m.1 28) y129 y139 y141 (um y143) := c171
                  have hXE := c171
                  replace c172 : agr F44 F145 y36 := c172
                  have hAg := c172
                  clear c165
                  have u173 : (m.1 8) + 1 ≤ y119 := by omega
                  have hAgC : agr (m.2 65) F145 (m.1 28) := by first | exact agr_r _ _ | exact hAgC | exact agr_t hAgC hAg (by omega)
                  clear g6 g8 g10 g12 c26 c27 c28 q66 q67 q68 q69 q70 q71 q72 q73 q74 q75 q76 q77 q78 q79 ic101 c105 c106 c107 c108 c109 c110 c111 h113 g124 c167 c170 c172
                  refine T_goto 19 rfl (fun _ => rfl) ?_
                  exact ih103 y117 y119 y121 0 y125 y127 y129 y131 y133 y135 y137 y139 y141 y143 F145 F147 F149 F151 F153 F155 F157 F159 F161 F53 F54 F55 F56 F57 F58 F59 F60 F61 F62 F63 F64 g118 g120 g122 ⟨by omega, by omega⟩ g126 g128 g130 g132 g134 g136 g138 g140 g142 g144 G146 G148 G150 G152 G154 G156 G158 G160 G162 q89 q90 q91 q92 q93 q94 q95 q96 q97 q98 q99 q100 (by exact hLx) (fun _ => ⟨(by first | exact hXE | (rw [show um y143 = 1 from if_neg (by omega)]; exact hXS) | (rw [show um y143 = 0 from if_pos (by omega)]; exact hXS)), (by omega), (by omega), (by omega), (by omega), (by omega), (by exact hAgC)⟩) (by omega)
                · skip
                  clear c165
                  clear h163
                  replace h164 : LxP y117 y119 y121 (m.1 6) y123 := h164
                  have hLx := h164
                  have hf174 : 1 ≤ y123 := by omega
                  clear g6 g8 g10 g12 c26 c27 c28 q66 q67 q68 q69 q70 q71 q72 q73 q74 q75 q76 q77 q78 q79 ic101 c105 c106 c107 c108 c109 c110 c111 h113
                  refine T_goto 19 rfl (fun _ => rfl) ?_
                  exact ih103 y117 y119 y121 y123 y125 y127 y129 y131 y133 y135 y137 y139 y141 y143 F145 F147 F149 F151 F153 F155 F157 F159 F161 F53 F54 F55 F56 F57 F58 F59 F60 F61 F62 F63 F64 g118 g120 g122 g124 g126 g128 g130 g132 g134 g136 g138 g140 g142 g144 G146 G148 G150 G152 G154 G156 G158 G160 G162 q89 q90 q91 q92 q93 q94 q95 q96 q97 q98 q99 q100 (by exact hLx) (fun h => absurd h (by omega)) (by omega)
              by_cases h175 : y43 = 1
              · skip
                refine T_cast 1 h175 ?_
                refine T_pop 71 rfl (fun _ => rfl) ?_
                have hXS : XS F44 F46 F48 F50 F51 F52 (m.1 28) y36 y41 y42 1 := by
                  have H := hXS
                  rw [show um y43 = 1 from if_neg (by omega)] at H
                  exact H
                refine T_ld 72 (.ref 189) rfl (fun _ => rfl) ?_
                refine T_call 75 255 [.ref 189] [] rfl (fun _ => rfl) rfl (c_after w (mO m [(7, y30), (8, y31), (9, y32), (10, 0), (11, y34), (12, y35), (28, y36), (69, y37), (70, y38), (71, y39), (72, y40), (73, y41), (74, y42), (75, y43)] [(65, F44), (66, F45), (67, F46), (68, F47), (76, F48), (77, F49), (78, F50), (79, F51), (80, F52), (81, F53), (82, F54), (83, F55), (84, F56), (85, F57), (86, F58), (87, F59), (88, F60), (89, F61), (90, F62), (91, F63), (92, F64)]) c N D (by omega) (Ty_mO hT rfl rfl ⟨q66, q67, q68, ⟨(by omega : (0 : Int) ≤ 0), (by omega : (0 : Int) ≤ 8)⟩, q70, q71, q72, q73, q74, q75, q76, q77, q78, q79, trivial⟩ ⟨q80, q81, q82, q83, q84, q85, q86, q87, q88, q89, q90, q91, q92, q93, q94, q95, q96, q97, q98, q99, q100, trivial⟩) (m.1 28) (show LxP y30 y31 y32 (m.1 6) (0 : Int) by first | exact hLx | (intro h9; exfalso; omega)) (show 0 = 0 by omega) ⟨(show XS F44 F46 F48 F50 F51 F52 (m.1 28) y36 y41 y42 1 by first | exact hXS | assumption), (show y43 = 1 by omega), (show y37 ≤ 64 by omega)⟩) (fun rr176 k177 => ?_)
                obtain ⟨y178, y180, y182, y184, y186, y188, y190, y192, y194, y196, y198, y200, F202, F204, F206, F208, g179, g181, g183, g185, g187, g189, g191, g193, g195, g197, g199, g201, G203, G205, G207, G209, h210, h211, c212, rfl⟩ := k177
                refine ⟨_, _, rfl, ?_⟩
                refine T_nf (st' := []) (l' := [(7, y178), (8, y180), (9, y182), (10, y184), (11, y186), (12, y188), (28, y190), (69, y192), (70, y194), (71, y196), (72, y198), (73, y41), (74, y42), (75, y200)]) (a' := [(65, F202), (66, F204), (67, F206), (68, F208), (76, F48), (77, F49), (78, F50), (79, F51), (80, F52), (81, F53), (82, F54), (83, F55), (84, F56), (85, F57), (86, F58), (87, F59), (88, F60), (89, F61), (90, F62), (91, F63), (92, F64)]) rfl rfl rfl rfl rfl ?_
                by_cases hf213 : y184 = 0
                · skip
                  subst hf213
                  replace h210 : (0 : Int) = 0 := h210 rfl
                  replace h211 : LxP y178 y180 y182 (m.1 6) (0 : Int) := h211
                  have hLx := h211
                  obtain ⟨c214, c215, c216, c217, c218⟩ := c212 rfl
                  replace c214 : (y200 = 1 ∧ y31 + 1 ≤ y180) ∨ (y200 = 2 ∧ y180 = y31) := c214
                  replace c215 : y192 ≤ 64 := c215
                  replace c216 : y36 ≤ y190 := c216
                  replace c217 : XS F202 F206 F48 F50 F51 F52 (m.1 28) y190 y41 y42 1 := c217
                  have hXS := c217
                  replace c218 : agr F44 F202 y36 := c218
                  have hAg := c218
                  clear c212
                  have u219 : (m.1 8) ≤ y180 := by omega
                  have hAgC : agr (m.2 65) F202 (m.1 28) := by first | exact agr_r _ _ | exact hAgC | exact agr_t hAgC hAg (by omega)
                  clear g6 g8 g10 g12 c26 c27 c28 q66 q67 q68 q69 q70 q71 q72 q73 q74 q75 q76 q79 ic101 c105 c106 c107 c108 c109 c110 c111 h113 g185 c214 c216 c218
                  refine T_goto 19 rfl (fun _ => rfl) ?_
                  exact ih103 y178 y180 y182 0 y186 y188 y190 y192 y194 y196 y198 y41 y42 y200 F202 F204 F206 F208 F48 F49 F50 F51 F52 F53 F54 F55 F56 F57 F58 F59 F60 F61 F62 F63 F64 g179 g181 g183 ⟨by omega, by omega⟩ g187 g189 g191 g193 g195 g197 g199 q77 q78 g201 G203 G205 G207 G209 q84 q85 q86 q87 q88 q89 q90 q91 q92 q93 q94 q95 q96 q97 q98 q99 q100 (by exact hLx) (fun _ => ⟨(by first | exact hXE | (rw [show um y200 = 1 from if_neg (by omega)]; exact hXS) | (rw [show um y200 = 0 from if_pos (by omega)]; exact hXS)), (by omega), (by omega), (by omega), (by omega), (by omega), (by exact hAgC)⟩) (by omega)
                · skip
                  clear c212
                  clear h210
                  replace h211 : LxP y178 y180 y182 (m.1 6) y184 := h211
                  have hLx := h211
                  have hf220 : 1 ≤ y184 := by omega
                  clear g6 g8 g10 g12 c26 c27 c28 q66 q67 q68 q69 q70 q71 q72 q73 q74 q75 q76 q79 ic101 c105 c106 c107 c108 c109 c110 c111 h113
                  refine T_goto 19 rfl (fun _ => rfl) ?_
                  exact ih103 y178 y180 y182 y184 y186 y188 y190 y192 y194 y196 y198 y41 y42 y200 F202 F204 F206 F208 F48 F49 F50 F51 F52 F53 F54 F55 F56 F57 F58 F59 F60 F61 F62 F63 F64 g179 g181 g183 g185 g187 g189 g191 g193 g195 g197 g199 q77 q78 g201 G203 G205 G207 G209 q84 q85 q86 q87 q88 q89 q90 q91 q92 q93 q94 q95 q96 q97 q98 q99 q100 (by exact hLx) (fun h => absurd h (by omega)) (by omega)
              refine T_lkd 78 rfl rfl (r32 (by omega) (by omega)) (by simp [Op.lookupswitch.offset, show ¬ ((0 : Int) = y43) by omega, show ¬ ((1 : Int) = y43) by omega]) ?_
              have hXS : XS F44 F46 F48 F50 F51 F52 (m.1 28) y36 y41 y42 1 := by
                have H := hXS
                rw [show um y43 = 1 from if_neg (by omega)] at H
                exact H
              refine T_ld 79 (.ref 189) rfl (fun _ => rfl) ?_
              refine T_call 82 257 [.ref 189] [] rfl (fun _ => rfl) rfl (c_goOn w (mO m [(7, y30), (8, y31), (9, y32), (10, 0), (11, y34), (12, y35), (28, y36), (69, y37), (70, y38), (71, y39), (72, y40), (73, y41), (74, y42), (75, y43)] [(65, F44), (66, F45), (67, F46), (68, F47), (76, F48), (77, F49), (78, F50), (79, F51), (80, F52), (81, F53), (82, F54), (83, F55), (84, F56), (85, F57), (86, F58), (87, F59), (88, F60), (89, F61), (90, F62), (91, F63), (92, F64)]) c N D (by omega) (Ty_mO hT rfl rfl ⟨q66, q67, q68, ⟨(by omega : (0 : Int) ≤ 0), (by omega : (0 : Int) ≤ 8)⟩, q70, q71, q72, q73, q74, q75, q76, q77, q78, q79, trivial⟩ ⟨q80, q81, q82, q83, q84, q85, q86, q87, q88, q89, q90, q91, q92, q93, q94, q95, q96, q97, q98, q99, q100, trivial⟩) (m.1 28) (show LxP y30 y31 y32 (m.1 6) (0 : Int) by first | exact hLx | (intro h9; exfalso; omega)) (show 0 = 0 by omega) ⟨(show XS F44 F46 F48 F50 F51 F52 (m.1 28) y36 y41 y42 1 by first | exact hXS | assumption), (show 1 ≤ y41 by omega), (show y37 ≤ 64 by omega), (show y43 = 2 by omega)⟩) (fun rr221 k222 => ?_)
              obtain ⟨y223, y225, y227, y229, y231, y233, y235, y237, y239, y241, y243, y245, y247, y249, F251, F253, F255, F257, F259, F261, F263, F265, F267, F269, F271, F273, F275, F277, F279, F281, F283, F285, F287, F289, F291, g224, g226, g228, g230, g232, g234, g236, g238, g240, g242, g244, g246, g248, g250, G252, G254, G256, G258, G260, G262, G264, G266, G268, G270, G272, G274, G276, G278, G280, G282, G284, G286, G288, G290, G292, h293, h294, c295, rfl⟩ := k222
              refine ⟨_, _, rfl, ?_⟩
              refine T_nf (st' := []) (l' := [(7, y223), (8, y225), (9, y227), (10, y229), (11, y231), (12, y233), (28, y235), (69, y237), (70, y239), (71, y241), (72, y243), (73, y245), (74, y247), (75, y249)]) (a' := [(65, F251), (66, F253), (67, F255), (68, F257), (76, F259), (77, F261), (78, F263), (79, F265), (80, F267), (81, F269), (82, F271), (83, F273), (84, F275), (85, F277), (86, F279), (87, F281), (88, F283), (89, F285), (90, F287), (91, F289), (92, F291)]) rfl rfl rfl rfl rfl ?_
              by_cases hf296 : y229 = 0
              · skip
                subst hf296
                replace h293 : (0 : Int) = 0 := h293 rfl
                replace h294 : LxP y223 y225 y227 (m.1 6) (0 : Int) := h294
                have hLx := h294
                obtain ⟨c297, c298, c299, c300, c301, c302⟩ := c295 rfl
                replace c297 : y31 + 1 ≤ y225 ∨ (y225 = y31 ∧ (y249 = 3 ∨ (y249 = 2 ∧ y245 + 1 ≤ y41))) := c297
                replace c298 : y249 ≠ 0 → y237 ≤ 64 := c298
                replace c299 : y249 ≠ 3 → 1 ≤ y245 := c299
                replace c300 : y36 ≤ y235 := c300
                replace c301 : XS F251 F255 F259 F263 F265 F267 (m.1 28) y235 y245 y247 (um y249) := c301
                have hXE := c301
                replace c302 : agr F44 F251 y36 := c302
                have hAg := c302
                clear c295
                have u303 : (m.1 8) ≤ y225 := by omega
                have hAgC : agr (m.2 65) F251 (m.1 28) := by first | exact agr_r _ _ | exact hAgC | exact agr_t hAgC hAg (by omega)
                clear g6 g8 g10 g12 c26 c27 c28 q66 q67 q68 q69 q70 q71 q72 q73 q74 q75 q76 q77 q78 q79 ic101 c105 c106 c107 c108 c109 c110 c111 h113 g230 c297 c300 c302
                refine T_goto 19 rfl (fun _ => rfl) ?_
                exact ih103 y223 y225 y227 0 y231 y233 y235 y237 y239 y241 y243 y245 y247 y249 F251 F253 F255 F257 F259 F261 F263 F265 F267 F269 F271 F273 F275 F277 F279 F281 F283 F285 F287 F289 F291 g224 g226 g228 ⟨by omega, by omega⟩ g232 g234 g236 g238 g240 g242 g244 g246 g248 g250 G252 G254 G256 G258 G260 G262 G264 G266 G268 G270 G272 G274 G276 G278 G280 G282 G284 G286 G288 G290 G292 (by exact hLx) (fun _ => ⟨(by first | exact hXE | (rw [show um y249 = 1 from if_neg (by omega)]; exact hXS) | (rw [show um y249 = 0 from if_pos (by omega)]; exact hXS)), (by omega), (by omega), (by omega), (by omega), (by omega), (by exact hAgC)⟩) (by omega)
              · skip
                clear c295
                clear h293
                replace h294 : LxP y223 y225 y227 (m.1 6) y229 := h294
                have hLx := h294
                have hf304 : 1 ≤ y229 := by omega
                clear g6 g8 g10 g12 c26 c27 c28 q66 q67 q68 q69 q70 q71 q72 q73 q74 q75 q76 q77 q78 q79 ic101 c105 c106 c107 c108 c109 c110 c111 h113
                refine T_goto 19 rfl (fun _ => rfl) ?_
                exact ih103 y223 y225 y227 y229 y231 y233 y235 y237 y239 y241 y243 y245 y247 y249 F251 F253 F255 F257 F259 F261 F263 F265 F267 F269 F271 F273 F275 F277 F279 F281 F283 F285 F287 F289 F291 g224 g226 g228 g230 g232 g234 g236 g238 g240 g242 g244 g246 g248 g250 G252 G254 G256 G258 G260 G262 G264 G266 G268 G270 G272 G274 G276 G278 G280 G282 G284 G286 G288 G290 G292 (by exact hLx) (fun h => absurd h (by omega)) (by omega)
          · skip
            clear c102
            have hf305 : 1 ≤ y33 := by omega
            refine T_gf 23 (.int (i32 y33)) rfl rfl rfl rfl rfl rfl ?_
            refine T_if 85 26 rfl rfl rfl (r32 (by omega) (by omega)) (fun (h306 : y33 ≠ 0) => ?_) (fun (h306 : ¬ (y33 ≠ 0)) => by exfalso; omega)
            refine T_ret rfl (fun _ => rfl) ?_
            exact ⟨y30, y31, y32, y33, y34, y35, y36, y37, y38, y39, y40, y41, y42, y43, F44, F45, F46, F47, F48, F49, F50, F51, F52, F53, F54, F55, F56, F57, F58, F59, F60, F61, F62, F63, F64, q66, q67, q68, q69, q70, q71, q72, q73, q74, q75, q76, q77, q78, q79, q80, q81, q82, q83, q84, q85, q86, q87, q88, q89, q90, q91, q92, q93, q94, q95, q96, q97, q98, q99, q100, (by omega), (by first | (first | exact hLx | (intro h9; exfalso; omega)) | (exfalso; omega)), (fun h => absurd h (by omega)), rfl⟩
      exact L19_65 ((1000000 * (8 - (0 : Int)) + 200 * (4000 - (m.1 8)) + 3 * y7 + (3 - y11) : Int) + 1).toNat (m.1 7) (m.1 8) (m.1 9) 0 y5 (m.1 12) (m.1 28) (m.1 69) (m.1 70) (m.1 71) (m.1 72) y7 y9 y11 (m.2 65) (m.2 66) (m.2 67) (m.2 68) F13 F15 F17 F19 F21 (m.2 81) (m.2 82) (m.2 83) (m.2 84) (m.2 85) (m.2 86) (m.2 87) (m.2 88) (m.2 89) (m.2 90) (m.2 91) (m.2 92) f7 f8 f9 ⟨by omega, by omega⟩ g6 f12 f28 f69 f70 f71 f72 g8 g10 g12 (hT.2.1 65) (hT.2.1 66) (hT.2.1 67) (hT.2.1 68) G14 G16 G18 G20 G22 (hT.2.1 81) (hT.2.1 82) (hT.2.1 83) (hT.2.1 84) (hT.2.1 85) (hT.2.1 86) (hT.2.1 87) (hT.2.1 88) (hT.2.1 89) (hT.2.1 90) (hT.2.1 91) (hT.2.1 92) (by exact hLx) (fun _ => ⟨(by first | exact hXE | (rw [show um y11 = 1 from if_neg (by omega)]; exact hXS) | (rw [show um y11 = 0 from if_pos (by omega)]; exact hXS)), (by omega), (by omega), (by omega), (by omega), (by omega), (by exact hAgC)⟩) (by omega)
    · skip
      clear c24
      clear h23
      have hf307 : 1 ≤ y3 := by omega
      refine T_gf 23 (.int (i32 y3)) rfl rfl rfl rfl rfl rfl ?_
      refine T_if 85 26 rfl rfl rfl (r32 (by omega) (by omega)) (fun (h308 : y3 ≠ 0) => ?_) (fun (h308 : ¬ (y3 ≠ 0)) => by exfalso; omega)
      refine T_ret rfl (fun _ => rfl) ?_
      exact ⟨(m.1 7), (m.1 8), (m.1 9), y3, y5, (m.1 12), (m.1 28), (m.1 69), (m.1 70), (m.1 71), (m.1 72), y7, y9, y11, (m.2 65), (m.2 66), (m.2 67), (m.2 68), F13, F15, F17, F19, F21, (m.2 81), (m.2 82), (m.2 83), (m.2 84), (m.2 85), (m.2 86), (m.2 87), (m.2 88), (m.2 89), (m.2 90), (m.2 91), (m.2 92), f7, f8, f9, g4, g6, f12, f28, f69, f70, f71, f72, g8, g10, g12, (hT.2.1 65), (hT.2.1 66), (hT.2.1 67), (hT.2.1 68), G14, G16, G18, G20, G22, (hT.2.1 81), (hT.2.1 82), (hT.2.1 83), (hT.2.1 84), (hT.2.1 85), (hT.2.1 86), (hT.2.1 87), (hT.2.1 88), (hT.2.1 89), (hT.2.1 90), (hT.2.1 91), (hT.2.1 92), (by omega), (by first | (first | exact hLx | (intro h9; exfalso; omega)) | (exfalso; omega)), (fun h => absurd h (by omega)), rfl⟩
  · skip
    clear hC
    refine T_ld 1 (.ref 189) rfl (fun _ => rfl) ?_
    refine T_ld 2 (.int (i32 0)) rfl (fun _ => rfl) ?_
    refine T_pf (l' := [(7, (m.1 7)), (8, (m.1 8)), (9, (m.1 9)), (10, (m.1 10)), (11, (m.1 11)), (12, (m.1 12)), (28, (m.1 28)), (69, (m.1 69)), (70, (m.1 70)), (71, (m.1 71)), (72, (m.1 72)), (73, 0), (74, (m.1 74)), (75, (m.1 75))]) 5 0 rfl rfl rfl rfl rfl rfl ?_
    refine T_ld 6 (.ref 189) rfl (fun _ => rfl) ?_
    refine T_ld 7 (.int (i32 0)) rfl (fun _ => rfl) ?_
    refine T_pf (l' := [(7, (m.1 7)), (8, (m.1 8)), (9, (m.1 9)), (10, (m.1 10)), (11, (m.1 11)), (12, (m.1 12)), (28, (m.1 28)), (69, (m.1 69)), (70, (m.1 70)), (71, (m.1 71)), (72, (m.1 72)), (73, 0), (74, 0), (75, (m.1 75))]) 10 0 rfl rfl rfl rfl rfl rfl ?_
    refine T_ld 11 (.ref 189) rfl (fun _ => rfl) ?_
    refine T_ld 12 (.int (i32 0)) rfl (fun _ => rfl) ?_
    refine T_pf (l' := [(7, (m.1 7)), (8, (m.1 8)), (9, (m.1 9)), (10, (m.1 10)), (11, (m.1 11)), (12, (m.1 12)), (28, (m.1 28)), (69, (m.1 69)), (70, (m.1 70)), (71, (m.1 71)), (72, (m.1 72)), (73, 0), (74, 0), (75, 0)]) 15 0 rfl rfl rfl rfl rfl rfl ?_
    refine T_ld 16 (.ref 189) rfl (fun _ => rfl) ?_
    refine T_call 19 245 [.ref 189] [] rfl (fun _ => rfl) rfl (c_beginChoice w (mO m [(7, (m.1 7)), (8, (m.1 8)), (9, (m.1 9)), (10, (m.1 10)), (11, (m.1 11)), (12, (m.1 12)), (28, (m.1 28)), (69, (m.1 69)), (70, (m.1 70)), (71, (m.1 71)), (72, (m.1 72)), (73, 0), (74, 0), (75, 0)] [(65, (m.2 65)), (66, (m.2 66)), (67, (m.2 67)), (68, (m.2 68)), (76, (m.2 76)), (77, (m.2 77)), (78, (m.2 78)), (79, (m.2 79)), (80, (m.2 80)), (81, (m.2 81)), (82, (m.2 82)), (83, (m.2 83)), (84, (m.2 84)), (85, (m.2 85)), (86, (m.2 86)), (87, (m.2 87)), (88, (m.2 88)), (89, (m.2 89)), (90, (m.2 90)), (91, (m.2 91)), (92, (m.2 92))]) c N D (by omega) (Ty_mO hT rfl rfl ⟨f7, f8, f9, f10, f11, f12, f28, f69, f70, f71, f72, ⟨(by omega : (0 : Int) ≤ 0), (by omega : (0 : Int) ≤ 60)⟩, ⟨(by omega : (0 : Int) ≤ 0), (by omega : (0 : Int) ≤ 24)⟩, ⟨(by omega : (0 : Int) ≤ 0), (by omega : (0 : Int) ≤ 3)⟩, trivial⟩ ⟨(hT.2.1 65), (hT.2.1 66), (hT.2.1 67), (hT.2.1 68), (hT.2.1 76), (hT.2.1 77), (hT.2.1 78), (hT.2.1 79), (hT.2.1 80), (hT.2.1 81), (hT.2.1 82), (hT.2.1 83), (hT.2.1 84), (hT.2.1 85), (hT.2.1 86), (hT.2.1 87), (hT.2.1 88), (hT.2.1 89), (hT.2.1 90), (hT.2.1 91), (hT.2.1 92), trivial⟩) (m.1 28) 0 (fun (h : (m.1 10) = 0) => absurd h (by omega))) (fun rr309 k310 => ?_)
    obtain ⟨y311, y313, y315, y317, y319, F321, F323, F325, F327, F329, g312, g314, g316, g318, g320, G322, G324, G326, G328, G330, h331, c332, rfl⟩ := k310
    refine ⟨_, _, rfl, ?_⟩
    refine T_nf (st' := []) (l' := [(7, (m.1 7)), (8, (m.1 8)), (9, (m.1 9)), (10, y311), (11, y313), (12, (m.1 12)), (28, (m.1 28)), (69, (m.1 69)), (70, (m.1 70)), (71, (m.1 71)), (72, (m.1 72)), (73, y315), (74, y317), (75, y319)]) (a' := [(65, (m.2 65)), (66, (m.2 66)), (67, (m.2 67)), (68, (m.2 68)), (76, F321), (77, F323), (78, F325), (79, F327), (80, F329), (81, (m.2 81)), (82, (m.2 82)), (83, (m.2 83)), (84, (m.2 84)), (85, (m.2 85)), (86, (m.2 86)), (87, (m.2 87)), (88, (m.2 88)), (89, (m.2 89)), (90, (m.2 90)), (91, (m.2 91)), (92, (m.2 92))]) rfl rfl rfl rfl rfl ?_
    replace h331 : y311 = 0 → (m.1 10) = 0 := h331
    have hf333 : 1 ≤ y311 := by omega
    clear c332
    clear h331
    refine T_gf 23 (.int (i32 y311)) rfl rfl rfl rfl rfl rfl ?_
    refine T_if 85 26 rfl rfl rfl (r32 (by omega) (by omega)) (fun (h334 : y311 ≠ 0) => ?_) (fun (h334 : ¬ (y311 ≠ 0)) => by exfalso; omega)
    refine T_ret rfl (fun _ => rfl) ?_
    exact ⟨(m.1 7), (m.1 8), (m.1 9), y311, y313, (m.1 12), (m.1 28), (m.1 69), (m.1 70), (m.1 71), (m.1 72), y315, y317, y319, (m.2 65), (m.2 66), (m.2 67), (m.2 68), F321, F323, F325, F327, F329, (m.2 81), (m.2 82), (m.2 83), (m.2 84), (m.2 85), (m.2 86), (m.2 87), (m.2 88), (m.2 89), (m.2 90), (m.2 91), (m.2 92), f7, f8, f9, g312, g314, f12, f28, f69, f70, f71, f72, g316, g318, g320, (hT.2.1 65), (hT.2.1 66), (hT.2.1 67), (hT.2.1 68), G322, G324, G326, G328, G330, (hT.2.1 81), (hT.2.1 82), (hT.2.1 83), (hT.2.1 84), (hT.2.1 85), (hT.2.1 86), (hT.2.1 87), (hT.2.1 88), (hT.2.1 89), (hT.2.1 90), (hT.2.1 91), (hT.2.1 92), (by omega), (by first | (first | exact hLx | (intro h9; exfalso; omega)) | (exfalso; omega)), (fun h => absurd h (by omega)), rfl⟩
def Q_exprOf (m : mR) (c : Nat → Option am_C) (N : Nat) (b : Int) : ag_Re af_T → Prop := fun R => ∃ (y7 : Int) (y8 : Int) (y9 : Int) (y10 : Int) (y11 : Int) (y12 : Int) (y28 : Int) (y69 : Int) (y70 : Int) (y71 : Int) (y72 : Int) (y73 : Int) (y74 : Int) (y75 : Int) (F65 : Int → Int) (F66 : Int → Int) (F67 : Int → Int) (F68 : Int → Int) (F76 : Int → Int) (F77 : Int → Int) (F78 : Int → Int) (F79 : Int → Int) (F80 : Int → Int) (F81 : Int → Int) (F82 : Int → Int) (F83 : Int → Int) (F84 : Int → Int) (F85 : Int → Int) (F86 : Int → Int) (F87 : Int → Int) (F88 : Int → Int) (F89 : Int → Int) (F90 : Int → Int) (F91 : Int → Int) (F92 : Int → Int), (0 ≤ y7 ∧ y7 ≤ 330) ∧ (0 ≤ y8 ∧ y8 ≤ 4000) ∧ (0 ≤ y9 ∧ y9 ≤ 4000) ∧ (0 ≤ y10 ∧ y10 ≤ 8) ∧ ((-1) ≤ y11 ∧ y11 ≤ 4000) ∧ ((-9223372036854775808) ≤ y12 ∧ y12 ≤ 9223372036854775807) ∧ (0 ≤ y28 ∧ y28 ≤ 800) ∧ (0 ≤ y69 ∧ y69 ≤ 1024) ∧ (0 ≤ y70 ∧ y70 ≤ 4000) ∧ (0 ≤ y71 ∧ y71 ≤ 1) ∧ ((-9223372036854775808) ≤ y72 ∧ y72 ≤ 9223372036854775807) ∧ (0 ≤ y73 ∧ y73 ≤ 60) ∧ (0 ≤ y74 ∧ y74 ≤ 24) ∧ (0 ≤ y75 ∧ y75 ≤ 3) ∧ (∀ j, 0 ≤ F65 j ∧ F65 j ≤ 408) ∧ (∀ j, 0 ≤ F66 j ∧ F66 j ≤ 64) ∧ (∀ j, 0 ≤ F67 j ∧ F67 j ≤ 191) ∧ (∀ j, (-9223372036854775808) ≤ F68 j ∧ F68 j ≤ 9223372036854775807) ∧ (∀ j, 0 ≤ F76 j ∧ F76 j ≤ 2) ∧ (∀ j, 0 ≤ F77 j ∧ F77 j ≤ 4000) ∧ (∀ j, 0 ≤ F78 j ∧ F78 j ≤ 330) ∧ (∀ j, 0 ≤ F79 j ∧ F79 j ≤ 2) ∧ (∀ j, (-1) ≤ F80 j ∧ F80 j ≤ 330) ∧ (∀ j, 0 ≤ F81 j ∧ F81 j ≤ 64) ∧ (∀ j, 0 ≤ F82 j ∧ F82 j ≤ 4000) ∧ (∀ j, 0 ≤ F83 j ∧ F83 j ≤ 1) ∧ (∀ j, (-9223372036854775808) ≤ F84 j ∧ F84 j ≤ 9223372036854775807) ∧ (∀ j, 0 ≤ F85 j ∧ F85 j ≤ 64) ∧ (∀ j, 0 ≤ F86 j ∧ F86 j ≤ 4000) ∧ (∀ j, 0 ≤ F87 j ∧ F87 j ≤ 64) ∧ (∀ j, 0 ≤ F88 j ∧ F88 j ≤ 4000) ∧ (∀ j, 0 ≤ F89 j ∧ F89 j ≤ 1) ∧ (∀ j, 0 ≤ F90 j ∧ F90 j ≤ 1) ∧ (∀ j, (-9223372036854775808) ≤ F91 j ∧ F91 j ≤ 9223372036854775807) ∧ (∀ j, (-9223372036854775808) ≤ F92 j ∧ F92 j ≤ 9223372036854775807) ∧ (y10 = 0 → (m.1 10) = 0) ∧ (LxP y7 y8 y9 (m.1 6) y10) ∧ (y10 = 0 → ((m.1 8) + 1 ≤ y8) ∧ (y69 ≤ 64) ∧ ((m.1 28) ≤ y28) ∧ (okc F65 (m.1 28) y28) ∧ (CN F65 F67 y28) ∧ (agr (m.2 65) F65 (m.1 28))) ∧ R = (.inl (none), (mhp (mO m [(7, y7), (8, y8), (9, y9), (10, y10), (11, y11), (12, y12), (28, y28), (69, y69), (70, y70), (71, y71), (72, y72), (73, y73), (74, y74), (75, y75)] [(65, F65), (66, F66), (67, F67), (68, F68), (76, F76), (77, F77), (78, F78), (79, F79), (80, F80), (81, F81), (82, F82), (83, F83), (84, F84), (85, F85), (86, F86), (87, F87), (88, F88), (89, F89), (90, F90), (91, F91), (92, F92)]) c, N), 0, 0)
set_option maxHeartbeats 8000000 in
theorem c_exprOf (w : wX) (m : mR) (c : Nat → Option am_C) (N D : Nat) (hD : 11 ≤ D) (hT : Ty m) (b : Int) (qb : R32 b) (hLx0 : LxP (m.1 7) (m.1 8) (m.1 9) (m.1 6) (m.1 10)) (hNM0 : ∀ k, (m.2 14) k + (m.2 15) k ≤ 4000) (hFA0 : ∀ k, (m.2 31) k + (m.2 32) k ≤ 4000) (hPA0 : ∀ k, (m.2 47) k + (m.2 48) k ≤ 4000) (hC : m.1 10 = 0 → (PN (m.1 13) (m.1 19) (m.1 20) (m.1 21) (m.1 22) (m.1 23) (m.1 25) (m.1 26) (m.2 16) (m.2 17)) ∧ (CN (m.2 65) (m.2 67) (m.1 28))) : TC w D 273 [.ref 189, .int (i32 b)] (mhp m c, N) (Q_exprOf m c N b) := by
  obtain ⟨D, rfl⟩ : ∃ k, D = k + 1 := ⟨D - 1, by omega⟩
  obtain ⟨qba, qbb⟩ := id qb
  have hLx := hLx0
  have hNM := hNM0
  have hFA := hFA0
  have hPA := hPA0
  have f7 : 0 ≤ m.1 7 ∧ m.1 7 ≤ 330 := hT.1 7
  have f8 : 0 ≤ m.1 8 ∧ m.1 8 ≤ 4000 := hT.1 8
  have f9 : 0 ≤ m.1 9 ∧ m.1 9 ≤ 4000 := hT.1 9
  have f10 : 0 ≤ m.1 10 ∧ m.1 10 ≤ 8 := hT.1 10
  have f11 : (-1) ≤ m.1 11 ∧ m.1 11 ≤ 4000 := hT.1 11
  have f12 : (-9223372036854775808) ≤ m.1 12 ∧ m.1 12 ≤ 9223372036854775807 := hT.1 12
  have f28 : 0 ≤ m.1 28 ∧ m.1 28 ≤ 800 := hT.1 28
  have f69 : 0 ≤ m.1 69 ∧ m.1 69 ≤ 1024 := hT.1 69
  have f70 : 0 ≤ m.1 70 ∧ m.1 70 ≤ 4000 := hT.1 70
  have f71 : 0 ≤ m.1 71 ∧ m.1 71 ≤ 1 := hT.1 71
  have f72 : (-9223372036854775808) ≤ m.1 72 ∧ m.1 72 ≤ 9223372036854775807 := hT.1 72
  have f73 : 0 ≤ m.1 73 ∧ m.1 73 ≤ 60 := hT.1 73
  have f74 : 0 ≤ m.1 74 ∧ m.1 74 ≤ 24 := hT.1 74
  have f75 : 0 ≤ m.1 75 ∧ m.1 75 ≤ 3 := hT.1 75
  have f25 : 0 ≤ m.1 25 ∧ m.1 25 ≤ 16 := hT.1 25
  have f22 : 0 ≤ m.1 22 ∧ m.1 22 ≤ 8 := hT.1 22
  have f19 : 0 ≤ m.1 19 ∧ m.1 19 ≤ 12 := hT.1 19
  have f20 : 0 ≤ m.1 20 ∧ m.1 20 ≤ 12 := hT.1 20
  have f21 : 0 ≤ m.1 21 ∧ m.1 21 ≤ 16 := hT.1 21
  have f13 : 0 ≤ m.1 13 ∧ m.1 13 ≤ 120 := hT.1 13
  have f6 : 0 ≤ m.1 6 ∧ m.1 6 ≤ 4000 := hT.1 6
  have f23 : 0 ≤ m.1 23 ∧ m.1 23 ≤ 16 := hT.1 23
  have f26 : 0 ≤ m.1 26 ∧ m.1 26 ≤ 8 := hT.1 26
  refine Tc_of rfl ?_
  show TT w D pm_273 (0, [(0, .ref 189), (1, .int (i32 b))], [], (mhp m c, N), 0, 0) (Q_exprOf m c N b)
  rw [show (mhp m c, N) = (mhp (mO m [(7, (m.1 7)), (8, (m.1 8)), (9, (m.1 9)), (10, (m.1 10)), (11, (m.1 11)), (12, (m.1 12)), (28, (m.1 28)), (69, (m.1 69)), (70, (m.1 70)), (71, (m.1 71)), (72, (m.1 72)), (73, (m.1 73)), (74, (m.1 74)), (75, (m.1 75))] [(65, (m.2 65)), (66, (m.2 66)), (67, (m.2 67)), (68, (m.2 68)), (76, (m.2 76)), (77, (m.2 77)), (78, (m.2 78)), (79, (m.2 79)), (80, (m.2 80)), (81, (m.2 81)), (82, (m.2 82)), (83, (m.2 83)), (84, (m.2 84)), (85, (m.2 85)), (86, (m.2 86)), (87, (m.2 87)), (88, (m.2 88)), (89, (m.2 89)), (90, (m.2 90)), (91, (m.2 91)), (92, (m.2 92))]) c, N) from congrArg (fun M => (mhp M c, N)) (mO_pad m [7, 8, 9, 10, 11, 12, 28, 69, 70, 71, 72, 73, 74, 75] [65, 66, 67, 68, 76, 77, 78, 79, 80, 81, 82, 83, 84, 85, 86, 87, 88, 89, 90, 91, 92])]
  by_cases hf0 : m.1 10 = 0
  · skip
    obtain ⟨pPN, hCN⟩ := hC hf0
    have J50_106 : ∀ (y71 : Int) (y72 : Int) (y73 : Int) (y74 : Int) (y75 : Int) (y76 : Int) (y77 : Int) (y78 : Int) (y79 : Int) (y80 : Int) (y81 : Int) (y82 : Int) (y83 : Int) (y84 : Int) (F85 : Int → Int) (F86 : Int → Int) (F87 : Int → Int) (F88 : Int → Int) (F89 : Int → Int) (F90 : Int → Int) (F91 : Int → Int) (F92 : Int → Int) (F93 : Int → Int) (F94 : Int → Int) (F95 : Int → Int) (F96 : Int → Int) (F97 : Int → Int) (F98 : Int → Int) (F99 : Int → Int) (F100 : Int → Int) (F101 : Int → Int) (F102 : Int → Int) (F103 : Int → Int) (F104 : Int → Int) (F105 : Int → Int), (0 ≤ y71 ∧ y71 ≤ 330) → (0 ≤ y72 ∧ y72 ≤ 4000) → (0 ≤ y73 ∧ y73 ≤ 4000) → (0 ≤ y74 ∧ y74 ≤ 8) → ((-1) ≤ y75 ∧ y75 ≤ 4000) → ((-9223372036854775808) ≤ y76 ∧ y76 ≤ 9223372036854775807) → (0 ≤ y77 ∧ y77 ≤ 800) → (0 ≤ y78 ∧ y78 ≤ 1024) → (0 ≤ y79 ∧ y79 ≤ 4000) → (0 ≤ y80 ∧ y80 ≤ 1) → ((-9223372036854775808) ≤ y81 ∧ y81 ≤ 9223372036854775807) → (0 ≤ y82 ∧ y82 ≤ 60) → (0 ≤ y83 ∧ y83 ≤ 24) → (0 ≤ y84 ∧ y84 ≤ 3) → (∀ j, 0 ≤ F85 j ∧ F85 j ≤ 408) → (∀ j, 0 ≤ F86 j ∧ F86 j ≤ 64) → (∀ j, 0 ≤ F87 j ∧ F87 j ≤ 191) → (∀ j, (-9223372036854775808) ≤ F88 j ∧ F88 j ≤ 9223372036854775807) → (∀ j, 0 ≤ F89 j ∧ F89 j ≤ 2) → (∀ j, 0 ≤ F90 j ∧ F90 j ≤ 4000) → (∀ j, 0 ≤ F91 j ∧ F91 j ≤ 330) → (∀ j, 0 ≤ F92 j ∧ F92 j ≤ 2) → (∀ j, (-1) ≤ F93 j ∧ F93 j ≤ 330) → (∀ j, 0 ≤ F94 j ∧ F94 j ≤ 64) → (∀ j, 0 ≤ F95 j ∧ F95 j ≤ 4000) → (∀ j, 0 ≤ F96 j ∧ F96 j ≤ 1) → (∀ j, (-9223372036854775808) ≤ F97 j ∧ F97 j ≤ 9223372036854775807) → (∀ j, 0 ≤ F98 j ∧ F98 j ≤ 64) → (∀ j, 0 ≤ F99 j ∧ F99 j ≤ 4000) → (∀ j, 0 ≤ F100 j ∧ F100 j ≤ 64) → (∀ j, 0 ≤ F101 j ∧ F101 j ≤ 4000) → (∀ j, 0 ≤ F102 j ∧ F102 j ≤ 1) → (∀ j, 0 ≤ F103 j ∧ F103 j ≤ 1) → (∀ j, (-9223372036854775808) ≤ F104 j ∧ F104 j ≤ 9223372036854775807) → (∀ j, (-9223372036854775808) ≤ F105 j ∧ F105 j ≤ 9223372036854775807) → (1 ≤ y74) → (y74 ≤ 8) → TT w D pm_273 (50, [(0, .ref 189), (1, .int (i32 b))], [], (mhp (mO m [(7, y71), (8, y72), (9, y73), (10, y74), (11, y75), (12, y76), (28, y77), (69, y78), (70, y79), (71, y80), (72, y81), (73, y82), (74, y83), (75, y84)] [(65, F85), (66, F86), (67, F87), (68, F88), (76, F89), (77, F90), (78, F91), (79, F92), (80, F93), (81, F94), (82, F95), (83, F96), (84, F97), (85, F98), (86, F99), (87, F100), (88, F101), (89, F102), (90, F103), (91, F104), (92, F105)]) c, N), 0, 0) (Q_exprOf m c N b) := by
      intro y71 y72 y73 y74 y75 y76 y77 y78 y79 y80 y81 y82 y83 y84 F85 F86 F87 F88 F89 F90 F91 F92 F93 F94 F95 F96 F97 F98 F99 F100 F101 F102 F103 F104 F105 q107 q108 q109 q110 q111 q112 q113 q114 q115 q116 q117 q118 q119 q120 q121 q122 q123 q124 q125 q126 q127 q128 q129 q130 q131 q132 q133 q134 q135 q136 q137 q138 q139 q140 q141 ic142 ic143
      refine T_ret rfl (fun _ => rfl) ?_
      exact ⟨y71, y72, y73, y74, y75, y76, y77, y78, y79, y80, y81, y82, y83, y84, F85, F86, F87, F88, F89, F90, F91, F92, F93, F94, F95, F96, F97, F98, F99, F100, F101, F102, F103, F104, F105, q107, q108, q109, q110, q111, q112, q113, q114, q115, q116, q117, q118, q119, q120, q121, q122, q123, q124, q125, q126, q127, q128, q129, q130, q131, q132, q133, q134, q135, q136, q137, q138, q139, q140, q141, (by omega), (by first | (first | exact hLx | (intro h9; exfalso; omega)) | (exfalso; omega)), (fun h => absurd h (by omega)), rfl⟩
    refine T_ld 1 (.ref 189) rfl (fun _ => rfl) ?_
    refine T_call 4 244 [.ref 189] [] rfl (fun _ => rfl) rfl (c_readExpr w (mO m [(7, (m.1 7)), (8, (m.1 8)), (9, (m.1 9)), (10, (m.1 10)), (11, (m.1 11)), (12, (m.1 12)), (28, (m.1 28)), (69, (m.1 69)), (70, (m.1 70)), (71, (m.1 71)), (72, (m.1 72)), (73, (m.1 73)), (74, (m.1 74)), (75, (m.1 75))] [(65, (m.2 65)), (66, (m.2 66)), (67, (m.2 67)), (68, (m.2 68)), (76, (m.2 76)), (77, (m.2 77)), (78, (m.2 78)), (79, (m.2 79)), (80, (m.2 80)), (81, (m.2 81)), (82, (m.2 82)), (83, (m.2 83)), (84, (m.2 84)), (85, (m.2 85)), (86, (m.2 86)), (87, (m.2 87)), (88, (m.2 88)), (89, (m.2 89)), (90, (m.2 90)), (91, (m.2 91)), (92, (m.2 92))]) c N D (by omega) (Ty_mO hT rfl rfl ⟨f7, f8, f9, f10, f11, f12, f28, f69, f70, f71, f72, f73, f74, f75, trivial⟩ ⟨(hT.2.1 65), (hT.2.1 66), (hT.2.1 67), (hT.2.1 68), (hT.2.1 76), (hT.2.1 77), (hT.2.1 78), (hT.2.1 79), (hT.2.1 80), (hT.2.1 81), (hT.2.1 82), (hT.2.1 83), (hT.2.1 84), (hT.2.1 85), (hT.2.1 86), (hT.2.1 87), (hT.2.1 88), (hT.2.1 89), (hT.2.1 90), (hT.2.1 91), (hT.2.1 92), trivial⟩) (show LxP (m.1 7) (m.1 8) (m.1 9) (m.1 6) (m.1 10) by first | exact hLx | (intro h9; exfalso; omega)) (show ∀ k, (m.2 14) k + (m.2 15) k ≤ 4000 by assumption) (show ∀ k, (m.2 31) k + (m.2 32) k ≤ 4000 by assumption) (show ∀ k, (m.2 47) k + (m.2 48) k ≤ 4000 by assumption) (fun _ => ⟨(show PN (m.1 13) (m.1 19) (m.1 20) (m.1 21) (m.1 22) (m.1 23) (m.1 25) (m.1 26) (m.2 16) (m.2 17) by assumption), (show CN (m.2 65) (m.2 67) (m.1 28) by assumption)⟩)) (fun rr145 k146 => ?_)
    obtain ⟨y147, y149, y151, y153, y155, y157, y159, y161, y163, y165, y167, y169, y171, y173, F175, F177, F179, F181, F183, F185, F187, F189, F191, F193, F195, F197, F199, F201, F203, F205, F207, F209, F211, F213, F215, g148, g150, g152, g154, g156, g158, g160, g162, g164, g166, g168, g170, g172, g174, G176, G178, G180, G182, G184, G186, G188, G190, G192, G194, G196, G198, G200, G202, G204, G206, G208, G210, G212, G214, G216, h217, h218, c219, rfl⟩ := k146
    refine ⟨_, _, rfl, ?_⟩
    refine T_nf (st' := []) (l' := [(7, y147), (8, y149), (9, y151), (10, y153), (11, y155), (12, y157), (28, y159), (69, y161), (70, y163), (71, y165), (72, y167), (73, y169), (74, y171), (75, y173)]) (a' := [(65, F175), (66, F177), (67, F179), (68, F181), (76, F183), (77, F185), (78, F187), (79, F189), (80, F191), (81, F193), (82, F195), (83, F197), (84, F199), (85, F201), (86, F203), (87, F205), (88, F207), (89, F209), (90, F211), (91, F213), (92, F215)]) rfl rfl rfl rfl rfl ?_
    by_cases hf220 : y153 = 0
    · skip
      subst hf220
      replace h217 : (m.1 10) = 0 := h217 rfl
      replace h218 : LxP y147 y149 y151 (m.1 6) (0 : Int) := h218
      have hLx := h218
      obtain ⟨c221, c222, c223, c224, c225, c226⟩ := c219 rfl
      replace c221 : (m.1 8) + 1 ≤ y149 := c221
      replace c222 : y161 ≤ 64 := c222
      replace c223 : (m.1 28) ≤ y159 := c223
      replace c224 : okc F175 (m.1 28) y159 := c224
      have hOk := c224
      replace c225 : CN F175 F179 y159 := c225
      have hCN := c225
      replace c226 : agr (m.2 65) F175 (m.1 28) := c226
      have hAg := c226
      clear c219
      clear g154
      refine T_gf 8 (.int (i32 0)) rfl rfl rfl rfl rfl rfl ?_
      refine T_if 50 11 rfl rfl rfl ⟨by decide, by decide⟩ (fun h227 => absurd (show (0 : Int) ≠ 0 from h227) (by decide)) (fun _ => ?_)
      refine T_ld 12 (.ref 189) rfl (fun _ => rfl) ?_
      refine T_gf 16 (.int (i32 y165)) rfl rfl rfl rfl rfl rfl ?_
      refine T_if 30 19 rfl rfl rfl (r32 (by omega) (by omega)) (fun (h228 : y165 = 0) => ?_) (fun (h228 : ¬ (y165 = 0)) => ?_)
      · skip
        refine T_gf 34 (.int (i32 y161)) rfl rfl rfl rfl rfl rfl ?_
        refine T_ld 35 (.int (i32 b)) rfl (fun _ => rfl) ?_
        refine T_icmp 42 38 rfl rfl rfl (r32 (by omega) (by omega)) (r32 (by omega) (by omega)) (fun (h229 : y161 ≠ b) => ?_) (fun (h229 : ¬ (y161 ≠ b)) => ?_)
        · skip
          refine T_ld 43 (.int (i32 0)) rfl (fun _ => rfl) ?_
          refine T_gf 47 (.int (i32 y163)) rfl rfl rfl rfl rfl rfl ?_
          refine T_call 50 256 [.ref 189, .int (i32 0), .int (i32 y163)] [] rfl (fun _ => rfl) rfl (c_want w (mO m [(7, y147), (8, y149), (9, y151), (10, 0), (11, y155), (12, y157), (28, y159), (69, y161), (70, y163), (71, y165), (72, y167), (73, y169), (74, y171), (75, y173)] [(65, F175), (66, F177), (67, F179), (68, F181), (76, F183), (77, F185), (78, F187), (79, F189), (80, F191), (81, F193), (82, F195), (83, F197), (84, F199), (85, F201), (86, F203), (87, F205), (88, F207), (89, F209), (90, F211), (91, F213), (92, F215)]) c N D (by omega) (Ty_mO hT rfl rfl ⟨g148, g150, g152, ⟨(by omega : (0 : Int) ≤ 0), (by omega : (0 : Int) ≤ 8)⟩, g156, g158, g160, g162, g164, g166, g168, g170, g172, g174, trivial⟩ ⟨G176, G178, G180, G182, G184, G186, G188, G190, G192, G194, G196, G198, G200, G202, G204, G206, G208, G210, G212, G214, G216, trivial⟩) 0 y163 ⟨by decide, by decide⟩ (r32 (by omega) (by omega)) (show 0 ≤ y163 ∧ y163 ≤ 4000 by omega) (fun _ => trivial)) (fun rr230 k231 => ?_)
          obtain ⟨y232, y234, g233, g235, h236, c237, rfl⟩ := k231
          refine ⟨_, _, rfl, ?_⟩
          refine T_nf (st' := []) (l' := [(7, y147), (8, y149), (9, y151), (10, y232), (11, y234), (12, y157), (28, y159), (69, y161), (70, y163), (71, y165), (72, y167), (73, y169), (74, y171), (75, y173)]) (a' := [(65, F175), (66, F177), (67, F179), (68, F181), (76, F183), (77, F185), (78, F187), (79, F189), (80, F191), (81, F193), (82, F195), (83, F197), (84, F199), (85, F201), (86, F203), (87, F205), (88, F207), (89, F209), (90, F211), (91, F213), (92, F215)]) rfl rfl rfl rfl rfl ?_
          by_cases hf238 : y232 = 0
          · skip
            subst hf238
            replace h236 : (0 : Int) = 0 := h236 rfl
            have c239 := c237 rfl
            replace c239 : (0 : Int) ≠ 0 := c239
            clear c237
            clear g156 g233
            refine T_ret rfl (fun _ => rfl) ?_
            exact ⟨y147, y149, y151, 0, y234, y157, y159, y161, y163, y165, y167, y169, y171, y173, F175, F177, F179, F181, F183, F185, F187, F189, F191, F193, F195, F197, F199, F201, F203, F205, F207, F209, F211, F213, F215, g148, g150, g152, ⟨by omega, by omega⟩, g235, g158, g160, g162, g164, g166, g168, g170, g172, g174, G176, G178, G180, G182, G184, G186, G188, G190, G192, G194, G196, G198, G200, G202, G204, G206, G208, G210, G212, G214, G216, (by omega), (by first | (first | exact hLx | (intro h9; exfalso; omega)) | (exfalso; omega)), (fun _ => ⟨(by omega), (by omega), (by omega), (by first | (exact hOk) | (exfalso; omega)), (by first | (exact hCN) | (exfalso; omega)), (by first | (exact hAg) | (exfalso; omega))⟩), rfl⟩
          · skip
            clear c237
            clear h236
            have hf240 : 1 ≤ y232 := by omega
            clear g156
            exact J50_106 y147 y149 y151 y232 y234 y157 y159 y161 y163 y165 y167 y169 y171 y173 F175 F177 F179 F181 F183 F185 F187 F189 F191 F193 F195 F197 F199 F201 F203 F205 F207 F209 F211 F213 F215 g148 g150 g152 g233 g235 g158 g160 g162 g164 g166 g168 g170 g172 g174 G176 G178 G180 G182 G184 G186 G188 G190 G192 G194 G196 G198 G200 G202 G204 G206 G208 G210 G212 G214 G216 (by omega) (by omega)
        · skip
          refine T_ld 39 (.int (i32 1)) rfl (fun _ => rfl) ?_
          refine T_goto 43 rfl (fun _ => rfl) ?_
          refine T_gf 47 (.int (i32 y163)) rfl rfl rfl rfl rfl rfl ?_
          refine T_call 50 256 [.ref 189, .int (i32 1), .int (i32 y163)] [] rfl (fun _ => rfl) rfl (c_want w (mO m [(7, y147), (8, y149), (9, y151), (10, 0), (11, y155), (12, y157), (28, y159), (69, y161), (70, y163), (71, y165), (72, y167), (73, y169), (74, y171), (75, y173)] [(65, F175), (66, F177), (67, F179), (68, F181), (76, F183), (77, F185), (78, F187), (79, F189), (80, F191), (81, F193), (82, F195), (83, F197), (84, F199), (85, F201), (86, F203), (87, F205), (88, F207), (89, F209), (90, F211), (91, F213), (92, F215)]) c N D (by omega) (Ty_mO hT rfl rfl ⟨g148, g150, g152, ⟨(by omega : (0 : Int) ≤ 0), (by omega : (0 : Int) ≤ 8)⟩, g156, g158, g160, g162, g164, g166, g168, g170, g172, g174, trivial⟩ ⟨G176, G178, G180, G182, G184, G186, G188, G190, G192, G194, G196, G198, G200, G202, G204, G206, G208, G210, G212, G214, G216, trivial⟩) 1 y163 ⟨by decide, by decide⟩ (r32 (by omega) (by omega)) (show 0 ≤ y163 ∧ y163 ≤ 4000 by omega) (fun _ => trivial)) (fun rr241 k242 => ?_)
          obtain ⟨y243, y245, g244, g246, h247, c248, rfl⟩ := k242
          refine ⟨_, _, rfl, ?_⟩
          refine T_nf (st' := []) (l' := [(7, y147), (8, y149), (9, y151), (10, y243), (11, y245), (12, y157), (28, y159), (69, y161), (70, y163), (71, y165), (72, y167), (73, y169), (74, y171), (75, y173)]) (a' := [(65, F175), (66, F177), (67, F179), (68, F181), (76, F183), (77, F185), (78, F187), (79, F189), (80, F191), (81, F193), (82, F195), (83, F197), (84, F199), (85, F201), (86, F203), (87, F205), (88, F207), (89, F209), (90, F211), (91, F213), (92, F215)]) rfl rfl rfl rfl rfl ?_
          by_cases hf249 : y243 = 0
          · skip
            subst hf249
            replace h247 : (0 : Int) = 0 := h247 rfl
            have c250 := c248 rfl
            replace c250 : (1 : Int) ≠ 0 := c250
            clear c248
            clear g156 g244
            refine T_ret rfl (fun _ => rfl) ?_
            exact ⟨y147, y149, y151, 0, y245, y157, y159, y161, y163, y165, y167, y169, y171, y173, F175, F177, F179, F181, F183, F185, F187, F189, F191, F193, F195, F197, F199, F201, F203, F205, F207, F209, F211, F213, F215, g148, g150, g152, ⟨by omega, by omega⟩, g246, g158, g160, g162, g164, g166, g168, g170, g172, g174, G176, G178, G180, G182, G184, G186, G188, G190, G192, G194, G196, G198, G200, G202, G204, G206, G208, G210, G212, G214, G216, (by omega), (by first | (first | exact hLx | (intro h9; exfalso; omega)) | (exfalso; omega)), (fun _ => ⟨(by omega), (by omega), (by omega), (by first | (exact hOk) | (exfalso; omega)), (by first | (exact hCN) | (exfalso; omega)), (by first | (exact hAg) | (exfalso; omega))⟩), rfl⟩
          · skip
            clear c248
            clear h247
            have hf251 : 1 ≤ y243 := by omega
            clear g156
            exact J50_106 y147 y149 y151 y243 y245 y157 y159 y161 y163 y165 y167 y169 y171 y173 F175 F177 F179 F181 F183 F185 F187 F189 F191 F193 F195 F197 F199 F201 F203 F205 F207 F209 F211 F213 F215 g148 g150 g152 g244 g246 g158 g160 g162 g164 g166 g168 g170 g172 g174 G176 G178 G180 G182 G184 G186 G188 G190 G192 G194 G196 G198 G200 G202 G204 G206 G208 G210 G212 G214 G216 (by omega) (by omega)
      · skip
        refine T_gf 23 (.long (i64 y167)) rfl rfl rfl rfl rfl rfl ?_
        refine T_ld 24 (.int (i32 b)) rfl (fun _ => rfl) ?_
        refine T_call 27 262 [.long (i64 y167), .int (i32 b)] [.ref 189] rfl (fun _ => rfl) rfl (c_fits w (mO m [(7, y147), (8, y149), (9, y151), (10, 0), (11, y155), (12, y157), (28, y159), (69, y161), (70, y163), (71, y165), (72, y167), (73, y169), (74, y171), (75, y173)] [(65, F175), (66, F177), (67, F179), (68, F181), (76, F183), (77, F185), (78, F187), (79, F189), (80, F191), (81, F193), (82, F195), (83, F197), (84, F199), (85, F201), (86, F203), (87, F205), (88, F207), (89, F209), (90, F211), (91, F213), (92, F215)]) c N D (by omega) (Ty_mO hT rfl rfl ⟨g148, g150, g152, ⟨(by omega : (0 : Int) ≤ 0), (by omega : (0 : Int) ≤ 8)⟩, g156, g158, g160, g162, g164, g166, g168, g170, g172, g174, trivial⟩ ⟨G176, G178, G180, G182, G184, G186, G188, G190, G192, G194, G196, G198, G200, G202, G204, G206, G208, G210, G212, G214, G216, trivial⟩) y167 b (r64 (by omega) (by omega)) (r32 (by omega) (by omega))) (fun rr252 k253 => ?_)
        obtain ⟨x254, g255, rfl⟩ := k253
        refine ⟨_, _, rfl, ?_⟩
        refine T_nf (st' := [.int (i32 x254), .ref 189]) (l' := [(7, y147), (8, y149), (9, y151), (10, 0), (11, y155), (12, y157), (28, y159), (69, y161), (70, y163), (71, y165), (72, y167), (73, y169), (74, y171), (75, y173)]) (a' := [(65, F175), (66, F177), (67, F179), (68, F181), (76, F183), (77, F185), (78, F187), (79, F189), (80, F191), (81, F193), (82, F195), (83, F197), (84, F199), (85, F201), (86, F203), (87, F205), (88, F207), (89, F209), (90, F211), (91, F213), (92, F215)]) rfl rfl rfl rfl rfl ?_
        obtain ⟨g255a, g255b⟩ := g255
        refine T_goto 43 rfl (fun _ => rfl) ?_
        refine T_gf 47 (.int (i32 y163)) rfl rfl rfl rfl rfl rfl ?_
        refine T_call 50 256 [.ref 189, .int (i32 x254), .int (i32 y163)] [] rfl (fun _ => rfl) rfl (c_want w (mO m [(7, y147), (8, y149), (9, y151), (10, 0), (11, y155), (12, y157), (28, y159), (69, y161), (70, y163), (71, y165), (72, y167), (73, y169), (74, y171), (75, y173)] [(65, F175), (66, F177), (67, F179), (68, F181), (76, F183), (77, F185), (78, F187), (79, F189), (80, F191), (81, F193), (82, F195), (83, F197), (84, F199), (85, F201), (86, F203), (87, F205), (88, F207), (89, F209), (90, F211), (91, F213), (92, F215)]) c N D (by omega) (Ty_mO hT rfl rfl ⟨g148, g150, g152, ⟨(by omega : (0 : Int) ≤ 0), (by omega : (0 : Int) ≤ 8)⟩, g156, g158, g160, g162, g164, g166, g168, g170, g172, g174, trivial⟩ ⟨G176, G178, G180, G182, G184, G186, G188, G190, G192, G194, G196, G198, G200, G202, G204, G206, G208, G210, G212, G214, G216, trivial⟩) x254 y163 (r32 (by omega) (by omega)) (r32 (by omega) (by omega)) (show 0 ≤ y163 ∧ y163 ≤ 4000 by omega) (fun _ => trivial)) (fun rr256 k257 => ?_)
        obtain ⟨y258, y260, g259, g261, h262, c263, rfl⟩ := k257
        refine ⟨_, _, rfl, ?_⟩
        refine T_nf (st' := []) (l' := [(7, y147), (8, y149), (9, y151), (10, y258), (11, y260), (12, y157), (28, y159), (69, y161), (70, y163), (71, y165), (72, y167), (73, y169), (74, y171), (75, y173)]) (a' := [(65, F175), (66, F177), (67, F179), (68, F181), (76, F183), (77, F185), (78, F187), (79, F189), (80, F191), (81, F193), (82, F195), (83, F197), (84, F199), (85, F201), (86, F203), (87, F205), (88, F207), (89, F209), (90, F211), (91, F213), (92, F215)]) rfl rfl rfl rfl rfl ?_
        by_cases hf264 : y258 = 0
        · skip
          subst hf264
          replace h262 : (0 : Int) = 0 := h262 rfl
          have c265 := c263 rfl
          replace c265 : x254 ≠ 0 := c265
          clear c263
          clear g156 g255a g255b g259 c265
          refine T_ret rfl (fun _ => rfl) ?_
          exact ⟨y147, y149, y151, 0, y260, y157, y159, y161, y163, y165, y167, y169, y171, y173, F175, F177, F179, F181, F183, F185, F187, F189, F191, F193, F195, F197, F199, F201, F203, F205, F207, F209, F211, F213, F215, g148, g150, g152, ⟨by omega, by omega⟩, g261, g158, g160, g162, g164, g166, g168, g170, g172, g174, G176, G178, G180, G182, G184, G186, G188, G190, G192, G194, G196, G198, G200, G202, G204, G206, G208, G210, G212, G214, G216, (by omega), (by first | (first | exact hLx | (intro h9; exfalso; omega)) | (exfalso; omega)), (fun _ => ⟨(by omega), (by omega), (by omega), (by first | (exact hOk) | (exfalso; omega)), (by first | (exact hCN) | (exfalso; omega)), (by first | (exact hAg) | (exfalso; omega))⟩), rfl⟩
        · skip
          clear c263
          clear h262
          have hf266 : 1 ≤ y258 := by omega
          clear g156 g255a g255b
          exact J50_106 y147 y149 y151 y258 y260 y157 y159 y161 y163 y165 y167 y169 y171 y173 F175 F177 F179 F181 F183 F185 F187 F189 F191 F193 F195 F197 F199 F201 F203 F205 F207 F209 F211 F213 F215 g148 g150 g152 g259 g261 g158 g160 g162 g164 g166 g168 g170 g172 g174 G176 G178 G180 G182 G184 G186 G188 G190 G192 G194 G196 G198 G200 G202 G204 G206 G208 G210 G212 G214 G216 (by omega) (by omega)
    · skip
      clear c219
      clear h217
      replace h218 : LxP y147 y149 y151 (m.1 6) y153 := h218
      have hLx := h218
      have hf267 : 1 ≤ y153 := by omega
      refine T_gf 8 (.int (i32 y153)) rfl rfl rfl rfl rfl rfl ?_
      refine T_if 50 11 rfl rfl rfl (r32 (by omega) (by omega)) (fun (h268 : y153 ≠ 0) => ?_) (fun (h268 : ¬ (y153 ≠ 0)) => by exfalso; omega)
      refine T_ret rfl (fun _ => rfl) ?_
      exact ⟨y147, y149, y151, y153, y155, y157, y159, y161, y163, y165, y167, y169, y171, y173, F175, F177, F179, F181, F183, F185, F187, F189, F191, F193, F195, F197, F199, F201, F203, F205, F207, F209, F211, F213, F215, g148, g150, g152, g154, g156, g158, g160, g162, g164, g166, g168, g170, g172, g174, G176, G178, G180, G182, G184, G186, G188, G190, G192, G194, G196, G198, G200, G202, G204, G206, G208, G210, G212, G214, G216, (by omega), (by first | (first | exact hLx | (intro h9; exfalso; omega)) | (exfalso; omega)), (fun h => absurd h (by omega)), rfl⟩
  · skip
    clear hC
    refine T_ld 1 (.ref 189) rfl (fun _ => rfl) ?_
    refine T_call 4 244 [.ref 189] [] rfl (fun _ => rfl) rfl (c_readExpr w (mO m [(7, (m.1 7)), (8, (m.1 8)), (9, (m.1 9)), (10, (m.1 10)), (11, (m.1 11)), (12, (m.1 12)), (28, (m.1 28)), (69, (m.1 69)), (70, (m.1 70)), (71, (m.1 71)), (72, (m.1 72)), (73, (m.1 73)), (74, (m.1 74)), (75, (m.1 75))] [(65, (m.2 65)), (66, (m.2 66)), (67, (m.2 67)), (68, (m.2 68)), (76, (m.2 76)), (77, (m.2 77)), (78, (m.2 78)), (79, (m.2 79)), (80, (m.2 80)), (81, (m.2 81)), (82, (m.2 82)), (83, (m.2 83)), (84, (m.2 84)), (85, (m.2 85)), (86, (m.2 86)), (87, (m.2 87)), (88, (m.2 88)), (89, (m.2 89)), (90, (m.2 90)), (91, (m.2 91)), (92, (m.2 92))]) c N D (by omega) (Ty_mO hT rfl rfl ⟨f7, f8, f9, f10, f11, f12, f28, f69, f70, f71, f72, f73, f74, f75, trivial⟩ ⟨(hT.2.1 65), (hT.2.1 66), (hT.2.1 67), (hT.2.1 68), (hT.2.1 76), (hT.2.1 77), (hT.2.1 78), (hT.2.1 79), (hT.2.1 80), (hT.2.1 81), (hT.2.1 82), (hT.2.1 83), (hT.2.1 84), (hT.2.1 85), (hT.2.1 86), (hT.2.1 87), (hT.2.1 88), (hT.2.1 89), (hT.2.1 90), (hT.2.1 91), (hT.2.1 92), trivial⟩) (show LxP (m.1 7) (m.1 8) (m.1 9) (m.1 6) (m.1 10) by first | exact hLx | (intro h9; exfalso; omega)) (show ∀ k, (m.2 14) k + (m.2 15) k ≤ 4000 by assumption) (show ∀ k, (m.2 31) k + (m.2 32) k ≤ 4000 by assumption) (show ∀ k, (m.2 47) k + (m.2 48) k ≤ 4000 by assumption) (fun (h : (m.1 10) = 0) => absurd h (by omega))) (fun rr269 k270 => ?_)
    obtain ⟨y271, y273, y275, y277, y279, y281, y283, y285, y287, y289, y291, y293, y295, y297, F299, F301, F303, F305, F307, F309, F311, F313, F315, F317, F319, F321, F323, F325, F327, F329, F331, F333, F335, F337, F339, g272, g274, g276, g278, g280, g282, g284, g286, g288, g290, g292, g294, g296, g298, G300, G302, G304, G306, G308, G310, G312, G314, G316, G318, G320, G322, G324, G326, G328, G330, G332, G334, G336, G338, G340, h341, h342, c343, rfl⟩ := k270
    refine ⟨_, _, rfl, ?_⟩
    refine T_nf (st' := []) (l' := [(7, y271), (8, y273), (9, y275), (10, y277), (11, y279), (12, y281), (28, y283), (69, y285), (70, y287), (71, y289), (72, y291), (73, y293), (74, y295), (75, y297)]) (a' := [(65, F299), (66, F301), (67, F303), (68, F305), (76, F307), (77, F309), (78, F311), (79, F313), (80, F315), (81, F317), (82, F319), (83, F321), (84, F323), (85, F325), (86, F327), (87, F329), (88, F331), (89, F333), (90, F335), (91, F337), (92, F339)]) rfl rfl rfl rfl rfl ?_
    replace h341 : y277 = 0 → (m.1 10) = 0 := h341
    replace h342 : LxP y271 y273 y275 (m.1 6) y277 := h342
    have hf344 : 1 ≤ y277 := by omega
    clear c343
    clear h341
    have hLx := h342
    refine T_gf 8 (.int (i32 y277)) rfl rfl rfl rfl rfl rfl ?_
    refine T_if 50 11 rfl rfl rfl (r32 (by omega) (by omega)) (fun (h345 : y277 ≠ 0) => ?_) (fun (h345 : ¬ (y277 ≠ 0)) => by exfalso; omega)
    refine T_ret rfl (fun _ => rfl) ?_
    exact ⟨y271, y273, y275, y277, y279, y281, y283, y285, y287, y289, y291, y293, y295, y297, F299, F301, F303, F305, F307, F309, F311, F313, F315, F317, F319, F321, F323, F325, F327, F329, F331, F333, F335, F337, F339, g272, g274, g276, g278, g280, g282, g284, g286, g288, g290, g292, g294, g296, g298, G300, G302, G304, G306, G308, G310, G312, G314, G316, G318, G320, G322, G324, G326, G328, G330, G332, G334, G336, G338, G340, (by omega), (by first | (first | exact hLx | (intro h9; exfalso; omega)) | (exfalso; omega)), (fun h => absurd h (by omega)), rfl⟩
