def Q_takeList (m : mR) (c : Nat → Option am_C) (N : Nat) (t : Int) : ag_Re af_T → Prop := fun R => ∃ (y7 : Int) (y8 : Int) (y9 : Int) (y10 : Int) (y11 : Int) (y12 : Int) (F53 : Int → Int) (F114 : Int → Int) (F116 : Int → Int), (0 ≤ y7 ∧ y7 ≤ 330) ∧ (0 ≤ y8 ∧ y8 ≤ 4000) ∧ (0 ≤ y9 ∧ y9 ≤ 4000) ∧ (0 ≤ y10 ∧ y10 ≤ 8) ∧ ((-1) ≤ y11 ∧ y11 ≤ 4000) ∧ ((-9223372036854775808) ≤ y12 ∧ y12 ≤ 9223372036854775807) ∧ (∀ j, 0 ≤ F53 j ∧ F53 j ≤ 8) ∧ (∀ j, 0 ≤ F114 j ∧ F114 j ≤ 15) ∧ (∀ j, 0 ≤ F116 j ∧ F116 j ≤ 1) ∧ (y10 = 0 → (m.1 10) = 0) ∧ (LxP y7 y8 y9 (m.1 6) y10) ∧ (y10 = 0 → ((m.1 8) + 1 ≤ y8) ∧ (agr (m.2 53) F53 t) ∧ (agr (m.2 114) F114 (8 * t)) ∧ (∀ k, 8 * t ≤ k → k < 8 * t + F53 t → F114 k < (m.1 25))) ∧ R = (.inl (none), (mhp (mO m [(7, y7), (8, y8), (9, y9), (10, y10), (11, y11), (12, y12)] [(53, F53), (114, F114), (116, F116)]) c, N), 0, 0)
set_option maxHeartbeats 8000000 in
theorem c_takeList (w : wX) (m : mR) (c : Nat → Option am_C) (N D : Nat) (hD : 7 ≤ D) (hT : Ty m) (t : Int) (qt : R32 t) (hLx0 : LxP (m.1 7) (m.1 8) (m.1 9) (m.1 6) (m.1 10)) (hNM0 : ∀ k, (m.2 14) k + (m.2 15) k ≤ 4000) (p2 : 0 ≤ t ∧ t ≤ 7) (hC : m.1 10 = 0 → (PN (m.1 13) (m.1 19) (m.1 20) (m.1 21) (m.1 22) (m.1 23) (m.1 25) (m.1 26) (m.2 16) (m.2 17)) ∧ ((m.2 53) t = 0)) : TC w D 276 [.ref 189, .int (i32 t)] (mhp m c, N) (Q_takeList m c N t) := by
  obtain ⟨D, rfl⟩ : ∃ k, D = k + 1 := ⟨D - 1, by omega⟩
  obtain ⟨qta, qtb⟩ := id qt
  have hLx := hLx0
  have hNM := hNM0
  have f7 : 0 ≤ m.1 7 ∧ m.1 7 ≤ 330 := hT.1 7
  have f8 : 0 ≤ m.1 8 ∧ m.1 8 ≤ 4000 := hT.1 8
  have f9 : 0 ≤ m.1 9 ∧ m.1 9 ≤ 4000 := hT.1 9
  have f10 : 0 ≤ m.1 10 ∧ m.1 10 ≤ 8 := hT.1 10
  have f11 : (-1) ≤ m.1 11 ∧ m.1 11 ≤ 4000 := hT.1 11
  have f12 : (-9223372036854775808) ≤ m.1 12 ∧ m.1 12 ≤ 9223372036854775807 := hT.1 12
  have f25 : 0 ≤ m.1 25 ∧ m.1 25 ≤ 16 := hT.1 25
  have f22 : 0 ≤ m.1 22 ∧ m.1 22 ≤ 8 := hT.1 22
  have f19 : 0 ≤ m.1 19 ∧ m.1 19 ≤ 12 := hT.1 19
  have f20 : 0 ≤ m.1 20 ∧ m.1 20 ≤ 12 := hT.1 20
  have f21 : 0 ≤ m.1 21 ∧ m.1 21 ≤ 16 := hT.1 21
  have f13 : 0 ≤ m.1 13 ∧ m.1 13 ≤ 120 := hT.1 13
  have f6 : 0 ≤ m.1 6 ∧ m.1 6 ≤ 4000 := hT.1 6
  have f23 : 0 ≤ m.1 23 ∧ m.1 23 ≤ 16 := hT.1 23
  have f26 : 0 ≤ m.1 26 ∧ m.1 26 ≤ 8 := hT.1 26
  refine Tc_of rfl ?_
  show TT w D pm_276 (0, [(0, .ref 189), (1, .int (i32 t))], [], (mhp m c, N), 0, 0) (Q_takeList m c N t)
  rw [show (mhp m c, N) = (mhp (mO m [(7, (m.1 7)), (8, (m.1 8)), (9, (m.1 9)), (10, (m.1 10)), (11, (m.1 11)), (12, (m.1 12))] [(53, (m.2 53)), (114, (m.2 114)), (116, (m.2 116))]) c, N) from congrArg (fun M => (mhp M c, N)) (mO_pad m [7, 8, 9, 10, 11, 12] [53, 114, 116])]
  by_cases hf0 : m.1 10 = 0
  · skip
    obtain ⟨pPN, hta0⟩ := hC hf0
    have h7 := hLx (by omega)
    have hNM := hNM0
    have hK1 := agr_r (m.2 53) t
    have hK2 := agr_r (m.2 114) (8 * t)
    have hLI : ∀ k, 8 * t ≤ k → k < 8 * t + (m.2 53) t → (m.2 114) k < (m.1 25) := fun k k0 k1 => by rw [hta0] at k1; omega
    refine T_ld 1 (.ref 189) rfl (fun _ => rfl) ?_
    refine T_ld 4 (.int (i32 315)) rfl (fun _ => rfl) ?_
    refine T_call 7 232 [.ref 189, .int (i32 315)] [] rfl (fun _ => rfl) rfl (c_need w (mO m [(7, (m.1 7)), (8, (m.1 8)), (9, (m.1 9)), (10, (m.1 10)), (11, (m.1 11)), (12, (m.1 12))] [(53, (m.2 53)), (114, (m.2 114)), (116, (m.2 116))]) c N D (by omega) (Ty_mO hT rfl rfl ⟨f7, f8, f9, f10, f11, f12, trivial⟩ ⟨(hT.2.1 53), (hT.2.1 114), (hT.2.1 116), trivial⟩) 315 ⟨by decide, by decide⟩ (show 1 ≤ (315 : Int) by omega) (show LxP (m.1 7) (m.1 8) (m.1 9) (m.1 6) (m.1 10) by first | exact hLx | (intro h9; exfalso; omega) | (intro h9; have h8 := hLx (by omega); omega))) (fun rr1 k2 => ?_)
    obtain ⟨y3, y5, y7, y9, y11, y13, g4, g6, g8, g10, g12, g14, h15, h16, h17, h18, rfl⟩ := k2
    refine ⟨_, _, rfl, ?_⟩
    refine T_nf (st' := []) (l' := [(7, y3), (8, y5), (9, y7), (10, y9), (11, y11), (12, y13)]) (a' := [(53, (m.2 53)), (114, (m.2 114)), (116, (m.2 116))]) rfl rfl rfl rfl rfl ?_
    by_cases hf19 : y9 = 0
    · skip
      subst hf19
      replace h15 : LxP y3 y5 y7 (m.1 6) (0 : Int) := h15
      have hLx := h15
      replace h16 : (m.1 10) = 0 ∧ (m.1 7) = (315 : Int) := h16 rfl
      replace h17 : (m.1 8) ≤ y5 := h17
      replace h18 : (m.1 8) + (m.1 9) ≤ y5 := h18 rfl
      have u20 : (m.1 8) + 1 ≤ y5 := by omega
      clear g10
      refine T_ld 8 (.int (i32 0)) rfl (fun _ => rfl) ?_
      refine T_sto 9 [(2, .int (i32 0)), (0, .ref 189), (1, .int (i32 t))] rfl (fun _ => rfl) ?_
      have L9_23 : ∀ (n : Nat) (v21 : Int) (F22 : Int → Int), (R32 v21) → (∀ j, 0 ≤ F22 j ∧ F22 j ≤ 1) → (0 ≤ v21) → (v21 ≤ 16) → 16 - v21 < (n : Int) → TT w D pm_276 (9, [(0, .ref 189), (1, .int (i32 t)), (2, .int (i32 v21))], [], (mhp (mO m [(7, y3), (8, y5), (9, y7), (10, 0), (11, y11), (12, y13)] [(53, (m.2 53)), (114, (m.2 114)), (116, F22)]) c, N), 0, 0) (Q_takeList m c N t) := by
        intro n
        induction n with
        | zero =>
          intro v21 F22 q24 q25 ic26 ic27 hmu
          obtain ⟨q24a, q24b⟩ := id q24
          exfalso
          omega
        | succ n ih =>
          intro v21 F22 q24 q25 ic26 ic27 hmu
          obtain ⟨q24a, q24b⟩ := id q24
          have ih29 := ih
          refine T_ld 10 (.int (i32 v21)) rfl (fun _ => rfl) ?_
          refine T_ld 12 (.int (i32 16)) rfl (fun _ => rfl) ?_
          refine T_icmp 28 15 rfl rfl rfl (r32 (by omega) (by omega)) ⟨by decide, by decide⟩ (fun (h30 : (16 : Int) ≤ v21) => ?_) (fun (h30 : ¬ ((16 : Int) ≤ v21)) => ?_)
          · skip
            refine T_ld 29 (.int (i32 1)) rfl (fun _ => rfl) ?_
            refine T_sto 30 [(2, .int (i32 1)), (0, .ref 189), (1, .int (i32 t))] rfl (fun _ => rfl) ?_
            have L30_41 : ∀ (n : Nat) (v31 : Int) (y32 : Int) (y33 : Int) (y34 : Int) (y35 : Int) (y36 : Int) (y37 : Int) (F38 : Int → Int) (F39 : Int → Int) (F40 : Int → Int), (R32 v31) → (0 ≤ y32 ∧ y32 ≤ 330) → (0 ≤ y33 ∧ y33 ≤ 4000) → (0 ≤ y34 ∧ y34 ≤ 4000) → (0 ≤ y35 ∧ y35 ≤ 8) → ((-1) ≤ y36 ∧ y36 ≤ 4000) → ((-9223372036854775808) ≤ y37 ∧ y37 ≤ 9223372036854775807) → (∀ j, 0 ≤ F38 j ∧ F38 j ≤ 8) → (∀ j, 0 ≤ F39 j ∧ F39 j ≤ 15) → (∀ j, 0 ≤ F40 j ∧ F40 j ≤ 1) → (0 ≤ v31) → (v31 ≤ 1) → (LxP y32 y33 y34 (m.1 6) y35) → (v31 = 0 ∨ v31 = 1) → (y35 = 0 → ((m.1 8) + 1 ≤ y33) ∧ (agr (m.2 53) F38 t) ∧ (agr (m.2 114) F39 (8 * t)) ∧ (∀ k, 8 * t ≤ k → k < 8 * t + F38 t → F39 k < (m.1 25))) → 1000000 * (8 - y35) + 2 * (4000 - y33) + v31 < (n : Int) → TT w D pm_276 (30, [(0, .ref 189), (1, .int (i32 t)), (2, .int (i32 v31))], [], (mhp (mO m [(7, y32), (8, y33), (9, y34), (10, y35), (11, y36), (12, y37)] [(53, F38), (114, F39), (116, F40)]) c, N), 0, 0) (Q_takeList m c N t) := by
              intro n
              induction n with
              | zero =>
                intro v31 y32 y33 y34 y35 y36 y37 F38 F39 F40 q42 q43 q44 q45 q46 q47 q48 q49 q50 q51 ic52 ic53 ic54 ic55 c56 hmu
                obtain ⟨q42a, q42b⟩ := id q42
                have hLx := ic54
                exfalso
                omega
              | succ n ih =>
                intro v31 y32 y33 y34 y35 y36 y37 F38 F39 F40 q42 q43 q44 q45 q46 q47 q48 q49 q50 q51 ic52 ic53 ic54 ic55 c56 hmu
                obtain ⟨q42a, q42b⟩ := id q42
                have hLx := ic54
                have ih57 := ih
                by_cases hf58 : y35 = 0
                · skip
                  subst hf58
                  obtain ⟨c59, c60, c61, c62⟩ := c56 rfl
                  have hK1 := c60
                  have hK2 := c61
                  have hLI := c62
                  refine T_ld 31 (.int (i32 v31)) rfl (fun _ => rfl) ?_
                  refine T_if 183 34 rfl rfl rfl (r32 (by omega) (by omega)) (fun (h63 : v31 = 0) => ?_) (fun (h63 : ¬ (v31 = 0)) => ?_)
                  · skip
                    refine T_ld 184 (.ref 189) rfl (fun _ => rfl) ?_
                    refine T_ld 186 (.int (i32 59)) rfl (fun _ => rfl) ?_
                    refine T_call 189 232 [.ref 189, .int (i32 59)] [] rfl (fun _ => rfl) rfl (c_need w (mO m [(7, y32), (8, y33), (9, y34), (10, 0), (11, y36), (12, y37)] [(53, F38), (114, F39), (116, F40)]) c N D (by omega) (Ty_mO hT rfl rfl ⟨q43, q44, q45, ⟨(by omega : (0 : Int) ≤ 0), (by omega : (0 : Int) ≤ 8)⟩, q47, q48, trivial⟩ ⟨q49, q50, q51, trivial⟩) 59 ⟨by decide, by decide⟩ (show 1 ≤ (59 : Int) by omega) (show LxP y32 y33 y34 (m.1 6) (0 : Int) by first | exact hLx | (intro h9; exfalso; omega) | (intro h9; have h8 := hLx (by omega); omega))) (fun rr64 k65 => ?_)
                    obtain ⟨y66, y68, y70, y72, y74, y76, g67, g69, g71, g73, g75, g77, h78, h79, h80, h81, rfl⟩ := k65
                    refine ⟨_, _, rfl, ?_⟩
                    refine T_nf (st' := []) (l' := [(7, y66), (8, y68), (9, y70), (10, y72), (11, y74), (12, y76)]) (a' := [(53, F38), (114, F39), (116, F40)]) rfl rfl rfl rfl rfl ?_
                    by_cases hf82 : y72 = 0
                    · skip
                      subst hf82
                      replace h78 : LxP y66 y68 y70 (m.1 6) (0 : Int) := h78
                      have hLx := h78
                      replace h79 : (0 : Int) = 0 ∧ y32 = (59 : Int) := h79 rfl
                      replace h80 : y33 ≤ y68 := h80
                      replace h81 : y33 + y34 ≤ y68 := h81 rfl
                      have u83 : (m.1 8) + 1 ≤ y68 := by omega
                      clear g4 g6 g8 g12 g14 h15 h17 h18 u20 q24a q24b q24 ic26 ic27 h30 q43 q44 q45 q46 q47 q48 ic54 c59 g73 h79 h80 h81
                      refine T_ret rfl (fun _ => rfl) ?_
                      exact ⟨y66, y68, y70, 0, y74, y76, F38, F39, F40, g67, g69, g71, ⟨by omega, by omega⟩, g75, g77, q49, q50, q51, (by omega), (by first | (first | exact hLx | (intro h9; exfalso; omega)) | (exfalso; omega)), (fun _ => ⟨(by omega), (by first | (exact hK1) | (exfalso; omega)), (by first | (exact hK2) | (exfalso; omega)), (by first | (exact hLI) | (exfalso; omega))⟩), rfl⟩
                    · skip
                      replace h78 : LxP y66 y68 y70 (m.1 6) y72 := h78
                      have hLx := h78
                      clear h79
                      replace h80 : y33 ≤ y68 := h80
                      clear h81
                      have hf84 : 1 ≤ y72 := by omega
                      clear g4 g6 g8 g12 g14 h15 h17 h18 u20 q24a q24b q24 ic26 ic27 h30 q43 q44 q45 q46 q47 q48 ic54 c59 h80
                      refine T_ret rfl (fun _ => rfl) ?_
                      exact ⟨y66, y68, y70, y72, y74, y76, F38, F39, F40, g67, g69, g71, g73, g75, g77, q49, q50, q51, (by omega), (by first | (first | exact hLx | (intro h9; exfalso; omega)) | (exfalso; omega)), (fun h => absurd h (by omega)), rfl⟩
                  · skip
                    refine T_gf 38 (.int (i32 0)) rfl rfl rfl rfl rfl rfl ?_
                    refine T_if 183 41 rfl rfl rfl ⟨by decide, by decide⟩ (fun h85 => absurd (show (0 : Int) ≠ 0 from h85) (by decide)) (fun _ => ?_)
                    have h7 := hLx (by omega)
                    refine T_gf 45 (.int (i32 y32)) rfl rfl rfl rfl rfl rfl ?_
                    refine T_ld 46 (.int (i32 1)) rfl (fun _ => rfl) ?_
                    refine T_icmp 69 49 rfl rfl rfl (r32 (by omega) (by omega)) ⟨by decide, by decide⟩ (fun (h86 : y32 ≠ 1) => ?_) (fun (h86 : ¬ (y32 ≠ 1)) => ?_)
                    · skip
                      refine T_gf 73 (.int (i32 y33)) rfl rfl rfl rfl rfl rfl ?_
                      refine T_sto 74 [(3, .int (i32 y33)), (0, .ref 189), (1, .int (i32 t)), (2, .int (i32 v31))] rfl (fun _ => rfl) ?_
                      refine T_ld 75 (.ref 189) rfl (fun _ => rfl) ?_
                      refine T_ld 77 (.int (i32 6)) rfl (fun _ => rfl) ?_
                      have hOL : (0 : Int) = 0 → ∀ k, 0 ≤ k → k < (m.1 13) → (m.2 16) k = 6 → 0 ≤ (m.2 17) k ∧ (m.2 17) k < (m.1 25) := fun _ k h1 h2 h3 => by
                        have h4 := PNl_6 pPN k h1 h2 h3
                        omega
                      refine T_call 80 236 [.ref 189, .int (i32 6)] [] rfl (fun _ => rfl) rfl (c_oldName w (mO m [(7, y32), (8, y33), (9, y34), (10, 0), (11, y36), (12, y37)] [(53, F38), (114, F39), (116, F40)]) c N D (by omega) (Ty_mO hT rfl rfl ⟨q43, q44, q45, ⟨(by omega : (0 : Int) ≤ 0), (by omega : (0 : Int) ≤ 8)⟩, q47, q48, trivial⟩ ⟨q49, q50, q51, trivial⟩) 6 (m.1 25) ⟨by decide, by decide⟩ (show LxP y32 y33 y34 (m.1 6) (0 : Int) by first | exact hLx | (intro h9; exfalso; omega) | (intro h9; have h8 := hLx (by omega); omega)) (show ∀ k, (m.2 14) k + (m.2 15) k ≤ 4000 by first | exact p1 | exact hNM) (show 1 ≤ (6 : Int) ∧ (6 : Int) ≤ 7 ∧ (6 : Int) ≠ 5 by omega) (show (m.1 25) ≤ 16 by omega) (show (0 : Int) = 0 → ∀ k, 0 ≤ k → k < (m.1 13) → (m.2 16) k = (6 : Int) → 0 ≤ (m.2 17) k ∧ (m.2 17) k < (m.1 25) by first | exact hOL | (intro h; exfalso; omega)) (show (6 : Int) = 3 → 3 ≤ (m.1 25) by omega)) (fun rr87 k88 => ?_)
                      obtain ⟨y89, y91, y93, y95, y97, y99, oo, g90, g92, g94, g96, g98, g100, g101, h102, h103, h104, h105, h106, h107, rfl⟩ := k88
                      refine ⟨_, _, rfl, ?_⟩
                      refine T_nf (st' := [.int (i32 oo)]) (l' := [(7, y89), (8, y91), (9, y93), (10, y95), (11, y97), (12, y99)]) (a' := [(53, F38), (114, F39), (116, F40)]) rfl rfl rfl rfl rfl ?_
                      obtain ⟨g101a, g101b⟩ := g101
                      by_cases hf108 : y95 = 0
                      · skip
                        subst hf108
                        replace h102 : LxP y89 y91 y93 (m.1 6) (0 : Int) := h102
                        have hLx := h102
                        replace h103 : y33 ≤ y91 := h103
                        replace h104 : (0 : Int) = 0 ∧ y33 + y34 ≤ y91 := h104 rfl
                        replace h105 : y32 = 1 := h105 rfl
                        replace h106 : 0 ≤ oo ∧ (oo < (m.1 25) ∨ oo = 0) := h106
                        replace h107 : oo < (m.1 25) := h107 rfl
                        have u109 : (m.1 8) + 1 ≤ y91 := by omega
                        clear g4 g6 g8 g12 g14 h15 h17 h18 u20 q24a q24b q24 ic26 ic27 h30 q43 q45 q46 q47 q48 ic54 h86 g96 h104 h105
                        refine T_sto 82 [(4, .int (i32 oo)), (3, .int (i32 y33)), (0, .ref 189), (1, .int (i32 t)), (2, .int (i32 v31))] rfl (fun _ => rfl) ?_
                        refine T_gf 86 (.int (i32 0)) rfl rfl rfl rfl rfl rfl ?_
                        refine T_if 106 89 rfl rfl rfl ⟨by decide, by decide⟩ (fun h110 => absurd (show (0 : Int) ≠ 0 from h110) (by decide)) (fun _ => ?_)
                        refine T_gf 93 (.ref 276) rfl rfl rfl rfl rfl rfl ?_
                        refine T_ld 95 (.int (i32 oo)) rfl (fun _ => rfl) ?_
                        refine T_bald 96 116 F40 rfl rfl rfl (by omega) (show oo < (16 : Int) by omega) rfl ?_
                        have e111 : 0 ≤ F40 oo ∧ F40 oo ≤ 1 := q51 oo
                        refine T_if 106 99 rfl rfl rfl (r32 (by omega) (by omega)) (fun (h112 : F40 oo = 0) => ?_) (fun (h112 : ¬ (F40 oo = 0)) => ?_)
                        · skip
                          refine T_gf 110 (.int (i32 0)) rfl rfl rfl rfl rfl rfl ?_
                          refine T_if 114 113 rfl rfl rfl ⟨by decide, by decide⟩ (fun _ => ?_) (fun h113 => absurd (show (0 : Int) ≤ 0 by decide) h113)
                          refine T_gf 118 (.ref 276) rfl rfl rfl rfl rfl rfl ?_
                          refine T_ld 120 (.int (i32 oo)) rfl (fun _ => rfl) ?_
                          refine T_ld 121 (.int (i32 1)) rfl (fun _ => rfl) ?_
                          have G114 : ∀ j, 0 ≤ (upI F40 oo 1) j ∧ (upI F40 oo 1) j ≤ 1 := upI_rg q51 ⟨by omega, by omega⟩
                          refine T_bast (a' := [(53, F38), (114, F39), (116, upI F40 oo 1)]) 122 116 F40 rfl rfl rfl (by omega) (show oo < (16 : Int) by omega) (by omega) rfl rfl ?_
                          refine T_gf 126 (.ref 274) rfl rfl rfl rfl rfl rfl ?_
                          refine T_ld 128 (.int (i32 8)) rfl (fun _ => rfl) ?_
                          refine T_ld 129 (.int (i32 t)) rfl (fun _ => rfl) ?_
                          refine T_imul 130 rfl rfl ?_
                          refine T_gf 134 (.ref 223) rfl rfl rfl rfl rfl rfl ?_
                          refine T_ld 135 (.int (i32 t)) rfl (fun _ => rfl) ?_
                          refine T_iald 136 53 F38 rfl rfl rfl (by omega) (show t < (8 : Int) by omega) rfl ?_
                          have e115 : 0 ≤ F38 t ∧ F38 t ≤ 8 := q49 t
                          refine T_iadd 137 rfl rfl ?_
                          refine T_ld 139 (.int (i32 oo)) rfl (fun _ => rfl) ?_
                          have G116 : ∀ j, 0 ≤ (upI F39 ((8 * t) + (F38 t)) oo) j ∧ (upI F39 ((8 * t) + (F38 t)) oo) j ≤ 15 := upI_rg q50 ⟨by omega, by omega⟩
                          refine T_iast (a' := [(53, F38), (114, upI F39 ((8 * t) + (F38 t)) oo), (116, upI F40 oo 1)]) 140 114 F39 rfl rfl rfl (by omega) (show ((8 * t) + (F38 t)) < (64 : Int) by omega) rfl rfl ?_
                          refine T_gf 144 (.ref 223) rfl rfl rfl rfl rfl rfl ?_
                          refine T_ld 145 (.int (i32 t)) rfl (fun _ => rfl) ?_
                          refine T_dup2 146 rfl (fun _ => rfl) ?_
                          refine T_iald 147 53 F38 rfl rfl rfl (by omega) (show t < (8 : Int) by omega) rfl ?_
                          have e117 : 0 ≤ F38 t ∧ F38 t ≤ 8 := q49 t
                          refine T_ld 148 (.int (i32 1)) rfl (fun _ => rfl) ?_
                          refine T_iadd 149 rfl rfl ?_
                          have G118 : ∀ j, 0 ≤ (upI F38 t ((F38 t) + 1)) j ∧ (upI F38 t ((F38 t) + 1)) j ≤ 8 := upI_rg q49 ⟨by omega, by omega⟩
                          refine T_iast (a' := [(53, upI F38 t ((F38 t) + 1)), (114, upI F39 ((8 * t) + (F38 t)) oo), (116, upI F40 oo 1)]) 150 53 F38 rfl rfl rfl (by omega) (show t < (8 : Int) by omega) rfl rfl ?_
                          have hLI : ∀ k, 8 * t ≤ k → k < 8 * t + (upI F38 t ((F38 t) + 1)) t → (upI F39 ((8 * t) + (F38 t)) oo) k < (m.1 25) := by
                            intro k k0 k1
                            rw [upI_s] at k1
                            unfold upI
                            split
                            · omega
                            · exact hLI k k0 (by omega)
                          refine T_gf 154 (.int (i32 0)) rfl rfl rfl rfl rfl rfl ?_
                          refine T_if 170 157 rfl rfl rfl ⟨by decide, by decide⟩ (fun h119 => absurd (show (0 : Int) ≠ 0 from h119) (by decide)) (fun _ => ?_)
                          refine T_gf 161 (.int (i32 y89)) rfl rfl rfl rfl rfl rfl ?_
                          refine T_ld 163 (.int (i32 44)) rfl (fun _ => rfl) ?_
                          have J171_121 : ∀ (s120 : Int), (R32 s120) → (0 ≤ s120) → (s120 ≤ 1) → TT w D pm_276 (171, [(0, .ref 189), (1, .int (i32 t)), (2, .int (i32 v31)), (3, .int (i32 y33)), (4, .int (i32 oo))], [.int (i32 s120)], (mhp (mO m [(7, y89), (8, y91), (9, y93), (10, 0), (11, y97), (12, y99)] [(53, upI F38 t ((F38 t) + 1)), (114, upI F39 ((8 * t) + (F38 t)) oo), (116, upI F40 oo 1)]) c, N), 0, 0) (Q_takeList m c N t) := by
                            intro s120 q122 ic123 ic124
                            obtain ⟨q122a, q122b⟩ := id q122
                            refine T_sto 172 [(2, .int (i32 s120)), (0, .ref 189), (1, .int (i32 t)), (3, .int (i32 y33)), (4, .int (i32 oo))] rfl (fun _ => rfl) ?_
                            refine T_ld 173 (.int (i32 s120)) rfl (fun _ => rfl) ?_
                            refine T_if 180 176 rfl rfl rfl (r32 (by omega) (by omega)) (fun (h126 : s120 = 0) => ?_) (fun (h126 : ¬ (s120 = 0)) => ?_)
                            · skip
                              refine T_goto 30 rfl (fun _ => rfl) ?_
                              refine Tm_lv (a := [(0, .ref 189), (1, .int (i32 t)), (2, .int (i32 s120))]) rfl rfl ⟨rfl, rfl, rfl, trivial⟩ ?_
                              exact ih57 s120 y89 y91 y93 0 y97 y99 (upI F38 t ((F38 t) + 1)) (upI F39 ((8 * t) + (F38 t)) oo) (upI F40 oo 1) (r32 (by omega) (by omega)) g90 g92 g94 ⟨by omega, by omega⟩ g98 g100 G118 G116 G114 (by omega) (by omega) (by exact hLx) (by omega) (fun _ => ⟨(by omega), (by first | exact hK1 | exact agr_t hK1 (agr_u (Int.le_refl _)) (Int.le_refl _)), (by first | exact hK2 | exact agr_t hK2 (agr_u (by omega)) (Int.le_refl _)), (by exact hLI)⟩) (by omega)
                            · skip
                              refine T_ld 177 (.ref 189) rfl (fun _ => rfl) ?_
                              refine T_call 180 212 [.ref 189] [] rfl (fun _ => rfl) rfl (c_next w (mO m [(7, y89), (8, y91), (9, y93), (10, 0), (11, y97), (12, y99)] [(53, upI F38 t ((F38 t) + 1)), (114, upI F39 ((8 * t) + (F38 t)) oo), (116, upI F40 oo 1)]) c N D (by omega) (Ty_mO hT rfl rfl ⟨g90, g92, g94, ⟨(by omega : (0 : Int) ≤ 0), (by omega : (0 : Int) ≤ 8)⟩, g98, g100, trivial⟩ ⟨G118, G116, G114, trivial⟩) (show (0 : Int) = 0 → y91 + y93 ≤ (m.1 6) by first | omega | (intro h9; have h8 := hLx h9; omega))) (fun rr127 k128 => ?_)
                              obtain ⟨y129, y131, y133, y135, y137, y139, g130, g132, g134, g136, g138, g140, h141, h142, h143, h144, rfl⟩ := k128
                              refine ⟨_, _, rfl, ?_⟩
                              refine T_nf (st' := []) (l' := [(7, y129), (8, y131), (9, y133), (10, y135), (11, y137), (12, y139)]) (a' := [(53, upI F38 t ((F38 t) + 1)), (114, upI F39 ((8 * t) + (F38 t)) oo), (116, upI F40 oo 1)]) rfl rfl rfl rfl rfl ?_
                              by_cases hf145 : y135 = 0
                              · skip
                                subst hf145
                                replace h141 : LxP y129 y131 y133 (m.1 6) (0 : Int) := h141
                                have hLx := h141
                                replace h142 : (0 : Int) = 0 := h142 rfl
                                replace h143 : y91 ≤ y131 := h143
                                replace h144 : y91 + y93 ≤ y131 := h144 rfl
                                have u146 : (m.1 8) + 1 ≤ y131 := by omega
                                clear q42a q42b q42 ic52 ic53 ic55 h63 g90 g92 g94 g98 g100 h102 h103 u109 g136 h143 h144
                                refine T_goto 30 rfl (fun _ => rfl) ?_
                                refine Tm_lv (a := [(0, .ref 189), (1, .int (i32 t)), (2, .int (i32 s120))]) rfl rfl ⟨rfl, rfl, rfl, trivial⟩ ?_
                                exact ih57 s120 y129 y131 y133 0 y137 y139 (upI F38 t ((F38 t) + 1)) (upI F39 ((8 * t) + (F38 t)) oo) (upI F40 oo 1) (r32 (by omega) (by omega)) g130 g132 g134 ⟨by omega, by omega⟩ g138 g140 G118 G116 G114 (by omega) (by omega) (by exact hLx) (by omega) (fun _ => ⟨(by omega), (by first | exact hK1 | exact agr_t hK1 (agr_u (Int.le_refl _)) (Int.le_refl _)), (by first | exact hK2 | exact agr_t hK2 (agr_u (by omega)) (Int.le_refl _)), (by exact hLI)⟩) (by omega)
                              · skip
                                replace h141 : LxP y129 y131 y133 (m.1 6) y135 := h141
                                have hLx := h141
                                clear h142
                                replace h143 : y91 ≤ y131 := h143
                                clear h144
                                have hf147 : 1 ≤ y135 := by omega
                                clear q42a q42b q42 ic52 ic53 ic55 h63 g90 g92 g94 g98 g100 h102 h103 u109 h143
                                refine T_goto 30 rfl (fun _ => rfl) ?_
                                refine Tm_lv (a := [(0, .ref 189), (1, .int (i32 t)), (2, .int (i32 s120))]) rfl rfl ⟨rfl, rfl, rfl, trivial⟩ ?_
                                exact ih57 s120 y129 y131 y133 y135 y137 y139 (upI F38 t ((F38 t) + 1)) (upI F39 ((8 * t) + (F38 t)) oo) (upI F40 oo 1) (r32 (by omega) (by omega)) g130 g132 g134 g136 g138 g140 G118 G116 G114 (by omega) (by omega) (by exact hLx) (by omega) (fun h => absurd h (by omega)) (by omega)
                          refine T_icmp 170 166 rfl rfl rfl (r32 (by omega) (by omega)) ⟨by decide, by decide⟩ (fun (h148 : y89 ≠ 44) => ?_) (fun (h148 : ¬ (y89 ≠ 44)) => ?_)
                          · skip
                            refine T_ld 171 (.int (i32 0)) rfl (fun _ => rfl) ?_
                            refine Tm_lv (a := [(0, .ref 189), (1, .int (i32 t)), (2, .int (i32 v31)), (3, .int (i32 y33)), (4, .int (i32 oo))]) rfl rfl ⟨rfl, rfl, rfl, rfl, rfl, trivial⟩ ?_
                            exact J171_121 0 ⟨by decide, by decide⟩ (by omega) (by omega)
                          · skip
                            refine T_ld 167 (.int (i32 1)) rfl (fun _ => rfl) ?_
                            refine T_goto 171 rfl (fun _ => rfl) ?_
                            refine Tm_lv (a := [(0, .ref 189), (1, .int (i32 t)), (2, .int (i32 v31)), (3, .int (i32 y33)), (4, .int (i32 oo))]) rfl rfl ⟨rfl, rfl, rfl, rfl, rfl, trivial⟩ ?_
                            exact J171_121 1 ⟨by decide, by decide⟩ (by omega) (by omega)
                        · skip
                          refine T_ld 100 (.ref 189) rfl (fun _ => rfl) ?_
                          refine T_ld 102 (.int (i32 8)) rfl (fun _ => rfl) ?_
                          refine T_ld 103 (.int (i32 y33)) rfl (fun _ => rfl) ?_
                          refine T_call 106 222 [.ref 189, .int (i32 8), .int (i32 y33)] [] rfl (fun _ => rfl) rfl (c_wrong w (mO m [(7, y89), (8, y91), (9, y93), (10, 0), (11, y97), (12, y99)] [(53, F38), (114, F39), (116, F40)]) c N D (by omega) (Ty_mO hT rfl rfl ⟨g90, g92, g94, ⟨(by omega : (0 : Int) ≤ 0), (by omega : (0 : Int) ≤ 8)⟩, g98, g100, trivial⟩ ⟨q49, q50, q51, trivial⟩) 8 y33 ⟨by decide, by decide⟩ (r32 (by omega) (by omega)) (show 1 ≤ (8 : Int) ∧ (8 : Int) ≤ 8 by omega) (show 0 ≤ y33 ∧ y33 ≤ 4000 by omega)) (fun rr149 k150 => ?_)
                          obtain ⟨y151, y153, g152, g154, h155, rfl⟩ := k150
                          refine ⟨_, _, rfl, ?_⟩
                          refine T_nf (st' := []) (l' := [(7, y89), (8, y91), (9, y93), (10, y151), (11, y153), (12, y99)]) (a' := [(53, F38), (114, F39), (116, F40)]) rfl rfl rfl rfl rfl ?_
                          replace h155 : (0 < (0 : Int) → y151 = (0 : Int) ∧ y153 = y97) ∧ ((0 : Int) ≤ 0 → y151 = (8 : Int) ∧ y153 = y33) := h155
                          have hf156 : 1 ≤ y151 := by omega
                          clear g98 h155
                          refine T_gf 110 (.int (i32 y151)) rfl rfl rfl rfl rfl rfl ?_
                          refine T_if 114 113 rfl rfl rfl (r32 (by omega) (by omega)) (fun (h157 : y151 ≤ 0) => by exfalso; omega) (fun (h157 : ¬ (y151 ≤ 0)) => ?_)
                          refine T_ret rfl (fun _ => rfl) ?_
                          exact ⟨y89, y91, y93, y151, y153, y99, F38, F39, F40, g90, g92, g94, g152, g154, g100, q49, q50, q51, (by omega), (by first | (first | exact hLx | (intro h9; exfalso; omega)) | (exfalso; omega)), (fun h => absurd h (by omega)), rfl⟩
                      · skip
                        replace h102 : LxP y89 y91 y93 (m.1 6) y95 := h102
                        have hLx := h102
                        replace h103 : y33 ≤ y91 := h103
                        clear h104
                        clear h105
                        replace h106 : 0 ≤ oo ∧ (oo < (m.1 25) ∨ oo = 0) := h106
                        clear h107
                        have hf158 : 1 ≤ y95 := by omega
                        clear g4 g6 g8 g12 g14 h15 h17 h18 u20 q24a q24b q24 ic26 ic27 h30 q43 q45 q46 q47 q48 ic54 h86
                        refine T_sto 82 [(4, .int (i32 oo)), (3, .int (i32 y33)), (0, .ref 189), (1, .int (i32 t)), (2, .int (i32 v31))] rfl (fun _ => rfl) ?_
                        refine T_gf 86 (.int (i32 y95)) rfl rfl rfl rfl rfl rfl ?_
                        refine T_if 106 89 rfl rfl rfl (r32 (by omega) (by omega)) (fun (h159 : y95 ≠ 0) => ?_) (fun (h159 : ¬ (y95 ≠ 0)) => by exfalso; omega)
                        refine T_gf 110 (.int (i32 y95)) rfl rfl rfl rfl rfl rfl ?_
                        refine T_if 114 113 rfl rfl rfl (r32 (by omega) (by omega)) (fun (h160 : y95 ≤ 0) => by exfalso; omega) (fun (h160 : ¬ (y95 ≤ 0)) => ?_)
                        refine T_ret rfl (fun _ => rfl) ?_
                        exact ⟨y89, y91, y93, y95, y97, y99, F38, F39, F40, g90, g92, g94, g96, g98, g100, q49, q50, q51, (by omega), (by first | (first | exact hLx | (intro h9; exfalso; omega)) | (exfalso; omega)), (fun h => absurd h (by omega)), rfl⟩
                    · skip
                      refine T_gf 53 (.ref 223) rfl rfl rfl rfl rfl rfl ?_
                      refine T_ld 54 (.int (i32 t)) rfl (fun _ => rfl) ?_
                      refine T_iald 55 53 F38 rfl rfl rfl (by omega) (show t < (8 : Int) by omega) rfl ?_
                      have e161 : 0 ≤ F38 t ∧ F38 t ≤ 8 := q49 t
                      refine T_ld 57 (.int (i32 8)) rfl (fun _ => rfl) ?_
                      refine T_icmp 69 60 rfl rfl rfl (r32 (by omega) (by omega)) ⟨by decide, by decide⟩ (fun (h162 : F38 t ≠ 8) => ?_) (fun (h162 : ¬ (F38 t ≠ 8)) => ?_)
                      · skip
                        refine T_gf 73 (.int (i32 y33)) rfl rfl rfl rfl rfl rfl ?_
                        refine T_sto 74 [(3, .int (i32 y33)), (0, .ref 189), (1, .int (i32 t)), (2, .int (i32 v31))] rfl (fun _ => rfl) ?_
                        refine T_ld 75 (.ref 189) rfl (fun _ => rfl) ?_
                        refine T_ld 77 (.int (i32 6)) rfl (fun _ => rfl) ?_
                        have hOL : (0 : Int) = 0 → ∀ k, 0 ≤ k → k < (m.1 13) → (m.2 16) k = 6 → 0 ≤ (m.2 17) k ∧ (m.2 17) k < (m.1 25) := fun _ k h1 h2 h3 => by
                          have h4 := PNl_6 pPN k h1 h2 h3
                          omega
                        refine T_call 80 236 [.ref 189, .int (i32 6)] [] rfl (fun _ => rfl) rfl (c_oldName w (mO m [(7, y32), (8, y33), (9, y34), (10, 0), (11, y36), (12, y37)] [(53, F38), (114, F39), (116, F40)]) c N D (by omega) (Ty_mO hT rfl rfl ⟨q43, q44, q45, ⟨(by omega : (0 : Int) ≤ 0), (by omega : (0 : Int) ≤ 8)⟩, q47, q48, trivial⟩ ⟨q49, q50, q51, trivial⟩) 6 (m.1 25) ⟨by decide, by decide⟩ (show LxP y32 y33 y34 (m.1 6) (0 : Int) by first | exact hLx | (intro h9; exfalso; omega) | (intro h9; have h8 := hLx (by omega); omega)) (show ∀ k, (m.2 14) k + (m.2 15) k ≤ 4000 by first | exact p1 | exact hNM) (show 1 ≤ (6 : Int) ∧ (6 : Int) ≤ 7 ∧ (6 : Int) ≠ 5 by omega) (show (m.1 25) ≤ 16 by omega) (show (0 : Int) = 0 → ∀ k, 0 ≤ k → k < (m.1 13) → (m.2 16) k = (6 : Int) → 0 ≤ (m.2 17) k ∧ (m.2 17) k < (m.1 25) by first | exact hOL | (intro h; exfalso; omega)) (show (6 : Int) = 3 → 3 ≤ (m.1 25) by omega)) (fun rr163 k164 => ?_)
                        obtain ⟨y165, y167, y169, y171, y173, y175, oo, g166, g168, g170, g172, g174, g176, g177, h178, h179, h180, h181, h182, h183, rfl⟩ := k164
                        refine ⟨_, _, rfl, ?_⟩
                        refine T_nf (st' := [.int (i32 oo)]) (l' := [(7, y165), (8, y167), (9, y169), (10, y171), (11, y173), (12, y175)]) (a' := [(53, F38), (114, F39), (116, F40)]) rfl rfl rfl rfl rfl ?_
                        obtain ⟨g177a, g177b⟩ := g177
                        by_cases hf184 : y171 = 0
                        · skip
                          subst hf184
                          replace h178 : LxP y165 y167 y169 (m.1 6) (0 : Int) := h178
                          have hLx := h178
                          replace h179 : y33 ≤ y167 := h179
                          replace h180 : (0 : Int) = 0 ∧ y33 + y34 ≤ y167 := h180 rfl
                          replace h181 : y32 = 1 := h181 rfl
                          replace h182 : 0 ≤ oo ∧ (oo < (m.1 25) ∨ oo = 0) := h182
                          replace h183 : oo < (m.1 25) := h183 rfl
                          have u185 : (m.1 8) + 1 ≤ y167 := by omega
                          clear g4 g6 g8 g12 g14 h15 h17 h18 u20 q24a q24b q24 ic26 ic27 h30 q43 q45 q46 q47 q48 ic54 h86 g172 h180 h181
                          refine T_sto 82 [(4, .int (i32 oo)), (3, .int (i32 y33)), (0, .ref 189), (1, .int (i32 t)), (2, .int (i32 v31))] rfl (fun _ => rfl) ?_
                          refine T_gf 86 (.int (i32 0)) rfl rfl rfl rfl rfl rfl ?_
                          refine T_if 106 89 rfl rfl rfl ⟨by decide, by decide⟩ (fun h186 => absurd (show (0 : Int) ≠ 0 from h186) (by decide)) (fun _ => ?_)
                          refine T_gf 93 (.ref 276) rfl rfl rfl rfl rfl rfl ?_
                          refine T_ld 95 (.int (i32 oo)) rfl (fun _ => rfl) ?_
                          refine T_bald 96 116 F40 rfl rfl rfl (by omega) (show oo < (16 : Int) by omega) rfl ?_
                          have e187 : 0 ≤ F40 oo ∧ F40 oo ≤ 1 := q51 oo
                          refine T_if 106 99 rfl rfl rfl (r32 (by omega) (by omega)) (fun (h188 : F40 oo = 0) => ?_) (fun (h188 : ¬ (F40 oo = 0)) => ?_)
                          · skip
                            refine T_gf 110 (.int (i32 0)) rfl rfl rfl rfl rfl rfl ?_
                            refine T_if 114 113 rfl rfl rfl ⟨by decide, by decide⟩ (fun _ => ?_) (fun h189 => absurd (show (0 : Int) ≤ 0 by decide) h189)
                            refine T_gf 118 (.ref 276) rfl rfl rfl rfl rfl rfl ?_
                            refine T_ld 120 (.int (i32 oo)) rfl (fun _ => rfl) ?_
                            refine T_ld 121 (.int (i32 1)) rfl (fun _ => rfl) ?_
                            have G190 : ∀ j, 0 ≤ (upI F40 oo 1) j ∧ (upI F40 oo 1) j ≤ 1 := upI_rg q51 ⟨by omega, by omega⟩
                            refine T_bast (a' := [(53, F38), (114, F39), (116, upI F40 oo 1)]) 122 116 F40 rfl rfl rfl (by omega) (show oo < (16 : Int) by omega) (by omega) rfl rfl ?_
                            refine T_gf 126 (.ref 274) rfl rfl rfl rfl rfl rfl ?_
                            refine T_ld 128 (.int (i32 8)) rfl (fun _ => rfl) ?_
                            refine T_ld 129 (.int (i32 t)) rfl (fun _ => rfl) ?_
                            refine T_imul 130 rfl rfl ?_
                            refine T_gf 134 (.ref 223) rfl rfl rfl rfl rfl rfl ?_
                            refine T_ld 135 (.int (i32 t)) rfl (fun _ => rfl) ?_
                            refine T_iald 136 53 F38 rfl rfl rfl (by omega) (show t < (8 : Int) by omega) rfl ?_
                            have e191 : 0 ≤ F38 t ∧ F38 t ≤ 8 := q49 t
                            refine T_iadd 137 rfl rfl ?_
                            refine T_ld 139 (.int (i32 oo)) rfl (fun _ => rfl) ?_
                            have G192 : ∀ j, 0 ≤ (upI F39 ((8 * t) + (F38 t)) oo) j ∧ (upI F39 ((8 * t) + (F38 t)) oo) j ≤ 15 := upI_rg q50 ⟨by omega, by omega⟩
                            refine T_iast (a' := [(53, F38), (114, upI F39 ((8 * t) + (F38 t)) oo), (116, upI F40 oo 1)]) 140 114 F39 rfl rfl rfl (by omega) (show ((8 * t) + (F38 t)) < (64 : Int) by omega) rfl rfl ?_
                            refine T_gf 144 (.ref 223) rfl rfl rfl rfl rfl rfl ?_
                            refine T_ld 145 (.int (i32 t)) rfl (fun _ => rfl) ?_
                            refine T_dup2 146 rfl (fun _ => rfl) ?_
                            refine T_iald 147 53 F38 rfl rfl rfl (by omega) (show t < (8 : Int) by omega) rfl ?_
                            have e193 : 0 ≤ F38 t ∧ F38 t ≤ 8 := q49 t
                            refine T_ld 148 (.int (i32 1)) rfl (fun _ => rfl) ?_
                            refine T_iadd 149 rfl rfl ?_
                            have G194 : ∀ j, 0 ≤ (upI F38 t ((F38 t) + 1)) j ∧ (upI F38 t ((F38 t) + 1)) j ≤ 8 := upI_rg q49 ⟨by omega, by omega⟩
                            refine T_iast (a' := [(53, upI F38 t ((F38 t) + 1)), (114, upI F39 ((8 * t) + (F38 t)) oo), (116, upI F40 oo 1)]) 150 53 F38 rfl rfl rfl (by omega) (show t < (8 : Int) by omega) rfl rfl ?_
                            have hLI : ∀ k, 8 * t ≤ k → k < 8 * t + (upI F38 t ((F38 t) + 1)) t → (upI F39 ((8 * t) + (F38 t)) oo) k < (m.1 25) := by
                              intro k k0 k1
                              rw [upI_s] at k1
                              unfold upI
                              split
                              · omega
                              · exact hLI k k0 (by omega)
                            refine T_gf 154 (.int (i32 0)) rfl rfl rfl rfl rfl rfl ?_
                            refine T_if 170 157 rfl rfl rfl ⟨by decide, by decide⟩ (fun h195 => absurd (show (0 : Int) ≠ 0 from h195) (by decide)) (fun _ => ?_)
                            refine T_gf 161 (.int (i32 y165)) rfl rfl rfl rfl rfl rfl ?_
                            refine T_ld 163 (.int (i32 44)) rfl (fun _ => rfl) ?_
                            have J171_197 : ∀ (s196 : Int), (R32 s196) → (0 ≤ s196) → (s196 ≤ 1) → TT w D pm_276 (171, [(0, .ref 189), (1, .int (i32 t)), (2, .int (i32 v31)), (3, .int (i32 y33)), (4, .int (i32 oo))], [.int (i32 s196)], (mhp (mO m [(7, y165), (8, y167), (9, y169), (10, 0), (11, y173), (12, y175)] [(53, upI F38 t ((F38 t) + 1)), (114, upI F39 ((8 * t) + (F38 t)) oo), (116, upI F40 oo 1)]) c, N), 0, 0) (Q_takeList m c N t) := by
                              intro s196 q198 ic199 ic200
                              obtain ⟨q198a, q198b⟩ := id q198
                              refine T_sto 172 [(2, .int (i32 s196)), (0, .ref 189), (1, .int (i32 t)), (3, .int (i32 y33)), (4, .int (i32 oo))] rfl (fun _ => rfl) ?_
                              refine T_ld 173 (.int (i32 s196)) rfl (fun _ => rfl) ?_
                              refine T_if 180 176 rfl rfl rfl (r32 (by omega) (by omega)) (fun (h202 : s196 = 0) => ?_) (fun (h202 : ¬ (s196 = 0)) => ?_)
                              · skip
                                refine T_goto 30 rfl (fun _ => rfl) ?_
                                refine Tm_lv (a := [(0, .ref 189), (1, .int (i32 t)), (2, .int (i32 s196))]) rfl rfl ⟨rfl, rfl, rfl, trivial⟩ ?_
                                exact ih57 s196 y165 y167 y169 0 y173 y175 (upI F38 t ((F38 t) + 1)) (upI F39 ((8 * t) + (F38 t)) oo) (upI F40 oo 1) (r32 (by omega) (by omega)) g166 g168 g170 ⟨by omega, by omega⟩ g174 g176 G194 G192 G190 (by omega) (by omega) (by exact hLx) (by omega) (fun _ => ⟨(by omega), (by first | exact hK1 | exact agr_t hK1 (agr_u (Int.le_refl _)) (Int.le_refl _)), (by first | exact hK2 | exact agr_t hK2 (agr_u (by omega)) (Int.le_refl _)), (by exact hLI)⟩) (by omega)
                              · skip
                                refine T_ld 177 (.ref 189) rfl (fun _ => rfl) ?_
                                refine T_call 180 212 [.ref 189] [] rfl (fun _ => rfl) rfl (c_next w (mO m [(7, y165), (8, y167), (9, y169), (10, 0), (11, y173), (12, y175)] [(53, upI F38 t ((F38 t) + 1)), (114, upI F39 ((8 * t) + (F38 t)) oo), (116, upI F40 oo 1)]) c N D (by omega) (Ty_mO hT rfl rfl ⟨g166, g168, g170, ⟨(by omega : (0 : Int) ≤ 0), (by omega : (0 : Int) ≤ 8)⟩, g174, g176, trivial⟩ ⟨G194, G192, G190, trivial⟩) (show (0 : Int) = 0 → y167 + y169 ≤ (m.1 6) by first | omega | (intro h9; have h8 := hLx h9; omega))) (fun rr203 k204 => ?_)
                                obtain ⟨y205, y207, y209, y211, y213, y215, g206, g208, g210, g212, g214, g216, h217, h218, h219, h220, rfl⟩ := k204
                                refine ⟨_, _, rfl, ?_⟩
                                refine T_nf (st' := []) (l' := [(7, y205), (8, y207), (9, y209), (10, y211), (11, y213), (12, y215)]) (a' := [(53, upI F38 t ((F38 t) + 1)), (114, upI F39 ((8 * t) + (F38 t)) oo), (116, upI F40 oo 1)]) rfl rfl rfl rfl rfl ?_
                                by_cases hf221 : y211 = 0
                                · skip
                                  subst hf221
                                  replace h217 : LxP y205 y207 y209 (m.1 6) (0 : Int) := h217
                                  have hLx := h217
                                  replace h218 : (0 : Int) = 0 := h218 rfl
                                  replace h219 : y167 ≤ y207 := h219
                                  replace h220 : y167 + y169 ≤ y207 := h220 rfl
                                  have u222 : (m.1 8) + 1 ≤ y207 := by omega
                                  clear q42a q42b q42 ic52 ic53 ic55 h63 g166 g168 g170 g174 g176 h178 h179 u185 g212 h219 h220
                                  refine T_goto 30 rfl (fun _ => rfl) ?_
                                  refine Tm_lv (a := [(0, .ref 189), (1, .int (i32 t)), (2, .int (i32 s196))]) rfl rfl ⟨rfl, rfl, rfl, trivial⟩ ?_
                                  exact ih57 s196 y205 y207 y209 0 y213 y215 (upI F38 t ((F38 t) + 1)) (upI F39 ((8 * t) + (F38 t)) oo) (upI F40 oo 1) (r32 (by omega) (by omega)) g206 g208 g210 ⟨by omega, by omega⟩ g214 g216 G194 G192 G190 (by omega) (by omega) (by exact hLx) (by omega) (fun _ => ⟨(by omega), (by first | exact hK1 | exact agr_t hK1 (agr_u (Int.le_refl _)) (Int.le_refl _)), (by first | exact hK2 | exact agr_t hK2 (agr_u (by omega)) (Int.le_refl _)), (by exact hLI)⟩) (by omega)
                                · skip
                                  replace h217 : LxP y205 y207 y209 (m.1 6) y211 := h217
                                  have hLx := h217
                                  clear h218
                                  replace h219 : y167 ≤ y207 := h219
                                  clear h220
                                  have hf223 : 1 ≤ y211 := by omega
                                  clear q42a q42b q42 ic52 ic53 ic55 h63 g166 g168 g170 g174 g176 h178 h179 u185 h219
                                  refine T_goto 30 rfl (fun _ => rfl) ?_
                                  refine Tm_lv (a := [(0, .ref 189), (1, .int (i32 t)), (2, .int (i32 s196))]) rfl rfl ⟨rfl, rfl, rfl, trivial⟩ ?_
                                  exact ih57 s196 y205 y207 y209 y211 y213 y215 (upI F38 t ((F38 t) + 1)) (upI F39 ((8 * t) + (F38 t)) oo) (upI F40 oo 1) (r32 (by omega) (by omega)) g206 g208 g210 g212 g214 g216 G194 G192 G190 (by omega) (by omega) (by exact hLx) (by omega) (fun h => absurd h (by omega)) (by omega)
                            refine T_icmp 170 166 rfl rfl rfl (r32 (by omega) (by omega)) ⟨by decide, by decide⟩ (fun (h224 : y165 ≠ 44) => ?_) (fun (h224 : ¬ (y165 ≠ 44)) => ?_)
                            · skip
                              refine T_ld 171 (.int (i32 0)) rfl (fun _ => rfl) ?_
                              refine Tm_lv (a := [(0, .ref 189), (1, .int (i32 t)), (2, .int (i32 v31)), (3, .int (i32 y33)), (4, .int (i32 oo))]) rfl rfl ⟨rfl, rfl, rfl, rfl, rfl, trivial⟩ ?_
                              exact J171_197 0 ⟨by decide, by decide⟩ (by omega) (by omega)
                            · skip
                              refine T_ld 167 (.int (i32 1)) rfl (fun _ => rfl) ?_
                              refine T_goto 171 rfl (fun _ => rfl) ?_
                              refine Tm_lv (a := [(0, .ref 189), (1, .int (i32 t)), (2, .int (i32 v31)), (3, .int (i32 y33)), (4, .int (i32 oo))]) rfl rfl ⟨rfl, rfl, rfl, rfl, rfl, trivial⟩ ?_
                              exact J171_197 1 ⟨by decide, by decide⟩ (by omega) (by omega)
                          · skip
                            refine T_ld 100 (.ref 189) rfl (fun _ => rfl) ?_
                            refine T_ld 102 (.int (i32 8)) rfl (fun _ => rfl) ?_
                            refine T_ld 103 (.int (i32 y33)) rfl (fun _ => rfl) ?_
                            refine T_call 106 222 [.ref 189, .int (i32 8), .int (i32 y33)] [] rfl (fun _ => rfl) rfl (c_wrong w (mO m [(7, y165), (8, y167), (9, y169), (10, 0), (11, y173), (12, y175)] [(53, F38), (114, F39), (116, F40)]) c N D (by omega) (Ty_mO hT rfl rfl ⟨g166, g168, g170, ⟨(by omega : (0 : Int) ≤ 0), (by omega : (0 : Int) ≤ 8)⟩, g174, g176, trivial⟩ ⟨q49, q50, q51, trivial⟩) 8 y33 ⟨by decide, by decide⟩ (r32 (by omega) (by omega)) (show 1 ≤ (8 : Int) ∧ (8 : Int) ≤ 8 by omega) (show 0 ≤ y33 ∧ y33 ≤ 4000 by omega)) (fun rr225 k226 => ?_)
                            obtain ⟨y227, y229, g228, g230, h231, rfl⟩ := k226
                            refine ⟨_, _, rfl, ?_⟩
                            refine T_nf (st' := []) (l' := [(7, y165), (8, y167), (9, y169), (10, y227), (11, y229), (12, y175)]) (a' := [(53, F38), (114, F39), (116, F40)]) rfl rfl rfl rfl rfl ?_
                            replace h231 : (0 < (0 : Int) → y227 = (0 : Int) ∧ y229 = y173) ∧ ((0 : Int) ≤ 0 → y227 = (8 : Int) ∧ y229 = y33) := h231
                            have hf232 : 1 ≤ y227 := by omega
                            clear g174 h231
                            refine T_gf 110 (.int (i32 y227)) rfl rfl rfl rfl rfl rfl ?_
                            refine T_if 114 113 rfl rfl rfl (r32 (by omega) (by omega)) (fun (h233 : y227 ≤ 0) => by exfalso; omega) (fun (h233 : ¬ (y227 ≤ 0)) => ?_)
                            refine T_ret rfl (fun _ => rfl) ?_
                            exact ⟨y165, y167, y169, y227, y229, y175, F38, F39, F40, g166, g168, g170, g228, g230, g176, q49, q50, q51, (by omega), (by first | (first | exact hLx | (intro h9; exfalso; omega)) | (exfalso; omega)), (fun h => absurd h (by omega)), rfl⟩
                        · skip
                          replace h178 : LxP y165 y167 y169 (m.1 6) y171 := h178
                          have hLx := h178
                          replace h179 : y33 ≤ y167 := h179
                          clear h180
                          clear h181
                          replace h182 : 0 ≤ oo ∧ (oo < (m.1 25) ∨ oo = 0) := h182
                          clear h183
                          have hf234 : 1 ≤ y171 := by omega
                          clear g4 g6 g8 g12 g14 h15 h17 h18 u20 q24a q24b q24 ic26 ic27 h30 q43 q45 q46 q47 q48 ic54 h86
                          refine T_sto 82 [(4, .int (i32 oo)), (3, .int (i32 y33)), (0, .ref 189), (1, .int (i32 t)), (2, .int (i32 v31))] rfl (fun _ => rfl) ?_
                          refine T_gf 86 (.int (i32 y171)) rfl rfl rfl rfl rfl rfl ?_
                          refine T_if 106 89 rfl rfl rfl (r32 (by omega) (by omega)) (fun (h235 : y171 ≠ 0) => ?_) (fun (h235 : ¬ (y171 ≠ 0)) => by exfalso; omega)
                          refine T_gf 110 (.int (i32 y171)) rfl rfl rfl rfl rfl rfl ?_
                          refine T_if 114 113 rfl rfl rfl (r32 (by omega) (by omega)) (fun (h236 : y171 ≤ 0) => by exfalso; omega) (fun (h236 : ¬ (y171 ≤ 0)) => ?_)
                          refine T_ret rfl (fun _ => rfl) ?_
                          exact ⟨y165, y167, y169, y171, y173, y175, F38, F39, F40, g166, g168, g170, g172, g174, g176, q49, q50, q51, (by omega), (by first | (first | exact hLx | (intro h9; exfalso; omega)) | (exfalso; omega)), (fun h => absurd h (by omega)), rfl⟩
                      · skip
                        refine T_ld 61 (.ref 189) rfl (fun _ => rfl) ?_
                        refine T_ld 62 (.int (i32 4)) rfl (fun _ => rfl) ?_
                        refine T_gf 66 (.int (i32 y33)) rfl rfl rfl rfl rfl rfl ?_
                        refine T_call 69 222 [.ref 189, .int (i32 4), .int (i32 y33)] [] rfl (fun _ => rfl) rfl (c_wrong w (mO m [(7, y32), (8, y33), (9, y34), (10, 0), (11, y36), (12, y37)] [(53, F38), (114, F39), (116, F40)]) c N D (by omega) (Ty_mO hT rfl rfl ⟨q43, q44, q45, ⟨(by omega : (0 : Int) ≤ 0), (by omega : (0 : Int) ≤ 8)⟩, q47, q48, trivial⟩ ⟨q49, q50, q51, trivial⟩) 4 y33 ⟨by decide, by decide⟩ (r32 (by omega) (by omega)) (show 1 ≤ (4 : Int) ∧ (4 : Int) ≤ 8 by omega) (show 0 ≤ y33 ∧ y33 ≤ 4000 by omega)) (fun rr237 k238 => ?_)
                        obtain ⟨y239, y241, g240, g242, h243, rfl⟩ := k238
                        refine ⟨_, _, rfl, ?_⟩
                        refine T_nf (st' := []) (l' := [(7, y32), (8, y33), (9, y34), (10, y239), (11, y241), (12, y37)]) (a' := [(53, F38), (114, F39), (116, F40)]) rfl rfl rfl rfl rfl ?_
                        replace h243 : (0 < (0 : Int) → y239 = (0 : Int) ∧ y241 = y36) ∧ ((0 : Int) ≤ 0 → y239 = (4 : Int) ∧ y241 = y33) := h243
                        have hf244 : 1 ≤ y239 := by omega
                        clear g4 g6 g8 g12 g14 h15 h17 h18 u20 q24a q24b q24 ic26 ic27 h30 q46 q47 ic54 h243
                        refine T_gf 73 (.int (i32 y33)) rfl rfl rfl rfl rfl rfl ?_
                        refine T_sto 74 [(3, .int (i32 y33)), (0, .ref 189), (1, .int (i32 t)), (2, .int (i32 v31))] rfl (fun _ => rfl) ?_
                        refine T_ld 75 (.ref 189) rfl (fun _ => rfl) ?_
                        refine T_ld 77 (.int (i32 6)) rfl (fun _ => rfl) ?_
                        refine T_call 80 236 [.ref 189, .int (i32 6)] [] rfl (fun _ => rfl) rfl (c_oldName w (mO m [(7, y32), (8, y33), (9, y34), (10, y239), (11, y241), (12, y37)] [(53, F38), (114, F39), (116, F40)]) c N D (by omega) (Ty_mO hT rfl rfl ⟨q43, q44, q45, g240, g242, q48, trivial⟩ ⟨q49, q50, q51, trivial⟩) 6 (m.1 25) ⟨by decide, by decide⟩ (show LxP y32 y33 y34 (m.1 6) y239 by first | exact hLx | (intro h9; exfalso; omega) | (intro h9; have h8 := hLx (by omega); omega)) (show ∀ k, (m.2 14) k + (m.2 15) k ≤ 4000 by first | exact p1 | exact hNM) (show 1 ≤ (6 : Int) ∧ (6 : Int) ≤ 7 ∧ (6 : Int) ≠ 5 by omega) (show (m.1 25) ≤ 16 by omega) (show y239 = 0 → ∀ k, 0 ≤ k → k < (m.1 13) → (m.2 16) k = (6 : Int) → 0 ≤ (m.2 17) k ∧ (m.2 17) k < (m.1 25) by first | exact hOL | (intro h; exfalso; omega)) (show (6 : Int) = 3 → 3 ≤ (m.1 25) by omega)) (fun rr245 k246 => ?_)
                        obtain ⟨y247, y249, y251, y253, y255, y257, oo, g248, g250, g252, g254, g256, g258, g259, h260, h261, h262, h263, h264, h265, rfl⟩ := k246
                        refine ⟨_, _, rfl, ?_⟩
                        refine T_nf (st' := [.int (i32 oo)]) (l' := [(7, y247), (8, y249), (9, y251), (10, y253), (11, y255), (12, y257)]) (a' := [(53, F38), (114, F39), (116, F40)]) rfl rfl rfl rfl rfl ?_
                        obtain ⟨g259a, g259b⟩ := g259
                        replace h260 : LxP y247 y249 y251 (m.1 6) y253 := h260
                        replace h261 : y33 ≤ y249 := h261
                        replace h262 : y253 = 0 → y239 = 0 ∧ y33 + y34 ≤ y249 := h262
                        replace h263 : y253 = 0 → y32 = 1 := h263
                        replace h264 : 0 ≤ oo ∧ (oo < (m.1 25) ∨ oo = 0) := h264
                        replace h265 : y253 = 0 → oo < (m.1 25) := h265
                        have hf266 : 1 ≤ y253 := by omega
                        clear h262
                        clear h263
                        clear h265
                        have hLx := h260
                        clear q43 q45 q48 h86 g240 g242 hf244
                        refine T_sto 82 [(4, .int (i32 oo)), (3, .int (i32 y33)), (0, .ref 189), (1, .int (i32 t)), (2, .int (i32 v31))] rfl (fun _ => rfl) ?_
                        refine T_gf 86 (.int (i32 y253)) rfl rfl rfl rfl rfl rfl ?_
                        refine T_if 106 89 rfl rfl rfl (r32 (by omega) (by omega)) (fun (h267 : y253 ≠ 0) => ?_) (fun (h267 : ¬ (y253 ≠ 0)) => by exfalso; omega)
                        refine T_gf 110 (.int (i32 y253)) rfl rfl rfl rfl rfl rfl ?_
                        refine T_if 114 113 rfl rfl rfl (r32 (by omega) (by omega)) (fun (h268 : y253 ≤ 0) => by exfalso; omega) (fun (h268 : ¬ (y253 ≤ 0)) => ?_)
                        refine T_ret rfl (fun _ => rfl) ?_
                        exact ⟨y247, y249, y251, y253, y255, y257, F38, F39, F40, g248, g250, g252, g254, g256, g258, q49, q50, q51, (by omega), (by first | (first | exact hLx | (intro h9; exfalso; omega)) | (exfalso; omega)), (fun h => absurd h (by omega)), rfl⟩
                · skip
                  clear c56
                  have hf269 : 1 ≤ y35 := by omega
                  refine T_ld 31 (.int (i32 v31)) rfl (fun _ => rfl) ?_
                  refine T_if 183 34 rfl rfl rfl (r32 (by omega) (by omega)) (fun (h270 : v31 = 0) => ?_) (fun (h270 : ¬ (v31 = 0)) => ?_)
                  · skip
                    refine T_ld 184 (.ref 189) rfl (fun _ => rfl) ?_
                    refine T_ld 186 (.int (i32 59)) rfl (fun _ => rfl) ?_
                    refine T_call 189 232 [.ref 189, .int (i32 59)] [] rfl (fun _ => rfl) rfl (c_need w (mO m [(7, y32), (8, y33), (9, y34), (10, y35), (11, y36), (12, y37)] [(53, F38), (114, F39), (116, F40)]) c N D (by omega) (Ty_mO hT rfl rfl ⟨q43, q44, q45, q46, q47, q48, trivial⟩ ⟨q49, q50, q51, trivial⟩) 59 ⟨by decide, by decide⟩ (show 1 ≤ (59 : Int) by omega) (show LxP y32 y33 y34 (m.1 6) y35 by first | exact hLx | (intro h9; exfalso; omega) | (intro h9; have h8 := hLx (by omega); omega))) (fun rr271 k272 => ?_)
                    obtain ⟨y273, y275, y277, y279, y281, y283, g274, g276, g278, g280, g282, g284, h285, h286, h287, h288, rfl⟩ := k272
                    refine ⟨_, _, rfl, ?_⟩
                    refine T_nf (st' := []) (l' := [(7, y273), (8, y275), (9, y277), (10, y279), (11, y281), (12, y283)]) (a' := [(53, F38), (114, F39), (116, F40)]) rfl rfl rfl rfl rfl ?_
                    replace h285 : LxP y273 y275 y277 (m.1 6) y279 := h285
                    replace h286 : y279 = 0 → y35 = 0 ∧ y32 = (59 : Int) := h286
                    replace h287 : y33 ≤ y275 := h287
                    replace h288 : y279 = 0 → y33 + y34 ≤ y275 := h288
                    have hf289 : 1 ≤ y279 := by omega
                    clear h286
                    clear h288
                    have hLx := h285
                    clear g4 g6 g8 g12 g14 h15 h17 h18 u20 q24a q24b q24 ic26 ic27 h30 q43 q44 q45 q46 q47 q48 ic54 hf269 h287
                    refine T_ret rfl (fun _ => rfl) ?_
                    exact ⟨y273, y275, y277, y279, y281, y283, F38, F39, F40, g274, g276, g278, g280, g282, g284, q49, q50, q51, (by omega), (by first | (first | exact hLx | (intro h9; exfalso; omega)) | (exfalso; omega)), (fun h => absurd h (by omega)), rfl⟩
                  · skip
                    refine T_gf 38 (.int (i32 y35)) rfl rfl rfl rfl rfl rfl ?_
                    refine T_if 183 41 rfl rfl rfl (r32 (by omega) (by omega)) (fun (h290 : y35 ≠ 0) => ?_) (fun (h290 : ¬ (y35 ≠ 0)) => by exfalso; omega)
                    refine T_ld 184 (.ref 189) rfl (fun _ => rfl) ?_
                    refine T_ld 186 (.int (i32 59)) rfl (fun _ => rfl) ?_
                    refine T_call 189 232 [.ref 189, .int (i32 59)] [] rfl (fun _ => rfl) rfl (c_need w (mO m [(7, y32), (8, y33), (9, y34), (10, y35), (11, y36), (12, y37)] [(53, F38), (114, F39), (116, F40)]) c N D (by omega) (Ty_mO hT rfl rfl ⟨q43, q44, q45, q46, q47, q48, trivial⟩ ⟨q49, q50, q51, trivial⟩) 59 ⟨by decide, by decide⟩ (show 1 ≤ (59 : Int) by omega) (show LxP y32 y33 y34 (m.1 6) y35 by first | exact hLx | (intro h9; exfalso; omega) | (intro h9; have h8 := hLx (by omega); omega))) (fun rr291 k292 => ?_)
                    obtain ⟨y293, y295, y297, y299, y301, y303, g294, g296, g298, g300, g302, g304, h305, h306, h307, h308, rfl⟩ := k292
                    refine ⟨_, _, rfl, ?_⟩
                    refine T_nf (st' := []) (l' := [(7, y293), (8, y295), (9, y297), (10, y299), (11, y301), (12, y303)]) (a' := [(53, F38), (114, F39), (116, F40)]) rfl rfl rfl rfl rfl ?_
                    replace h305 : LxP y293 y295 y297 (m.1 6) y299 := h305
                    replace h306 : y299 = 0 → y35 = 0 ∧ y32 = (59 : Int) := h306
                    replace h307 : y33 ≤ y295 := h307
                    replace h308 : y299 = 0 → y33 + y34 ≤ y295 := h308
                    have hf309 : 1 ≤ y299 := by omega
                    clear h306
                    clear h308
                    have hLx := h305
                    clear g4 g6 g8 g12 g14 h15 h17 h18 u20 q24a q24b q24 ic26 ic27 h30 q43 q44 q45 q46 q47 q48 ic54 hf269 h290 h307
                    refine T_ret rfl (fun _ => rfl) ?_
                    exact ⟨y293, y295, y297, y299, y301, y303, F38, F39, F40, g294, g296, g298, g300, g302, g304, q49, q50, q51, (by omega), (by first | (first | exact hLx | (intro h9; exfalso; omega)) | (exfalso; omega)), (fun h => absurd h (by omega)), rfl⟩
            refine Tm_lv (a := [(0, .ref 189), (1, .int (i32 t)), (2, .int (i32 1))]) rfl rfl ⟨rfl, rfl, rfl, trivial⟩ ?_
            exact L30_41 ((1000000 * (8 - (0 : Int)) + 2 * (4000 - y5) + (1 : Int) : Int) + 1).toNat 1 y3 y5 y7 0 y11 y13 (m.2 53) (m.2 114) F22 ⟨by decide, by decide⟩ g4 g6 g8 ⟨by omega, by omega⟩ g12 g14 (hT.2.1 53) (hT.2.1 114) q25 (by omega) (by omega) (by exact hLx) (by omega) (fun _ => ⟨(by omega), (by first | exact hK1 | exact agr_t hK1 (agr_u (Int.le_refl _)) (Int.le_refl _)), (by first | exact hK2 | exact agr_t hK2 (agr_u (by omega)) (Int.le_refl _)), (by exact hLI)⟩) (by omega)
          · skip
            refine T_gf 19 (.ref 276) rfl rfl rfl rfl rfl rfl ?_
            refine T_ld 20 (.int (i32 v21)) rfl (fun _ => rfl) ?_
            refine T_ld 21 (.int (i32 0)) rfl (fun _ => rfl) ?_
            have G310 : ∀ j, 0 ≤ (upI F22 v21 0) j ∧ (upI F22 v21 0) j ≤ 1 := upI_rg q25 ⟨by omega, by omega⟩
            refine T_bast (a' := [(53, (m.2 53)), (114, (m.2 114)), (116, upI F22 v21 0)]) 22 116 F22 rfl rfl rfl (by omega) (show v21 < (16 : Int) by omega) (by omega) rfl rfl ?_
            refine T_iinc 25 [(2, .int (i32 (v21 + 1))), (0, .ref 189), (1, .int (i32 t))] rfl rfl (by decide) rfl rfl ?_
            refine T_goto 9 rfl (fun _ => rfl) ?_
            refine Tm_lv (a := [(0, .ref 189), (1, .int (i32 t)), (2, .int (i32 (v21 + 1)))]) rfl rfl ⟨rfl, rfl, rfl, trivial⟩ ?_
            exact ih29 (v21 + 1) (upI F22 v21 0) (r32 (by omega) (by omega)) G310 (by omega) (by omega) (by omega)
      refine Tm_lv (a := [(0, .ref 189), (1, .int (i32 t)), (2, .int (i32 0))]) rfl rfl ⟨rfl, rfl, rfl, trivial⟩ ?_
      exact L9_23 ((16 - 0 : Int) + 1).toNat 0 (m.2 116) ⟨by decide, by decide⟩ (hT.2.1 116) (by omega) (by omega) (by omega)
    · skip
      replace h15 : LxP y3 y5 y7 (m.1 6) y9 := h15
      have hLx := h15
      clear h16
      replace h17 : (m.1 8) ≤ y5 := h17
      clear h18
      have hf311 : 1 ≤ y9 := by omega
      refine T_ld 8 (.int (i32 0)) rfl (fun _ => rfl) ?_
      refine T_sto 9 [(2, .int (i32 0)), (0, .ref 189), (1, .int (i32 t))] rfl (fun _ => rfl) ?_
      have L9_314 : ∀ (n : Nat) (v312 : Int) (F313 : Int → Int), (R32 v312) → (∀ j, 0 ≤ F313 j ∧ F313 j ≤ 1) → (0 ≤ v312) → (v312 ≤ 16) → 16 - v312 < (n : Int) → TT w D pm_276 (9, [(0, .ref 189), (1, .int (i32 t)), (2, .int (i32 v312))], [], (mhp (mO m [(7, y3), (8, y5), (9, y7), (10, y9), (11, y11), (12, y13)] [(53, (m.2 53)), (114, (m.2 114)), (116, F313)]) c, N), 0, 0) (Q_takeList m c N t) := by
        intro n
        induction n with
        | zero =>
          intro v312 F313 q315 q316 ic317 ic318 hmu
          obtain ⟨q315a, q315b⟩ := id q315
          exfalso
          omega
        | succ n ih =>
          intro v312 F313 q315 q316 ic317 ic318 hmu
          obtain ⟨q315a, q315b⟩ := id q315
          have ih320 := ih
          refine T_ld 10 (.int (i32 v312)) rfl (fun _ => rfl) ?_
          refine T_ld 12 (.int (i32 16)) rfl (fun _ => rfl) ?_
          refine T_icmp 28 15 rfl rfl rfl (r32 (by omega) (by omega)) ⟨by decide, by decide⟩ (fun (h321 : (16 : Int) ≤ v312) => ?_) (fun (h321 : ¬ ((16 : Int) ≤ v312)) => ?_)
          · skip
            refine T_ld 29 (.int (i32 1)) rfl (fun _ => rfl) ?_
            refine T_sto 30 [(2, .int (i32 1)), (0, .ref 189), (1, .int (i32 t))] rfl (fun _ => rfl) ?_
            refine T_ld 31 (.int (i32 1)) rfl (fun _ => rfl) ?_
            refine T_if 183 34 rfl rfl rfl ⟨by decide, by decide⟩ (fun h322 => absurd (show (1 : Int) = 0 from h322) (by decide)) (fun _ => ?_)
            refine T_gf 38 (.int (i32 y9)) rfl rfl rfl rfl rfl rfl ?_
            refine T_if 183 41 rfl rfl rfl (r32 (by omega) (by omega)) (fun (h323 : y9 ≠ 0) => ?_) (fun (h323 : ¬ (y9 ≠ 0)) => by exfalso; omega)
            refine T_ld 184 (.ref 189) rfl (fun _ => rfl) ?_
            refine T_ld 186 (.int (i32 59)) rfl (fun _ => rfl) ?_
            refine T_call 189 232 [.ref 189, .int (i32 59)] [] rfl (fun _ => rfl) rfl (c_need w (mO m [(7, y3), (8, y5), (9, y7), (10, y9), (11, y11), (12, y13)] [(53, (m.2 53)), (114, (m.2 114)), (116, F313)]) c N D (by omega) (Ty_mO hT rfl rfl ⟨g4, g6, g8, g10, g12, g14, trivial⟩ ⟨(hT.2.1 53), (hT.2.1 114), q316, trivial⟩) 59 ⟨by decide, by decide⟩ (show 1 ≤ (59 : Int) by omega) (show LxP y3 y5 y7 (m.1 6) y9 by first | exact hLx | (intro h9; exfalso; omega) | (intro h9; have h8 := hLx (by omega); omega))) (fun rr324 k325 => ?_)
            obtain ⟨y326, y328, y330, y332, y334, y336, g327, g329, g331, g333, g335, g337, h338, h339, h340, h341, rfl⟩ := k325
            refine ⟨_, _, rfl, ?_⟩
            refine T_nf (st' := []) (l' := [(7, y326), (8, y328), (9, y330), (10, y332), (11, y334), (12, y336)]) (a' := [(53, (m.2 53)), (114, (m.2 114)), (116, F313)]) rfl rfl rfl rfl rfl ?_
            replace h338 : LxP y326 y328 y330 (m.1 6) y332 := h338
            replace h339 : y332 = 0 → y9 = 0 ∧ y3 = (59 : Int) := h339
            replace h340 : y5 ≤ y328 := h340
            replace h341 : y332 = 0 → y5 + y7 ≤ y328 := h341
            have hf342 : 1 ≤ y332 := by omega
            clear h339
            clear h341
            have hLx := h338
            clear g4 g6 g8 g10 g12 g14 h15 h17 hf311 q315a q315b q315 ic317 ic318 h321 h323 h340
            refine T_ret rfl (fun _ => rfl) ?_
            exact ⟨y326, y328, y330, y332, y334, y336, (m.2 53), (m.2 114), F313, g327, g329, g331, g333, g335, g337, (hT.2.1 53), (hT.2.1 114), q316, (by omega), (by first | (first | exact hLx | (intro h9; exfalso; omega)) | (exfalso; omega)), (fun h => absurd h (by omega)), rfl⟩
          · skip
            refine T_gf 19 (.ref 276) rfl rfl rfl rfl rfl rfl ?_
            refine T_ld 20 (.int (i32 v312)) rfl (fun _ => rfl) ?_
            refine T_ld 21 (.int (i32 0)) rfl (fun _ => rfl) ?_
            have G343 : ∀ j, 0 ≤ (upI F313 v312 0) j ∧ (upI F313 v312 0) j ≤ 1 := upI_rg q316 ⟨by omega, by omega⟩
            refine T_bast (a' := [(53, (m.2 53)), (114, (m.2 114)), (116, upI F313 v312 0)]) 22 116 F313 rfl rfl rfl (by omega) (show v312 < (16 : Int) by omega) (by omega) rfl rfl ?_
            refine T_iinc 25 [(2, .int (i32 (v312 + 1))), (0, .ref 189), (1, .int (i32 t))] rfl rfl (by decide) rfl rfl ?_
            refine T_goto 9 rfl (fun _ => rfl) ?_
            refine Tm_lv (a := [(0, .ref 189), (1, .int (i32 t)), (2, .int (i32 (v312 + 1)))]) rfl rfl ⟨rfl, rfl, rfl, trivial⟩ ?_
            exact ih320 (v312 + 1) (upI F313 v312 0) (r32 (by omega) (by omega)) G343 (by omega) (by omega) (by omega)
      refine Tm_lv (a := [(0, .ref 189), (1, .int (i32 t)), (2, .int (i32 0))]) rfl rfl ⟨rfl, rfl, rfl, trivial⟩ ?_
      exact L9_314 ((16 - 0 : Int) + 1).toNat 0 (m.2 116) ⟨by decide, by decide⟩ (hT.2.1 116) (by omega) (by omega) (by omega)
  · skip
    clear hC
    refine T_ld 1 (.ref 189) rfl (fun _ => rfl) ?_
    refine T_ld 4 (.int (i32 315)) rfl (fun _ => rfl) ?_
    refine T_call 7 232 [.ref 189, .int (i32 315)] [] rfl (fun _ => rfl) rfl (c_need w (mO m [(7, (m.1 7)), (8, (m.1 8)), (9, (m.1 9)), (10, (m.1 10)), (11, (m.1 11)), (12, (m.1 12))] [(53, (m.2 53)), (114, (m.2 114)), (116, (m.2 116))]) c N D (by omega) (Ty_mO hT rfl rfl ⟨f7, f8, f9, f10, f11, f12, trivial⟩ ⟨(hT.2.1 53), (hT.2.1 114), (hT.2.1 116), trivial⟩) 315 ⟨by decide, by decide⟩ (show 1 ≤ (315 : Int) by omega) (show LxP (m.1 7) (m.1 8) (m.1 9) (m.1 6) (m.1 10) by first | exact hLx | (intro h9; exfalso; omega) | (intro h9; have h8 := hLx (by omega); omega))) (fun rr344 k345 => ?_)
    obtain ⟨y346, y348, y350, y352, y354, y356, g347, g349, g351, g353, g355, g357, h358, h359, h360, h361, rfl⟩ := k345
    refine ⟨_, _, rfl, ?_⟩
    refine T_nf (st' := []) (l' := [(7, y346), (8, y348), (9, y350), (10, y352), (11, y354), (12, y356)]) (a' := [(53, (m.2 53)), (114, (m.2 114)), (116, (m.2 116))]) rfl rfl rfl rfl rfl ?_
    replace h358 : LxP y346 y348 y350 (m.1 6) y352 := h358
    replace h359 : y352 = 0 → (m.1 10) = 0 ∧ (m.1 7) = (315 : Int) := h359
    replace h360 : (m.1 8) ≤ y348 := h360
    replace h361 : y352 = 0 → (m.1 8) + (m.1 9) ≤ y348 := h361
    have hf362 : 1 ≤ y352 := by omega
    clear h359
    clear h361
    have hLx := h358
    refine T_ld 8 (.int (i32 0)) rfl (fun _ => rfl) ?_
    refine T_sto 9 [(2, .int (i32 0)), (0, .ref 189), (1, .int (i32 t))] rfl (fun _ => rfl) ?_
    have L9_365 : ∀ (n : Nat) (v363 : Int) (F364 : Int → Int), (R32 v363) → (∀ j, 0 ≤ F364 j ∧ F364 j ≤ 1) → (0 ≤ v363) → (v363 ≤ 16) → 16 - v363 < (n : Int) → TT w D pm_276 (9, [(0, .ref 189), (1, .int (i32 t)), (2, .int (i32 v363))], [], (mhp (mO m [(7, y346), (8, y348), (9, y350), (10, y352), (11, y354), (12, y356)] [(53, (m.2 53)), (114, (m.2 114)), (116, F364)]) c, N), 0, 0) (Q_takeList m c N t) := by
      intro n
      induction n with
      | zero =>
        intro v363 F364 q366 q367 ic368 ic369 hmu
        obtain ⟨q366a, q366b⟩ := id q366
        exfalso
        omega
      | succ n ih =>
        intro v363 F364 q366 q367 ic368 ic369 hmu
        obtain ⟨q366a, q366b⟩ := id q366
        have ih371 := ih
        refine T_ld 10 (.int (i32 v363)) rfl (fun _ => rfl) ?_
        refine T_ld 12 (.int (i32 16)) rfl (fun _ => rfl) ?_
        refine T_icmp 28 15 rfl rfl rfl (r32 (by omega) (by omega)) ⟨by decide, by decide⟩ (fun (h372 : (16 : Int) ≤ v363) => ?_) (fun (h372 : ¬ ((16 : Int) ≤ v363)) => ?_)
        · skip
          refine T_ld 29 (.int (i32 1)) rfl (fun _ => rfl) ?_
          refine T_sto 30 [(2, .int (i32 1)), (0, .ref 189), (1, .int (i32 t))] rfl (fun _ => rfl) ?_
          refine T_ld 31 (.int (i32 1)) rfl (fun _ => rfl) ?_
          refine T_if 183 34 rfl rfl rfl ⟨by decide, by decide⟩ (fun h373 => absurd (show (1 : Int) = 0 from h373) (by decide)) (fun _ => ?_)
          refine T_gf 38 (.int (i32 y352)) rfl rfl rfl rfl rfl rfl ?_
          refine T_if 183 41 rfl rfl rfl (r32 (by omega) (by omega)) (fun (h374 : y352 ≠ 0) => ?_) (fun (h374 : ¬ (y352 ≠ 0)) => by exfalso; omega)
          refine T_ld 184 (.ref 189) rfl (fun _ => rfl) ?_
          refine T_ld 186 (.int (i32 59)) rfl (fun _ => rfl) ?_
          refine T_call 189 232 [.ref 189, .int (i32 59)] [] rfl (fun _ => rfl) rfl (c_need w (mO m [(7, y346), (8, y348), (9, y350), (10, y352), (11, y354), (12, y356)] [(53, (m.2 53)), (114, (m.2 114)), (116, F364)]) c N D (by omega) (Ty_mO hT rfl rfl ⟨g347, g349, g351, g353, g355, g357, trivial⟩ ⟨(hT.2.1 53), (hT.2.1 114), q367, trivial⟩) 59 ⟨by decide, by decide⟩ (show 1 ≤ (59 : Int) by omega) (show LxP y346 y348 y350 (m.1 6) y352 by first | exact hLx | (intro h9; exfalso; omega) | (intro h9; have h8 := hLx (by omega); omega))) (fun rr375 k376 => ?_)
          obtain ⟨y377, y379, y381, y383, y385, y387, g378, g380, g382, g384, g386, g388, h389, h390, h391, h392, rfl⟩ := k376
          refine ⟨_, _, rfl, ?_⟩
          refine T_nf (st' := []) (l' := [(7, y377), (8, y379), (9, y381), (10, y383), (11, y385), (12, y387)]) (a' := [(53, (m.2 53)), (114, (m.2 114)), (116, F364)]) rfl rfl rfl rfl rfl ?_
          replace h389 : LxP y377 y379 y381 (m.1 6) y383 := h389
          replace h390 : y383 = 0 → y352 = 0 ∧ y346 = (59 : Int) := h390
          replace h391 : y348 ≤ y379 := h391
          replace h392 : y383 = 0 → y348 + y350 ≤ y379 := h392
          have hf393 : 1 ≤ y383 := by omega
          clear h390
          clear h392
          have hLx := h389
          clear g347 g349 g351 g353 g355 g357 hf362 h358 h360 q366a q366b q366 ic368 ic369 h372 h374 h391
          refine T_ret rfl (fun _ => rfl) ?_
          exact ⟨y377, y379, y381, y383, y385, y387, (m.2 53), (m.2 114), F364, g378, g380, g382, g384, g386, g388, (hT.2.1 53), (hT.2.1 114), q367, (by omega), (by first | (first | exact hLx | (intro h9; exfalso; omega)) | (exfalso; omega)), (fun h => absurd h (by omega)), rfl⟩
        · skip
          refine T_gf 19 (.ref 276) rfl rfl rfl rfl rfl rfl ?_
          refine T_ld 20 (.int (i32 v363)) rfl (fun _ => rfl) ?_
          refine T_ld 21 (.int (i32 0)) rfl (fun _ => rfl) ?_
          have G394 : ∀ j, 0 ≤ (upI F364 v363 0) j ∧ (upI F364 v363 0) j ≤ 1 := upI_rg q367 ⟨by omega, by omega⟩
          refine T_bast (a' := [(53, (m.2 53)), (114, (m.2 114)), (116, upI F364 v363 0)]) 22 116 F364 rfl rfl rfl (by omega) (show v363 < (16 : Int) by omega) (by omega) rfl rfl ?_
          refine T_iinc 25 [(2, .int (i32 (v363 + 1))), (0, .ref 189), (1, .int (i32 t))] rfl rfl (by decide) rfl rfl ?_
          refine T_goto 9 rfl (fun _ => rfl) ?_
          refine Tm_lv (a := [(0, .ref 189), (1, .int (i32 t)), (2, .int (i32 (v363 + 1)))]) rfl rfl ⟨rfl, rfl, rfl, trivial⟩ ?_
          exact ih371 (v363 + 1) (upI F364 v363 0) (r32 (by omega) (by omega)) G394 (by omega) (by omega) (by omega)
    refine Tm_lv (a := [(0, .ref 189), (1, .int (i32 t)), (2, .int (i32 0))]) rfl rfl ⟨rfl, rfl, rfl, trivial⟩ ?_
    exact L9_365 ((16 - 0 : Int) + 1).toNat 0 (m.2 116) ⟨by decide, by decide⟩ (hT.2.1 116) (by omega) (by omega) (by omega)
def Q_takeElse (m : mR) (c : Nat → Option am_C) (N : Nat) (t : Int) : ag_Re af_T → Prop := fun R => ∃ (y7 : Int) (y8 : Int) (y9 : Int) (y10 : Int) (y11 : Int) (y12 : Int) (F57 : Int → Int) (F115 : Int → Int), (0 ≤ y7 ∧ y7 ≤ 330) ∧ (0 ≤ y8 ∧ y8 ≤ 4000) ∧ (0 ≤ y9 ∧ y9 ≤ 4000) ∧ (0 ≤ y10 ∧ y10 ≤ 8) ∧ ((-1) ≤ y11 ∧ y11 ≤ 4000) ∧ ((-9223372036854775808) ≤ y12 ∧ y12 ≤ 9223372036854775807) ∧ (∀ j, 0 ≤ F57 j ∧ F57 j ≤ 15) ∧ (∀ j, (-9223372036854775808) ≤ F115 j ∧ F115 j ≤ 9223372036854775807) ∧ (y10 = 0 → (m.1 10) = 0) ∧ (LxP y7 y8 y9 (m.1 6) y10) ∧ (y10 = 0 → ((m.1 8) + 1 ≤ y8) ∧ (F57 t < (m.1 25)) ∧ (agr (m.2 57) F57 t)) ∧ R = (.inl (none), (mhp (mO m [(7, y7), (8, y8), (9, y9), (10, y10), (11, y11), (12, y12)] [(57, F57), (115, F115)]) c, N), 0, 0)
set_option maxHeartbeats 8000000 in
theorem c_takeElse (w : wX) (m : mR) (c : Nat → Option am_C) (N D : Nat) (hD : 7 ≤ D) (hT : Ty m) (t : Int) (qt : R32 t) (hLx0 : LxP (m.1 7) (m.1 8) (m.1 9) (m.1 6) (m.1 10)) (hNM0 : ∀ k, (m.2 14) k + (m.2 15) k ≤ 4000) (p2 : 0 ≤ t ∧ t ≤ 7) (hC : m.1 10 = 0 → (PN (m.1 13) (m.1 19) (m.1 20) (m.1 21) (m.1 22) (m.1 23) (m.1 25) (m.1 26) (m.2 16) (m.2 17))) : TC w D 277 [.ref 189, .int (i32 t)] (mhp m c, N) (Q_takeElse m c N t) := by
  obtain ⟨D, rfl⟩ : ∃ k, D = k + 1 := ⟨D - 1, by omega⟩
  obtain ⟨qta, qtb⟩ := id qt
  have hLx := hLx0
  have hNM := hNM0
  have f7 : 0 ≤ m.1 7 ∧ m.1 7 ≤ 330 := hT.1 7
  have f8 : 0 ≤ m.1 8 ∧ m.1 8 ≤ 4000 := hT.1 8
  have f9 : 0 ≤ m.1 9 ∧ m.1 9 ≤ 4000 := hT.1 9
  have f10 : 0 ≤ m.1 10 ∧ m.1 10 ≤ 8 := hT.1 10
  have f11 : (-1) ≤ m.1 11 ∧ m.1 11 ≤ 4000 := hT.1 11
  have f12 : (-9223372036854775808) ≤ m.1 12 ∧ m.1 12 ≤ 9223372036854775807 := hT.1 12
  have f25 : 0 ≤ m.1 25 ∧ m.1 25 ≤ 16 := hT.1 25
  have f22 : 0 ≤ m.1 22 ∧ m.1 22 ≤ 8 := hT.1 22
  have f19 : 0 ≤ m.1 19 ∧ m.1 19 ≤ 12 := hT.1 19
  have f20 : 0 ≤ m.1 20 ∧ m.1 20 ≤ 12 := hT.1 20
  have f21 : 0 ≤ m.1 21 ∧ m.1 21 ≤ 16 := hT.1 21
  have f13 : 0 ≤ m.1 13 ∧ m.1 13 ≤ 120 := hT.1 13
  have f6 : 0 ≤ m.1 6 ∧ m.1 6 ≤ 4000 := hT.1 6
  have f23 : 0 ≤ m.1 23 ∧ m.1 23 ≤ 16 := hT.1 23
  have f26 : 0 ≤ m.1 26 ∧ m.1 26 ≤ 8 := hT.1 26
  refine Tc_of rfl ?_
  show TT w D pm_277 (0, [(0, .ref 189), (1, .int (i32 t))], [], (mhp m c, N), 0, 0) (Q_takeElse m c N t)
  rw [show (mhp m c, N) = (mhp (mO m [(7, (m.1 7)), (8, (m.1 8)), (9, (m.1 9)), (10, (m.1 10)), (11, (m.1 11)), (12, (m.1 12))] [(57, (m.2 57)), (115, (m.2 115))]) c, N) from congrArg (fun M => (mhp M c, N)) (mO_pad m [7, 8, 9, 10, 11, 12] [57, 115])]
  by_cases hf0 : m.1 10 = 0
  · skip
    have pPN := hC hf0
    have h7 := hLx (by omega)
    have hNM := hNM0
    refine T_ld 1 (.ref 189) rfl (fun _ => rfl) ?_
    refine T_ld 4 (.int (i32 308)) rfl (fun _ => rfl) ?_
    refine T_call 7 232 [.ref 189, .int (i32 308)] [] rfl (fun _ => rfl) rfl (c_need w (mO m [(7, (m.1 7)), (8, (m.1 8)), (9, (m.1 9)), (10, (m.1 10)), (11, (m.1 11)), (12, (m.1 12))] [(57, (m.2 57)), (115, (m.2 115))]) c N D (by omega) (Ty_mO hT rfl rfl ⟨f7, f8, f9, f10, f11, f12, trivial⟩ ⟨(hT.2.1 57), (hT.2.1 115), trivial⟩) 308 ⟨by decide, by decide⟩ (show 1 ≤ (308 : Int) by omega) (show LxP (m.1 7) (m.1 8) (m.1 9) (m.1 6) (m.1 10) by first | exact hLx | (intro h9; exfalso; omega) | (intro h9; have h8 := hLx (by omega); omega))) (fun rr1 k2 => ?_)
    obtain ⟨y3, y5, y7, y9, y11, y13, g4, g6, g8, g10, g12, g14, h15, h16, h17, h18, rfl⟩ := k2
    refine ⟨_, _, rfl, ?_⟩
    refine T_nf (st' := []) (l' := [(7, y3), (8, y5), (9, y7), (10, y9), (11, y11), (12, y13)]) (a' := [(57, (m.2 57)), (115, (m.2 115))]) rfl rfl rfl rfl rfl ?_
    by_cases hf19 : y9 = 0
    · skip
      subst hf19
      replace h15 : LxP y3 y5 y7 (m.1 6) (0 : Int) := h15
      have hLx := h15
      replace h16 : (m.1 10) = 0 ∧ (m.1 7) = (308 : Int) := h16 rfl
      replace h17 : (m.1 8) ≤ y5 := h17
      replace h18 : (m.1 8) + (m.1 9) ≤ y5 := h18 rfl
      have u20 : (m.1 8) + 1 ≤ y5 := by omega
      clear g10
      refine T_gf 11 (.int (i32 y5)) rfl rfl rfl rfl rfl rfl ?_
      refine T_sto 12 [(2, .int (i32 y5)), (0, .ref 189), (1, .int (i32 t))] rfl (fun _ => rfl) ?_
      refine T_ld 13 (.ref 189) rfl (fun _ => rfl) ?_
      refine T_ld 15 (.int (i32 6)) rfl (fun _ => rfl) ?_
      have hOL : (0 : Int) = 0 → ∀ k, 0 ≤ k → k < (m.1 13) → (m.2 16) k = 6 → 0 ≤ (m.2 17) k ∧ (m.2 17) k < (m.1 25) := fun _ k h1 h2 h3 => by
        have h4 := PNl_6 pPN k h1 h2 h3
        omega
      refine T_call 18 236 [.ref 189, .int (i32 6)] [] rfl (fun _ => rfl) rfl (c_oldName w (mO m [(7, y3), (8, y5), (9, y7), (10, 0), (11, y11), (12, y13)] [(57, (m.2 57)), (115, (m.2 115))]) c N D (by omega) (Ty_mO hT rfl rfl ⟨g4, g6, g8, ⟨(by omega : (0 : Int) ≤ 0), (by omega : (0 : Int) ≤ 8)⟩, g12, g14, trivial⟩ ⟨(hT.2.1 57), (hT.2.1 115), trivial⟩) 6 (m.1 25) ⟨by decide, by decide⟩ (show LxP y3 y5 y7 (m.1 6) (0 : Int) by first | exact hLx | (intro h9; exfalso; omega) | (intro h9; have h8 := hLx (by omega); omega)) (show ∀ k, (m.2 14) k + (m.2 15) k ≤ 4000 by first | exact p1 | exact hNM) (show 1 ≤ (6 : Int) ∧ (6 : Int) ≤ 7 ∧ (6 : Int) ≠ 5 by omega) (show (m.1 25) ≤ 16 by omega) (show (0 : Int) = 0 → ∀ k, 0 ≤ k → k < (m.1 13) → (m.2 16) k = (6 : Int) → 0 ≤ (m.2 17) k ∧ (m.2 17) k < (m.1 25) by first | exact hOL | (intro h; exfalso; omega)) (show (6 : Int) = 3 → 3 ≤ (m.1 25) by omega)) (fun rr21 k22 => ?_)
      obtain ⟨y23, y25, y27, y29, y31, y33, oo, g24, g26, g28, g30, g32, g34, g35, h36, h37, h38, h39, h40, h41, rfl⟩ := k22
      refine ⟨_, _, rfl, ?_⟩
      refine T_nf (st' := [.int (i32 oo)]) (l' := [(7, y23), (8, y25), (9, y27), (10, y29), (11, y31), (12, y33)]) (a' := [(57, (m.2 57)), (115, (m.2 115))]) rfl rfl rfl rfl rfl ?_
      obtain ⟨g35a, g35b⟩ := g35
      by_cases hf42 : y29 = 0
      · skip
        subst hf42
        replace h36 : LxP y23 y25 y27 (m.1 6) (0 : Int) := h36
        have hLx := h36
        replace h37 : y5 ≤ y25 := h37
        replace h38 : (0 : Int) = 0 ∧ y5 + y7 ≤ y25 := h38 rfl
        replace h39 : y3 = 1 := h39 rfl
        replace h40 : 0 ≤ oo ∧ (oo < (m.1 25) ∨ oo = 0) := h40
        replace h41 : oo < (m.1 25) := h41 rfl
        have u43 : (m.1 8) + 1 ≤ y25 := by omega
        clear g4 g8 g12 g14 h15 g30 h38 h39
        refine T_sto 19 [(3, .int (i32 oo)), (2, .int (i32 y5)), (0, .ref 189), (1, .int (i32 t))] rfl (fun _ => rfl) ?_
        refine T_ld 20 (.ref 189) rfl (fun _ => rfl) ?_
        refine T_ld 22 (.int (i32 40)) rfl (fun _ => rfl) ?_
        refine T_call 25 232 [.ref 189, .int (i32 40)] [] rfl (fun _ => rfl) rfl (c_need w (mO m [(7, y23), (8, y25), (9, y27), (10, 0), (11, y31), (12, y33)] [(57, (m.2 57)), (115, (m.2 115))]) c N D (by omega) (Ty_mO hT rfl rfl ⟨g24, g26, g28, ⟨(by omega : (0 : Int) ≤ 0), (by omega : (0 : Int) ≤ 8)⟩, g32, g34, trivial⟩ ⟨(hT.2.1 57), (hT.2.1 115), trivial⟩) 40 ⟨by decide, by decide⟩ (show 1 ≤ (40 : Int) by omega) (show LxP y23 y25 y27 (m.1 6) (0 : Int) by first | exact hLx | (intro h9; exfalso; omega) | (intro h9; have h8 := hLx (by omega); omega))) (fun rr44 k45 => ?_)
        obtain ⟨y46, y48, y50, y52, y54, y56, g47, g49, g51, g53, g55, g57, h58, h59, h60, h61, rfl⟩ := k45
        refine ⟨_, _, rfl, ?_⟩
        refine T_nf (st' := []) (l' := [(7, y46), (8, y48), (9, y50), (10, y52), (11, y54), (12, y56)]) (a' := [(57, (m.2 57)), (115, (m.2 115))]) rfl rfl rfl rfl rfl ?_
        by_cases hf62 : y52 = 0
        · skip
          subst hf62
          replace h58 : LxP y46 y48 y50 (m.1 6) (0 : Int) := h58
          have hLx := h58
          replace h59 : (0 : Int) = 0 ∧ y23 = (40 : Int) := h59 rfl
          replace h60 : y25 ≤ y48 := h60
          replace h61 : y25 + y27 ≤ y48 := h61 rfl
          have u63 : (m.1 8) + 1 ≤ y48 := by omega
          clear g24 g26 g28 g32 g34 h36 h37 u43 g53 h59 h60 h61
          refine T_ld 26 (.int (i32 0)) rfl (fun _ => rfl) ?_
          refine T_sto 28 [(4, .int (i32 0)), (3, .int (i32 oo)), (2, .int (i32 y5)), (0, .ref 189), (1, .int (i32 t))] rfl (fun _ => rfl) ?_
          refine T_gf 32 (.int (i32 0)) rfl rfl rfl rfl rfl rfl ?_
          refine T_if 48 35 rfl rfl rfl ⟨by decide, by decide⟩ (fun h64 => absurd (show (0 : Int) ≠ 0 from h64) (by decide)) (fun _ => ?_)
          refine T_gf 39 (.int (i32 y46)) rfl rfl rfl rfl rfl rfl ?_
          refine T_ld 41 (.int (i32 41)) rfl (fun _ => rfl) ?_
          have J49_66 : ∀ (s65 : Int), (R32 s65) → (0 ≤ s65) → (s65 ≤ 1) → TT w D pm_277 (49, [(0, .ref 189), (1, .int (i32 t)), (2, .int (i32 y5)), (3, .int (i32 oo)), (4, .int (i32 0))], [.int (i32 s65)], (mhp (mO m [(7, y46), (8, y48), (9, y50), (10, 0), (11, y54), (12, y56)] [(57, (m.2 57)), (115, (m.2 115))]) c, N), 0, 0) (Q_takeElse m c N t) := by
            intro s65 q67 ic68 ic69
            obtain ⟨q67a, q67b⟩ := id q67
            refine T_sto 51 [(5, .int (i32 s65)), (0, .ref 189), (1, .int (i32 t)), (2, .int (i32 y5)), (3, .int (i32 oo)), (4, .int (i32 0))] rfl (fun _ => rfl) ?_
            have L51_80 : ∀ (n : Nat) (v71 : Int) (v72 : Int) (y73 : Int) (y74 : Int) (y75 : Int) (y76 : Int) (y77 : Int) (y78 : Int) (F79 : Int → Int), (R32 v71) → (R32 v72) → (0 ≤ y73 ∧ y73 ≤ 330) → (0 ≤ y74 ∧ y74 ≤ 4000) → (0 ≤ y75 ∧ y75 ≤ 4000) → (0 ≤ y76 ∧ y76 ≤ 8) → ((-1) ≤ y77 ∧ y77 ≤ 4000) → ((-9223372036854775808) ≤ y78 ∧ y78 ≤ 9223372036854775807) → (∀ j, (-9223372036854775808) ≤ F79 j ∧ F79 j ≤ 9223372036854775807) → (0 ≤ v71) → (0 ≤ v72) → (v72 ≤ 1) → (LxP y73 y74 y75 (m.1 6) y76) → (v72 = 0 ∨ v72 = 1) → (0 ≤ v71 ∧ v71 ≤ 5000) → (y76 = 0 → ((m.1 8) + 1 ≤ y74) ∧ (v71 ≤ y74)) → 1000000 * (8 - y76) + 2 * (4000 - y74) + v72 < (n : Int) → TT w D pm_277 (51, [(0, .ref 189), (1, .int (i32 t)), (2, .int (i32 y5)), (3, .int (i32 oo)), (4, .int (i32 v71)), (5, .int (i32 v72))], [], (mhp (mO m [(7, y73), (8, y74), (9, y75), (10, y76), (11, y77), (12, y78)] [(57, (m.2 57)), (115, F79)]) c, N), 0, 0) (Q_takeElse m c N t) := by
              intro n
              induction n with
              | zero =>
                intro v71 v72 y73 y74 y75 y76 y77 y78 F79 q81 q82 q83 q84 q85 q86 q87 q88 q89 ic90 ic91 ic92 ic93 ic94 ic95 c96 hmu
                obtain ⟨q81a, q81b⟩ := id q81
                obtain ⟨q82a, q82b⟩ := id q82
                have hLx := ic93
                exfalso
                omega
              | succ n ih =>
                intro v71 v72 y73 y74 y75 y76 y77 y78 F79 q81 q82 q83 q84 q85 q86 q87 q88 q89 ic90 ic91 ic92 ic93 ic94 ic95 c96 hmu
                obtain ⟨q81a, q81b⟩ := id q81
                obtain ⟨q82a, q82b⟩ := id q82
                have hLx := ic93
                have ih97 := ih
                by_cases hf98 : y76 = 0
                · skip
                  subst hf98
                  obtain ⟨c99, c100⟩ := c96 rfl
                  refine T_ld 53 (.int (i32 v72)) rfl (fun _ => rfl) ?_
                  refine T_if 153 56 rfl rfl rfl (r32 (by omega) (by omega)) (fun (h101 : v72 = 0) => ?_) (fun (h101 : ¬ (v72 = 0)) => ?_)
                  · skip
                    refine T_gf 157 (.int (i32 0)) rfl rfl rfl rfl rfl rfl ?_
                    refine T_if 187 160 rfl rfl rfl ⟨by decide, by decide⟩ (fun h102 => absurd (show (0 : Int) ≠ 0 from h102) (by decide)) (fun _ => ?_)
                    refine T_gf 164 (.int (i32 y73)) rfl rfl rfl rfl rfl rfl ?_
                    refine T_ld 166 (.int (i32 41)) rfl (fun _ => rfl) ?_
                    refine T_icmp 187 169 rfl rfl rfl (r32 (by omega) (by omega)) ⟨by decide, by decide⟩ (fun (h103 : y73 ≠ 41) => ?_) (fun (h103 : ¬ (y73 ≠ 41)) => ?_)
                    · skip
                      refine T_ld 188 (.ref 189) rfl (fun _ => rfl) ?_
                      refine T_ld 190 (.int (i32 41)) rfl (fun _ => rfl) ?_
                      refine T_call 193 232 [.ref 189, .int (i32 41)] [] rfl (fun _ => rfl) rfl (c_need w (mO m [(7, y73), (8, y74), (9, y75), (10, 0), (11, y77), (12, y78)] [(57, (m.2 57)), (115, F79)]) c N D (by omega) (Ty_mO hT rfl rfl ⟨q83, q84, q85, ⟨(by omega : (0 : Int) ≤ 0), (by omega : (0 : Int) ≤ 8)⟩, q87, q88, trivial⟩ ⟨(hT.2.1 57), q89, trivial⟩) 41 ⟨by decide, by decide⟩ (show 1 ≤ (41 : Int) by omega) (show LxP y73 y74 y75 (m.1 6) (0 : Int) by first | exact hLx | (intro h9; exfalso; omega) | (intro h9; have h8 := hLx (by omega); omega))) (fun rr104 k105 => ?_)
                      obtain ⟨y106, y108, y110, y112, y114, y116, g107, g109, g111, g113, g115, g117, h118, h119, h120, h121, rfl⟩ := k105
                      refine ⟨_, _, rfl, ?_⟩
                      refine T_nf (st' := []) (l' := [(7, y106), (8, y108), (9, y110), (10, y112), (11, y114), (12, y116)]) (a' := [(57, (m.2 57)), (115, F79)]) rfl rfl rfl rfl rfl ?_
                      by_cases hf122 : y112 = 0
                      · skip
                        subst hf122
                        replace h118 : LxP y106 y108 y110 (m.1 6) (0 : Int) := h118
                        have hLx := h118
                        replace h119 : (0 : Int) = 0 ∧ y73 = (41 : Int) := h119 rfl
                        replace h120 : y74 ≤ y108 := h120
                        replace h121 : y74 + y75 ≤ y108 := h121 rfl
                        have u123 : (m.1 8) + 1 ≤ y108 := by omega
                        clear g47 g49 g51 g55 g57 h58 u63 q67a q67b q67 ic68 ic69 q83 q84 q85 q86 q87 q88 ic93 c99 c100 h103 g113 h119 h120 h121
                        refine T_ld 194 (.ref 189) rfl (fun _ => rfl) ?_
                        refine T_ld 196 (.int (i32 59)) rfl (fun _ => rfl) ?_
                        refine T_call 199 232 [.ref 189, .int (i32 59)] [] rfl (fun _ => rfl) rfl (c_need w (mO m [(7, y106), (8, y108), (9, y110), (10, 0), (11, y114), (12, y116)] [(57, (m.2 57)), (115, F79)]) c N D (by omega) (Ty_mO hT rfl rfl ⟨g107, g109, g111, ⟨(by omega : (0 : Int) ≤ 0), (by omega : (0 : Int) ≤ 8)⟩, g115, g117, trivial⟩ ⟨(hT.2.1 57), q89, trivial⟩) 59 ⟨by decide, by decide⟩ (show 1 ≤ (59 : Int) by omega) (show LxP y106 y108 y110 (m.1 6) (0 : Int) by first | exact hLx | (intro h9; exfalso; omega) | (intro h9; have h8 := hLx (by omega); omega))) (fun rr124 k125 => ?_)
                        obtain ⟨y126, y128, y130, y132, y134, y136, g127, g129, g131, g133, g135, g137, h138, h139, h140, h141, rfl⟩ := k125
                        refine ⟨_, _, rfl, ?_⟩
                        refine T_nf (st' := []) (l' := [(7, y126), (8, y128), (9, y130), (10, y132), (11, y134), (12, y136)]) (a' := [(57, (m.2 57)), (115, F79)]) rfl rfl rfl rfl rfl ?_
                        by_cases hf142 : y132 = 0
                        · skip
                          subst hf142
                          replace h138 : LxP y126 y128 y130 (m.1 6) (0 : Int) := h138
                          have hLx := h138
                          replace h139 : (0 : Int) = 0 ∧ y106 = (59 : Int) := h139 rfl
                          replace h140 : y108 ≤ y128 := h140
                          replace h141 : y108 + y110 ≤ y128 := h141 rfl
                          have u143 : (m.1 8) + 1 ≤ y128 := by omega
                          clear g107 g109 g111 g115 g117 h118 u123 g133 h139 h140 h141
                          refine T_gf 203 (.ref 227) rfl rfl rfl rfl rfl rfl ?_
                          refine T_ld 204 (.int (i32 t)) rfl (fun _ => rfl) ?_
                          refine T_ld 205 (.int (i32 oo)) rfl (fun _ => rfl) ?_
                          have G144 : ∀ j, 0 ≤ (upI (m.2 57) t oo) j ∧ (upI (m.2 57) t oo) j ≤ 15 := upI_rg (hT.2.1 57) ⟨by omega, by omega⟩
                          refine T_iast (a' := [(57, upI (m.2 57) t oo), (115, F79)]) 206 57 (m.2 57) rfl rfl rfl (by omega) (show t < (8 : Int) by omega) rfl rfl ?_
                          refine T_ret rfl (fun _ => rfl) ?_
                          exact ⟨y126, y128, y130, 0, y134, y136, upI (m.2 57) t oo, F79, g127, g129, g131, ⟨by omega, by omega⟩, g135, g137, G144, q89, (by omega), (by first | (first | exact hLx | (intro h9; exfalso; omega)) | (exfalso; omega)), (fun _ => ⟨(by omega), (by first | (rw [upI_s]; omega) | (exfalso; omega)), (by first | (exact agr_u (Int.le_refl _)) | (exfalso; omega))⟩), rfl⟩
                        · skip
                          replace h138 : LxP y126 y128 y130 (m.1 6) y132 := h138
                          have hLx := h138
                          clear h139
                          replace h140 : y108 ≤ y128 := h140
                          clear h141
                          have hf145 : 1 ≤ y132 := by omega
                          clear g107 g109 g111 g115 g117 h118 u123 h140
                          refine T_gf 203 (.ref 227) rfl rfl rfl rfl rfl rfl ?_
                          refine T_ld 204 (.int (i32 t)) rfl (fun _ => rfl) ?_
                          refine T_ld 205 (.int (i32 oo)) rfl (fun _ => rfl) ?_
                          have G146 : ∀ j, 0 ≤ (upI (m.2 57) t oo) j ∧ (upI (m.2 57) t oo) j ≤ 15 := upI_rg (hT.2.1 57) ⟨by omega, by omega⟩
                          refine T_iast (a' := [(57, upI (m.2 57) t oo), (115, F79)]) 206 57 (m.2 57) rfl rfl rfl (by omega) (show t < (8 : Int) by omega) rfl rfl ?_
                          refine T_ret rfl (fun _ => rfl) ?_
                          exact ⟨y126, y128, y130, y132, y134, y136, upI (m.2 57) t oo, F79, g127, g129, g131, g133, g135, g137, G146, q89, (by omega), (by first | (first | exact hLx | (intro h9; exfalso; omega)) | (exfalso; omega)), (fun h => absurd h (by omega)), rfl⟩
                      · skip
                        replace h118 : LxP y106 y108 y110 (m.1 6) y112 := h118
                        have hLx := h118
                        clear h119
                        replace h120 : y74 ≤ y108 := h120
                        clear h121
                        have hf147 : 1 ≤ y112 := by omega
                        clear g47 g49 g51 g55 g57 h58 u63 q67a q67b q67 ic68 ic69 q83 q84 q85 q86 q87 q88 ic93 c99 c100 h103 h120
                        refine T_ld 194 (.ref 189) rfl (fun _ => rfl) ?_
                        refine T_ld 196 (.int (i32 59)) rfl (fun _ => rfl) ?_
                        refine T_call 199 232 [.ref 189, .int (i32 59)] [] rfl (fun _ => rfl) rfl (c_need w (mO m [(7, y106), (8, y108), (9, y110), (10, y112), (11, y114), (12, y116)] [(57, (m.2 57)), (115, F79)]) c N D (by omega) (Ty_mO hT rfl rfl ⟨g107, g109, g111, g113, g115, g117, trivial⟩ ⟨(hT.2.1 57), q89, trivial⟩) 59 ⟨by decide, by decide⟩ (show 1 ≤ (59 : Int) by omega) (show LxP y106 y108 y110 (m.1 6) y112 by first | exact hLx | (intro h9; exfalso; omega) | (intro h9; have h8 := hLx (by omega); omega))) (fun rr148 k149 => ?_)
                        obtain ⟨y150, y152, y154, y156, y158, y160, g151, g153, g155, g157, g159, g161, h162, h163, h164, h165, rfl⟩ := k149
                        refine ⟨_, _, rfl, ?_⟩
                        refine T_nf (st' := []) (l' := [(7, y150), (8, y152), (9, y154), (10, y156), (11, y158), (12, y160)]) (a' := [(57, (m.2 57)), (115, F79)]) rfl rfl rfl rfl rfl ?_
                        replace h162 : LxP y150 y152 y154 (m.1 6) y156 := h162
                        replace h163 : y156 = 0 → y112 = 0 ∧ y106 = (59 : Int) := h163
                        replace h164 : y108 ≤ y152 := h164
                        replace h165 : y156 = 0 → y108 + y110 ≤ y152 := h165
                        have hf166 : 1 ≤ y156 := by omega
                        clear h163
                        clear h165
                        have hLx := h162
                        clear g107 g109 g111 g113 g115 g117 h118 hf147 h164
                        refine T_gf 203 (.ref 227) rfl rfl rfl rfl rfl rfl ?_
                        refine T_ld 204 (.int (i32 t)) rfl (fun _ => rfl) ?_
                        refine T_ld 205 (.int (i32 oo)) rfl (fun _ => rfl) ?_
                        have G167 : ∀ j, 0 ≤ (upI (m.2 57) t oo) j ∧ (upI (m.2 57) t oo) j ≤ 15 := upI_rg (hT.2.1 57) ⟨by omega, by omega⟩
                        refine T_iast (a' := [(57, upI (m.2 57) t oo), (115, F79)]) 206 57 (m.2 57) rfl rfl rfl (by omega) (show t < (8 : Int) by omega) rfl rfl ?_
                        refine T_ret rfl (fun _ => rfl) ?_
                        exact ⟨y150, y152, y154, y156, y158, y160, upI (m.2 57) t oo, F79, g151, g153, g155, g157, g159, g161, G167, q89, (by omega), (by first | (first | exact hLx | (intro h9; exfalso; omega)) | (exfalso; omega)), (fun h => absurd h (by omega)), rfl⟩
                    · skip
                      refine T_ld 171 (.int (i32 v71)) rfl (fun _ => rfl) ?_
                      refine T_gf 175 (.ref 216) rfl rfl rfl rfl rfl rfl ?_
                      refine T_ld 176 (.int (i32 oo)) rfl (fun _ => rfl) ?_
                      refine T_iald 177 46 (m.2 46) rfl rfl rfl (by omega) (show oo < (16 : Int) by omega) rfl ?_
                      have e168 : 0 ≤ m.2 46 oo ∧ m.2 46 oo ≤ 4 := hT.2.1 46 oo
                      refine T_icmp 187 180 rfl rfl rfl (r32 (by omega) (by omega)) (r32 (by omega) (by omega)) (fun (h169 : v71 = (m.2 46) oo) => ?_) (fun (h169 : ¬ (v71 = (m.2 46) oo)) => ?_)
                      · skip
                        refine T_ld 188 (.ref 189) rfl (fun _ => rfl) ?_
                        refine T_ld 190 (.int (i32 41)) rfl (fun _ => rfl) ?_
                        refine T_call 193 232 [.ref 189, .int (i32 41)] [] rfl (fun _ => rfl) rfl (c_need w (mO m [(7, y73), (8, y74), (9, y75), (10, 0), (11, y77), (12, y78)] [(57, (m.2 57)), (115, F79)]) c N D (by omega) (Ty_mO hT rfl rfl ⟨q83, q84, q85, ⟨(by omega : (0 : Int) ≤ 0), (by omega : (0 : Int) ≤ 8)⟩, q87, q88, trivial⟩ ⟨(hT.2.1 57), q89, trivial⟩) 41 ⟨by decide, by decide⟩ (show 1 ≤ (41 : Int) by omega) (show LxP y73 y74 y75 (m.1 6) (0 : Int) by first | exact hLx | (intro h9; exfalso; omega) | (intro h9; have h8 := hLx (by omega); omega))) (fun rr170 k171 => ?_)
                        obtain ⟨y172, y174, y176, y178, y180, y182, g173, g175, g177, g179, g181, g183, h184, h185, h186, h187, rfl⟩ := k171
                        refine ⟨_, _, rfl, ?_⟩
                        refine T_nf (st' := []) (l' := [(7, y172), (8, y174), (9, y176), (10, y178), (11, y180), (12, y182)]) (a' := [(57, (m.2 57)), (115, F79)]) rfl rfl rfl rfl rfl ?_
                        by_cases hf188 : y178 = 0
                        · skip
                          subst hf188
                          replace h184 : LxP y172 y174 y176 (m.1 6) (0 : Int) := h184
                          have hLx := h184
                          replace h185 : (0 : Int) = 0 ∧ y73 = (41 : Int) := h185 rfl
                          replace h186 : y74 ≤ y174 := h186
                          replace h187 : y74 + y75 ≤ y174 := h187 rfl
                          have u189 : (m.1 8) + 1 ≤ y174 := by omega
                          clear g47 g49 g51 g55 g57 h58 u63 q67a q67b q67 ic68 ic69 q83 q84 q85 q86 q87 q88 ic93 c99 c100 h103 g179 h185 h186 h187
                          refine T_ld 194 (.ref 189) rfl (fun _ => rfl) ?_
                          refine T_ld 196 (.int (i32 59)) rfl (fun _ => rfl) ?_
                          refine T_call 199 232 [.ref 189, .int (i32 59)] [] rfl (fun _ => rfl) rfl (c_need w (mO m [(7, y172), (8, y174), (9, y176), (10, 0), (11, y180), (12, y182)] [(57, (m.2 57)), (115, F79)]) c N D (by omega) (Ty_mO hT rfl rfl ⟨g173, g175, g177, ⟨(by omega : (0 : Int) ≤ 0), (by omega : (0 : Int) ≤ 8)⟩, g181, g183, trivial⟩ ⟨(hT.2.1 57), q89, trivial⟩) 59 ⟨by decide, by decide⟩ (show 1 ≤ (59 : Int) by omega) (show LxP y172 y174 y176 (m.1 6) (0 : Int) by first | exact hLx | (intro h9; exfalso; omega) | (intro h9; have h8 := hLx (by omega); omega))) (fun rr190 k191 => ?_)
                          obtain ⟨y192, y194, y196, y198, y200, y202, g193, g195, g197, g199, g201, g203, h204, h205, h206, h207, rfl⟩ := k191
                          refine ⟨_, _, rfl, ?_⟩
                          refine T_nf (st' := []) (l' := [(7, y192), (8, y194), (9, y196), (10, y198), (11, y200), (12, y202)]) (a' := [(57, (m.2 57)), (115, F79)]) rfl rfl rfl rfl rfl ?_
                          by_cases hf208 : y198 = 0
                          · skip
                            subst hf208
                            replace h204 : LxP y192 y194 y196 (m.1 6) (0 : Int) := h204
                            have hLx := h204
                            replace h205 : (0 : Int) = 0 ∧ y172 = (59 : Int) := h205 rfl
                            replace h206 : y174 ≤ y194 := h206
                            replace h207 : y174 + y176 ≤ y194 := h207 rfl
                            have u209 : (m.1 8) + 1 ≤ y194 := by omega
                            clear g173 g175 g177 g181 g183 h184 u189 g199 h205 h206 h207
                            refine T_gf 203 (.ref 227) rfl rfl rfl rfl rfl rfl ?_
                            refine T_ld 204 (.int (i32 t)) rfl (fun _ => rfl) ?_
                            refine T_ld 205 (.int (i32 oo)) rfl (fun _ => rfl) ?_
                            have G210 : ∀ j, 0 ≤ (upI (m.2 57) t oo) j ∧ (upI (m.2 57) t oo) j ≤ 15 := upI_rg (hT.2.1 57) ⟨by omega, by omega⟩
                            refine T_iast (a' := [(57, upI (m.2 57) t oo), (115, F79)]) 206 57 (m.2 57) rfl rfl rfl (by omega) (show t < (8 : Int) by omega) rfl rfl ?_
                            refine T_ret rfl (fun _ => rfl) ?_
                            exact ⟨y192, y194, y196, 0, y200, y202, upI (m.2 57) t oo, F79, g193, g195, g197, ⟨by omega, by omega⟩, g201, g203, G210, q89, (by omega), (by first | (first | exact hLx | (intro h9; exfalso; omega)) | (exfalso; omega)), (fun _ => ⟨(by omega), (by first | (rw [upI_s]; omega) | (exfalso; omega)), (by first | (exact agr_u (Int.le_refl _)) | (exfalso; omega))⟩), rfl⟩
                          · skip
                            replace h204 : LxP y192 y194 y196 (m.1 6) y198 := h204
                            have hLx := h204
                            clear h205
                            replace h206 : y174 ≤ y194 := h206
                            clear h207
                            have hf211 : 1 ≤ y198 := by omega
                            clear g173 g175 g177 g181 g183 h184 u189 h206
                            refine T_gf 203 (.ref 227) rfl rfl rfl rfl rfl rfl ?_
                            refine T_ld 204 (.int (i32 t)) rfl (fun _ => rfl) ?_
                            refine T_ld 205 (.int (i32 oo)) rfl (fun _ => rfl) ?_
                            have G212 : ∀ j, 0 ≤ (upI (m.2 57) t oo) j ∧ (upI (m.2 57) t oo) j ≤ 15 := upI_rg (hT.2.1 57) ⟨by omega, by omega⟩
                            refine T_iast (a' := [(57, upI (m.2 57) t oo), (115, F79)]) 206 57 (m.2 57) rfl rfl rfl (by omega) (show t < (8 : Int) by omega) rfl rfl ?_
                            refine T_ret rfl (fun _ => rfl) ?_
                            exact ⟨y192, y194, y196, y198, y200, y202, upI (m.2 57) t oo, F79, g193, g195, g197, g199, g201, g203, G212, q89, (by omega), (by first | (first | exact hLx | (intro h9; exfalso; omega)) | (exfalso; omega)), (fun h => absurd h (by omega)), rfl⟩
                        · skip
                          replace h184 : LxP y172 y174 y176 (m.1 6) y178 := h184
                          have hLx := h184
                          clear h185
                          replace h186 : y74 ≤ y174 := h186
                          clear h187
                          have hf213 : 1 ≤ y178 := by omega
                          clear g47 g49 g51 g55 g57 h58 u63 q67a q67b q67 ic68 ic69 q83 q84 q85 q86 q87 q88 ic93 c99 c100 h103 h186
                          refine T_ld 194 (.ref 189) rfl (fun _ => rfl) ?_
                          refine T_ld 196 (.int (i32 59)) rfl (fun _ => rfl) ?_
                          refine T_call 199 232 [.ref 189, .int (i32 59)] [] rfl (fun _ => rfl) rfl (c_need w (mO m [(7, y172), (8, y174), (9, y176), (10, y178), (11, y180), (12, y182)] [(57, (m.2 57)), (115, F79)]) c N D (by omega) (Ty_mO hT rfl rfl ⟨g173, g175, g177, g179, g181, g183, trivial⟩ ⟨(hT.2.1 57), q89, trivial⟩) 59 ⟨by decide, by decide⟩ (show 1 ≤ (59 : Int) by omega) (show LxP y172 y174 y176 (m.1 6) y178 by first | exact hLx | (intro h9; exfalso; omega) | (intro h9; have h8 := hLx (by omega); omega))) (fun rr214 k215 => ?_)
                          obtain ⟨y216, y218, y220, y222, y224, y226, g217, g219, g221, g223, g225, g227, h228, h229, h230, h231, rfl⟩ := k215
                          refine ⟨_, _, rfl, ?_⟩
                          refine T_nf (st' := []) (l' := [(7, y216), (8, y218), (9, y220), (10, y222), (11, y224), (12, y226)]) (a' := [(57, (m.2 57)), (115, F79)]) rfl rfl rfl rfl rfl ?_
                          replace h228 : LxP y216 y218 y220 (m.1 6) y222 := h228
                          replace h229 : y222 = 0 → y178 = 0 ∧ y172 = (59 : Int) := h229
                          replace h230 : y174 ≤ y218 := h230
                          replace h231 : y222 = 0 → y174 + y176 ≤ y218 := h231
                          have hf232 : 1 ≤ y222 := by omega
                          clear h229
                          clear h231
                          have hLx := h228
                          clear g173 g175 g177 g179 g181 g183 h184 hf213 h230
                          refine T_gf 203 (.ref 227) rfl rfl rfl rfl rfl rfl ?_
                          refine T_ld 204 (.int (i32 t)) rfl (fun _ => rfl) ?_
                          refine T_ld 205 (.int (i32 oo)) rfl (fun _ => rfl) ?_
                          have G233 : ∀ j, 0 ≤ (upI (m.2 57) t oo) j ∧ (upI (m.2 57) t oo) j ≤ 15 := upI_rg (hT.2.1 57) ⟨by omega, by omega⟩
                          refine T_iast (a' := [(57, upI (m.2 57) t oo), (115, F79)]) 206 57 (m.2 57) rfl rfl rfl (by omega) (show t < (8 : Int) by omega) rfl rfl ?_
                          refine T_ret rfl (fun _ => rfl) ?_
                          exact ⟨y216, y218, y220, y222, y224, y226, upI (m.2 57) t oo, F79, g217, g219, g221, g223, g225, g227, G233, q89, (by omega), (by first | (first | exact hLx | (intro h9; exfalso; omega)) | (exfalso; omega)), (fun h => absurd h (by omega)), rfl⟩
                      · skip
                        refine T_ld 181 (.ref 189) rfl (fun _ => rfl) ?_
                        refine T_ld 183 (.int (i32 8)) rfl (fun _ => rfl) ?_
                        refine T_ld 184 (.int (i32 y5)) rfl (fun _ => rfl) ?_
                        refine T_call 187 222 [.ref 189, .int (i32 8), .int (i32 y5)] [] rfl (fun _ => rfl) rfl (c_wrong w (mO m [(7, y73), (8, y74), (9, y75), (10, 0), (11, y77), (12, y78)] [(57, (m.2 57)), (115, F79)]) c N D (by omega) (Ty_mO hT rfl rfl ⟨q83, q84, q85, ⟨(by omega : (0 : Int) ≤ 0), (by omega : (0 : Int) ≤ 8)⟩, q87, q88, trivial⟩ ⟨(hT.2.1 57), q89, trivial⟩) 8 y5 ⟨by decide, by decide⟩ (r32 (by omega) (by omega)) (show 1 ≤ (8 : Int) ∧ (8 : Int) ≤ 8 by omega) (show 0 ≤ y5 ∧ y5 ≤ 4000 by omega)) (fun rr234 k235 => ?_)
                        obtain ⟨y236, y238, g237, g239, h240, rfl⟩ := k235
                        refine ⟨_, _, rfl, ?_⟩
                        refine T_nf (st' := []) (l' := [(7, y73), (8, y74), (9, y75), (10, y236), (11, y238), (12, y78)]) (a' := [(57, (m.2 57)), (115, F79)]) rfl rfl rfl rfl rfl ?_
                        replace h240 : (0 < (0 : Int) → y236 = (0 : Int) ∧ y238 = y77) ∧ ((0 : Int) ≤ 0 → y236 = (8 : Int) ∧ y238 = y5) := h240
                        have hf241 : 1 ≤ y236 := by omega
                        clear g47 g49 g51 g55 g57 h58 u63 q67a q67b q67 ic68 ic69 q86 q87 ic93 h240
                        refine T_ld 188 (.ref 189) rfl (fun _ => rfl) ?_
                        refine T_ld 190 (.int (i32 41)) rfl (fun _ => rfl) ?_
                        refine T_call 193 232 [.ref 189, .int (i32 41)] [] rfl (fun _ => rfl) rfl (c_need w (mO m [(7, y73), (8, y74), (9, y75), (10, y236), (11, y238), (12, y78)] [(57, (m.2 57)), (115, F79)]) c N D (by omega) (Ty_mO hT rfl rfl ⟨q83, q84, q85, g237, g239, q88, trivial⟩ ⟨(hT.2.1 57), q89, trivial⟩) 41 ⟨by decide, by decide⟩ (show 1 ≤ (41 : Int) by omega) (show LxP y73 y74 y75 (m.1 6) y236 by first | exact hLx | (intro h9; exfalso; omega) | (intro h9; have h8 := hLx (by omega); omega))) (fun rr242 k243 => ?_)
                        obtain ⟨y244, y246, y248, y250, y252, y254, g245, g247, g249, g251, g253, g255, h256, h257, h258, h259, rfl⟩ := k243
                        refine ⟨_, _, rfl, ?_⟩
                        refine T_nf (st' := []) (l' := [(7, y244), (8, y246), (9, y248), (10, y250), (11, y252), (12, y254)]) (a' := [(57, (m.2 57)), (115, F79)]) rfl rfl rfl rfl rfl ?_
                        replace h256 : LxP y244 y246 y248 (m.1 6) y250 := h256
                        replace h257 : y250 = 0 → y236 = 0 ∧ y73 = (41 : Int) := h257
                        replace h258 : y74 ≤ y246 := h258
                        replace h259 : y250 = 0 → y74 + y75 ≤ y246 := h259
                        have hf260 : 1 ≤ y250 := by omega
                        clear h257
                        clear h259
                        have hLx := h256
                        clear q83 q84 q85 q88 c99 c100 h103 g237 g239 hf241 h258
                        refine T_ld 194 (.ref 189) rfl (fun _ => rfl) ?_
                        refine T_ld 196 (.int (i32 59)) rfl (fun _ => rfl) ?_
                        refine T_call 199 232 [.ref 189, .int (i32 59)] [] rfl (fun _ => rfl) rfl (c_need w (mO m [(7, y244), (8, y246), (9, y248), (10, y250), (11, y252), (12, y254)] [(57, (m.2 57)), (115, F79)]) c N D (by omega) (Ty_mO hT rfl rfl ⟨g245, g247, g249, g251, g253, g255, trivial⟩ ⟨(hT.2.1 57), q89, trivial⟩) 59 ⟨by decide, by decide⟩ (show 1 ≤ (59 : Int) by omega) (show LxP y244 y246 y248 (m.1 6) y250 by first | exact hLx | (intro h9; exfalso; omega) | (intro h9; have h8 := hLx (by omega); omega))) (fun rr261 k262 => ?_)
                        obtain ⟨y263, y265, y267, y269, y271, y273, g264, g266, g268, g270, g272, g274, h275, h276, h277, h278, rfl⟩ := k262
                        refine ⟨_, _, rfl, ?_⟩
                        refine T_nf (st' := []) (l' := [(7, y263), (8, y265), (9, y267), (10, y269), (11, y271), (12, y273)]) (a' := [(57, (m.2 57)), (115, F79)]) rfl rfl rfl rfl rfl ?_
                        replace h275 : LxP y263 y265 y267 (m.1 6) y269 := h275
                        replace h276 : y269 = 0 → y250 = 0 ∧ y244 = (59 : Int) := h276
                        replace h277 : y246 ≤ y265 := h277
                        replace h278 : y269 = 0 → y246 + y248 ≤ y265 := h278
                        have hf279 : 1 ≤ y269 := by omega
                        clear h276
                        clear h278
                        have hLx := h275
                        clear g245 g247 g249 g251 g253 g255 hf260 h256 h277
                        refine T_gf 203 (.ref 227) rfl rfl rfl rfl rfl rfl ?_
                        refine T_ld 204 (.int (i32 t)) rfl (fun _ => rfl) ?_
                        refine T_ld 205 (.int (i32 oo)) rfl (fun _ => rfl) ?_
                        have G280 : ∀ j, 0 ≤ (upI (m.2 57) t oo) j ∧ (upI (m.2 57) t oo) j ≤ 15 := upI_rg (hT.2.1 57) ⟨by omega, by omega⟩
                        refine T_iast (a' := [(57, upI (m.2 57) t oo), (115, F79)]) 206 57 (m.2 57) rfl rfl rfl (by omega) (show t < (8 : Int) by omega) rfl rfl ?_
                        refine T_ret rfl (fun _ => rfl) ?_
                        exact ⟨y263, y265, y267, y269, y271, y273, upI (m.2 57) t oo, F79, g264, g266, g268, g270, g272, g274, G280, q89, (by omega), (by first | (first | exact hLx | (intro h9; exfalso; omega)) | (exfalso; omega)), (fun h => absurd h (by omega)), rfl⟩
                  · skip
                    refine T_gf 60 (.int (i32 0)) rfl rfl rfl rfl rfl rfl ?_
                    refine T_if 153 63 rfl rfl rfl ⟨by decide, by decide⟩ (fun h281 => absurd (show (0 : Int) ≠ 0 from h281) (by decide)) (fun _ => ?_)
                    have h7 := hLx (by omega)
                    refine T_ld 64 (.ref 189) rfl (fun _ => rfl) ?_
                    refine T_ld 66 (.int (i32 v71)) rfl (fun _ => rfl) ?_
                    refine T_gf 70 (.ref 216) rfl rfl rfl rfl rfl rfl ?_
                    refine T_ld 71 (.int (i32 oo)) rfl (fun _ => rfl) ?_
                    refine T_iald 72 46 (m.2 46) rfl rfl rfl (by omega) (show oo < (16 : Int) by omega) rfl ?_
                    have e282 : 0 ≤ m.2 46 oo ∧ m.2 46 oo ≤ 4 := hT.2.1 46 oo
                    have J91_284 : ∀ (s283 : Int), (R32 s283) → (0 ≤ s283) → (s283 ≤ 64) → TT w D pm_277 (91, [(0, .ref 189), (1, .int (i32 t)), (2, .int (i32 y5)), (3, .int (i32 oo)), (4, .int (i32 v71)), (5, .int (i32 v72))], [.int (i32 s283), .ref 189], (mhp (mO m [(7, y73), (8, y74), (9, y75), (10, 0), (11, y77), (12, y78)] [(57, (m.2 57)), (115, F79)]) c, N), 0, 0) (Q_takeElse m c N t) := by
                      intro s283 q285 ic286 ic287
                      obtain ⟨q285a, q285b⟩ := id q285
                      refine T_call 94 266 [.ref 189, .int (i32 s283)] [] rfl (fun _ => rfl) rfl (c_caseNumber w (mO m [(7, y73), (8, y74), (9, y75), (10, 0), (11, y77), (12, y78)] [(57, (m.2 57)), (115, F79)]) c N D (by omega) (Ty_mO hT rfl rfl ⟨q83, q84, q85, ⟨(by omega : (0 : Int) ≤ 0), (by omega : (0 : Int) ≤ 8)⟩, q87, q88, trivial⟩ ⟨(hT.2.1 57), q89, trivial⟩) s283 (r32 (by omega) (by omega)) (show LxP y73 y74 y75 (m.1 6) (0 : Int) by first | exact hLx | (intro h9; exfalso; omega)) (fun _ => trivial)) (fun rr289 k290 => ?_)
                      obtain ⟨y291, y293, y295, y297, y299, y301, x303, g292, g294, g296, g298, g300, g302, g304, h305, h306, c307, rfl⟩ := k290
                      refine ⟨_, _, rfl, ?_⟩
                      refine T_nf (st' := [.long (i64 x303)]) (l' := [(7, y291), (8, y293), (9, y295), (10, y297), (11, y299), (12, y301)]) (a' := [(57, (m.2 57)), (115, F79)]) rfl rfl rfl rfl rfl ?_
                      obtain ⟨g304a, g304b⟩ := g304
                      by_cases hf308 : y297 = 0
                      · skip
                        subst hf308
                        replace h305 : (0 : Int) = 0 := h305 rfl
                        replace h306 : LxP y291 y293 y295 (m.1 6) (0 : Int) := h306
                        have hLx := h306
                        obtain ⟨c309, c310⟩ := c307 rfl
                        replace c309 : y74 + 1 ≤ y293 := c309
                        replace c310 : y73 = 2 := c310
                        clear c307
                        have u311 : (m.1 8) + 1 ≤ y293 := by omega
                        clear g47 g49 g51 g55 g57 h58 u63 q67a q67b q67 ic68 ic69 q83 q84 q85 q86 q87 q88 ic93 c99 c100 q285a q285b q285 ic286 ic287 g298 c309 c310
                        refine T_sto 96 [(6, .long (i64 x303)), (0, .ref 189), (1, .int (i32 t)), (2, .int (i32 y5)), (3, .int (i32 oo)), (4, .int (i32 v71)), (5, .int (i32 v72))] rfl (fun _ => rfl) ?_
                        refine T_ld 98 (.int (i32 v71)) rfl (fun _ => rfl) ?_
                        refine T_ld 99 (.int (i32 4)) rfl (fun _ => rfl) ?_
                        have J115_313 : ∀ (F312 : Int → Int), (∀ j, (-9223372036854775808) ≤ F312 j ∧ F312 j ≤ 9223372036854775807) → TT w D pm_277 (115, [(0, .ref 189), (1, .int (i32 t)), (2, .int (i32 y5)), (3, .int (i32 oo)), (4, .int (i32 v71)), (5, .int (i32 v72)), (6, .long (i64 x303))], [], (mhp (mO m [(7, y291), (8, y293), (9, y295), (10, 0), (11, y299), (12, y301)] [(57, (m.2 57)), (115, F312)]) c, N), 0, 0) (Q_takeElse m c N t) := by
                          intro F312 q314
                          refine T_iinc 118 [(4, .int (i32 (v71 + 1))), (0, .ref 189), (1, .int (i32 t)), (2, .int (i32 y5)), (3, .int (i32 oo)), (5, .int (i32 v72)), (6, .long (i64 x303))] rfl rfl (by decide) rfl rfl ?_
                          refine T_gf 122 (.int (i32 0)) rfl rfl rfl rfl rfl rfl ?_
                          refine T_if 138 125 rfl rfl rfl ⟨by decide, by decide⟩ (fun h316 => absurd (show (0 : Int) ≠ 0 from h316) (by decide)) (fun _ => ?_)
                          refine T_gf 129 (.int (i32 y291)) rfl rfl rfl rfl rfl rfl ?_
                          refine T_ld 131 (.int (i32 44)) rfl (fun _ => rfl) ?_
                          have J139_318 : ∀ (s317 : Int), (R32 s317) → (0 ≤ s317) → (s317 ≤ 1) → TT w D pm_277 (139, [(0, .ref 189), (1, .int (i32 t)), (2, .int (i32 y5)), (3, .int (i32 oo)), (4, .int (i32 (v71 + 1))), (5, .int (i32 v72)), (6, .long (i64 x303))], [.int (i32 s317)], (mhp (mO m [(7, y291), (8, y293), (9, y295), (10, 0), (11, y299), (12, y301)] [(57, (m.2 57)), (115, F312)]) c, N), 0, 0) (Q_takeElse m c N t) := by
                            intro s317 q319 ic320 ic321
                            obtain ⟨q319a, q319b⟩ := id q319
                            refine T_sto 141 [(5, .int (i32 s317)), (0, .ref 189), (1, .int (i32 t)), (2, .int (i32 y5)), (3, .int (i32 oo)), (4, .int (i32 (v71 + 1))), (6, .long (i64 x303))] rfl (fun _ => rfl) ?_
                            refine T_ld 143 (.int (i32 s317)) rfl (fun _ => rfl) ?_
                            refine T_if 150 146 rfl rfl rfl (r32 (by omega) (by omega)) (fun (h323 : s317 = 0) => ?_) (fun (h323 : ¬ (s317 = 0)) => ?_)
                            · skip
                              refine T_goto 51 rfl (fun _ => rfl) ?_
                              refine Tm_lv (a := [(0, .ref 189), (1, .int (i32 t)), (2, .int (i32 y5)), (3, .int (i32 oo)), (4, .int (i32 (v71 + 1))), (5, .int (i32 s317))]) rfl rfl ⟨rfl, rfl, rfl, rfl, rfl, rfl, trivial⟩ ?_
                              exact ih97 (v71 + 1) s317 y291 y293 y295 0 y299 y301 F312 (r32 (by omega) (by omega)) (r32 (by omega) (by omega)) g292 g294 g296 ⟨by omega, by omega⟩ g300 g302 q314 (by omega) (by omega) (by omega) (by exact hLx) (by omega) (by omega) (fun _ => ⟨(by omega), (by omega)⟩) (by omega)
                            · skip
                              refine T_ld 147 (.ref 189) rfl (fun _ => rfl) ?_
                              refine T_call 150 212 [.ref 189] [] rfl (fun _ => rfl) rfl (c_next w (mO m [(7, y291), (8, y293), (9, y295), (10, 0), (11, y299), (12, y301)] [(57, (m.2 57)), (115, F312)]) c N D (by omega) (Ty_mO hT rfl rfl ⟨g292, g294, g296, ⟨(by omega : (0 : Int) ≤ 0), (by omega : (0 : Int) ≤ 8)⟩, g300, g302, trivial⟩ ⟨(hT.2.1 57), q314, trivial⟩) (show (0 : Int) = 0 → y293 + y295 ≤ (m.1 6) by first | omega | (intro h9; have h8 := hLx h9; omega))) (fun rr324 k325 => ?_)
                              obtain ⟨y326, y328, y330, y332, y334, y336, g327, g329, g331, g333, g335, g337, h338, h339, h340, h341, rfl⟩ := k325
                              refine ⟨_, _, rfl, ?_⟩
                              refine T_nf (st' := []) (l' := [(7, y326), (8, y328), (9, y330), (10, y332), (11, y334), (12, y336)]) (a' := [(57, (m.2 57)), (115, F312)]) rfl rfl rfl rfl rfl ?_
                              by_cases hf342 : y332 = 0
                              · skip
                                subst hf342
                                replace h338 : LxP y326 y328 y330 (m.1 6) (0 : Int) := h338
                                have hLx := h338
                                replace h339 : (0 : Int) = 0 := h339 rfl
                                replace h340 : y293 ≤ y328 := h340
                                replace h341 : y293 + y295 ≤ y328 := h341 rfl
                                have u343 : (m.1 8) + 1 ≤ y328 := by omega
                                clear q82a q82b q82 ic91 ic92 ic94 h101 g292 g294 g296 g300 g302 h306 u311 g333 h340 h341
                                refine T_goto 51 rfl (fun _ => rfl) ?_
                                refine Tm_lv (a := [(0, .ref 189), (1, .int (i32 t)), (2, .int (i32 y5)), (3, .int (i32 oo)), (4, .int (i32 (v71 + 1))), (5, .int (i32 s317))]) rfl rfl ⟨rfl, rfl, rfl, rfl, rfl, rfl, trivial⟩ ?_
                                exact ih97 (v71 + 1) s317 y326 y328 y330 0 y334 y336 F312 (r32 (by omega) (by omega)) (r32 (by omega) (by omega)) g327 g329 g331 ⟨by omega, by omega⟩ g335 g337 q314 (by omega) (by omega) (by omega) (by exact hLx) (by omega) (by omega) (fun _ => ⟨(by omega), (by omega)⟩) (by omega)
                              · skip
                                replace h338 : LxP y326 y328 y330 (m.1 6) y332 := h338
                                have hLx := h338
                                clear h339
                                replace h340 : y293 ≤ y328 := h340
                                clear h341
                                have hf344 : 1 ≤ y332 := by omega
                                clear q82a q82b q82 ic91 ic92 ic94 h101 g292 g294 g296 g300 g302 h306 u311 h340
                                refine T_goto 51 rfl (fun _ => rfl) ?_
                                refine Tm_lv (a := [(0, .ref 189), (1, .int (i32 t)), (2, .int (i32 y5)), (3, .int (i32 oo)), (4, .int (i32 (v71 + 1))), (5, .int (i32 s317))]) rfl rfl ⟨rfl, rfl, rfl, rfl, rfl, rfl, trivial⟩ ?_
                                exact ih97 (v71 + 1) s317 y326 y328 y330 y332 y334 y336 F312 (r32 (by omega) (by omega)) (r32 (by omega) (by omega)) g327 g329 g331 g333 g335 g337 q314 (by omega) (by omega) (by omega) (by exact hLx) (by omega) (by omega) (fun h => absurd h (by omega)) (by omega)
                          refine T_icmp 138 134 rfl rfl rfl (r32 (by omega) (by omega)) ⟨by decide, by decide⟩ (fun (h345 : y291 ≠ 44) => ?_) (fun (h345 : ¬ (y291 ≠ 44)) => ?_)
                          · skip
                            refine T_ld 139 (.int (i32 0)) rfl (fun _ => rfl) ?_
                            refine Tm_lv (a := [(0, .ref 189), (1, .int (i32 t)), (2, .int (i32 y5)), (3, .int (i32 oo)), (4, .int (i32 (v71 + 1))), (5, .int (i32 v72)), (6, .long (i64 x303))]) rfl rfl ⟨rfl, rfl, rfl, rfl, rfl, rfl, rfl, trivial⟩ ?_
                            exact J139_318 0 ⟨by decide, by decide⟩ (by omega) (by omega)
                          · skip
                            refine T_ld 135 (.int (i32 1)) rfl (fun _ => rfl) ?_
                            refine T_goto 139 rfl (fun _ => rfl) ?_
                            refine Tm_lv (a := [(0, .ref 189), (1, .int (i32 t)), (2, .int (i32 y5)), (3, .int (i32 oo)), (4, .int (i32 (v71 + 1))), (5, .int (i32 v72)), (6, .long (i64 x303))]) rfl rfl ⟨rfl, rfl, rfl, rfl, rfl, rfl, rfl, trivial⟩ ?_
                            exact J139_318 1 ⟨by decide, by decide⟩ (by omega) (by omega)
                        refine T_icmp 115 102 rfl rfl rfl (r32 (by omega) (by omega)) ⟨by decide, by decide⟩ (fun (h346 : (4 : Int) ≤ v71) => ?_) (fun (h346 : ¬ ((4 : Int) ≤ v71)) => ?_)
                        · skip
                          refine Tm_lv (a := [(0, .ref 189), (1, .int (i32 t)), (2, .int (i32 y5)), (3, .int (i32 oo)), (4, .int (i32 v71)), (5, .int (i32 v72)), (6, .long (i64 x303))]) rfl rfl ⟨rfl, rfl, rfl, rfl, rfl, rfl, rfl, trivial⟩ ?_
                          exact J115_313 F79 q89
                        · skip
                          refine T_gf 106 (.ref 275) rfl rfl rfl rfl rfl rfl ?_
                          refine T_ld 107 (.int (i32 4)) rfl (fun _ => rfl) ?_
                          refine T_ld 108 (.int (i32 t)) rfl (fun _ => rfl) ?_
                          refine T_imul 109 rfl rfl ?_
                          refine T_ld 111 (.int (i32 v71)) rfl (fun _ => rfl) ?_
                          refine T_iadd 112 rfl rfl ?_
                          refine T_ld 114 (.long (i64 x303)) rfl (fun _ => rfl) ?_
                          have G347 : ∀ j, (-9223372036854775808) ≤ (upI F79 ((4 * t) + v71) x303) j ∧ (upI F79 ((4 * t) + v71) x303) j ≤ 9223372036854775807 := upI_rg q89 ⟨by omega, by omega⟩
                          refine T_last (a' := [(57, (m.2 57)), (115, upI F79 ((4 * t) + v71) x303)]) 115 115 F79 rfl rfl rfl (by omega) (show ((4 * t) + v71) < (32 : Int) by omega) rfl rfl ?_
                          refine Tm_lv (a := [(0, .ref 189), (1, .int (i32 t)), (2, .int (i32 y5)), (3, .int (i32 oo)), (4, .int (i32 v71)), (5, .int (i32 v72)), (6, .long (i64 x303))]) rfl rfl ⟨rfl, rfl, rfl, rfl, rfl, rfl, rfl, trivial⟩ ?_
                          exact J115_313 (upI F79 ((4 * t) + v71) x303) G347
                      · skip
                        clear c307
                        clear h305
                        replace h306 : LxP y291 y293 y295 (m.1 6) y297 := h306
                        have hLx := h306
                        have hf348 : 1 ≤ y297 := by omega
                        clear g47 g49 g51 g55 g57 h58 u63 q67a q67b q67 ic68 ic69 q83 q84 q85 q86 q87 q88 ic93 c99 c100 q285a q285b q285 ic286 ic287
                        refine T_sto 96 [(6, .long (i64 x303)), (0, .ref 189), (1, .int (i32 t)), (2, .int (i32 y5)), (3, .int (i32 oo)), (4, .int (i32 v71)), (5, .int (i32 v72))] rfl (fun _ => rfl) ?_
                        refine T_ld 98 (.int (i32 v71)) rfl (fun _ => rfl) ?_
                        refine T_ld 99 (.int (i32 4)) rfl (fun _ => rfl) ?_
                        have J115_350 : ∀ (F349 : Int → Int), (∀ j, (-9223372036854775808) ≤ F349 j ∧ F349 j ≤ 9223372036854775807) → TT w D pm_277 (115, [(0, .ref 189), (1, .int (i32 t)), (2, .int (i32 y5)), (3, .int (i32 oo)), (4, .int (i32 v71)), (5, .int (i32 v72)), (6, .long (i64 x303))], [], (mhp (mO m [(7, y291), (8, y293), (9, y295), (10, y297), (11, y299), (12, y301)] [(57, (m.2 57)), (115, F349)]) c, N), 0, 0) (Q_takeElse m c N t) := by
                          intro F349 q351
                          refine T_iinc 118 [(4, .int (i32 (v71 + 1))), (0, .ref 189), (1, .int (i32 t)), (2, .int (i32 y5)), (3, .int (i32 oo)), (5, .int (i32 v72)), (6, .long (i64 x303))] rfl rfl (by decide) rfl rfl ?_
                          refine T_gf 122 (.int (i32 y297)) rfl rfl rfl rfl rfl rfl ?_
                          refine T_if 138 125 rfl rfl rfl (r32 (by omega) (by omega)) (fun (h353 : y297 ≠ 0) => ?_) (fun (h353 : ¬ (y297 ≠ 0)) => by exfalso; omega)
                          refine T_ld 139 (.int (i32 0)) rfl (fun _ => rfl) ?_
                          refine T_sto 141 [(5, .int (i32 0)), (4, .int (i32 (v71 + 1))), (0, .ref 189), (1, .int (i32 t)), (2, .int (i32 y5)), (3, .int (i32 oo)), (6, .long (i64 x303))] rfl (fun _ => rfl) ?_
                          refine T_ld 143 (.int (i32 0)) rfl (fun _ => rfl) ?_
                          refine T_if 150 146 rfl rfl rfl ⟨by decide, by decide⟩ (fun _ => ?_) (fun h354 => absurd (show (0 : Int) = 0 by decide) h354)
                          refine T_goto 51 rfl (fun _ => rfl) ?_
                          refine Tm_lv (a := [(0, .ref 189), (1, .int (i32 t)), (2, .int (i32 y5)), (3, .int (i32 oo)), (4, .int (i32 (v71 + 1))), (5, .int (i32 0))]) rfl rfl ⟨rfl, rfl, rfl, rfl, rfl, rfl, trivial⟩ ?_
                          exact ih97 (v71 + 1) 0 y291 y293 y295 y297 y299 y301 F349 (r32 (by omega) (by omega)) ⟨by decide, by decide⟩ g292 g294 g296 g298 g300 g302 q351 (by omega) (by omega) (by omega) (by exact hLx) (by omega) (by omega) (fun h => absurd h (by omega)) (by omega)
                        refine T_icmp 115 102 rfl rfl rfl (r32 (by omega) (by omega)) ⟨by decide, by decide⟩ (fun (h355 : (4 : Int) ≤ v71) => ?_) (fun (h355 : ¬ ((4 : Int) ≤ v71)) => ?_)
                        · skip
                          refine Tm_lv (a := [(0, .ref 189), (1, .int (i32 t)), (2, .int (i32 y5)), (3, .int (i32 oo)), (4, .int (i32 v71)), (5, .int (i32 v72)), (6, .long (i64 x303))]) rfl rfl ⟨rfl, rfl, rfl, rfl, rfl, rfl, rfl, trivial⟩ ?_
                          exact J115_350 F79 q89
                        · skip
                          refine T_gf 106 (.ref 275) rfl rfl rfl rfl rfl rfl ?_
                          refine T_ld 107 (.int (i32 4)) rfl (fun _ => rfl) ?_
                          refine T_ld 108 (.int (i32 t)) rfl (fun _ => rfl) ?_
                          refine T_imul 109 rfl rfl ?_
                          refine T_ld 111 (.int (i32 v71)) rfl (fun _ => rfl) ?_
                          refine T_iadd 112 rfl rfl ?_
                          refine T_ld 114 (.long (i64 x303)) rfl (fun _ => rfl) ?_
                          have G356 : ∀ j, (-9223372036854775808) ≤ (upI F79 ((4 * t) + v71) x303) j ∧ (upI F79 ((4 * t) + v71) x303) j ≤ 9223372036854775807 := upI_rg q89 ⟨by omega, by omega⟩
                          refine T_last (a' := [(57, (m.2 57)), (115, upI F79 ((4 * t) + v71) x303)]) 115 115 F79 rfl rfl rfl (by omega) (show ((4 * t) + v71) < (32 : Int) by omega) rfl rfl ?_
                          refine Tm_lv (a := [(0, .ref 189), (1, .int (i32 t)), (2, .int (i32 y5)), (3, .int (i32 oo)), (4, .int (i32 v71)), (5, .int (i32 v72)), (6, .long (i64 x303))]) rfl rfl ⟨rfl, rfl, rfl, rfl, rfl, rfl, rfl, trivial⟩ ?_
                          exact J115_350 (upI F79 ((4 * t) + v71) x303) G356
                    refine T_icmp 89 75 rfl rfl rfl (r32 (by omega) (by omega)) (r32 (by omega) (by omega)) (fun (h357 : (m.2 46) oo ≤ v71) => ?_) (fun (h357 : ¬ ((m.2 46) oo ≤ v71)) => ?_)
                    · skip
                      refine T_ld 91 (.int (i32 64)) rfl (fun _ => rfl) ?_
                      exact J91_284 64 ⟨by decide, by decide⟩ (by omega) (by omega)
                    · skip
                      refine T_gf 79 (.ref 219) rfl rfl rfl rfl rfl rfl ?_
                      refine T_ld 80 (.int (i32 4)) rfl (fun _ => rfl) ?_
                      refine T_ld 81 (.int (i32 oo)) rfl (fun _ => rfl) ?_
                      refine T_imul 82 rfl rfl ?_
                      refine T_ld 84 (.int (i32 v71)) rfl (fun _ => rfl) ?_
                      refine T_iadd 85 rfl rfl ?_
                      refine T_iald 86 49 (m.2 49) rfl rfl rfl (by omega) (show ((4 * oo) + v71) < (64 : Int) by omega) rfl ?_
                      have e358 : 0 ≤ m.2 49 ((4 * oo) + v71) ∧ m.2 49 ((4 * oo) + v71) ≤ 64 := hT.2.1 49 ((4 * oo) + v71)
                      refine T_goto 91 rfl (fun _ => rfl) ?_
                      exact J91_284 ((m.2 49) ((4 * oo) + v71)) (r32 (by omega) (by omega)) (by omega) (by omega)
                · skip
                  clear c96
                  have hf359 : 1 ≤ y76 := by omega
                  refine T_ld 53 (.int (i32 v72)) rfl (fun _ => rfl) ?_
                  refine T_if 153 56 rfl rfl rfl (r32 (by omega) (by omega)) (fun (h360 : v72 = 0) => ?_) (fun (h360 : ¬ (v72 = 0)) => ?_)
                  · skip
                    refine T_gf 157 (.int (i32 y76)) rfl rfl rfl rfl rfl rfl ?_
                    refine T_if 187 160 rfl rfl rfl (r32 (by omega) (by omega)) (fun (h361 : y76 ≠ 0) => ?_) (fun (h361 : ¬ (y76 ≠ 0)) => by exfalso; omega)
                    refine T_ld 188 (.ref 189) rfl (fun _ => rfl) ?_
                    refine T_ld 190 (.int (i32 41)) rfl (fun _ => rfl) ?_
                    refine T_call 193 232 [.ref 189, .int (i32 41)] [] rfl (fun _ => rfl) rfl (c_need w (mO m [(7, y73), (8, y74), (9, y75), (10, y76), (11, y77), (12, y78)] [(57, (m.2 57)), (115, F79)]) c N D (by omega) (Ty_mO hT rfl rfl ⟨q83, q84, q85, q86, q87, q88, trivial⟩ ⟨(hT.2.1 57), q89, trivial⟩) 41 ⟨by decide, by decide⟩ (show 1 ≤ (41 : Int) by omega) (show LxP y73 y74 y75 (m.1 6) y76 by first | exact hLx | (intro h9; exfalso; omega) | (intro h9; have h8 := hLx (by omega); omega))) (fun rr362 k363 => ?_)
                    obtain ⟨y364, y366, y368, y370, y372, y374, g365, g367, g369, g371, g373, g375, h376, h377, h378, h379, rfl⟩ := k363
                    refine ⟨_, _, rfl, ?_⟩
                    refine T_nf (st' := []) (l' := [(7, y364), (8, y366), (9, y368), (10, y370), (11, y372), (12, y374)]) (a' := [(57, (m.2 57)), (115, F79)]) rfl rfl rfl rfl rfl ?_
                    replace h376 : LxP y364 y366 y368 (m.1 6) y370 := h376
                    replace h377 : y370 = 0 → y76 = 0 ∧ y73 = (41 : Int) := h377
                    replace h378 : y74 ≤ y366 := h378
                    replace h379 : y370 = 0 → y74 + y75 ≤ y366 := h379
                    have hf380 : 1 ≤ y370 := by omega
                    clear h377
                    clear h379
                    have hLx := h376
                    clear g47 g49 g51 g55 g57 h58 u63 q67a q67b q67 ic68 ic69 q83 q84 q85 q86 q87 q88 ic93 hf359 h361 h378
                    refine T_ld 194 (.ref 189) rfl (fun _ => rfl) ?_
                    refine T_ld 196 (.int (i32 59)) rfl (fun _ => rfl) ?_
                    refine T_call 199 232 [.ref 189, .int (i32 59)] [] rfl (fun _ => rfl) rfl (c_need w (mO m [(7, y364), (8, y366), (9, y368), (10, y370), (11, y372), (12, y374)] [(57, (m.2 57)), (115, F79)]) c N D (by omega) (Ty_mO hT rfl rfl ⟨g365, g367, g369, g371, g373, g375, trivial⟩ ⟨(hT.2.1 57), q89, trivial⟩) 59 ⟨by decide, by decide⟩ (show 1 ≤ (59 : Int) by omega) (show LxP y364 y366 y368 (m.1 6) y370 by first | exact hLx | (intro h9; exfalso; omega) | (intro h9; have h8 := hLx (by omega); omega))) (fun rr381 k382 => ?_)
                    obtain ⟨y383, y385, y387, y389, y391, y393, g384, g386, g388, g390, g392, g394, h395, h396, h397, h398, rfl⟩ := k382
                    refine ⟨_, _, rfl, ?_⟩
                    refine T_nf (st' := []) (l' := [(7, y383), (8, y385), (9, y387), (10, y389), (11, y391), (12, y393)]) (a' := [(57, (m.2 57)), (115, F79)]) rfl rfl rfl rfl rfl ?_
                    replace h395 : LxP y383 y385 y387 (m.1 6) y389 := h395
                    replace h396 : y389 = 0 → y370 = 0 ∧ y364 = (59 : Int) := h396
                    replace h397 : y366 ≤ y385 := h397
                    replace h398 : y389 = 0 → y366 + y368 ≤ y385 := h398
                    have hf399 : 1 ≤ y389 := by omega
                    clear h396
                    clear h398
                    have hLx := h395
                    clear g365 g367 g369 g371 g373 g375 hf380 h376 h397
                    refine T_gf 203 (.ref 227) rfl rfl rfl rfl rfl rfl ?_
                    refine T_ld 204 (.int (i32 t)) rfl (fun _ => rfl) ?_
                    refine T_ld 205 (.int (i32 oo)) rfl (fun _ => rfl) ?_
                    have G400 : ∀ j, 0 ≤ (upI (m.2 57) t oo) j ∧ (upI (m.2 57) t oo) j ≤ 15 := upI_rg (hT.2.1 57) ⟨by omega, by omega⟩
                    refine T_iast (a' := [(57, upI (m.2 57) t oo), (115, F79)]) 206 57 (m.2 57) rfl rfl rfl (by omega) (show t < (8 : Int) by omega) rfl rfl ?_
                    refine T_ret rfl (fun _ => rfl) ?_
                    exact ⟨y383, y385, y387, y389, y391, y393, upI (m.2 57) t oo, F79, g384, g386, g388, g390, g392, g394, G400, q89, (by omega), (by first | (first | exact hLx | (intro h9; exfalso; omega)) | (exfalso; omega)), (fun h => absurd h (by omega)), rfl⟩
                  · skip
                    refine T_gf 60 (.int (i32 y76)) rfl rfl rfl rfl rfl rfl ?_
                    refine T_if 153 63 rfl rfl rfl (r32 (by omega) (by omega)) (fun (h401 : y76 ≠ 0) => ?_) (fun (h401 : ¬ (y76 ≠ 0)) => by exfalso; omega)
                    refine T_gf 157 (.int (i32 y76)) rfl rfl rfl rfl rfl rfl ?_
                    refine T_if 187 160 rfl rfl rfl (r32 (by omega) (by omega)) (fun (h402 : y76 ≠ 0) => ?_) (fun (h402 : ¬ (y76 ≠ 0)) => by exfalso; omega)
                    refine T_ld 188 (.ref 189) rfl (fun _ => rfl) ?_
                    refine T_ld 190 (.int (i32 41)) rfl (fun _ => rfl) ?_
                    refine T_call 193 232 [.ref 189, .int (i32 41)] [] rfl (fun _ => rfl) rfl (c_need w (mO m [(7, y73), (8, y74), (9, y75), (10, y76), (11, y77), (12, y78)] [(57, (m.2 57)), (115, F79)]) c N D (by omega) (Ty_mO hT rfl rfl ⟨q83, q84, q85, q86, q87, q88, trivial⟩ ⟨(hT.2.1 57), q89, trivial⟩) 41 ⟨by decide, by decide⟩ (show 1 ≤ (41 : Int) by omega) (show LxP y73 y74 y75 (m.1 6) y76 by first | exact hLx | (intro h9; exfalso; omega) | (intro h9; have h8 := hLx (by omega); omega))) (fun rr403 k404 => ?_)
                    obtain ⟨y405, y407, y409, y411, y413, y415, g406, g408, g410, g412, g414, g416, h417, h418, h419, h420, rfl⟩ := k404
                    refine ⟨_, _, rfl, ?_⟩
                    refine T_nf (st' := []) (l' := [(7, y405), (8, y407), (9, y409), (10, y411), (11, y413), (12, y415)]) (a' := [(57, (m.2 57)), (115, F79)]) rfl rfl rfl rfl rfl ?_
                    replace h417 : LxP y405 y407 y409 (m.1 6) y411 := h417
                    replace h418 : y411 = 0 → y76 = 0 ∧ y73 = (41 : Int) := h418
                    replace h419 : y74 ≤ y407 := h419
                    replace h420 : y411 = 0 → y74 + y75 ≤ y407 := h420
                    have hf421 : 1 ≤ y411 := by omega
                    clear h418
                    clear h420
                    have hLx := h417
                    clear g47 g49 g51 g55 g57 h58 u63 q67a q67b q67 ic68 ic69 q83 q84 q85 q86 q87 q88 ic93 hf359 h401 h402 h419
                    refine T_ld 194 (.ref 189) rfl (fun _ => rfl) ?_
                    refine T_ld 196 (.int (i32 59)) rfl (fun _ => rfl) ?_
                    refine T_call 199 232 [.ref 189, .int (i32 59)] [] rfl (fun _ => rfl) rfl (c_need w (mO m [(7, y405), (8, y407), (9, y409), (10, y411), (11, y413), (12, y415)] [(57, (m.2 57)), (115, F79)]) c N D (by omega) (Ty_mO hT rfl rfl ⟨g406, g408, g410, g412, g414, g416, trivial⟩ ⟨(hT.2.1 57), q89, trivial⟩) 59 ⟨by decide, by decide⟩ (show 1 ≤ (59 : Int) by omega) (show LxP y405 y407 y409 (m.1 6) y411 by first | exact hLx | (intro h9; exfalso; omega) | (intro h9; have h8 := hLx (by omega); omega))) (fun rr422 k423 => ?_)
                    obtain ⟨y424, y426, y428, y430, y432, y434, g425, g427, g429, g431, g433, g435, h436, h437, h438, h439, rfl⟩ := k423
                    refine ⟨_, _, rfl, ?_⟩
                    refine T_nf (st' := []) (l' := [(7, y424), (8, y426), (9, y428), (10, y430), (11, y432), (12, y434)]) (a' := [(57, (m.2 57)), (115, F79)]) rfl rfl rfl rfl rfl ?_
                    replace h436 : LxP y424 y426 y428 (m.1 6) y430 := h436
                    replace h437 : y430 = 0 → y411 = 0 ∧ y405 = (59 : Int) := h437
                    replace h438 : y407 ≤ y426 := h438
                    replace h439 : y430 = 0 → y407 + y409 ≤ y426 := h439
                    have hf440 : 1 ≤ y430 := by omega
                    clear h437
                    clear h439
                    have hLx := h436
                    clear g406 g408 g410 g412 g414 g416 hf421 h417 h438
                    refine T_gf 203 (.ref 227) rfl rfl rfl rfl rfl rfl ?_
                    refine T_ld 204 (.int (i32 t)) rfl (fun _ => rfl) ?_
                    refine T_ld 205 (.int (i32 oo)) rfl (fun _ => rfl) ?_
                    have G441 : ∀ j, 0 ≤ (upI (m.2 57) t oo) j ∧ (upI (m.2 57) t oo) j ≤ 15 := upI_rg (hT.2.1 57) ⟨by omega, by omega⟩
                    refine T_iast (a' := [(57, upI (m.2 57) t oo), (115, F79)]) 206 57 (m.2 57) rfl rfl rfl (by omega) (show t < (8 : Int) by omega) rfl rfl ?_
                    refine T_ret rfl (fun _ => rfl) ?_
                    exact ⟨y424, y426, y428, y430, y432, y434, upI (m.2 57) t oo, F79, g425, g427, g429, g431, g433, g435, G441, q89, (by omega), (by first | (first | exact hLx | (intro h9; exfalso; omega)) | (exfalso; omega)), (fun h => absurd h (by omega)), rfl⟩
            refine Tm_lv (a := [(0, .ref 189), (1, .int (i32 t)), (2, .int (i32 y5)), (3, .int (i32 oo)), (4, .int (i32 0)), (5, .int (i32 s65))]) rfl rfl ⟨rfl, rfl, rfl, rfl, rfl, rfl, trivial⟩ ?_
            exact L51_80 ((1000000 * (8 - (0 : Int)) + 2 * (4000 - y48) + s65 : Int) + 1).toNat 0 s65 y46 y48 y50 0 y54 y56 (m.2 115) ⟨by decide, by decide⟩ (r32 (by omega) (by omega)) g47 g49 g51 ⟨by omega, by omega⟩ g55 g57 (hT.2.1 115) (by omega) (by omega) (by omega) (by exact hLx) (by omega) (by omega) (fun _ => ⟨(by omega), (by omega)⟩) (by omega)
          refine T_icmp 48 44 rfl rfl rfl (r32 (by omega) (by omega)) ⟨by decide, by decide⟩ (fun (h442 : y46 = 41) => ?_) (fun (h442 : ¬ (y46 = 41)) => ?_)
          · skip
            refine T_ld 49 (.int (i32 0)) rfl (fun _ => rfl) ?_
            refine Tm_lv (a := [(0, .ref 189), (1, .int (i32 t)), (2, .int (i32 y5)), (3, .int (i32 oo)), (4, .int (i32 0))]) rfl rfl ⟨rfl, rfl, rfl, rfl, rfl, trivial⟩ ?_
            exact J49_66 0 ⟨by decide, by decide⟩ (by omega) (by omega)
          · skip
            refine T_ld 45 (.int (i32 1)) rfl (fun _ => rfl) ?_
            refine T_goto 49 rfl (fun _ => rfl) ?_
            refine Tm_lv (a := [(0, .ref 189), (1, .int (i32 t)), (2, .int (i32 y5)), (3, .int (i32 oo)), (4, .int (i32 0))]) rfl rfl ⟨rfl, rfl, rfl, rfl, rfl, trivial⟩ ?_
            exact J49_66 1 ⟨by decide, by decide⟩ (by omega) (by omega)
        · skip
          replace h58 : LxP y46 y48 y50 (m.1 6) y52 := h58
          have hLx := h58
          clear h59
          replace h60 : y25 ≤ y48 := h60
          clear h61
          have hf443 : 1 ≤ y52 := by omega
          clear g24 g26 g28 g32 g34 h36 h37 u43 h60
          refine T_ld 26 (.int (i32 0)) rfl (fun _ => rfl) ?_
          refine T_sto 28 [(4, .int (i32 0)), (3, .int (i32 oo)), (2, .int (i32 y5)), (0, .ref 189), (1, .int (i32 t))] rfl (fun _ => rfl) ?_
          refine T_gf 32 (.int (i32 y52)) rfl rfl rfl rfl rfl rfl ?_
          refine T_if 48 35 rfl rfl rfl (r32 (by omega) (by omega)) (fun (h444 : y52 ≠ 0) => ?_) (fun (h444 : ¬ (y52 ≠ 0)) => by exfalso; omega)
          refine T_ld 49 (.int (i32 0)) rfl (fun _ => rfl) ?_
          refine T_sto 51 [(5, .int (i32 0)), (4, .int (i32 0)), (3, .int (i32 oo)), (2, .int (i32 y5)), (0, .ref 189), (1, .int (i32 t))] rfl (fun _ => rfl) ?_
          refine T_ld 53 (.int (i32 0)) rfl (fun _ => rfl) ?_
          refine T_if 153 56 rfl rfl rfl ⟨by decide, by decide⟩ (fun _ => ?_) (fun h445 => absurd (show (0 : Int) = 0 by decide) h445)
          refine T_gf 157 (.int (i32 y52)) rfl rfl rfl rfl rfl rfl ?_
          refine T_if 187 160 rfl rfl rfl (r32 (by omega) (by omega)) (fun (h446 : y52 ≠ 0) => ?_) (fun (h446 : ¬ (y52 ≠ 0)) => by exfalso; omega)
          refine T_ld 188 (.ref 189) rfl (fun _ => rfl) ?_
          refine T_ld 190 (.int (i32 41)) rfl (fun _ => rfl) ?_
          refine T_call 193 232 [.ref 189, .int (i32 41)] [] rfl (fun _ => rfl) rfl (c_need w (mO m [(7, y46), (8, y48), (9, y50), (10, y52), (11, y54), (12, y56)] [(57, (m.2 57)), (115, (m.2 115))]) c N D (by omega) (Ty_mO hT rfl rfl ⟨g47, g49, g51, g53, g55, g57, trivial⟩ ⟨(hT.2.1 57), (hT.2.1 115), trivial⟩) 41 ⟨by decide, by decide⟩ (show 1 ≤ (41 : Int) by omega) (show LxP y46 y48 y50 (m.1 6) y52 by first | exact hLx | (intro h9; exfalso; omega) | (intro h9; have h8 := hLx (by omega); omega))) (fun rr447 k448 => ?_)
          obtain ⟨y449, y451, y453, y455, y457, y459, g450, g452, g454, g456, g458, g460, h461, h462, h463, h464, rfl⟩ := k448
          refine ⟨_, _, rfl, ?_⟩
          refine T_nf (st' := []) (l' := [(7, y449), (8, y451), (9, y453), (10, y455), (11, y457), (12, y459)]) (a' := [(57, (m.2 57)), (115, (m.2 115))]) rfl rfl rfl rfl rfl ?_
          replace h461 : LxP y449 y451 y453 (m.1 6) y455 := h461
          replace h462 : y455 = 0 → y52 = 0 ∧ y46 = (41 : Int) := h462
          replace h463 : y48 ≤ y451 := h463
          replace h464 : y455 = 0 → y48 + y50 ≤ y451 := h464
          have hf465 : 1 ≤ y455 := by omega
          clear h462
          clear h464
          have hLx := h461
          clear g47 g49 g51 g53 g55 g57 h58 hf443 h444 h446 h463
          refine T_ld 194 (.ref 189) rfl (fun _ => rfl) ?_
          refine T_ld 196 (.int (i32 59)) rfl (fun _ => rfl) ?_
          refine T_call 199 232 [.ref 189, .int (i32 59)] [] rfl (fun _ => rfl) rfl (c_need w (mO m [(7, y449), (8, y451), (9, y453), (10, y455), (11, y457), (12, y459)] [(57, (m.2 57)), (115, (m.2 115))]) c N D (by omega) (Ty_mO hT rfl rfl ⟨g450, g452, g454, g456, g458, g460, trivial⟩ ⟨(hT.2.1 57), (hT.2.1 115), trivial⟩) 59 ⟨by decide, by decide⟩ (show 1 ≤ (59 : Int) by omega) (show LxP y449 y451 y453 (m.1 6) y455 by first | exact hLx | (intro h9; exfalso; omega) | (intro h9; have h8 := hLx (by omega); omega))) (fun rr466 k467 => ?_)
          obtain ⟨y468, y470, y472, y474, y476, y478, g469, g471, g473, g475, g477, g479, h480, h481, h482, h483, rfl⟩ := k467
          refine ⟨_, _, rfl, ?_⟩
          refine T_nf (st' := []) (l' := [(7, y468), (8, y470), (9, y472), (10, y474), (11, y476), (12, y478)]) (a' := [(57, (m.2 57)), (115, (m.2 115))]) rfl rfl rfl rfl rfl ?_
          replace h480 : LxP y468 y470 y472 (m.1 6) y474 := h480
          replace h481 : y474 = 0 → y455 = 0 ∧ y449 = (59 : Int) := h481
          replace h482 : y451 ≤ y470 := h482
          replace h483 : y474 = 0 → y451 + y453 ≤ y470 := h483
          have hf484 : 1 ≤ y474 := by omega
          clear h481
          clear h483
          have hLx := h480
          clear g450 g452 g454 g456 g458 g460 hf465 h461 h482
          refine T_gf 203 (.ref 227) rfl rfl rfl rfl rfl rfl ?_
          refine T_ld 204 (.int (i32 t)) rfl (fun _ => rfl) ?_
          refine T_ld 205 (.int (i32 oo)) rfl (fun _ => rfl) ?_
          have G485 : ∀ j, 0 ≤ (upI (m.2 57) t oo) j ∧ (upI (m.2 57) t oo) j ≤ 15 := upI_rg (hT.2.1 57) ⟨by omega, by omega⟩
          refine T_iast (a' := [(57, upI (m.2 57) t oo), (115, (m.2 115))]) 206 57 (m.2 57) rfl rfl rfl (by omega) (show t < (8 : Int) by omega) rfl rfl ?_
          refine T_ret rfl (fun _ => rfl) ?_
          exact ⟨y468, y470, y472, y474, y476, y478, upI (m.2 57) t oo, (m.2 115), g469, g471, g473, g475, g477, g479, G485, (hT.2.1 115), (by omega), (by first | (first | exact hLx | (intro h9; exfalso; omega)) | (exfalso; omega)), (fun h => absurd h (by omega)), rfl⟩
      · skip
        replace h36 : LxP y23 y25 y27 (m.1 6) y29 := h36
        have hLx := h36
        replace h37 : y5 ≤ y25 := h37
        clear h38
        clear h39
        replace h40 : 0 ≤ oo ∧ (oo < (m.1 25) ∨ oo = 0) := h40
        clear h41
        have hf486 : 1 ≤ y29 := by omega
        clear g4 g8 g12 g14 h15
        refine T_sto 19 [(3, .int (i32 oo)), (2, .int (i32 y5)), (0, .ref 189), (1, .int (i32 t))] rfl (fun _ => rfl) ?_
        refine T_ld 20 (.ref 189) rfl (fun _ => rfl) ?_
        refine T_ld 22 (.int (i32 40)) rfl (fun _ => rfl) ?_
        refine T_call 25 232 [.ref 189, .int (i32 40)] [] rfl (fun _ => rfl) rfl (c_need w (mO m [(7, y23), (8, y25), (9, y27), (10, y29), (11, y31), (12, y33)] [(57, (m.2 57)), (115, (m.2 115))]) c N D (by omega) (Ty_mO hT rfl rfl ⟨g24, g26, g28, g30, g32, g34, trivial⟩ ⟨(hT.2.1 57), (hT.2.1 115), trivial⟩) 40 ⟨by decide, by decide⟩ (show 1 ≤ (40 : Int) by omega) (show LxP y23 y25 y27 (m.1 6) y29 by first | exact hLx | (intro h9; exfalso; omega) | (intro h9; have h8 := hLx (by omega); omega))) (fun rr487 k488 => ?_)
        obtain ⟨y489, y491, y493, y495, y497, y499, g490, g492, g494, g496, g498, g500, h501, h502, h503, h504, rfl⟩ := k488
        refine ⟨_, _, rfl, ?_⟩
        refine T_nf (st' := []) (l' := [(7, y489), (8, y491), (9, y493), (10, y495), (11, y497), (12, y499)]) (a' := [(57, (m.2 57)), (115, (m.2 115))]) rfl rfl rfl rfl rfl ?_
        replace h501 : LxP y489 y491 y493 (m.1 6) y495 := h501
        replace h502 : y495 = 0 → y29 = 0 ∧ y23 = (40 : Int) := h502
        replace h503 : y25 ≤ y491 := h503
        replace h504 : y495 = 0 → y25 + y27 ≤ y491 := h504
        have hf505 : 1 ≤ y495 := by omega
        clear h502
        clear h504
        have hLx := h501
        clear g24 g26 g28 g30 g32 g34 h36 h37 hf486 h503
        refine T_ld 26 (.int (i32 0)) rfl (fun _ => rfl) ?_
        refine T_sto 28 [(4, .int (i32 0)), (3, .int (i32 oo)), (2, .int (i32 y5)), (0, .ref 189), (1, .int (i32 t))] rfl (fun _ => rfl) ?_
        refine T_gf 32 (.int (i32 y495)) rfl rfl rfl rfl rfl rfl ?_
        refine T_if 48 35 rfl rfl rfl (r32 (by omega) (by omega)) (fun (h506 : y495 ≠ 0) => ?_) (fun (h506 : ¬ (y495 ≠ 0)) => by exfalso; omega)
        refine T_ld 49 (.int (i32 0)) rfl (fun _ => rfl) ?_
        refine T_sto 51 [(5, .int (i32 0)), (4, .int (i32 0)), (3, .int (i32 oo)), (2, .int (i32 y5)), (0, .ref 189), (1, .int (i32 t))] rfl (fun _ => rfl) ?_
        refine T_ld 53 (.int (i32 0)) rfl (fun _ => rfl) ?_
        refine T_if 153 56 rfl rfl rfl ⟨by decide, by decide⟩ (fun _ => ?_) (fun h507 => absurd (show (0 : Int) = 0 by decide) h507)
        refine T_gf 157 (.int (i32 y495)) rfl rfl rfl rfl rfl rfl ?_
        refine T_if 187 160 rfl rfl rfl (r32 (by omega) (by omega)) (fun (h508 : y495 ≠ 0) => ?_) (fun (h508 : ¬ (y495 ≠ 0)) => by exfalso; omega)
        refine T_ld 188 (.ref 189) rfl (fun _ => rfl) ?_
        refine T_ld 190 (.int (i32 41)) rfl (fun _ => rfl) ?_
        refine T_call 193 232 [.ref 189, .int (i32 41)] [] rfl (fun _ => rfl) rfl (c_need w (mO m [(7, y489), (8, y491), (9, y493), (10, y495), (11, y497), (12, y499)] [(57, (m.2 57)), (115, (m.2 115))]) c N D (by omega) (Ty_mO hT rfl rfl ⟨g490, g492, g494, g496, g498, g500, trivial⟩ ⟨(hT.2.1 57), (hT.2.1 115), trivial⟩) 41 ⟨by decide, by decide⟩ (show 1 ≤ (41 : Int) by omega) (show LxP y489 y491 y493 (m.1 6) y495 by first | exact hLx | (intro h9; exfalso; omega) | (intro h9; have h8 := hLx (by omega); omega))) (fun rr509 k510 => ?_)
        obtain ⟨y511, y513, y515, y517, y519, y521, g512, g514, g516, g518, g520, g522, h523, h524, h525, h526, rfl⟩ := k510
        refine ⟨_, _, rfl, ?_⟩
        refine T_nf (st' := []) (l' := [(7, y511), (8, y513), (9, y515), (10, y517), (11, y519), (12, y521)]) (a' := [(57, (m.2 57)), (115, (m.2 115))]) rfl rfl rfl rfl rfl ?_
        replace h523 : LxP y511 y513 y515 (m.1 6) y517 := h523
        replace h524 : y517 = 0 → y495 = 0 ∧ y489 = (41 : Int) := h524
        replace h525 : y491 ≤ y513 := h525
        replace h526 : y517 = 0 → y491 + y493 ≤ y513 := h526
        have hf527 : 1 ≤ y517 := by omega
        clear h524
        clear h526
        have hLx := h523
        clear g490 g492 g494 g496 g498 g500 hf505 h501 h506 h508 h525
        refine T_ld 194 (.ref 189) rfl (fun _ => rfl) ?_
        refine T_ld 196 (.int (i32 59)) rfl (fun _ => rfl) ?_
        refine T_call 199 232 [.ref 189, .int (i32 59)] [] rfl (fun _ => rfl) rfl (c_need w (mO m [(7, y511), (8, y513), (9, y515), (10, y517), (11, y519), (12, y521)] [(57, (m.2 57)), (115, (m.2 115))]) c N D (by omega) (Ty_mO hT rfl rfl ⟨g512, g514, g516, g518, g520, g522, trivial⟩ ⟨(hT.2.1 57), (hT.2.1 115), trivial⟩) 59 ⟨by decide, by decide⟩ (show 1 ≤ (59 : Int) by omega) (show LxP y511 y513 y515 (m.1 6) y517 by first | exact hLx | (intro h9; exfalso; omega) | (intro h9; have h8 := hLx (by omega); omega))) (fun rr528 k529 => ?_)
        obtain ⟨y530, y532, y534, y536, y538, y540, g531, g533, g535, g537, g539, g541, h542, h543, h544, h545, rfl⟩ := k529
        refine ⟨_, _, rfl, ?_⟩
        refine T_nf (st' := []) (l' := [(7, y530), (8, y532), (9, y534), (10, y536), (11, y538), (12, y540)]) (a' := [(57, (m.2 57)), (115, (m.2 115))]) rfl rfl rfl rfl rfl ?_
        replace h542 : LxP y530 y532 y534 (m.1 6) y536 := h542
        replace h543 : y536 = 0 → y517 = 0 ∧ y511 = (59 : Int) := h543
        replace h544 : y513 ≤ y532 := h544
        replace h545 : y536 = 0 → y513 + y515 ≤ y532 := h545
        have hf546 : 1 ≤ y536 := by omega
        clear h543
        clear h545
        have hLx := h542
        clear g512 g514 g516 g518 g520 g522 hf527 h523 h544
        refine T_gf 203 (.ref 227) rfl rfl rfl rfl rfl rfl ?_
        refine T_ld 204 (.int (i32 t)) rfl (fun _ => rfl) ?_
        refine T_ld 205 (.int (i32 oo)) rfl (fun _ => rfl) ?_
        have G547 : ∀ j, 0 ≤ (upI (m.2 57) t oo) j ∧ (upI (m.2 57) t oo) j ≤ 15 := upI_rg (hT.2.1 57) ⟨by omega, by omega⟩
        refine T_iast (a' := [(57, upI (m.2 57) t oo), (115, (m.2 115))]) 206 57 (m.2 57) rfl rfl rfl (by omega) (show t < (8 : Int) by omega) rfl rfl ?_
        refine T_ret rfl (fun _ => rfl) ?_
        exact ⟨y530, y532, y534, y536, y538, y540, upI (m.2 57) t oo, (m.2 115), g531, g533, g535, g537, g539, g541, G547, (hT.2.1 115), (by omega), (by first | (first | exact hLx | (intro h9; exfalso; omega)) | (exfalso; omega)), (fun h => absurd h (by omega)), rfl⟩
    · skip
      replace h15 : LxP y3 y5 y7 (m.1 6) y9 := h15
      have hLx := h15
      clear h16
      replace h17 : (m.1 8) ≤ y5 := h17
      clear h18
      have hf548 : 1 ≤ y9 := by omega
      refine T_gf 11 (.int (i32 y5)) rfl rfl rfl rfl rfl rfl ?_
      refine T_sto 12 [(2, .int (i32 y5)), (0, .ref 189), (1, .int (i32 t))] rfl (fun _ => rfl) ?_
      refine T_ld 13 (.ref 189) rfl (fun _ => rfl) ?_
      refine T_ld 15 (.int (i32 6)) rfl (fun _ => rfl) ?_
      refine T_call 18 236 [.ref 189, .int (i32 6)] [] rfl (fun _ => rfl) rfl (c_oldName w (mO m [(7, y3), (8, y5), (9, y7), (10, y9), (11, y11), (12, y13)] [(57, (m.2 57)), (115, (m.2 115))]) c N D (by omega) (Ty_mO hT rfl rfl ⟨g4, g6, g8, g10, g12, g14, trivial⟩ ⟨(hT.2.1 57), (hT.2.1 115), trivial⟩) 6 (m.1 25) ⟨by decide, by decide⟩ (show LxP y3 y5 y7 (m.1 6) y9 by first | exact hLx | (intro h9; exfalso; omega) | (intro h9; have h8 := hLx (by omega); omega)) (show ∀ k, (m.2 14) k + (m.2 15) k ≤ 4000 by first | exact p1 | exact hNM) (show 1 ≤ (6 : Int) ∧ (6 : Int) ≤ 7 ∧ (6 : Int) ≠ 5 by omega) (show (m.1 25) ≤ 16 by omega) (show y9 = 0 → ∀ k, 0 ≤ k → k < (m.1 13) → (m.2 16) k = (6 : Int) → 0 ≤ (m.2 17) k ∧ (m.2 17) k < (m.1 25) by first | exact hOL | (intro h; exfalso; omega)) (show (6 : Int) = 3 → 3 ≤ (m.1 25) by omega)) (fun rr549 k550 => ?_)
      obtain ⟨y551, y553, y555, y557, y559, y561, oo, g552, g554, g556, g558, g560, g562, g563, h564, h565, h566, h567, h568, h569, rfl⟩ := k550
      refine ⟨_, _, rfl, ?_⟩
      refine T_nf (st' := [.int (i32 oo)]) (l' := [(7, y551), (8, y553), (9, y555), (10, y557), (11, y559), (12, y561)]) (a' := [(57, (m.2 57)), (115, (m.2 115))]) rfl rfl rfl rfl rfl ?_
      obtain ⟨g563a, g563b⟩ := g563
      replace h564 : LxP y551 y553 y555 (m.1 6) y557 := h564
      replace h565 : y5 ≤ y553 := h565
      replace h566 : y557 = 0 → y9 = 0 ∧ y5 + y7 ≤ y553 := h566
      replace h567 : y557 = 0 → y3 = 1 := h567
      replace h568 : 0 ≤ oo ∧ (oo < (m.1 25) ∨ oo = 0) := h568
      replace h569 : y557 = 0 → oo < (m.1 25) := h569
      have hf570 : 1 ≤ y557 := by omega
      clear h566
      clear h567
      clear h569
      have hLx := h564
      clear g4 g8 g10 g12 g14 h15 hf548
      refine T_sto 19 [(3, .int (i32 oo)), (2, .int (i32 y5)), (0, .ref 189), (1, .int (i32 t))] rfl (fun _ => rfl) ?_
      refine T_ld 20 (.ref 189) rfl (fun _ => rfl) ?_
      refine T_ld 22 (.int (i32 40)) rfl (fun _ => rfl) ?_
      refine T_call 25 232 [.ref 189, .int (i32 40)] [] rfl (fun _ => rfl) rfl (c_need w (mO m [(7, y551), (8, y553), (9, y555), (10, y557), (11, y559), (12, y561)] [(57, (m.2 57)), (115, (m.2 115))]) c N D (by omega) (Ty_mO hT rfl rfl ⟨g552, g554, g556, g558, g560, g562, trivial⟩ ⟨(hT.2.1 57), (hT.2.1 115), trivial⟩) 40 ⟨by decide, by decide⟩ (show 1 ≤ (40 : Int) by omega) (show LxP y551 y553 y555 (m.1 6) y557 by first | exact hLx | (intro h9; exfalso; omega) | (intro h9; have h8 := hLx (by omega); omega))) (fun rr571 k572 => ?_)
      obtain ⟨y573, y575, y577, y579, y581, y583, g574, g576, g578, g580, g582, g584, h585, h586, h587, h588, rfl⟩ := k572
      refine ⟨_, _, rfl, ?_⟩
      refine T_nf (st' := []) (l' := [(7, y573), (8, y575), (9, y577), (10, y579), (11, y581), (12, y583)]) (a' := [(57, (m.2 57)), (115, (m.2 115))]) rfl rfl rfl rfl rfl ?_
      replace h585 : LxP y573 y575 y577 (m.1 6) y579 := h585
      replace h586 : y579 = 0 → y557 = 0 ∧ y551 = (40 : Int) := h586
      replace h587 : y553 ≤ y575 := h587
      replace h588 : y579 = 0 → y553 + y555 ≤ y575 := h588
      have hf589 : 1 ≤ y579 := by omega
      clear h586
      clear h588
      have hLx := h585
      clear g552 g554 g556 g558 g560 g562 hf570 h564 h565 h587
      refine T_ld 26 (.int (i32 0)) rfl (fun _ => rfl) ?_
      refine T_sto 28 [(4, .int (i32 0)), (3, .int (i32 oo)), (2, .int (i32 y5)), (0, .ref 189), (1, .int (i32 t))] rfl (fun _ => rfl) ?_
      refine T_gf 32 (.int (i32 y579)) rfl rfl rfl rfl rfl rfl ?_
      refine T_if 48 35 rfl rfl rfl (r32 (by omega) (by omega)) (fun (h590 : y579 ≠ 0) => ?_) (fun (h590 : ¬ (y579 ≠ 0)) => by exfalso; omega)
      refine T_ld 49 (.int (i32 0)) rfl (fun _ => rfl) ?_
      refine T_sto 51 [(5, .int (i32 0)), (4, .int (i32 0)), (3, .int (i32 oo)), (2, .int (i32 y5)), (0, .ref 189), (1, .int (i32 t))] rfl (fun _ => rfl) ?_
      refine T_ld 53 (.int (i32 0)) rfl (fun _ => rfl) ?_
      refine T_if 153 56 rfl rfl rfl ⟨by decide, by decide⟩ (fun _ => ?_) (fun h591 => absurd (show (0 : Int) = 0 by decide) h591)
      refine T_gf 157 (.int (i32 y579)) rfl rfl rfl rfl rfl rfl ?_
      refine T_if 187 160 rfl rfl rfl (r32 (by omega) (by omega)) (fun (h592 : y579 ≠ 0) => ?_) (fun (h592 : ¬ (y579 ≠ 0)) => by exfalso; omega)
      refine T_ld 188 (.ref 189) rfl (fun _ => rfl) ?_
      refine T_ld 190 (.int (i32 41)) rfl (fun _ => rfl) ?_
      refine T_call 193 232 [.ref 189, .int (i32 41)] [] rfl (fun _ => rfl) rfl (c_need w (mO m [(7, y573), (8, y575), (9, y577), (10, y579), (11, y581), (12, y583)] [(57, (m.2 57)), (115, (m.2 115))]) c N D (by omega) (Ty_mO hT rfl rfl ⟨g574, g576, g578, g580, g582, g584, trivial⟩ ⟨(hT.2.1 57), (hT.2.1 115), trivial⟩) 41 ⟨by decide, by decide⟩ (show 1 ≤ (41 : Int) by omega) (show LxP y573 y575 y577 (m.1 6) y579 by first | exact hLx | (intro h9; exfalso; omega) | (intro h9; have h8 := hLx (by omega); omega))) (fun rr593 k594 => ?_)
      obtain ⟨y595, y597, y599, y601, y603, y605, g596, g598, g600, g602, g604, g606, h607, h608, h609, h610, rfl⟩ := k594
      refine ⟨_, _, rfl, ?_⟩
      refine T_nf (st' := []) (l' := [(7, y595), (8, y597), (9, y599), (10, y601), (11, y603), (12, y605)]) (a' := [(57, (m.2 57)), (115, (m.2 115))]) rfl rfl rfl rfl rfl ?_
      replace h607 : LxP y595 y597 y599 (m.1 6) y601 := h607
      replace h608 : y601 = 0 → y579 = 0 ∧ y573 = (41 : Int) := h608
      replace h609 : y575 ≤ y597 := h609
      replace h610 : y601 = 0 → y575 + y577 ≤ y597 := h610
      have hf611 : 1 ≤ y601 := by omega
      clear h608
      clear h610
      have hLx := h607
      clear g574 g576 g578 g580 g582 g584 hf589 h585 h590 h592 h609
      refine T_ld 194 (.ref 189) rfl (fun _ => rfl) ?_
      refine T_ld 196 (.int (i32 59)) rfl (fun _ => rfl) ?_
      refine T_call 199 232 [.ref 189, .int (i32 59)] [] rfl (fun _ => rfl) rfl (c_need w (mO m [(7, y595), (8, y597), (9, y599), (10, y601), (11, y603), (12, y605)] [(57, (m.2 57)), (115, (m.2 115))]) c N D (by omega) (Ty_mO hT rfl rfl ⟨g596, g598, g600, g602, g604, g606, trivial⟩ ⟨(hT.2.1 57), (hT.2.1 115), trivial⟩) 59 ⟨by decide, by decide⟩ (show 1 ≤ (59 : Int) by omega) (show LxP y595 y597 y599 (m.1 6) y601 by first | exact hLx | (intro h9; exfalso; omega) | (intro h9; have h8 := hLx (by omega); omega))) (fun rr612 k613 => ?_)
      obtain ⟨y614, y616, y618, y620, y622, y624, g615, g617, g619, g621, g623, g625, h626, h627, h628, h629, rfl⟩ := k613
      refine ⟨_, _, rfl, ?_⟩
      refine T_nf (st' := []) (l' := [(7, y614), (8, y616), (9, y618), (10, y620), (11, y622), (12, y624)]) (a' := [(57, (m.2 57)), (115, (m.2 115))]) rfl rfl rfl rfl rfl ?_
      replace h626 : LxP y614 y616 y618 (m.1 6) y620 := h626
      replace h627 : y620 = 0 → y601 = 0 ∧ y595 = (59 : Int) := h627
      replace h628 : y597 ≤ y616 := h628
      replace h629 : y620 = 0 → y597 + y599 ≤ y616 := h629
      have hf630 : 1 ≤ y620 := by omega
      clear h627
      clear h629
      have hLx := h626
      clear g596 g598 g600 g602 g604 g606 hf611 h607 h628
      refine T_gf 203 (.ref 227) rfl rfl rfl rfl rfl rfl ?_
      refine T_ld 204 (.int (i32 t)) rfl (fun _ => rfl) ?_
      refine T_ld 205 (.int (i32 oo)) rfl (fun _ => rfl) ?_
      have G631 : ∀ j, 0 ≤ (upI (m.2 57) t oo) j ∧ (upI (m.2 57) t oo) j ≤ 15 := upI_rg (hT.2.1 57) ⟨by omega, by omega⟩
      refine T_iast (a' := [(57, upI (m.2 57) t oo), (115, (m.2 115))]) 206 57 (m.2 57) rfl rfl rfl (by omega) (show t < (8 : Int) by omega) rfl rfl ?_
      refine T_ret rfl (fun _ => rfl) ?_
      exact ⟨y614, y616, y618, y620, y622, y624, upI (m.2 57) t oo, (m.2 115), g615, g617, g619, g621, g623, g625, G631, (hT.2.1 115), (by omega), (by first | (first | exact hLx | (intro h9; exfalso; omega)) | (exfalso; omega)), (fun h => absurd h (by omega)), rfl⟩
  · skip
    clear hC
    refine T_ld 1 (.ref 189) rfl (fun _ => rfl) ?_
    refine T_ld 4 (.int (i32 308)) rfl (fun _ => rfl) ?_
    refine T_call 7 232 [.ref 189, .int (i32 308)] [] rfl (fun _ => rfl) rfl (c_need w (mO m [(7, (m.1 7)), (8, (m.1 8)), (9, (m.1 9)), (10, (m.1 10)), (11, (m.1 11)), (12, (m.1 12))] [(57, (m.2 57)), (115, (m.2 115))]) c N D (by omega) (Ty_mO hT rfl rfl ⟨f7, f8, f9, f10, f11, f12, trivial⟩ ⟨(hT.2.1 57), (hT.2.1 115), trivial⟩) 308 ⟨by decide, by decide⟩ (show 1 ≤ (308 : Int) by omega) (show LxP (m.1 7) (m.1 8) (m.1 9) (m.1 6) (m.1 10) by first | exact hLx | (intro h9; exfalso; omega) | (intro h9; have h8 := hLx (by omega); omega))) (fun rr632 k633 => ?_)
    obtain ⟨y634, y636, y638, y640, y642, y644, g635, g637, g639, g641, g643, g645, h646, h647, h648, h649, rfl⟩ := k633
    refine ⟨_, _, rfl, ?_⟩
    refine T_nf (st' := []) (l' := [(7, y634), (8, y636), (9, y638), (10, y640), (11, y642), (12, y644)]) (a' := [(57, (m.2 57)), (115, (m.2 115))]) rfl rfl rfl rfl rfl ?_
    replace h646 : LxP y634 y636 y638 (m.1 6) y640 := h646
    replace h647 : y640 = 0 → (m.1 10) = 0 ∧ (m.1 7) = (308 : Int) := h647
    replace h648 : (m.1 8) ≤ y636 := h648
    replace h649 : y640 = 0 → (m.1 8) + (m.1 9) ≤ y636 := h649
    have hf650 : 1 ≤ y640 := by omega
    clear h647
    clear h649
    have hLx := h646
    refine T_gf 11 (.int (i32 y636)) rfl rfl rfl rfl rfl rfl ?_
    refine T_sto 12 [(2, .int (i32 y636)), (0, .ref 189), (1, .int (i32 t))] rfl (fun _ => rfl) ?_
    refine T_ld 13 (.ref 189) rfl (fun _ => rfl) ?_
    refine T_ld 15 (.int (i32 6)) rfl (fun _ => rfl) ?_
    refine T_call 18 236 [.ref 189, .int (i32 6)] [] rfl (fun _ => rfl) rfl (c_oldName w (mO m [(7, y634), (8, y636), (9, y638), (10, y640), (11, y642), (12, y644)] [(57, (m.2 57)), (115, (m.2 115))]) c N D (by omega) (Ty_mO hT rfl rfl ⟨g635, g637, g639, g641, g643, g645, trivial⟩ ⟨(hT.2.1 57), (hT.2.1 115), trivial⟩) 6 (m.1 25) ⟨by decide, by decide⟩ (show LxP y634 y636 y638 (m.1 6) y640 by first | exact hLx | (intro h9; exfalso; omega) | (intro h9; have h8 := hLx (by omega); omega)) (show ∀ k, (m.2 14) k + (m.2 15) k ≤ 4000 by first | exact p1 | exact hNM) (show 1 ≤ (6 : Int) ∧ (6 : Int) ≤ 7 ∧ (6 : Int) ≠ 5 by omega) (show (m.1 25) ≤ 16 by omega) (show y640 = 0 → ∀ k, 0 ≤ k → k < (m.1 13) → (m.2 16) k = (6 : Int) → 0 ≤ (m.2 17) k ∧ (m.2 17) k < (m.1 25) by first | exact hOL | (intro h; exfalso; omega)) (show (6 : Int) = 3 → 3 ≤ (m.1 25) by omega)) (fun rr651 k652 => ?_)
    obtain ⟨y653, y655, y657, y659, y661, y663, oo, g654, g656, g658, g660, g662, g664, g665, h666, h667, h668, h669, h670, h671, rfl⟩ := k652
    refine ⟨_, _, rfl, ?_⟩
    refine T_nf (st' := [.int (i32 oo)]) (l' := [(7, y653), (8, y655), (9, y657), (10, y659), (11, y661), (12, y663)]) (a' := [(57, (m.2 57)), (115, (m.2 115))]) rfl rfl rfl rfl rfl ?_
    obtain ⟨g665a, g665b⟩ := g665
    replace h666 : LxP y653 y655 y657 (m.1 6) y659 := h666
    replace h667 : y636 ≤ y655 := h667
    replace h668 : y659 = 0 → y640 = 0 ∧ y636 + y638 ≤ y655 := h668
    replace h669 : y659 = 0 → y634 = 1 := h669
    replace h670 : 0 ≤ oo ∧ (oo < (m.1 25) ∨ oo = 0) := h670
    replace h671 : y659 = 0 → oo < (m.1 25) := h671
    have hf672 : 1 ≤ y659 := by omega
    clear h668
    clear h669
    clear h671
    have hLx := h666
    clear g635 g639 g641 g643 g645 hf650 h646
    refine T_sto 19 [(3, .int (i32 oo)), (2, .int (i32 y636)), (0, .ref 189), (1, .int (i32 t))] rfl (fun _ => rfl) ?_
    refine T_ld 20 (.ref 189) rfl (fun _ => rfl) ?_
    refine T_ld 22 (.int (i32 40)) rfl (fun _ => rfl) ?_
    refine T_call 25 232 [.ref 189, .int (i32 40)] [] rfl (fun _ => rfl) rfl (c_need w (mO m [(7, y653), (8, y655), (9, y657), (10, y659), (11, y661), (12, y663)] [(57, (m.2 57)), (115, (m.2 115))]) c N D (by omega) (Ty_mO hT rfl rfl ⟨g654, g656, g658, g660, g662, g664, trivial⟩ ⟨(hT.2.1 57), (hT.2.1 115), trivial⟩) 40 ⟨by decide, by decide⟩ (show 1 ≤ (40 : Int) by omega) (show LxP y653 y655 y657 (m.1 6) y659 by first | exact hLx | (intro h9; exfalso; omega) | (intro h9; have h8 := hLx (by omega); omega))) (fun rr673 k674 => ?_)
    obtain ⟨y675, y677, y679, y681, y683, y685, g676, g678, g680, g682, g684, g686, h687, h688, h689, h690, rfl⟩ := k674
    refine ⟨_, _, rfl, ?_⟩
    refine T_nf (st' := []) (l' := [(7, y675), (8, y677), (9, y679), (10, y681), (11, y683), (12, y685)]) (a' := [(57, (m.2 57)), (115, (m.2 115))]) rfl rfl rfl rfl rfl ?_
    replace h687 : LxP y675 y677 y679 (m.1 6) y681 := h687
    replace h688 : y681 = 0 → y659 = 0 ∧ y653 = (40 : Int) := h688
    replace h689 : y655 ≤ y677 := h689
    replace h690 : y681 = 0 → y655 + y657 ≤ y677 := h690
    have hf691 : 1 ≤ y681 := by omega
    clear h688
    clear h690
    have hLx := h687
    clear g654 g656 g658 g660 g662 g664 hf672 h666 h667 h689
    refine T_ld 26 (.int (i32 0)) rfl (fun _ => rfl) ?_
    refine T_sto 28 [(4, .int (i32 0)), (3, .int (i32 oo)), (2, .int (i32 y636)), (0, .ref 189), (1, .int (i32 t))] rfl (fun _ => rfl) ?_
    refine T_gf 32 (.int (i32 y681)) rfl rfl rfl rfl rfl rfl ?_
    refine T_if 48 35 rfl rfl rfl (r32 (by omega) (by omega)) (fun (h692 : y681 ≠ 0) => ?_) (fun (h692 : ¬ (y681 ≠ 0)) => by exfalso; omega)
    refine T_ld 49 (.int (i32 0)) rfl (fun _ => rfl) ?_
    refine T_sto 51 [(5, .int (i32 0)), (4, .int (i32 0)), (3, .int (i32 oo)), (2, .int (i32 y636)), (0, .ref 189), (1, .int (i32 t))] rfl (fun _ => rfl) ?_
    refine T_ld 53 (.int (i32 0)) rfl (fun _ => rfl) ?_
    refine T_if 153 56 rfl rfl rfl ⟨by decide, by decide⟩ (fun _ => ?_) (fun h693 => absurd (show (0 : Int) = 0 by decide) h693)
    refine T_gf 157 (.int (i32 y681)) rfl rfl rfl rfl rfl rfl ?_
    refine T_if 187 160 rfl rfl rfl (r32 (by omega) (by omega)) (fun (h694 : y681 ≠ 0) => ?_) (fun (h694 : ¬ (y681 ≠ 0)) => by exfalso; omega)
    refine T_ld 188 (.ref 189) rfl (fun _ => rfl) ?_
    refine T_ld 190 (.int (i32 41)) rfl (fun _ => rfl) ?_
    refine T_call 193 232 [.ref 189, .int (i32 41)] [] rfl (fun _ => rfl) rfl (c_need w (mO m [(7, y675), (8, y677), (9, y679), (10, y681), (11, y683), (12, y685)] [(57, (m.2 57)), (115, (m.2 115))]) c N D (by omega) (Ty_mO hT rfl rfl ⟨g676, g678, g680, g682, g684, g686, trivial⟩ ⟨(hT.2.1 57), (hT.2.1 115), trivial⟩) 41 ⟨by decide, by decide⟩ (show 1 ≤ (41 : Int) by omega) (show LxP y675 y677 y679 (m.1 6) y681 by first | exact hLx | (intro h9; exfalso; omega) | (intro h9; have h8 := hLx (by omega); omega))) (fun rr695 k696 => ?_)
    obtain ⟨y697, y699, y701, y703, y705, y707, g698, g700, g702, g704, g706, g708, h709, h710, h711, h712, rfl⟩ := k696
    refine ⟨_, _, rfl, ?_⟩
    refine T_nf (st' := []) (l' := [(7, y697), (8, y699), (9, y701), (10, y703), (11, y705), (12, y707)]) (a' := [(57, (m.2 57)), (115, (m.2 115))]) rfl rfl rfl rfl rfl ?_
    replace h709 : LxP y697 y699 y701 (m.1 6) y703 := h709
    replace h710 : y703 = 0 → y681 = 0 ∧ y675 = (41 : Int) := h710
    replace h711 : y677 ≤ y699 := h711
    replace h712 : y703 = 0 → y677 + y679 ≤ y699 := h712
    have hf713 : 1 ≤ y703 := by omega
    clear h710
    clear h712
    have hLx := h709
    clear g676 g678 g680 g682 g684 g686 hf691 h687 h692 h694 h711
    refine T_ld 194 (.ref 189) rfl (fun _ => rfl) ?_
    refine T_ld 196 (.int (i32 59)) rfl (fun _ => rfl) ?_
    refine T_call 199 232 [.ref 189, .int (i32 59)] [] rfl (fun _ => rfl) rfl (c_need w (mO m [(7, y697), (8, y699), (9, y701), (10, y703), (11, y705), (12, y707)] [(57, (m.2 57)), (115, (m.2 115))]) c N D (by omega) (Ty_mO hT rfl rfl ⟨g698, g700, g702, g704, g706, g708, trivial⟩ ⟨(hT.2.1 57), (hT.2.1 115), trivial⟩) 59 ⟨by decide, by decide⟩ (show 1 ≤ (59 : Int) by omega) (show LxP y697 y699 y701 (m.1 6) y703 by first | exact hLx | (intro h9; exfalso; omega) | (intro h9; have h8 := hLx (by omega); omega))) (fun rr714 k715 => ?_)
    obtain ⟨y716, y718, y720, y722, y724, y726, g717, g719, g721, g723, g725, g727, h728, h729, h730, h731, rfl⟩ := k715
    refine ⟨_, _, rfl, ?_⟩
    refine T_nf (st' := []) (l' := [(7, y716), (8, y718), (9, y720), (10, y722), (11, y724), (12, y726)]) (a' := [(57, (m.2 57)), (115, (m.2 115))]) rfl rfl rfl rfl rfl ?_
    replace h728 : LxP y716 y718 y720 (m.1 6) y722 := h728
    replace h729 : y722 = 0 → y703 = 0 ∧ y697 = (59 : Int) := h729
    replace h730 : y699 ≤ y718 := h730
    replace h731 : y722 = 0 → y699 + y701 ≤ y718 := h731
    have hf732 : 1 ≤ y722 := by omega
    clear h729
    clear h731
    have hLx := h728
    clear g698 g700 g702 g704 g706 g708 hf713 h709 h730
    refine T_gf 203 (.ref 227) rfl rfl rfl rfl rfl rfl ?_
    refine T_ld 204 (.int (i32 t)) rfl (fun _ => rfl) ?_
    refine T_ld 205 (.int (i32 oo)) rfl (fun _ => rfl) ?_
    have G733 : ∀ j, 0 ≤ (upI (m.2 57) t oo) j ∧ (upI (m.2 57) t oo) j ≤ 15 := upI_rg (hT.2.1 57) ⟨by omega, by omega⟩
    refine T_iast (a' := [(57, upI (m.2 57) t oo), (115, (m.2 115))]) 206 57 (m.2 57) rfl rfl rfl (by omega) (show t < (8 : Int) by omega) rfl rfl ?_
    refine T_ret rfl (fun _ => rfl) ?_
    exact ⟨y716, y718, y720, y722, y724, y726, upI (m.2 57) t oo, (m.2 115), g717, g719, g721, g723, g725, g727, G733, (hT.2.1 115), (by omega), (by first | (first | exact hLx | (intro h9; exfalso; omega)) | (exfalso; omega)), (fun h => absurd h (by omega)), rfl⟩
def Q_takeRoom (m : mR) (c : Nat → Option am_C) (N : Nat) (t : Int) : ag_Re af_T → Prop := fun R => ∃ (y7 : Int) (y8 : Int) (y9 : Int) (y10 : Int) (y11 : Int) (y12 : Int) (F54 : Int → Int) (F55 : Int → Int) (F56 : Int → Int), (0 ≤ y7 ∧ y7 ≤ 330) ∧ (0 ≤ y8 ∧ y8 ≤ 4000) ∧ (0 ≤ y9 ∧ y9 ≤ 4000) ∧ (0 ≤ y10 ∧ y10 ≤ 8) ∧ ((-1) ≤ y11 ∧ y11 ≤ 4000) ∧ ((-9223372036854775808) ≤ y12 ∧ y12 ≤ 9223372036854775807) ∧ (∀ j, 0 ≤ F54 j ∧ F54 j ≤ 32) ∧ (∀ j, 0 ≤ F55 j ∧ F55 j ≤ 4) ∧ (∀ j, 0 ≤ F56 j ∧ F56 j ≤ 8) ∧ (y10 = 0 → (m.1 10) = 0) ∧ (LxP y7 y8 y9 (m.1 6) y10) ∧ (y10 = 0 → ((m.1 8) + 1 ≤ y8) ∧ (1 ≤ F54 t) ∧ ((m.2 58) t = 1 → F54 t ≤ 16) ∧ (agr (m.2 54) F54 t)) ∧ R = (.inl (none), (mhp (mO m [(7, y7), (8, y8), (9, y9), (10, y10), (11, y11), (12, y12)] [(54, F54), (55, F55), (56, F56)]) c, N), 0, 0)
set_option maxHeartbeats 8000000 in
theorem c_takeRoom (w : wX) (m : mR) (c : Nat → Option am_C) (N D : Nat) (hD : 7 ≤ D) (hT : Ty m) (t : Int) (qt : R32 t) (hLx0 : LxP (m.1 7) (m.1 8) (m.1 9) (m.1 6) (m.1 10)) (p1 : 0 ≤ t ∧ t ≤ 7) (hC : m.1 10 = 0 → True) : TC w D 278 [.ref 189, .int (i32 t)] (mhp m c, N) (Q_takeRoom m c N t) := by
  obtain ⟨D, rfl⟩ : ∃ k, D = k + 1 := ⟨D - 1, by omega⟩
  obtain ⟨qta, qtb⟩ := id qt
  have hLx := hLx0
  have f7 : 0 ≤ m.1 7 ∧ m.1 7 ≤ 330 := hT.1 7
  have f8 : 0 ≤ m.1 8 ∧ m.1 8 ≤ 4000 := hT.1 8
  have f9 : 0 ≤ m.1 9 ∧ m.1 9 ≤ 4000 := hT.1 9
  have f10 : 0 ≤ m.1 10 ∧ m.1 10 ≤ 8 := hT.1 10
  have f11 : (-1) ≤ m.1 11 ∧ m.1 11 ≤ 4000 := hT.1 11
  have f12 : (-9223372036854775808) ≤ m.1 12 ∧ m.1 12 ≤ 9223372036854775807 := hT.1 12
  have f6 : 0 ≤ m.1 6 ∧ m.1 6 ≤ 4000 := hT.1 6
  refine Tc_of rfl ?_
  show TT w D pm_278 (0, [(0, .ref 189), (1, .int (i32 t))], [], (mhp m c, N), 0, 0) (Q_takeRoom m c N t)
  rw [show (mhp m c, N) = (mhp (mO m [(7, (m.1 7)), (8, (m.1 8)), (9, (m.1 9)), (10, (m.1 10)), (11, (m.1 11)), (12, (m.1 12))] [(54, (m.2 54)), (55, (m.2 55)), (56, (m.2 56))]) c, N) from congrArg (fun M => (mhp M c, N)) (mO_pad m [7, 8, 9, 10, 11, 12] [54, 55, 56])]
  by_cases hf0 : m.1 10 = 0
  · skip
    have h7 := hLx (by omega)
    have J174_76 : ∀ (y67 : Int) (y68 : Int) (y69 : Int) (y70 : Int) (y71 : Int) (y72 : Int) (F73 : Int → Int) (F74 : Int → Int) (F75 : Int → Int), (0 ≤ y67 ∧ y67 ≤ 330) → (0 ≤ y68 ∧ y68 ≤ 4000) → (0 ≤ y69 ∧ y69 ≤ 4000) → (0 ≤ y70 ∧ y70 ≤ 8) → ((-1) ≤ y71 ∧ y71 ≤ 4000) → ((-9223372036854775808) ≤ y72 ∧ y72 ≤ 9223372036854775807) → (∀ j, 0 ≤ F73 j ∧ F73 j ≤ 32) → (∀ j, 0 ≤ F74 j ∧ F74 j ≤ 4) → (∀ j, 0 ≤ F75 j ∧ F75 j ≤ 8) → (1 ≤ y70) → (y70 ≤ 8) → TT w D pm_278 (174, [(0, .ref 189), (1, .int (i32 t))], [], (mhp (mO m [(7, y67), (8, y68), (9, y69), (10, y70), (11, y71), (12, y72)] [(54, F73), (55, F74), (56, F75)]) c, N), 0, 0) (Q_takeRoom m c N t) := by
      intro y67 y68 y69 y70 y71 y72 F73 F74 F75 q77 q78 q79 q80 q81 q82 q83 q84 q85 ic86 ic87
      refine T_ret rfl (fun _ => rfl) ?_
      exact ⟨y67, y68, y69, y70, y71, y72, F73, F74, F75, q77, q78, q79, q80, q81, q82, q83, q84, q85, (by omega), (by first | (first | exact hLx | (intro h9; exfalso; omega)) | (exfalso; omega)), (fun h => absurd h (by omega)), rfl⟩
    have J167_99 : ∀ (s89 : Int) (y90 : Int) (y91 : Int) (y92 : Int) (y93 : Int) (y94 : Int) (y95 : Int) (F96 : Int → Int) (F97 : Int → Int) (F98 : Int → Int), (R32 s89) → (0 ≤ y90 ∧ y90 ≤ 330) → (0 ≤ y91 ∧ y91 ≤ 4000) → (0 ≤ y92 ∧ y92 ≤ 4000) → (0 ≤ y93 ∧ y93 ≤ 8) → ((-1) ≤ y94 ∧ y94 ≤ 4000) → ((-9223372036854775808) ≤ y95 ∧ y95 ≤ 9223372036854775807) → (∀ j, 0 ≤ F96 j ∧ F96 j ≤ 32) → (∀ j, 0 ≤ F97 j ∧ F97 j ≤ 4) → (∀ j, 0 ≤ F98 j ∧ F98 j ≤ 8) → (0 ≤ s89) → (s89 ≤ 8) → (1 ≤ y93) → (y93 ≤ 8) → TT w D pm_278 (167, [(0, .ref 189), (1, .int (i32 t))], [.int (i32 s89), .int (i32 t), .ref 226], (mhp (mO m [(7, y90), (8, y91), (9, y92), (10, y93), (11, y94), (12, y95)] [(54, F96), (55, F97), (56, F98)]) c, N), 0, 0) (Q_takeRoom m c N t) := by
      intro s89 y90 y91 y92 y93 y94 y95 F96 F97 F98 q100 q101 q102 q103 q104 q105 q106 q107 q108 q109 ic110 ic111 ic112 ic113
      obtain ⟨q100a, q100b⟩ := id q100
      have G115 : ∀ j, 0 ≤ (upI F98 t s89) j ∧ (upI F98 t s89) j ≤ 8 := upI_rg q109 ⟨by omega, by omega⟩
      refine T_iast (a' := [(54, F96), (55, F97), (56, upI F98 t s89)]) 168 56 F98 rfl rfl rfl (by omega) (show t < (8 : Int) by omega) rfl rfl ?_
      refine T_ld 169 (.ref 189) rfl (fun _ => rfl) ?_
      refine T_ld 171 (.int (i32 59)) rfl (fun _ => rfl) ?_
      refine T_call 174 232 [.ref 189, .int (i32 59)] [] rfl (fun _ => rfl) rfl (c_need w (mO m [(7, y90), (8, y91), (9, y92), (10, y93), (11, y94), (12, y95)] [(54, F96), (55, F97), (56, upI F98 t s89)]) c N D (by omega) (Ty_mO hT rfl rfl ⟨q101, q102, q103, q104, q105, q106, trivial⟩ ⟨q107, q108, G115, trivial⟩) 59 ⟨by decide, by decide⟩ (show 1 ≤ (59 : Int) by omega) (show LxP y90 y91 y92 (m.1 6) y93 by first | exact hLx | (intro h9; exfalso; omega) | (intro h9; have h8 := hLx (by omega); omega))) (fun rr116 k117 => ?_)
      obtain ⟨y118, y120, y122, y124, y126, y128, g119, g121, g123, g125, g127, g129, h130, h131, h132, h133, rfl⟩ := k117
      refine ⟨_, _, rfl, ?_⟩
      refine T_nf (st' := []) (l' := [(7, y118), (8, y120), (9, y122), (10, y124), (11, y126), (12, y128)]) (a' := [(54, F96), (55, F97), (56, upI F98 t s89)]) rfl rfl rfl rfl rfl ?_
      replace h130 : LxP y118 y120 y122 (m.1 6) y124 := h130
      replace h131 : y124 = 0 → y93 = 0 ∧ y90 = (59 : Int) := h131
      replace h132 : y91 ≤ y120 := h132
      replace h133 : y124 = 0 → y91 + y92 ≤ y120 := h133
      have hf134 : 1 ≤ y124 := by omega
      clear h131
      clear h133
      have hLx := h130
      clear q101 q102 q103 q104 q105 q106 ic112 ic113 h132
      exact J174_76 y118 y120 y122 y124 y126 y128 F96 F97 (upI F98 t s89) g119 g121 g123 g125 g127 g129 q107 q108 G115 (by omega) (by omega)
    have J155_144 : ∀ (y135 : Int) (y136 : Int) (y137 : Int) (y138 : Int) (y139 : Int) (y140 : Int) (F141 : Int → Int) (F142 : Int → Int) (F143 : Int → Int), (0 ≤ y135 ∧ y135 ≤ 330) → (0 ≤ y136 ∧ y136 ≤ 4000) → (0 ≤ y137 ∧ y137 ≤ 4000) → (0 ≤ y138 ∧ y138 ≤ 8) → ((-1) ≤ y139 ∧ y139 ≤ 4000) → ((-9223372036854775808) ≤ y140 ∧ y140 ≤ 9223372036854775807) → (∀ j, 0 ≤ F141 j ∧ F141 j ≤ 32) → (∀ j, 0 ≤ F142 j ∧ F142 j ≤ 4) → (∀ j, 0 ≤ F143 j ∧ F143 j ≤ 8) → (1 ≤ y138) → (y138 ≤ 8) → TT w D pm_278 (155, [(0, .ref 189), (1, .int (i32 t))], [], (mhp (mO m [(7, y135), (8, y136), (9, y137), (10, y138), (11, y139), (12, y140)] [(54, F141), (55, F142), (56, F143)]) c, N), 0, 0) (Q_takeRoom m c N t) := by
      intro y135 y136 y137 y138 y139 y140 F141 F142 F143 q145 q146 q147 q148 q149 q150 q151 q152 q153 ic154 ic155
      refine T_gf 159 (.ref 226) rfl rfl rfl rfl rfl rfl ?_
      refine T_ld 160 (.int (i32 t)) rfl (fun _ => rfl) ?_
      refine T_ld 161 (.ref 189) rfl (fun _ => rfl) ?_
      refine T_ld 162 (.int (i32 0)) rfl (fun _ => rfl) ?_
      refine T_ld 164 (.int (i32 8)) rfl (fun _ => rfl) ?_
      refine T_call 167 234 [.ref 189, .int (i32 0), .int (i32 8)] [.int (i32 t), .ref 226] rfl (fun _ => rfl) rfl (c_number w (mO m [(7, y135), (8, y136), (9, y137), (10, y138), (11, y139), (12, y140)] [(54, F141), (55, F142), (56, F143)]) c N D (by omega) (Ty_mO hT rfl rfl ⟨q145, q146, q147, q148, q149, q150, trivial⟩ ⟨q151, q152, q153, trivial⟩) 0 8 ⟨by decide, by decide⟩ ⟨by decide, by decide⟩ (show LxP y135 y136 y137 (m.1 6) y138 by first | exact hLx | (intro h9; exfalso; omega) | (intro h9; have h8 := hLx (by omega); omega)) (show (0 : Int) ≤ (8 : Int) by omega)) (fun rr157 k158 => ?_)
      obtain ⟨y159, y161, y163, y165, y167, y169, nu, g160, g162, g164, g166, g168, g170, g171, h172, h173, h174, h175, h176, h177, rfl⟩ := k158
      refine ⟨_, _, rfl, ?_⟩
      refine T_nf (st' := [.int (i32 nu), .int (i32 t), .ref 226]) (l' := [(7, y159), (8, y161), (9, y163), (10, y165), (11, y167), (12, y169)]) (a' := [(54, F141), (55, F142), (56, F143)]) rfl rfl rfl rfl rfl ?_
      obtain ⟨g171a, g171b⟩ := g171
      replace h172 : LxP y159 y161 y163 (m.1 6) y165 := h172
      replace h173 : y136 ≤ y161 := h173
      replace h174 : y165 = 0 → y138 = 0 ∧ y136 + y137 ≤ y161 := h174
      replace h175 : y165 = 0 → y135 = 2 := h175
      replace h176 : (0 : Int) ≤ nu ∧ nu ≤ (8 : Int) := h176
      replace h177 : y165 = 0 → nu = y140 := h177
      have hf178 : 1 ≤ y165 := by omega
      clear h174
      clear h175
      clear h177
      have hLx := h172
      clear q145 q146 q147 q148 q149 q150 ic154 ic155 h173
      exact J167_99 nu y159 y161 y163 y165 y167 y169 F141 F142 F143 (r32 (by omega) (by omega)) g160 g162 g164 g166 g168 g170 q151 q152 q153 (by omega) (by omega) (by omega) (by omega)
    have J147_189 : ∀ (s179 : Int) (y180 : Int) (y181 : Int) (y182 : Int) (y183 : Int) (y184 : Int) (y185 : Int) (F186 : Int → Int) (F187 : Int → Int) (F188 : Int → Int), (R32 s179) → (0 ≤ y180 ∧ y180 ≤ 330) → (0 ≤ y181 ∧ y181 ≤ 4000) → (0 ≤ y182 ∧ y182 ≤ 4000) → (0 ≤ y183 ∧ y183 ≤ 8) → ((-1) ≤ y184 ∧ y184 ≤ 4000) → ((-9223372036854775808) ≤ y185 ∧ y185 ≤ 9223372036854775807) → (∀ j, 0 ≤ F186 j ∧ F186 j ≤ 32) → (∀ j, 0 ≤ F187 j ∧ F187 j ≤ 4) → (∀ j, 0 ≤ F188 j ∧ F188 j ≤ 8) → (1 ≤ s179) → (s179 ≤ 4) → (1 ≤ y183) → (y183 ≤ 8) → TT w D pm_278 (147, [(0, .ref 189), (1, .int (i32 t))], [.int (i32 s179), .int (i32 t), .ref 225], (mhp (mO m [(7, y180), (8, y181), (9, y182), (10, y183), (11, y184), (12, y185)] [(54, F186), (55, F187), (56, F188)]) c, N), 0, 0) (Q_takeRoom m c N t) := by
      intro s179 y180 y181 y182 y183 y184 y185 F186 F187 F188 q190 q191 q192 q193 q194 q195 q196 q197 q198 q199 ic200 ic201 ic202 ic203
      obtain ⟨q190a, q190b⟩ := id q190
      have G205 : ∀ j, 0 ≤ (upI F187 t s179) j ∧ (upI F187 t s179) j ≤ 4 := upI_rg q198 ⟨by omega, by omega⟩
      refine T_iast (a' := [(54, F186), (55, upI F187 t s179), (56, F188)]) 148 55 F187 rfl rfl rfl (by omega) (show t < (8 : Int) by omega) rfl rfl ?_
      refine T_ld 149 (.ref 189) rfl (fun _ => rfl) ?_
      refine T_ld 152 (.int (i32 318)) rfl (fun _ => rfl) ?_
      refine T_call 155 232 [.ref 189, .int (i32 318)] [] rfl (fun _ => rfl) rfl (c_need w (mO m [(7, y180), (8, y181), (9, y182), (10, y183), (11, y184), (12, y185)] [(54, F186), (55, upI F187 t s179), (56, F188)]) c N D (by omega) (Ty_mO hT rfl rfl ⟨q191, q192, q193, q194, q195, q196, trivial⟩ ⟨q197, G205, q199, trivial⟩) 318 ⟨by decide, by decide⟩ (show 1 ≤ (318 : Int) by omega) (show LxP y180 y181 y182 (m.1 6) y183 by first | exact hLx | (intro h9; exfalso; omega) | (intro h9; have h8 := hLx (by omega); omega))) (fun rr206 k207 => ?_)
      obtain ⟨y208, y210, y212, y214, y216, y218, g209, g211, g213, g215, g217, g219, h220, h221, h222, h223, rfl⟩ := k207
      refine ⟨_, _, rfl, ?_⟩
      refine T_nf (st' := []) (l' := [(7, y208), (8, y210), (9, y212), (10, y214), (11, y216), (12, y218)]) (a' := [(54, F186), (55, upI F187 t s179), (56, F188)]) rfl rfl rfl rfl rfl ?_
      replace h220 : LxP y208 y210 y212 (m.1 6) y214 := h220
      replace h221 : y214 = 0 → y183 = 0 ∧ y180 = (318 : Int) := h221
      replace h222 : y181 ≤ y210 := h222
      replace h223 : y214 = 0 → y181 + y182 ≤ y210 := h223
      have hf224 : 1 ≤ y214 := by omega
      clear h221
      clear h223
      have hLx := h220
      clear q191 q192 q193 q194 q195 q196 ic202 ic203 h222
      exact J155_144 y208 y210 y212 y214 y216 y218 F186 (upI F187 t s179) F188 g209 g211 g213 g215 g217 g219 q197 G205 q199 (by omega) (by omega)
    have J136_234 : ∀ (y225 : Int) (y226 : Int) (y227 : Int) (y228 : Int) (y229 : Int) (y230 : Int) (F231 : Int → Int) (F232 : Int → Int) (F233 : Int → Int), (0 ≤ y225 ∧ y225 ≤ 330) → (0 ≤ y226 ∧ y226 ≤ 4000) → (0 ≤ y227 ∧ y227 ≤ 4000) → (0 ≤ y228 ∧ y228 ≤ 8) → ((-1) ≤ y229 ∧ y229 ≤ 4000) → ((-9223372036854775808) ≤ y230 ∧ y230 ≤ 9223372036854775807) → (∀ j, 0 ≤ F231 j ∧ F231 j ≤ 32) → (∀ j, 0 ≤ F232 j ∧ F232 j ≤ 4) → (∀ j, 0 ≤ F233 j ∧ F233 j ≤ 8) → (1 ≤ y228) → (y228 ≤ 8) → TT w D pm_278 (136, [(0, .ref 189), (1, .int (i32 t))], [], (mhp (mO m [(7, y225), (8, y226), (9, y227), (10, y228), (11, y229), (12, y230)] [(54, F231), (55, F232), (56, F233)]) c, N), 0, 0) (Q_takeRoom m c N t) := by
      intro y225 y226 y227 y228 y229 y230 F231 F232 F233 q235 q236 q237 q238 q239 q240 q241 q242 q243 ic244 ic245
      refine T_gf 140 (.ref 225) rfl rfl rfl rfl rfl rfl ?_
      refine T_ld 141 (.int (i32 t)) rfl (fun _ => rfl) ?_
      refine T_ld 142 (.ref 189) rfl (fun _ => rfl) ?_
      refine T_ld 143 (.int (i32 1)) rfl (fun _ => rfl) ?_
      refine T_ld 144 (.int (i32 4)) rfl (fun _ => rfl) ?_
      refine T_call 147 234 [.ref 189, .int (i32 1), .int (i32 4)] [.int (i32 t), .ref 225] rfl (fun _ => rfl) rfl (c_number w (mO m [(7, y225), (8, y226), (9, y227), (10, y228), (11, y229), (12, y230)] [(54, F231), (55, F232), (56, F233)]) c N D (by omega) (Ty_mO hT rfl rfl ⟨q235, q236, q237, q238, q239, q240, trivial⟩ ⟨q241, q242, q243, trivial⟩) 1 4 ⟨by decide, by decide⟩ ⟨by decide, by decide⟩ (show LxP y225 y226 y227 (m.1 6) y228 by first | exact hLx | (intro h9; exfalso; omega) | (intro h9; have h8 := hLx (by omega); omega)) (show (1 : Int) ≤ (4 : Int) by omega)) (fun rr247 k248 => ?_)
      obtain ⟨y249, y251, y253, y255, y257, y259, nu, g250, g252, g254, g256, g258, g260, g261, h262, h263, h264, h265, h266, h267, rfl⟩ := k248
      refine ⟨_, _, rfl, ?_⟩
      refine T_nf (st' := [.int (i32 nu), .int (i32 t), .ref 225]) (l' := [(7, y249), (8, y251), (9, y253), (10, y255), (11, y257), (12, y259)]) (a' := [(54, F231), (55, F232), (56, F233)]) rfl rfl rfl rfl rfl ?_
      obtain ⟨g261a, g261b⟩ := g261
      replace h262 : LxP y249 y251 y253 (m.1 6) y255 := h262
      replace h263 : y226 ≤ y251 := h263
      replace h264 : y255 = 0 → y228 = 0 ∧ y226 + y227 ≤ y251 := h264
      replace h265 : y255 = 0 → y225 = 2 := h265
      replace h266 : (1 : Int) ≤ nu ∧ nu ≤ (4 : Int) := h266
      replace h267 : y255 = 0 → nu = y230 := h267
      have hf268 : 1 ≤ y255 := by omega
      clear h264
      clear h265
      clear h267
      have hLx := h262
      clear q235 q236 q237 q238 q239 q240 ic244 ic245 h263
      exact J147_189 nu y249 y251 y253 y255 y257 y259 F231 F232 F233 (r32 (by omega) (by omega)) g250 g252 g254 g256 g258 g260 q241 q242 q243 (by omega) (by omega) (by omega) (by omega)
    have J105_276 : ∀ (s269 : Int) (y270 : Int) (y271 : Int) (y272 : Int) (y273 : Int) (y274 : Int) (y275 : Int), (R32 s269) → (0 ≤ y270 ∧ y270 ≤ 330) → (0 ≤ y271 ∧ y271 ≤ 4000) → (0 ≤ y272 ∧ y272 ≤ 4000) → (0 ≤ y273 ∧ y273 ≤ 8) → ((-1) ≤ y274 ∧ y274 ≤ 4000) → ((-9223372036854775808) ≤ y275 ∧ y275 ≤ 9223372036854775807) → (1 ≤ s269) → (s269 ≤ 32) → (1 ≤ y273) → (y273 ≤ 8) → TT w D pm_278 (105, [(0, .ref 189), (1, .int (i32 t))], [.int (i32 s269), .int (i32 t), .ref 224], (mhp (mO m [(7, y270), (8, y271), (9, y272), (10, y273), (11, y274), (12, y275)] [(54, (m.2 54)), (55, (m.2 55)), (56, (m.2 56))]) c, N), 0, 0) (Q_takeRoom m c N t) := by
      intro s269 y270 y271 y272 y273 y274 y275 q277 q278 q279 q280 q281 q282 q283 ic284 ic285 ic286 ic287
      obtain ⟨q277a, q277b⟩ := id q277
      have G289 : ∀ j, 0 ≤ (upI (m.2 54) t s269) j ∧ (upI (m.2 54) t s269) j ≤ 32 := upI_rg (hT.2.1 54) ⟨by omega, by omega⟩
      refine T_iast (a' := [(54, upI (m.2 54) t s269), (55, (m.2 55)), (56, (m.2 56))]) 106 54 (m.2 54) rfl rfl rfl (by omega) (show t < (8 : Int) by omega) rfl rfl ?_
      refine T_gf 110 (.ref 225) rfl rfl rfl rfl rfl rfl ?_
      refine T_ld 111 (.int (i32 t)) rfl (fun _ => rfl) ?_
      refine T_ld 112 (.int (i32 0)) rfl (fun _ => rfl) ?_
      have G290 : ∀ j, 0 ≤ (upI (m.2 55) t 0) j ∧ (upI (m.2 55) t 0) j ≤ 4 := upI_rg (hT.2.1 55) ⟨by omega, by omega⟩
      refine T_iast (a' := [(54, upI (m.2 54) t s269), (55, upI (m.2 55) t 0), (56, (m.2 56))]) 113 55 (m.2 55) rfl rfl rfl (by omega) (show t < (8 : Int) by omega) rfl rfl ?_
      refine T_gf 117 (.ref 226) rfl rfl rfl rfl rfl rfl ?_
      refine T_ld 118 (.int (i32 t)) rfl (fun _ => rfl) ?_
      refine T_ld 119 (.int (i32 0)) rfl (fun _ => rfl) ?_
      have G291 : ∀ j, 0 ≤ (upI (m.2 56) t 0) j ∧ (upI (m.2 56) t 0) j ≤ 8 := upI_rg (hT.2.1 56) ⟨by omega, by omega⟩
      refine T_iast (a' := [(54, upI (m.2 54) t s269), (55, upI (m.2 55) t 0), (56, upI (m.2 56) t 0)]) 120 56 (m.2 56) rfl rfl rfl (by omega) (show t < (8 : Int) by omega) rfl rfl ?_
      refine T_gf 124 (.ref 228) rfl rfl rfl rfl rfl rfl ?_
      refine T_ld 125 (.int (i32 t)) rfl (fun _ => rfl) ?_
      refine T_bald 126 58 (m.2 58) rfl rfl rfl (by omega) (show t < (8 : Int) by omega) rfl ?_
      have e292 : 0 ≤ m.2 58 t ∧ m.2 58 t ≤ 1 := hT.2.1 58 t
      refine T_if 168 129 rfl rfl rfl (r32 (by omega) (by omega)) (fun (h293 : (m.2 58) t = 0) => ?_) (fun (h293 : ¬ ((m.2 58) t = 0)) => ?_)
      · skip
        refine T_ld 169 (.ref 189) rfl (fun _ => rfl) ?_
        refine T_ld 171 (.int (i32 59)) rfl (fun _ => rfl) ?_
        refine T_call 174 232 [.ref 189, .int (i32 59)] [] rfl (fun _ => rfl) rfl (c_need w (mO m [(7, y270), (8, y271), (9, y272), (10, y273), (11, y274), (12, y275)] [(54, upI (m.2 54) t s269), (55, upI (m.2 55) t 0), (56, upI (m.2 56) t 0)]) c N D (by omega) (Ty_mO hT rfl rfl ⟨q278, q279, q280, q281, q282, q283, trivial⟩ ⟨G289, G290, G291, trivial⟩) 59 ⟨by decide, by decide⟩ (show 1 ≤ (59 : Int) by omega) (show LxP y270 y271 y272 (m.1 6) y273 by first | exact hLx | (intro h9; exfalso; omega) | (intro h9; have h8 := hLx (by omega); omega))) (fun rr294 k295 => ?_)
        obtain ⟨y296, y298, y300, y302, y304, y306, g297, g299, g301, g303, g305, g307, h308, h309, h310, h311, rfl⟩ := k295
        refine ⟨_, _, rfl, ?_⟩
        refine T_nf (st' := []) (l' := [(7, y296), (8, y298), (9, y300), (10, y302), (11, y304), (12, y306)]) (a' := [(54, upI (m.2 54) t s269), (55, upI (m.2 55) t 0), (56, upI (m.2 56) t 0)]) rfl rfl rfl rfl rfl ?_
        replace h308 : LxP y296 y298 y300 (m.1 6) y302 := h308
        replace h309 : y302 = 0 → y273 = 0 ∧ y270 = (59 : Int) := h309
        replace h310 : y271 ≤ y298 := h310
        replace h311 : y302 = 0 → y271 + y272 ≤ y298 := h311
        have hf312 : 1 ≤ y302 := by omega
        clear h309
        clear h311
        have hLx := h308
        clear q278 q279 q280 q281 q282 q283 ic286 ic287 h310
        exact J174_76 y296 y298 y300 y302 y304 y306 (upI (m.2 54) t s269) (upI (m.2 55) t 0) (upI (m.2 56) t 0) g297 g299 g301 g303 g305 g307 G289 G290 G291 (by omega) (by omega)
      · skip
        refine T_ld 130 (.ref 189) rfl (fun _ => rfl) ?_
        refine T_ld 133 (.int (i32 317)) rfl (fun _ => rfl) ?_
        refine T_call 136 232 [.ref 189, .int (i32 317)] [] rfl (fun _ => rfl) rfl (c_need w (mO m [(7, y270), (8, y271), (9, y272), (10, y273), (11, y274), (12, y275)] [(54, upI (m.2 54) t s269), (55, upI (m.2 55) t 0), (56, upI (m.2 56) t 0)]) c N D (by omega) (Ty_mO hT rfl rfl ⟨q278, q279, q280, q281, q282, q283, trivial⟩ ⟨G289, G290, G291, trivial⟩) 317 ⟨by decide, by decide⟩ (show 1 ≤ (317 : Int) by omega) (show LxP y270 y271 y272 (m.1 6) y273 by first | exact hLx | (intro h9; exfalso; omega) | (intro h9; have h8 := hLx (by omega); omega))) (fun rr313 k314 => ?_)
        obtain ⟨y315, y317, y319, y321, y323, y325, g316, g318, g320, g322, g324, g326, h327, h328, h329, h330, rfl⟩ := k314
        refine ⟨_, _, rfl, ?_⟩
        refine T_nf (st' := []) (l' := [(7, y315), (8, y317), (9, y319), (10, y321), (11, y323), (12, y325)]) (a' := [(54, upI (m.2 54) t s269), (55, upI (m.2 55) t 0), (56, upI (m.2 56) t 0)]) rfl rfl rfl rfl rfl ?_
        replace h327 : LxP y315 y317 y319 (m.1 6) y321 := h327
        replace h328 : y321 = 0 → y273 = 0 ∧ y270 = (317 : Int) := h328
        replace h329 : y271 ≤ y317 := h329
        replace h330 : y321 = 0 → y271 + y272 ≤ y317 := h330
        have hf331 : 1 ≤ y321 := by omega
        clear h328
        clear h330
        have hLx := h327
        clear q278 q279 q280 q281 q282 q283 ic286 ic287 h329
        exact J136_234 y315 y317 y319 y321 y323 y325 (upI (m.2 54) t s269) (upI (m.2 55) t 0) (upI (m.2 56) t 0) g316 g318 g320 g322 g324 g326 G289 G290 G291 (by omega) (by omega)
    refine T_ld 1 (.ref 189) rfl (fun _ => rfl) ?_
    refine T_ld 4 (.int (i32 316)) rfl (fun _ => rfl) ?_
    refine T_call 7 232 [.ref 189, .int (i32 316)] [] rfl (fun _ => rfl) rfl (c_need w (mO m [(7, (m.1 7)), (8, (m.1 8)), (9, (m.1 9)), (10, (m.1 10)), (11, (m.1 11)), (12, (m.1 12))] [(54, (m.2 54)), (55, (m.2 55)), (56, (m.2 56))]) c N D (by omega) (Ty_mO hT rfl rfl ⟨f7, f8, f9, f10, f11, f12, trivial⟩ ⟨(hT.2.1 54), (hT.2.1 55), (hT.2.1 56), trivial⟩) 316 ⟨by decide, by decide⟩ (show 1 ≤ (316 : Int) by omega) (show LxP (m.1 7) (m.1 8) (m.1 9) (m.1 6) (m.1 10) by first | exact hLx | (intro h9; exfalso; omega) | (intro h9; have h8 := hLx (by omega); omega))) (fun rr332 k333 => ?_)
    obtain ⟨y334, y336, y338, y340, y342, y344, g335, g337, g339, g341, g343, g345, h346, h347, h348, h349, rfl⟩ := k333
    refine ⟨_, _, rfl, ?_⟩
    refine T_nf (st' := []) (l' := [(7, y334), (8, y336), (9, y338), (10, y340), (11, y342), (12, y344)]) (a' := [(54, (m.2 54)), (55, (m.2 55)), (56, (m.2 56))]) rfl rfl rfl rfl rfl ?_
    by_cases hf350 : y340 = 0
    · skip
      subst hf350
      replace h346 : LxP y334 y336 y338 (m.1 6) (0 : Int) := h346
      have hLx := h346
      replace h347 : (m.1 10) = 0 ∧ (m.1 7) = (316 : Int) := h347 rfl
      replace h348 : (m.1 8) ≤ y336 := h348
      replace h349 : (m.1 8) + (m.1 9) ≤ y336 := h349 rfl
      have u351 : (m.1 8) + 1 ≤ y336 := by omega
      clear g341
      have J93_354 : ∀ (y352 : Int) (y353 : Int), (0 ≤ y352 ∧ y352 ≤ 8) → ((-1) ≤ y353 ∧ y353 ≤ 4000) → (y352 = 0 → ((m.2 58) t = 1 → y334 = 2 → 1 ≤ y344 ∧ y344 ≤ 16)) → TT w D pm_278 (93, [(0, .ref 189), (1, .int (i32 t))], [], (mhp (mO m [(7, y334), (8, y336), (9, y338), (10, y352), (11, y353), (12, y344)] [(54, (m.2 54)), (55, (m.2 55)), (56, (m.2 56))]) c, N), 0, 0) (Q_takeRoom m c N t) := by
        intro y352 y353 q355 q356 c357
        by_cases hf358 : y352 = 0
        · skip
          subst hf358
          have c359 := c357 rfl
          refine T_gf 97 (.ref 224) rfl rfl rfl rfl rfl rfl ?_
          refine T_ld 98 (.int (i32 t)) rfl (fun _ => rfl) ?_
          refine T_ld 99 (.ref 189) rfl (fun _ => rfl) ?_
          refine T_ld 100 (.int (i32 1)) rfl (fun _ => rfl) ?_
          refine T_ld 102 (.int (i32 32)) rfl (fun _ => rfl) ?_
          refine T_call 105 234 [.ref 189, .int (i32 1), .int (i32 32)] [.int (i32 t), .ref 224] rfl (fun _ => rfl) rfl (c_number w (mO m [(7, y334), (8, y336), (9, y338), (10, 0), (11, y353), (12, y344)] [(54, (m.2 54)), (55, (m.2 55)), (56, (m.2 56))]) c N D (by omega) (Ty_mO hT rfl rfl ⟨g335, g337, g339, ⟨(by omega : (0 : Int) ≤ 0), (by omega : (0 : Int) ≤ 8)⟩, q356, g345, trivial⟩ ⟨(hT.2.1 54), (hT.2.1 55), (hT.2.1 56), trivial⟩) 1 32 ⟨by decide, by decide⟩ ⟨by decide, by decide⟩ (show LxP y334 y336 y338 (m.1 6) (0 : Int) by first | exact hLx | (intro h9; exfalso; omega) | (intro h9; have h8 := hLx (by omega); omega)) (show (1 : Int) ≤ (32 : Int) by omega)) (fun rr360 k361 => ?_)
          obtain ⟨y362, y364, y366, y368, y370, y372, nu, g363, g365, g367, g369, g371, g373, g374, h375, h376, h377, h378, h379, h380, rfl⟩ := k361
          refine ⟨_, _, rfl, ?_⟩
          refine T_nf (st' := [.int (i32 nu), .int (i32 t), .ref 224]) (l' := [(7, y362), (8, y364), (9, y366), (10, y368), (11, y370), (12, y372)]) (a' := [(54, (m.2 54)), (55, (m.2 55)), (56, (m.2 56))]) rfl rfl rfl rfl rfl ?_
          obtain ⟨g374a, g374b⟩ := g374
          by_cases hf381 : y368 = 0
          · skip
            subst hf381
            replace h375 : LxP y362 y364 y366 (m.1 6) (0 : Int) := h375
            have hLx := h375
            replace h376 : y336 ≤ y364 := h376
            replace h377 : (0 : Int) = 0 ∧ y336 + y338 ≤ y364 := h377 rfl
            replace h378 : y334 = 2 := h378 rfl
            replace h379 : (1 : Int) ≤ nu ∧ nu ≤ (32 : Int) := h379
            replace h380 : nu = y344 := h380 rfl
            have u382 : (m.1 8) + 1 ≤ y364 := by omega
            clear g335 g337 g339 g343 g345 h346 h348 h349 u351 q355 q356 c359 g369 h376 h377 h378 h380
            have G383 : ∀ j, 0 ≤ (upI (m.2 54) t nu) j ∧ (upI (m.2 54) t nu) j ≤ 32 := upI_rg (hT.2.1 54) ⟨by omega, by omega⟩
            refine T_iast (a' := [(54, upI (m.2 54) t nu), (55, (m.2 55)), (56, (m.2 56))]) 106 54 (m.2 54) rfl rfl rfl (by omega) (show t < (8 : Int) by omega) rfl rfl ?_
            refine T_gf 110 (.ref 225) rfl rfl rfl rfl rfl rfl ?_
            refine T_ld 111 (.int (i32 t)) rfl (fun _ => rfl) ?_
            refine T_ld 112 (.int (i32 0)) rfl (fun _ => rfl) ?_
            have G384 : ∀ j, 0 ≤ (upI (m.2 55) t 0) j ∧ (upI (m.2 55) t 0) j ≤ 4 := upI_rg (hT.2.1 55) ⟨by omega, by omega⟩
            refine T_iast (a' := [(54, upI (m.2 54) t nu), (55, upI (m.2 55) t 0), (56, (m.2 56))]) 113 55 (m.2 55) rfl rfl rfl (by omega) (show t < (8 : Int) by omega) rfl rfl ?_
            refine T_gf 117 (.ref 226) rfl rfl rfl rfl rfl rfl ?_
            refine T_ld 118 (.int (i32 t)) rfl (fun _ => rfl) ?_
            refine T_ld 119 (.int (i32 0)) rfl (fun _ => rfl) ?_
            have G385 : ∀ j, 0 ≤ (upI (m.2 56) t 0) j ∧ (upI (m.2 56) t 0) j ≤ 8 := upI_rg (hT.2.1 56) ⟨by omega, by omega⟩
            refine T_iast (a' := [(54, upI (m.2 54) t nu), (55, upI (m.2 55) t 0), (56, upI (m.2 56) t 0)]) 120 56 (m.2 56) rfl rfl rfl (by omega) (show t < (8 : Int) by omega) rfl rfl ?_
            refine T_gf 124 (.ref 228) rfl rfl rfl rfl rfl rfl ?_
            refine T_ld 125 (.int (i32 t)) rfl (fun _ => rfl) ?_
            refine T_bald 126 58 (m.2 58) rfl rfl rfl (by omega) (show t < (8 : Int) by omega) rfl ?_
            have e386 : 0 ≤ m.2 58 t ∧ m.2 58 t ≤ 1 := hT.2.1 58 t
            refine T_if 168 129 rfl rfl rfl (r32 (by omega) (by omega)) (fun (h387 : (m.2 58) t = 0) => ?_) (fun (h387 : ¬ ((m.2 58) t = 0)) => ?_)
            · skip
              refine T_ld 169 (.ref 189) rfl (fun _ => rfl) ?_
              refine T_ld 171 (.int (i32 59)) rfl (fun _ => rfl) ?_
              refine T_call 174 232 [.ref 189, .int (i32 59)] [] rfl (fun _ => rfl) rfl (c_need w (mO m [(7, y362), (8, y364), (9, y366), (10, 0), (11, y370), (12, y372)] [(54, upI (m.2 54) t nu), (55, upI (m.2 55) t 0), (56, upI (m.2 56) t 0)]) c N D (by omega) (Ty_mO hT rfl rfl ⟨g363, g365, g367, ⟨(by omega : (0 : Int) ≤ 0), (by omega : (0 : Int) ≤ 8)⟩, g371, g373, trivial⟩ ⟨G383, G384, G385, trivial⟩) 59 ⟨by decide, by decide⟩ (show 1 ≤ (59 : Int) by omega) (show LxP y362 y364 y366 (m.1 6) (0 : Int) by first | exact hLx | (intro h9; exfalso; omega) | (intro h9; have h8 := hLx (by omega); omega))) (fun rr388 k389 => ?_)
              obtain ⟨y390, y392, y394, y396, y398, y400, g391, g393, g395, g397, g399, g401, h402, h403, h404, h405, rfl⟩ := k389
              refine ⟨_, _, rfl, ?_⟩
              refine T_nf (st' := []) (l' := [(7, y390), (8, y392), (9, y394), (10, y396), (11, y398), (12, y400)]) (a' := [(54, upI (m.2 54) t nu), (55, upI (m.2 55) t 0), (56, upI (m.2 56) t 0)]) rfl rfl rfl rfl rfl ?_
              by_cases hf406 : y396 = 0
              · skip
                subst hf406
                replace h402 : LxP y390 y392 y394 (m.1 6) (0 : Int) := h402
                have hLx := h402
                replace h403 : (0 : Int) = 0 ∧ y362 = (59 : Int) := h403 rfl
                replace h404 : y364 ≤ y392 := h404
                replace h405 : y364 + y366 ≤ y392 := h405 rfl
                have u407 : (m.1 8) + 1 ≤ y392 := by omega
                clear g363 g365 g367 g371 g373 h375 u382 g397 h403 h404 h405
                refine T_ret rfl (fun _ => rfl) ?_
                exact ⟨y390, y392, y394, 0, y398, y400, upI (m.2 54) t nu, upI (m.2 55) t 0, upI (m.2 56) t 0, g391, g393, g395, ⟨by omega, by omega⟩, g399, g401, G383, G384, G385, (by omega), (by first | (first | exact hLx | (intro h9; exfalso; omega)) | (exfalso; omega)), (fun _ => ⟨(by omega), (by first | (rw [upI_s]; omega) | (exfalso; omega)), (by first | (intro h; rw [upI_s]; omega) | (exfalso; omega)), (by first | (exact agr_u (Int.le_refl _)) | (exfalso; omega))⟩), rfl⟩
              · skip
                replace h402 : LxP y390 y392 y394 (m.1 6) y396 := h402
                have hLx := h402
                clear h403
                replace h404 : y364 ≤ y392 := h404
                clear h405
                have hf408 : 1 ≤ y396 := by omega
                clear g363 g365 g367 g371 g373 h375 u382 h404
                exact J174_76 y390 y392 y394 y396 y398 y400 (upI (m.2 54) t nu) (upI (m.2 55) t 0) (upI (m.2 56) t 0) g391 g393 g395 g397 g399 g401 G383 G384 G385 (by omega) (by omega)
            · skip
              refine T_ld 130 (.ref 189) rfl (fun _ => rfl) ?_
              refine T_ld 133 (.int (i32 317)) rfl (fun _ => rfl) ?_
              refine T_call 136 232 [.ref 189, .int (i32 317)] [] rfl (fun _ => rfl) rfl (c_need w (mO m [(7, y362), (8, y364), (9, y366), (10, 0), (11, y370), (12, y372)] [(54, upI (m.2 54) t nu), (55, upI (m.2 55) t 0), (56, upI (m.2 56) t 0)]) c N D (by omega) (Ty_mO hT rfl rfl ⟨g363, g365, g367, ⟨(by omega : (0 : Int) ≤ 0), (by omega : (0 : Int) ≤ 8)⟩, g371, g373, trivial⟩ ⟨G383, G384, G385, trivial⟩) 317 ⟨by decide, by decide⟩ (show 1 ≤ (317 : Int) by omega) (show LxP y362 y364 y366 (m.1 6) (0 : Int) by first | exact hLx | (intro h9; exfalso; omega) | (intro h9; have h8 := hLx (by omega); omega))) (fun rr409 k410 => ?_)
              obtain ⟨y411, y413, y415, y417, y419, y421, g412, g414, g416, g418, g420, g422, h423, h424, h425, h426, rfl⟩ := k410
              refine ⟨_, _, rfl, ?_⟩
              refine T_nf (st' := []) (l' := [(7, y411), (8, y413), (9, y415), (10, y417), (11, y419), (12, y421)]) (a' := [(54, upI (m.2 54) t nu), (55, upI (m.2 55) t 0), (56, upI (m.2 56) t 0)]) rfl rfl rfl rfl rfl ?_
              by_cases hf427 : y417 = 0
              · skip
                subst hf427
                replace h423 : LxP y411 y413 y415 (m.1 6) (0 : Int) := h423
                have hLx := h423
                replace h424 : (0 : Int) = 0 ∧ y362 = (317 : Int) := h424 rfl
                replace h425 : y364 ≤ y413 := h425
                replace h426 : y364 + y366 ≤ y413 := h426 rfl
                have u428 : (m.1 8) + 1 ≤ y413 := by omega
                clear g363 g365 g367 g371 g373 h375 u382 g418 h424 h425 h426
                refine T_gf 140 (.ref 225) rfl rfl rfl rfl rfl rfl ?_
                refine T_ld 141 (.int (i32 t)) rfl (fun _ => rfl) ?_
                refine T_ld 142 (.ref 189) rfl (fun _ => rfl) ?_
                refine T_ld 143 (.int (i32 1)) rfl (fun _ => rfl) ?_
                refine T_ld 144 (.int (i32 4)) rfl (fun _ => rfl) ?_
                refine T_call 147 234 [.ref 189, .int (i32 1), .int (i32 4)] [.int (i32 t), .ref 225] rfl (fun _ => rfl) rfl (c_number w (mO m [(7, y411), (8, y413), (9, y415), (10, 0), (11, y419), (12, y421)] [(54, upI (m.2 54) t nu), (55, upI (m.2 55) t 0), (56, upI (m.2 56) t 0)]) c N D (by omega) (Ty_mO hT rfl rfl ⟨g412, g414, g416, ⟨(by omega : (0 : Int) ≤ 0), (by omega : (0 : Int) ≤ 8)⟩, g420, g422, trivial⟩ ⟨G383, G384, G385, trivial⟩) 1 4 ⟨by decide, by decide⟩ ⟨by decide, by decide⟩ (show LxP y411 y413 y415 (m.1 6) (0 : Int) by first | exact hLx | (intro h9; exfalso; omega) | (intro h9; have h8 := hLx (by omega); omega)) (show (1 : Int) ≤ (4 : Int) by omega)) (fun rr429 k430 => ?_)
                obtain ⟨y431, y433, y435, y437, y439, y441, nu443, g432, g434, g436, g438, g440, g442, g444, h445, h446, h447, h448, h449, h450, rfl⟩ := k430
                refine ⟨_, _, rfl, ?_⟩
                refine T_nf (st' := [.int (i32 nu443), .int (i32 t), .ref 225]) (l' := [(7, y431), (8, y433), (9, y435), (10, y437), (11, y439), (12, y441)]) (a' := [(54, upI (m.2 54) t nu), (55, upI (m.2 55) t 0), (56, upI (m.2 56) t 0)]) rfl rfl rfl rfl rfl ?_
                obtain ⟨g444a, g444b⟩ := g444
                by_cases hf451 : y437 = 0
                · skip
                  subst hf451
                  replace h445 : LxP y431 y433 y435 (m.1 6) (0 : Int) := h445
                  have hLx := h445
                  replace h446 : y413 ≤ y433 := h446
                  replace h447 : (0 : Int) = 0 ∧ y413 + y415 ≤ y433 := h447 rfl
                  replace h448 : y411 = 2 := h448 rfl
                  replace h449 : (1 : Int) ≤ nu443 ∧ nu443 ≤ (4 : Int) := h449
                  replace h450 : nu443 = y421 := h450 rfl
                  have u452 : (m.1 8) + 1 ≤ y433 := by omega
                  clear g412 g414 g416 g420 g422 h423 u428 g438 h446 h447 h448 h450
                  have G453 : ∀ j, 0 ≤ (upI (upI (m.2 55) t 0) t nu443) j ∧ (upI (upI (m.2 55) t 0) t nu443) j ≤ 4 := upI_rg G384 ⟨by omega, by omega⟩
                  refine T_iast (a' := [(54, upI (m.2 54) t nu), (55, upI (upI (m.2 55) t 0) t nu443), (56, upI (m.2 56) t 0)]) 148 55 (upI (m.2 55) t 0) rfl rfl rfl (by omega) (show t < (8 : Int) by omega) rfl rfl ?_
                  refine T_ld 149 (.ref 189) rfl (fun _ => rfl) ?_
                  refine T_ld 152 (.int (i32 318)) rfl (fun _ => rfl) ?_
                  refine T_call 155 232 [.ref 189, .int (i32 318)] [] rfl (fun _ => rfl) rfl (c_need w (mO m [(7, y431), (8, y433), (9, y435), (10, 0), (11, y439), (12, y441)] [(54, upI (m.2 54) t nu), (55, upI (upI (m.2 55) t 0) t nu443), (56, upI (m.2 56) t 0)]) c N D (by omega) (Ty_mO hT rfl rfl ⟨g432, g434, g436, ⟨(by omega : (0 : Int) ≤ 0), (by omega : (0 : Int) ≤ 8)⟩, g440, g442, trivial⟩ ⟨G383, G453, G385, trivial⟩) 318 ⟨by decide, by decide⟩ (show 1 ≤ (318 : Int) by omega) (show LxP y431 y433 y435 (m.1 6) (0 : Int) by first | exact hLx | (intro h9; exfalso; omega) | (intro h9; have h8 := hLx (by omega); omega))) (fun rr454 k455 => ?_)
                  obtain ⟨y456, y458, y460, y462, y464, y466, g457, g459, g461, g463, g465, g467, h468, h469, h470, h471, rfl⟩ := k455
                  refine ⟨_, _, rfl, ?_⟩
                  refine T_nf (st' := []) (l' := [(7, y456), (8, y458), (9, y460), (10, y462), (11, y464), (12, y466)]) (a' := [(54, upI (m.2 54) t nu), (55, upI (upI (m.2 55) t 0) t nu443), (56, upI (m.2 56) t 0)]) rfl rfl rfl rfl rfl ?_
                  by_cases hf472 : y462 = 0
                  · skip
                    subst hf472
                    replace h468 : LxP y456 y458 y460 (m.1 6) (0 : Int) := h468
                    have hLx := h468
                    replace h469 : (0 : Int) = 0 ∧ y431 = (318 : Int) := h469 rfl
                    replace h470 : y433 ≤ y458 := h470
                    replace h471 : y433 + y435 ≤ y458 := h471 rfl
                    have u473 : (m.1 8) + 1 ≤ y458 := by omega
                    clear g432 g434 g436 g440 g442 h445 u452 g463 h469 h470 h471
                    refine T_gf 159 (.ref 226) rfl rfl rfl rfl rfl rfl ?_
                    refine T_ld 160 (.int (i32 t)) rfl (fun _ => rfl) ?_
                    refine T_ld 161 (.ref 189) rfl (fun _ => rfl) ?_
                    refine T_ld 162 (.int (i32 0)) rfl (fun _ => rfl) ?_
                    refine T_ld 164 (.int (i32 8)) rfl (fun _ => rfl) ?_
                    refine T_call 167 234 [.ref 189, .int (i32 0), .int (i32 8)] [.int (i32 t), .ref 226] rfl (fun _ => rfl) rfl (c_number w (mO m [(7, y456), (8, y458), (9, y460), (10, 0), (11, y464), (12, y466)] [(54, upI (m.2 54) t nu), (55, upI (upI (m.2 55) t 0) t nu443), (56, upI (m.2 56) t 0)]) c N D (by omega) (Ty_mO hT rfl rfl ⟨g457, g459, g461, ⟨(by omega : (0 : Int) ≤ 0), (by omega : (0 : Int) ≤ 8)⟩, g465, g467, trivial⟩ ⟨G383, G453, G385, trivial⟩) 0 8 ⟨by decide, by decide⟩ ⟨by decide, by decide⟩ (show LxP y456 y458 y460 (m.1 6) (0 : Int) by first | exact hLx | (intro h9; exfalso; omega) | (intro h9; have h8 := hLx (by omega); omega)) (show (0 : Int) ≤ (8 : Int) by omega)) (fun rr474 k475 => ?_)
                    obtain ⟨y476, y478, y480, y482, y484, y486, nu488, g477, g479, g481, g483, g485, g487, g489, h490, h491, h492, h493, h494, h495, rfl⟩ := k475
                    refine ⟨_, _, rfl, ?_⟩
                    refine T_nf (st' := [.int (i32 nu488), .int (i32 t), .ref 226]) (l' := [(7, y476), (8, y478), (9, y480), (10, y482), (11, y484), (12, y486)]) (a' := [(54, upI (m.2 54) t nu), (55, upI (upI (m.2 55) t 0) t nu443), (56, upI (m.2 56) t 0)]) rfl rfl rfl rfl rfl ?_
                    obtain ⟨g489a, g489b⟩ := g489
                    by_cases hf496 : y482 = 0
                    · skip
                      subst hf496
                      replace h490 : LxP y476 y478 y480 (m.1 6) (0 : Int) := h490
                      have hLx := h490
                      replace h491 : y458 ≤ y478 := h491
                      replace h492 : (0 : Int) = 0 ∧ y458 + y460 ≤ y478 := h492 rfl
                      replace h493 : y456 = 2 := h493 rfl
                      replace h494 : (0 : Int) ≤ nu488 ∧ nu488 ≤ (8 : Int) := h494
                      replace h495 : nu488 = y466 := h495 rfl
                      have u497 : (m.1 8) + 1 ≤ y478 := by omega
                      clear g457 g459 g461 g465 g467 h468 u473 g483 h491 h492 h493 h495
                      have G498 : ∀ j, 0 ≤ (upI (upI (m.2 56) t 0) t nu488) j ∧ (upI (upI (m.2 56) t 0) t nu488) j ≤ 8 := upI_rg G385 ⟨by omega, by omega⟩
                      refine T_iast (a' := [(54, upI (m.2 54) t nu), (55, upI (upI (m.2 55) t 0) t nu443), (56, upI (upI (m.2 56) t 0) t nu488)]) 168 56 (upI (m.2 56) t 0) rfl rfl rfl (by omega) (show t < (8 : Int) by omega) rfl rfl ?_
                      refine T_ld 169 (.ref 189) rfl (fun _ => rfl) ?_
                      refine T_ld 171 (.int (i32 59)) rfl (fun _ => rfl) ?_
                      refine T_call 174 232 [.ref 189, .int (i32 59)] [] rfl (fun _ => rfl) rfl (c_need w (mO m [(7, y476), (8, y478), (9, y480), (10, 0), (11, y484), (12, y486)] [(54, upI (m.2 54) t nu), (55, upI (upI (m.2 55) t 0) t nu443), (56, upI (upI (m.2 56) t 0) t nu488)]) c N D (by omega) (Ty_mO hT rfl rfl ⟨g477, g479, g481, ⟨(by omega : (0 : Int) ≤ 0), (by omega : (0 : Int) ≤ 8)⟩, g485, g487, trivial⟩ ⟨G383, G453, G498, trivial⟩) 59 ⟨by decide, by decide⟩ (show 1 ≤ (59 : Int) by omega) (show LxP y476 y478 y480 (m.1 6) (0 : Int) by first | exact hLx | (intro h9; exfalso; omega) | (intro h9; have h8 := hLx (by omega); omega))) (fun rr499 k500 => ?_)
                      obtain ⟨y501, y503, y505, y507, y509, y511, g502, g504, g506, g508, g510, g512, h513, h514, h515, h516, rfl⟩ := k500
                      refine ⟨_, _, rfl, ?_⟩
                      refine T_nf (st' := []) (l' := [(7, y501), (8, y503), (9, y505), (10, y507), (11, y509), (12, y511)]) (a' := [(54, upI (m.2 54) t nu), (55, upI (upI (m.2 55) t 0) t nu443), (56, upI (upI (m.2 56) t 0) t nu488)]) rfl rfl rfl rfl rfl ?_
                      by_cases hf517 : y507 = 0
                      · skip
                        subst hf517
                        replace h513 : LxP y501 y503 y505 (m.1 6) (0 : Int) := h513
                        have hLx := h513
                        replace h514 : (0 : Int) = 0 ∧ y476 = (59 : Int) := h514 rfl
                        replace h515 : y478 ≤ y503 := h515
                        replace h516 : y478 + y480 ≤ y503 := h516 rfl
                        have u518 : (m.1 8) + 1 ≤ y503 := by omega
                        clear g477 g479 g481 g485 g487 h490 u497 g508 h514 h515 h516
                        refine T_ret rfl (fun _ => rfl) ?_
                        exact ⟨y501, y503, y505, 0, y509, y511, upI (m.2 54) t nu, upI (upI (m.2 55) t 0) t nu443, upI (upI (m.2 56) t 0) t nu488, g502, g504, g506, ⟨by omega, by omega⟩, g510, g512, G383, G453, G498, (by omega), (by first | (first | exact hLx | (intro h9; exfalso; omega)) | (exfalso; omega)), (fun _ => ⟨(by omega), (by first | (rw [upI_s]; omega) | (exfalso; omega)), (by first | (intro h; rw [upI_s]; omega) | (exfalso; omega)), (by first | (exact agr_u (Int.le_refl _)) | (exfalso; omega))⟩), rfl⟩
                      · skip
                        replace h513 : LxP y501 y503 y505 (m.1 6) y507 := h513
                        have hLx := h513
                        clear h514
                        replace h515 : y478 ≤ y503 := h515
                        clear h516
                        have hf519 : 1 ≤ y507 := by omega
                        clear g477 g479 g481 g485 g487 h490 u497 h515
                        exact J174_76 y501 y503 y505 y507 y509 y511 (upI (m.2 54) t nu) (upI (upI (m.2 55) t 0) t nu443) (upI (upI (m.2 56) t 0) t nu488) g502 g504 g506 g508 g510 g512 G383 G453 G498 (by omega) (by omega)
                    · skip
                      replace h490 : LxP y476 y478 y480 (m.1 6) y482 := h490
                      have hLx := h490
                      replace h491 : y458 ≤ y478 := h491
                      clear h492
                      clear h493
                      replace h494 : (0 : Int) ≤ nu488 ∧ nu488 ≤ (8 : Int) := h494
                      clear h495
                      have hf520 : 1 ≤ y482 := by omega
                      clear g457 g459 g461 g465 g467 h468 u473 h491
                      exact J167_99 nu488 y476 y478 y480 y482 y484 y486 (upI (m.2 54) t nu) (upI (upI (m.2 55) t 0) t nu443) (upI (m.2 56) t 0) (r32 (by omega) (by omega)) g477 g479 g481 g483 g485 g487 G383 G453 G385 (by omega) (by omega) (by omega) (by omega)
                  · skip
                    replace h468 : LxP y456 y458 y460 (m.1 6) y462 := h468
                    have hLx := h468
                    clear h469
                    replace h470 : y433 ≤ y458 := h470
                    clear h471
                    have hf521 : 1 ≤ y462 := by omega
                    clear g432 g434 g436 g440 g442 h445 u452 h470
                    exact J155_144 y456 y458 y460 y462 y464 y466 (upI (m.2 54) t nu) (upI (upI (m.2 55) t 0) t nu443) (upI (m.2 56) t 0) g457 g459 g461 g463 g465 g467 G383 G453 G385 (by omega) (by omega)
                · skip
                  replace h445 : LxP y431 y433 y435 (m.1 6) y437 := h445
                  have hLx := h445
                  replace h446 : y413 ≤ y433 := h446
                  clear h447
                  clear h448
                  replace h449 : (1 : Int) ≤ nu443 ∧ nu443 ≤ (4 : Int) := h449
                  clear h450
                  have hf522 : 1 ≤ y437 := by omega
                  clear g412 g414 g416 g420 g422 h423 u428 h446
                  exact J147_189 nu443 y431 y433 y435 y437 y439 y441 (upI (m.2 54) t nu) (upI (m.2 55) t 0) (upI (m.2 56) t 0) (r32 (by omega) (by omega)) g432 g434 g436 g438 g440 g442 G383 G384 G385 (by omega) (by omega) (by omega) (by omega)
              · skip
                replace h423 : LxP y411 y413 y415 (m.1 6) y417 := h423
                have hLx := h423
                clear h424
                replace h425 : y364 ≤ y413 := h425
                clear h426
                have hf523 : 1 ≤ y417 := by omega
                clear g363 g365 g367 g371 g373 h375 u382 h425
                exact J136_234 y411 y413 y415 y417 y419 y421 (upI (m.2 54) t nu) (upI (m.2 55) t 0) (upI (m.2 56) t 0) g412 g414 g416 g418 g420 g422 G383 G384 G385 (by omega) (by omega)
          · skip
            replace h375 : LxP y362 y364 y366 (m.1 6) y368 := h375
            have hLx := h375
            replace h376 : y336 ≤ y364 := h376
            clear h377
            clear h378
            replace h379 : (1 : Int) ≤ nu ∧ nu ≤ (32 : Int) := h379
            clear h380
            have hf524 : 1 ≤ y368 := by omega
            clear g335 g337 g339 g343 g345 h346 h348 h349 u351 q355 q356 c359 h376
            exact J105_276 nu y362 y364 y366 y368 y370 y372 (r32 (by omega) (by omega)) g363 g365 g367 g369 g371 g373 (by omega) (by omega) (by omega) (by omega)
        · skip
          clear c357
          have hf525 : 1 ≤ y352 := by omega
          refine T_gf 97 (.ref 224) rfl rfl rfl rfl rfl rfl ?_
          refine T_ld 98 (.int (i32 t)) rfl (fun _ => rfl) ?_
          refine T_ld 99 (.ref 189) rfl (fun _ => rfl) ?_
          refine T_ld 100 (.int (i32 1)) rfl (fun _ => rfl) ?_
          refine T_ld 102 (.int (i32 32)) rfl (fun _ => rfl) ?_
          refine T_call 105 234 [.ref 189, .int (i32 1), .int (i32 32)] [.int (i32 t), .ref 224] rfl (fun _ => rfl) rfl (c_number w (mO m [(7, y334), (8, y336), (9, y338), (10, y352), (11, y353), (12, y344)] [(54, (m.2 54)), (55, (m.2 55)), (56, (m.2 56))]) c N D (by omega) (Ty_mO hT rfl rfl ⟨g335, g337, g339, q355, q356, g345, trivial⟩ ⟨(hT.2.1 54), (hT.2.1 55), (hT.2.1 56), trivial⟩) 1 32 ⟨by decide, by decide⟩ ⟨by decide, by decide⟩ (show LxP y334 y336 y338 (m.1 6) y352 by first | exact hLx | (intro h9; exfalso; omega) | (intro h9; have h8 := hLx (by omega); omega)) (show (1 : Int) ≤ (32 : Int) by omega)) (fun rr526 k527 => ?_)
          obtain ⟨y528, y530, y532, y534, y536, y538, nu, g529, g531, g533, g535, g537, g539, g540, h541, h542, h543, h544, h545, h546, rfl⟩ := k527
          refine ⟨_, _, rfl, ?_⟩
          refine T_nf (st' := [.int (i32 nu), .int (i32 t), .ref 224]) (l' := [(7, y528), (8, y530), (9, y532), (10, y534), (11, y536), (12, y538)]) (a' := [(54, (m.2 54)), (55, (m.2 55)), (56, (m.2 56))]) rfl rfl rfl rfl rfl ?_
          obtain ⟨g540a, g540b⟩ := g540
          replace h541 : LxP y528 y530 y532 (m.1 6) y534 := h541
          replace h542 : y336 ≤ y530 := h542
          replace h543 : y534 = 0 → y352 = 0 ∧ y336 + y338 ≤ y530 := h543
          replace h544 : y534 = 0 → y334 = 2 := h544
          replace h545 : (1 : Int) ≤ nu ∧ nu ≤ (32 : Int) := h545
          replace h546 : y534 = 0 → nu = y344 := h546
          have hf547 : 1 ≤ y534 := by omega
          clear h543
          clear h544
          clear h546
          have hLx := h541
          clear g335 g337 g339 g343 g345 h346 h348 h349 u351 q355 q356 hf525 h542
          exact J105_276 nu y528 y530 y532 y534 y536 y538 (r32 (by omega) (by omega)) g529 g531 g533 g535 g537 g539 (by omega) (by omega) (by omega) (by omega)
      refine T_gf 11 (.int (i32 0)) rfl rfl rfl rfl rfl rfl ?_
      refine T_if 93 14 rfl rfl rfl ⟨by decide, by decide⟩ (fun h548 => absurd (show (0 : Int) ≠ 0 from h548) (by decide)) (fun _ => ?_)
      refine T_gf 18 (.ref 228) rfl rfl rfl rfl rfl rfl ?_
      refine T_ld 19 (.int (i32 t)) rfl (fun _ => rfl) ?_
      refine T_bald 20 58 (m.2 58) rfl rfl rfl (by omega) (show t < (8 : Int) by omega) rfl ?_
      have e549 : 0 ≤ m.2 58 t ∧ m.2 58 t ≤ 1 := hT.2.1 58 t
      refine T_if 93 23 rfl rfl rfl (r32 (by omega) (by omega)) (fun (h550 : (m.2 58) t = 0) => ?_) (fun (h550 : ¬ ((m.2 58) t = 0)) => ?_)
      · skip
        exact J93_354 0 y342 ⟨by omega, by omega⟩ g343 (fun _ => (by omega))
      · skip
        refine T_gf 27 (.int (i32 y334)) rfl rfl rfl rfl rfl rfl ?_
        refine T_ld 28 (.int (i32 2)) rfl (fun _ => rfl) ?_
        refine T_icmp 93 31 rfl rfl rfl (r32 (by omega) (by omega)) ⟨by decide, by decide⟩ (fun (h551 : y334 ≠ 2) => ?_) (fun (h551 : ¬ (y334 ≠ 2)) => ?_)
        · skip
          exact J93_354 0 y342 ⟨by omega, by omega⟩ g343 (fun _ => (by omega))
        · skip
          refine T_gf 35 (.long (i64 y344)) rfl rfl rfl rfl rfl rfl ?_
          refine T_ld 36 (.long (i64 1)) rfl (fun _ => rfl) ?_
          refine T_lcmp 37 rfl rfl (r64 (by omega) (by omega)) ⟨by decide, by decide⟩ (fun z552 h553 => ?_)
          obtain ⟨h553a, h553b, h553c, h553d, h553e⟩ := h553
          refine T_if 93 40 rfl rfl rfl (r32 (by omega) (by omega)) (fun (h554 : z552 = 0) => ?_) (fun (h554 : ¬ (z552 = 0)) => ?_)
          · skip
            have hl555 : y344 = 1 := by omega
            exact J93_354 0 y342 ⟨by omega, by omega⟩ g343 (fun _ => (by omega))
          · skip
            have hl556 : y344 ≠ 1 := by omega
            refine T_gf 44 (.long (i64 y344)) rfl rfl rfl rfl rfl rfl ?_
            refine T_ld 47 (.long (i64 2)) rfl (fun _ => rfl) ?_
            refine T_lcmp 48 rfl rfl (r64 (by omega) (by omega)) ⟨by decide, by decide⟩ (fun z557 h558 => ?_)
            obtain ⟨h558a, h558b, h558c, h558d, h558e⟩ := h558
            refine T_if 93 51 rfl rfl rfl (r32 (by omega) (by omega)) (fun (h559 : z557 = 0) => ?_) (fun (h559 : ¬ (z557 = 0)) => ?_)
            · skip
              have hl560 : y344 = 2 := by omega
              exact J93_354 0 y342 ⟨by omega, by omega⟩ g343 (fun _ => (by omega))
            · skip
              have hl561 : y344 ≠ 2 := by omega
              refine T_gf 55 (.long (i64 y344)) rfl rfl rfl rfl rfl rfl ?_
              refine T_ld 58 (.long (i64 4)) rfl (fun _ => rfl) ?_
              refine T_lcmp 59 rfl rfl (r64 (by omega) (by omega)) ⟨by decide, by decide⟩ (fun z562 h563 => ?_)
              obtain ⟨h563a, h563b, h563c, h563d, h563e⟩ := h563
              refine T_if 93 62 rfl rfl rfl (r32 (by omega) (by omega)) (fun (h564 : z562 = 0) => ?_) (fun (h564 : ¬ (z562 = 0)) => ?_)
              · skip
                have hl565 : y344 = 4 := by omega
                exact J93_354 0 y342 ⟨by omega, by omega⟩ g343 (fun _ => (by omega))
              · skip
                have hl566 : y344 ≠ 4 := by omega
                refine T_gf 66 (.long (i64 y344)) rfl rfl rfl rfl rfl rfl ?_
                refine T_ld 69 (.long (i64 8)) rfl (fun _ => rfl) ?_
                refine T_lcmp 70 rfl rfl (r64 (by omega) (by omega)) ⟨by decide, by decide⟩ (fun z567 h568 => ?_)
                obtain ⟨h568a, h568b, h568c, h568d, h568e⟩ := h568
                refine T_if 93 73 rfl rfl rfl (r32 (by omega) (by omega)) (fun (h569 : z567 = 0) => ?_) (fun (h569 : ¬ (z567 = 0)) => ?_)
                · skip
                  have hl570 : y344 = 8 := by omega
                  exact J93_354 0 y342 ⟨by omega, by omega⟩ g343 (fun _ => (by omega))
                · skip
                  have hl571 : y344 ≠ 8 := by omega
                  refine T_gf 77 (.long (i64 y344)) rfl rfl rfl rfl rfl rfl ?_
                  refine T_ld 80 (.long (i64 16)) rfl (fun _ => rfl) ?_
                  refine T_lcmp 81 rfl rfl (r64 (by omega) (by omega)) ⟨by decide, by decide⟩ (fun z572 h573 => ?_)
                  obtain ⟨h573a, h573b, h573c, h573d, h573e⟩ := h573
                  refine T_if 93 84 rfl rfl rfl (r32 (by omega) (by omega)) (fun (h574 : z572 = 0) => ?_) (fun (h574 : ¬ (z572 = 0)) => ?_)
                  · skip
                    have hl575 : y344 = 16 := by omega
                    exact J93_354 0 y342 ⟨by omega, by omega⟩ g343 (fun _ => (by omega))
                  · skip
                    have hl576 : y344 ≠ 16 := by omega
                    refine T_ld 85 (.ref 189) rfl (fun _ => rfl) ?_
                    refine T_ld 86 (.int (i32 5)) rfl (fun _ => rfl) ?_
                    refine T_gf 90 (.int (i32 y336)) rfl rfl rfl rfl rfl rfl ?_
                    refine T_call 93 222 [.ref 189, .int (i32 5), .int (i32 y336)] [] rfl (fun _ => rfl) rfl (c_wrong w (mO m [(7, y334), (8, y336), (9, y338), (10, 0), (11, y342), (12, y344)] [(54, (m.2 54)), (55, (m.2 55)), (56, (m.2 56))]) c N D (by omega) (Ty_mO hT rfl rfl ⟨g335, g337, g339, ⟨(by omega : (0 : Int) ≤ 0), (by omega : (0 : Int) ≤ 8)⟩, g343, g345, trivial⟩ ⟨(hT.2.1 54), (hT.2.1 55), (hT.2.1 56), trivial⟩) 5 y336 ⟨by decide, by decide⟩ (r32 (by omega) (by omega)) (show 1 ≤ (5 : Int) ∧ (5 : Int) ≤ 8 by omega) (show 0 ≤ y336 ∧ y336 ≤ 4000 by omega)) (fun rr577 k578 => ?_)
                    obtain ⟨y579, y581, g580, g582, h583, rfl⟩ := k578
                    refine ⟨_, _, rfl, ?_⟩
                    refine T_nf (st' := []) (l' := [(7, y334), (8, y336), (9, y338), (10, y579), (11, y581), (12, y344)]) (a' := [(54, (m.2 54)), (55, (m.2 55)), (56, (m.2 56))]) rfl rfl rfl rfl rfl ?_
                    replace h583 : (0 < (0 : Int) → y579 = (0 : Int) ∧ y581 = y342) ∧ ((0 : Int) ≤ 0 → y579 = (5 : Int) ∧ y581 = y336) := h583
                    have hf584 : 1 ≤ y579 := by omega
                    clear g343 h553a h553b h553c h553d h553e h554 h558a h558b h558c h558d h558e h559 h563a h563b h563c h563d h563e h564 h568a h568b h568c h568d h568e h569 h573a h573b h573c h573d h573e h574 h583
                    exact J93_354 y579 y581 g580 g582 (fun h => absurd h (by omega))
    · skip
      replace h346 : LxP y334 y336 y338 (m.1 6) y340 := h346
      have hLx := h346
      clear h347
      replace h348 : (m.1 8) ≤ y336 := h348
      clear h349
      have hf585 : 1 ≤ y340 := by omega
      refine T_gf 11 (.int (i32 y340)) rfl rfl rfl rfl rfl rfl ?_
      refine T_if 93 14 rfl rfl rfl (r32 (by omega) (by omega)) (fun (h586 : y340 ≠ 0) => ?_) (fun (h586 : ¬ (y340 ≠ 0)) => by exfalso; omega)
      refine T_gf 97 (.ref 224) rfl rfl rfl rfl rfl rfl ?_
      refine T_ld 98 (.int (i32 t)) rfl (fun _ => rfl) ?_
      refine T_ld 99 (.ref 189) rfl (fun _ => rfl) ?_
      refine T_ld 100 (.int (i32 1)) rfl (fun _ => rfl) ?_
      refine T_ld 102 (.int (i32 32)) rfl (fun _ => rfl) ?_
      refine T_call 105 234 [.ref 189, .int (i32 1), .int (i32 32)] [.int (i32 t), .ref 224] rfl (fun _ => rfl) rfl (c_number w (mO m [(7, y334), (8, y336), (9, y338), (10, y340), (11, y342), (12, y344)] [(54, (m.2 54)), (55, (m.2 55)), (56, (m.2 56))]) c N D (by omega) (Ty_mO hT rfl rfl ⟨g335, g337, g339, g341, g343, g345, trivial⟩ ⟨(hT.2.1 54), (hT.2.1 55), (hT.2.1 56), trivial⟩) 1 32 ⟨by decide, by decide⟩ ⟨by decide, by decide⟩ (show LxP y334 y336 y338 (m.1 6) y340 by first | exact hLx | (intro h9; exfalso; omega) | (intro h9; have h8 := hLx (by omega); omega)) (show (1 : Int) ≤ (32 : Int) by omega)) (fun rr587 k588 => ?_)
      obtain ⟨y589, y591, y593, y595, y597, y599, nu, g590, g592, g594, g596, g598, g600, g601, h602, h603, h604, h605, h606, h607, rfl⟩ := k588
      refine ⟨_, _, rfl, ?_⟩
      refine T_nf (st' := [.int (i32 nu), .int (i32 t), .ref 224]) (l' := [(7, y589), (8, y591), (9, y593), (10, y595), (11, y597), (12, y599)]) (a' := [(54, (m.2 54)), (55, (m.2 55)), (56, (m.2 56))]) rfl rfl rfl rfl rfl ?_
      obtain ⟨g601a, g601b⟩ := g601
      replace h602 : LxP y589 y591 y593 (m.1 6) y595 := h602
      replace h603 : y336 ≤ y591 := h603
      replace h604 : y595 = 0 → y340 = 0 ∧ y336 + y338 ≤ y591 := h604
      replace h605 : y595 = 0 → y334 = 2 := h605
      replace h606 : (1 : Int) ≤ nu ∧ nu ≤ (32 : Int) := h606
      replace h607 : y595 = 0 → nu = y344 := h607
      have hf608 : 1 ≤ y595 := by omega
      clear h604
      clear h605
      clear h607
      have hLx := h602
      clear g335 g337 g339 g341 g343 g345 h346 h348 hf585 h586 h603
      exact J105_276 nu y589 y591 y593 y595 y597 y599 (r32 (by omega) (by omega)) g590 g592 g594 g596 g598 g600 (by omega) (by omega) (by omega) (by omega)
  · skip
    clear hC
    refine T_ld 1 (.ref 189) rfl (fun _ => rfl) ?_
    refine T_ld 4 (.int (i32 316)) rfl (fun _ => rfl) ?_
    refine T_call 7 232 [.ref 189, .int (i32 316)] [] rfl (fun _ => rfl) rfl (c_need w (mO m [(7, (m.1 7)), (8, (m.1 8)), (9, (m.1 9)), (10, (m.1 10)), (11, (m.1 11)), (12, (m.1 12))] [(54, (m.2 54)), (55, (m.2 55)), (56, (m.2 56))]) c N D (by omega) (Ty_mO hT rfl rfl ⟨f7, f8, f9, f10, f11, f12, trivial⟩ ⟨(hT.2.1 54), (hT.2.1 55), (hT.2.1 56), trivial⟩) 316 ⟨by decide, by decide⟩ (show 1 ≤ (316 : Int) by omega) (show LxP (m.1 7) (m.1 8) (m.1 9) (m.1 6) (m.1 10) by first | exact hLx | (intro h9; exfalso; omega) | (intro h9; have h8 := hLx (by omega); omega))) (fun rr609 k610 => ?_)
    obtain ⟨y611, y613, y615, y617, y619, y621, g612, g614, g616, g618, g620, g622, h623, h624, h625, h626, rfl⟩ := k610
    refine ⟨_, _, rfl, ?_⟩
    refine T_nf (st' := []) (l' := [(7, y611), (8, y613), (9, y615), (10, y617), (11, y619), (12, y621)]) (a' := [(54, (m.2 54)), (55, (m.2 55)), (56, (m.2 56))]) rfl rfl rfl rfl rfl ?_
    replace h623 : LxP y611 y613 y615 (m.1 6) y617 := h623
    replace h624 : y617 = 0 → (m.1 10) = 0 ∧ (m.1 7) = (316 : Int) := h624
    replace h625 : (m.1 8) ≤ y613 := h625
    replace h626 : y617 = 0 → (m.1 8) + (m.1 9) ≤ y613 := h626
    have hf627 : 1 ≤ y617 := by omega
    clear h624
    clear h626
    have hLx := h623
    refine T_gf 11 (.int (i32 y617)) rfl rfl rfl rfl rfl rfl ?_
    refine T_if 93 14 rfl rfl rfl (r32 (by omega) (by omega)) (fun (h628 : y617 ≠ 0) => ?_) (fun (h628 : ¬ (y617 ≠ 0)) => by exfalso; omega)
    refine T_gf 97 (.ref 224) rfl rfl rfl rfl rfl rfl ?_
    refine T_ld 98 (.int (i32 t)) rfl (fun _ => rfl) ?_
    refine T_ld 99 (.ref 189) rfl (fun _ => rfl) ?_
    refine T_ld 100 (.int (i32 1)) rfl (fun _ => rfl) ?_
    refine T_ld 102 (.int (i32 32)) rfl (fun _ => rfl) ?_
    refine T_call 105 234 [.ref 189, .int (i32 1), .int (i32 32)] [.int (i32 t), .ref 224] rfl (fun _ => rfl) rfl (c_number w (mO m [(7, y611), (8, y613), (9, y615), (10, y617), (11, y619), (12, y621)] [(54, (m.2 54)), (55, (m.2 55)), (56, (m.2 56))]) c N D (by omega) (Ty_mO hT rfl rfl ⟨g612, g614, g616, g618, g620, g622, trivial⟩ ⟨(hT.2.1 54), (hT.2.1 55), (hT.2.1 56), trivial⟩) 1 32 ⟨by decide, by decide⟩ ⟨by decide, by decide⟩ (show LxP y611 y613 y615 (m.1 6) y617 by first | exact hLx | (intro h9; exfalso; omega) | (intro h9; have h8 := hLx (by omega); omega)) (show (1 : Int) ≤ (32 : Int) by omega)) (fun rr629 k630 => ?_)
    obtain ⟨y631, y633, y635, y637, y639, y641, nu, g632, g634, g636, g638, g640, g642, g643, h644, h645, h646, h647, h648, h649, rfl⟩ := k630
    refine ⟨_, _, rfl, ?_⟩
    refine T_nf (st' := [.int (i32 nu), .int (i32 t), .ref 224]) (l' := [(7, y631), (8, y633), (9, y635), (10, y637), (11, y639), (12, y641)]) (a' := [(54, (m.2 54)), (55, (m.2 55)), (56, (m.2 56))]) rfl rfl rfl rfl rfl ?_
    obtain ⟨g643a, g643b⟩ := g643
    replace h644 : LxP y631 y633 y635 (m.1 6) y637 := h644
    replace h645 : y613 ≤ y633 := h645
    replace h646 : y637 = 0 → y617 = 0 ∧ y613 + y615 ≤ y633 := h646
    replace h647 : y637 = 0 → y611 = 2 := h647
    replace h648 : (1 : Int) ≤ nu ∧ nu ≤ (32 : Int) := h648
    replace h649 : y637 = 0 → nu = y621 := h649
    have hf650 : 1 ≤ y637 := by omega
    clear h646
    clear h647
    clear h649
    have hLx := h644
    clear g612 g614 g616 g618 g620 g622 hf627 h623 h625 h628 h645
    have G651 : ∀ j, 0 ≤ (upI (m.2 54) t nu) j ∧ (upI (m.2 54) t nu) j ≤ 32 := upI_rg (hT.2.1 54) ⟨by omega, by omega⟩
    refine T_iast (a' := [(54, upI (m.2 54) t nu), (55, (m.2 55)), (56, (m.2 56))]) 106 54 (m.2 54) rfl rfl rfl (by omega) (show t < (8 : Int) by omega) rfl rfl ?_
    refine T_gf 110 (.ref 225) rfl rfl rfl rfl rfl rfl ?_
    refine T_ld 111 (.int (i32 t)) rfl (fun _ => rfl) ?_
    refine T_ld 112 (.int (i32 0)) rfl (fun _ => rfl) ?_
    have G652 : ∀ j, 0 ≤ (upI (m.2 55) t 0) j ∧ (upI (m.2 55) t 0) j ≤ 4 := upI_rg (hT.2.1 55) ⟨by omega, by omega⟩
    refine T_iast (a' := [(54, upI (m.2 54) t nu), (55, upI (m.2 55) t 0), (56, (m.2 56))]) 113 55 (m.2 55) rfl rfl rfl (by omega) (show t < (8 : Int) by omega) rfl rfl ?_
    refine T_gf 117 (.ref 226) rfl rfl rfl rfl rfl rfl ?_
    refine T_ld 118 (.int (i32 t)) rfl (fun _ => rfl) ?_
    refine T_ld 119 (.int (i32 0)) rfl (fun _ => rfl) ?_
    have G653 : ∀ j, 0 ≤ (upI (m.2 56) t 0) j ∧ (upI (m.2 56) t 0) j ≤ 8 := upI_rg (hT.2.1 56) ⟨by omega, by omega⟩
    refine T_iast (a' := [(54, upI (m.2 54) t nu), (55, upI (m.2 55) t 0), (56, upI (m.2 56) t 0)]) 120 56 (m.2 56) rfl rfl rfl (by omega) (show t < (8 : Int) by omega) rfl rfl ?_
    refine T_gf 124 (.ref 228) rfl rfl rfl rfl rfl rfl ?_
    refine T_ld 125 (.int (i32 t)) rfl (fun _ => rfl) ?_
    refine T_bald 126 58 (m.2 58) rfl rfl rfl (by omega) (show t < (8 : Int) by omega) rfl ?_
    have e654 : 0 ≤ m.2 58 t ∧ m.2 58 t ≤ 1 := hT.2.1 58 t
    refine T_if 168 129 rfl rfl rfl (r32 (by omega) (by omega)) (fun (h655 : (m.2 58) t = 0) => ?_) (fun (h655 : ¬ ((m.2 58) t = 0)) => ?_)
    · skip
      refine T_ld 169 (.ref 189) rfl (fun _ => rfl) ?_
      refine T_ld 171 (.int (i32 59)) rfl (fun _ => rfl) ?_
      refine T_call 174 232 [.ref 189, .int (i32 59)] [] rfl (fun _ => rfl) rfl (c_need w (mO m [(7, y631), (8, y633), (9, y635), (10, y637), (11, y639), (12, y641)] [(54, upI (m.2 54) t nu), (55, upI (m.2 55) t 0), (56, upI (m.2 56) t 0)]) c N D (by omega) (Ty_mO hT rfl rfl ⟨g632, g634, g636, g638, g640, g642, trivial⟩ ⟨G651, G652, G653, trivial⟩) 59 ⟨by decide, by decide⟩ (show 1 ≤ (59 : Int) by omega) (show LxP y631 y633 y635 (m.1 6) y637 by first | exact hLx | (intro h9; exfalso; omega) | (intro h9; have h8 := hLx (by omega); omega))) (fun rr656 k657 => ?_)
      obtain ⟨y658, y660, y662, y664, y666, y668, g659, g661, g663, g665, g667, g669, h670, h671, h672, h673, rfl⟩ := k657
      refine ⟨_, _, rfl, ?_⟩
      refine T_nf (st' := []) (l' := [(7, y658), (8, y660), (9, y662), (10, y664), (11, y666), (12, y668)]) (a' := [(54, upI (m.2 54) t nu), (55, upI (m.2 55) t 0), (56, upI (m.2 56) t 0)]) rfl rfl rfl rfl rfl ?_
      replace h670 : LxP y658 y660 y662 (m.1 6) y664 := h670
      replace h671 : y664 = 0 → y637 = 0 ∧ y631 = (59 : Int) := h671
      replace h672 : y633 ≤ y660 := h672
      replace h673 : y664 = 0 → y633 + y635 ≤ y660 := h673
      have hf674 : 1 ≤ y664 := by omega
      clear h671
      clear h673
      have hLx := h670
      clear g632 g634 g636 g638 g640 g642 hf650 h644 h672
      refine T_ret rfl (fun _ => rfl) ?_
      exact ⟨y658, y660, y662, y664, y666, y668, upI (m.2 54) t nu, upI (m.2 55) t 0, upI (m.2 56) t 0, g659, g661, g663, g665, g667, g669, G651, G652, G653, (by omega), (by first | (first | exact hLx | (intro h9; exfalso; omega)) | (exfalso; omega)), (fun h => absurd h (by omega)), rfl⟩
    · skip
      refine T_ld 130 (.ref 189) rfl (fun _ => rfl) ?_
      refine T_ld 133 (.int (i32 317)) rfl (fun _ => rfl) ?_
      refine T_call 136 232 [.ref 189, .int (i32 317)] [] rfl (fun _ => rfl) rfl (c_need w (mO m [(7, y631), (8, y633), (9, y635), (10, y637), (11, y639), (12, y641)] [(54, upI (m.2 54) t nu), (55, upI (m.2 55) t 0), (56, upI (m.2 56) t 0)]) c N D (by omega) (Ty_mO hT rfl rfl ⟨g632, g634, g636, g638, g640, g642, trivial⟩ ⟨G651, G652, G653, trivial⟩) 317 ⟨by decide, by decide⟩ (show 1 ≤ (317 : Int) by omega) (show LxP y631 y633 y635 (m.1 6) y637 by first | exact hLx | (intro h9; exfalso; omega) | (intro h9; have h8 := hLx (by omega); omega))) (fun rr675 k676 => ?_)
      obtain ⟨y677, y679, y681, y683, y685, y687, g678, g680, g682, g684, g686, g688, h689, h690, h691, h692, rfl⟩ := k676
      refine ⟨_, _, rfl, ?_⟩
      refine T_nf (st' := []) (l' := [(7, y677), (8, y679), (9, y681), (10, y683), (11, y685), (12, y687)]) (a' := [(54, upI (m.2 54) t nu), (55, upI (m.2 55) t 0), (56, upI (m.2 56) t 0)]) rfl rfl rfl rfl rfl ?_
      replace h689 : LxP y677 y679 y681 (m.1 6) y683 := h689
      replace h690 : y683 = 0 → y637 = 0 ∧ y631 = (317 : Int) := h690
      replace h691 : y633 ≤ y679 := h691
      replace h692 : y683 = 0 → y633 + y635 ≤ y679 := h692
      have hf693 : 1 ≤ y683 := by omega
      clear h690
      clear h692
      have hLx := h689
      clear g632 g634 g636 g638 g640 g642 hf650 h644 h691
      refine T_gf 140 (.ref 225) rfl rfl rfl rfl rfl rfl ?_
      refine T_ld 141 (.int (i32 t)) rfl (fun _ => rfl) ?_
      refine T_ld 142 (.ref 189) rfl (fun _ => rfl) ?_
      refine T_ld 143 (.int (i32 1)) rfl (fun _ => rfl) ?_
      refine T_ld 144 (.int (i32 4)) rfl (fun _ => rfl) ?_
      refine T_call 147 234 [.ref 189, .int (i32 1), .int (i32 4)] [.int (i32 t), .ref 225] rfl (fun _ => rfl) rfl (c_number w (mO m [(7, y677), (8, y679), (9, y681), (10, y683), (11, y685), (12, y687)] [(54, upI (m.2 54) t nu), (55, upI (m.2 55) t 0), (56, upI (m.2 56) t 0)]) c N D (by omega) (Ty_mO hT rfl rfl ⟨g678, g680, g682, g684, g686, g688, trivial⟩ ⟨G651, G652, G653, trivial⟩) 1 4 ⟨by decide, by decide⟩ ⟨by decide, by decide⟩ (show LxP y677 y679 y681 (m.1 6) y683 by first | exact hLx | (intro h9; exfalso; omega) | (intro h9; have h8 := hLx (by omega); omega)) (show (1 : Int) ≤ (4 : Int) by omega)) (fun rr694 k695 => ?_)
      obtain ⟨y696, y698, y700, y702, y704, y706, nu708, g697, g699, g701, g703, g705, g707, g709, h710, h711, h712, h713, h714, h715, rfl⟩ := k695
      refine ⟨_, _, rfl, ?_⟩
      refine T_nf (st' := [.int (i32 nu708), .int (i32 t), .ref 225]) (l' := [(7, y696), (8, y698), (9, y700), (10, y702), (11, y704), (12, y706)]) (a' := [(54, upI (m.2 54) t nu), (55, upI (m.2 55) t 0), (56, upI (m.2 56) t 0)]) rfl rfl rfl rfl rfl ?_
      obtain ⟨g709a, g709b⟩ := g709
      replace h710 : LxP y696 y698 y700 (m.1 6) y702 := h710
      replace h711 : y679 ≤ y698 := h711
      replace h712 : y702 = 0 → y683 = 0 ∧ y679 + y681 ≤ y698 := h712
      replace h713 : y702 = 0 → y677 = 2 := h713
      replace h714 : (1 : Int) ≤ nu708 ∧ nu708 ≤ (4 : Int) := h714
      replace h715 : y702 = 0 → nu708 = y687 := h715
      have hf716 : 1 ≤ y702 := by omega
      clear h712
      clear h713
      clear h715
      have hLx := h710
      clear g678 g680 g682 g684 g686 g688 hf693 h689 h711
      have G717 : ∀ j, 0 ≤ (upI (upI (m.2 55) t 0) t nu708) j ∧ (upI (upI (m.2 55) t 0) t nu708) j ≤ 4 := upI_rg G652 ⟨by omega, by omega⟩
      refine T_iast (a' := [(54, upI (m.2 54) t nu), (55, upI (upI (m.2 55) t 0) t nu708), (56, upI (m.2 56) t 0)]) 148 55 (upI (m.2 55) t 0) rfl rfl rfl (by omega) (show t < (8 : Int) by omega) rfl rfl ?_
      refine T_ld 149 (.ref 189) rfl (fun _ => rfl) ?_
      refine T_ld 152 (.int (i32 318)) rfl (fun _ => rfl) ?_
      refine T_call 155 232 [.ref 189, .int (i32 318)] [] rfl (fun _ => rfl) rfl (c_need w (mO m [(7, y696), (8, y698), (9, y700), (10, y702), (11, y704), (12, y706)] [(54, upI (m.2 54) t nu), (55, upI (upI (m.2 55) t 0) t nu708), (56, upI (m.2 56) t 0)]) c N D (by omega) (Ty_mO hT rfl rfl ⟨g697, g699, g701, g703, g705, g707, trivial⟩ ⟨G651, G717, G653, trivial⟩) 318 ⟨by decide, by decide⟩ (show 1 ≤ (318 : Int) by omega) (show LxP y696 y698 y700 (m.1 6) y702 by first | exact hLx | (intro h9; exfalso; omega) | (intro h9; have h8 := hLx (by omega); omega))) (fun rr718 k719 => ?_)
      obtain ⟨y720, y722, y724, y726, y728, y730, g721, g723, g725, g727, g729, g731, h732, h733, h734, h735, rfl⟩ := k719
      refine ⟨_, _, rfl, ?_⟩
      refine T_nf (st' := []) (l' := [(7, y720), (8, y722), (9, y724), (10, y726), (11, y728), (12, y730)]) (a' := [(54, upI (m.2 54) t nu), (55, upI (upI (m.2 55) t 0) t nu708), (56, upI (m.2 56) t 0)]) rfl rfl rfl rfl rfl ?_
      replace h732 : LxP y720 y722 y724 (m.1 6) y726 := h732
      replace h733 : y726 = 0 → y702 = 0 ∧ y696 = (318 : Int) := h733
      replace h734 : y698 ≤ y722 := h734
      replace h735 : y726 = 0 → y698 + y700 ≤ y722 := h735
      have hf736 : 1 ≤ y726 := by omega
      clear h733
      clear h735
      have hLx := h732
      clear g697 g699 g701 g703 g705 g707 hf716 h710 h734
      refine T_gf 159 (.ref 226) rfl rfl rfl rfl rfl rfl ?_
      refine T_ld 160 (.int (i32 t)) rfl (fun _ => rfl) ?_
      refine T_ld 161 (.ref 189) rfl (fun _ => rfl) ?_
      refine T_ld 162 (.int (i32 0)) rfl (fun _ => rfl) ?_
      refine T_ld 164 (.int (i32 8)) rfl (fun _ => rfl) ?_
      refine T_call 167 234 [.ref 189, .int (i32 0), .int (i32 8)] [.int (i32 t), .ref 226] rfl (fun _ => rfl) rfl (c_number w (mO m [(7, y720), (8, y722), (9, y724), (10, y726), (11, y728), (12, y730)] [(54, upI (m.2 54) t nu), (55, upI (upI (m.2 55) t 0) t nu708), (56, upI (m.2 56) t 0)]) c N D (by omega) (Ty_mO hT rfl rfl ⟨g721, g723, g725, g727, g729, g731, trivial⟩ ⟨G651, G717, G653, trivial⟩) 0 8 ⟨by decide, by decide⟩ ⟨by decide, by decide⟩ (show LxP y720 y722 y724 (m.1 6) y726 by first | exact hLx | (intro h9; exfalso; omega) | (intro h9; have h8 := hLx (by omega); omega)) (show (0 : Int) ≤ (8 : Int) by omega)) (fun rr737 k738 => ?_)
      obtain ⟨y739, y741, y743, y745, y747, y749, nu751, g740, g742, g744, g746, g748, g750, g752, h753, h754, h755, h756, h757, h758, rfl⟩ := k738
      refine ⟨_, _, rfl, ?_⟩
      refine T_nf (st' := [.int (i32 nu751), .int (i32 t), .ref 226]) (l' := [(7, y739), (8, y741), (9, y743), (10, y745), (11, y747), (12, y749)]) (a' := [(54, upI (m.2 54) t nu), (55, upI (upI (m.2 55) t 0) t nu708), (56, upI (m.2 56) t 0)]) rfl rfl rfl rfl rfl ?_
      obtain ⟨g752a, g752b⟩ := g752
      replace h753 : LxP y739 y741 y743 (m.1 6) y745 := h753
      replace h754 : y722 ≤ y741 := h754
      replace h755 : y745 = 0 → y726 = 0 ∧ y722 + y724 ≤ y741 := h755
      replace h756 : y745 = 0 → y720 = 2 := h756
      replace h757 : (0 : Int) ≤ nu751 ∧ nu751 ≤ (8 : Int) := h757
      replace h758 : y745 = 0 → nu751 = y730 := h758
      have hf759 : 1 ≤ y745 := by omega
      clear h755
      clear h756
      clear h758
      have hLx := h753
      clear g721 g723 g725 g727 g729 g731 hf736 h732 h754
      have G760 : ∀ j, 0 ≤ (upI (upI (m.2 56) t 0) t nu751) j ∧ (upI (upI (m.2 56) t 0) t nu751) j ≤ 8 := upI_rg G653 ⟨by omega, by omega⟩
      refine T_iast (a' := [(54, upI (m.2 54) t nu), (55, upI (upI (m.2 55) t 0) t nu708), (56, upI (upI (m.2 56) t 0) t nu751)]) 168 56 (upI (m.2 56) t 0) rfl rfl rfl (by omega) (show t < (8 : Int) by omega) rfl rfl ?_
      refine T_ld 169 (.ref 189) rfl (fun _ => rfl) ?_
      refine T_ld 171 (.int (i32 59)) rfl (fun _ => rfl) ?_
      refine T_call 174 232 [.ref 189, .int (i32 59)] [] rfl (fun _ => rfl) rfl (c_need w (mO m [(7, y739), (8, y741), (9, y743), (10, y745), (11, y747), (12, y749)] [(54, upI (m.2 54) t nu), (55, upI (upI (m.2 55) t 0) t nu708), (56, upI (upI (m.2 56) t 0) t nu751)]) c N D (by omega) (Ty_mO hT rfl rfl ⟨g740, g742, g744, g746, g748, g750, trivial⟩ ⟨G651, G717, G760, trivial⟩) 59 ⟨by decide, by decide⟩ (show 1 ≤ (59 : Int) by omega) (show LxP y739 y741 y743 (m.1 6) y745 by first | exact hLx | (intro h9; exfalso; omega) | (intro h9; have h8 := hLx (by omega); omega))) (fun rr761 k762 => ?_)
      obtain ⟨y763, y765, y767, y769, y771, y773, g764, g766, g768, g770, g772, g774, h775, h776, h777, h778, rfl⟩ := k762
      refine ⟨_, _, rfl, ?_⟩
      refine T_nf (st' := []) (l' := [(7, y763), (8, y765), (9, y767), (10, y769), (11, y771), (12, y773)]) (a' := [(54, upI (m.2 54) t nu), (55, upI (upI (m.2 55) t 0) t nu708), (56, upI (upI (m.2 56) t 0) t nu751)]) rfl rfl rfl rfl rfl ?_
      replace h775 : LxP y763 y765 y767 (m.1 6) y769 := h775
      replace h776 : y769 = 0 → y745 = 0 ∧ y739 = (59 : Int) := h776
      replace h777 : y741 ≤ y765 := h777
      replace h778 : y769 = 0 → y741 + y743 ≤ y765 := h778
      have hf779 : 1 ≤ y769 := by omega
      clear h776
      clear h778
      have hLx := h775
      clear g740 g742 g744 g746 g748 g750 hf759 h753 h777
      refine T_ret rfl (fun _ => rfl) ?_
      exact ⟨y763, y765, y767, y769, y771, y773, upI (m.2 54) t nu, upI (upI (m.2 55) t 0) t nu708, upI (upI (m.2 56) t 0) t nu751, g764, g766, g768, g770, g772, g774, G651, G717, G760, (by omega), (by first | (first | exact hLx | (intro h9; exfalso; omega)) | (exfalso; omega)), (fun h => absurd h (by omega)), rfl⟩
