def Q_takeList (m : mR) (c : Nat → Option am_C) (N : Nat) (t : Int) : ag_Re af_T → Prop := fun R => ∃ (M : mR), Ty M ∧ ((M.1 10) = 0 → (m.1 10) = 0) ∧ (LxP (M.1 7) (M.1 8) (M.1 9) (m.1 6) (M.1 10)) ∧ (M.1 10 = 0 → ((m.1 8) + 1 ≤ (M.1 8)) ∧ (agr (m.2 53) (M.2 53) t) ∧ (agr (m.2 114) (M.2 114) (8 * t)) ∧ (∀ k, 8 * t ≤ k → k < 8 * t + (M.2 53) t → (M.2 114) k < (m.1 25))) ∧ R = (.inl (none), (mhp (mO m [(7, (M.1 7)), (8, (M.1 8)), (9, (M.1 9)), (10, (M.1 10)), (11, (M.1 11)), (12, (M.1 12))] [(53, (M.2 53)), (114, (M.2 114)), (116, (M.2 116))]) c, N), 0, 0)
set_option maxHeartbeats 8000000 in
theorem c_takeList (w : wX) (m : mR) (c : Nat → Option am_C) (N D : Nat) (hD : 7 ≤ D) (hT : Ty m) (t : Int) (qt : R32 t) (hLx0 : LxP (m.1 7) (m.1 8) (m.1 9) (m.1 6) (m.1 10)) (hNM0 : ∀ k, (m.2 14) k + (m.2 15) k ≤ 4000) (p2 : 0 ≤ t ∧ t ≤ 7) (hC : m.1 10 = 0 → (PN (m.1 13) (m.1 19) (m.1 20) (m.1 21) (m.1 22) (m.1 23) (m.1 25) (m.1 26) (m.2 16) (m.2 17)) ∧ ((m.2 53) t = 0)) : TC w D 276 [.ref 189, .int (i32 t)] (mhp m c, N) (Q_takeList m c N t) := by
  obtain ⟨D, rfl⟩ : ∃ k, D = k + 1 := ⟨D - 1, by omega⟩
  obtain ⟨qta, qtb⟩ := id qt
  have hLx := hLx0
  have hNM := hNM0
  have f7 : 0 ≤ m.1 7 ∧ m.1 7 ≤ 330 := hT.1 7
  have f8 : 0 ≤ m.1 8 ∧ m.1 8 ≤ 4000 := hT.1 8
  have f9 : 0 ≤ m.1 9 ∧ m.1 9 ≤ 4000 := hT.1 9
  have f10 : 0 ≤ m.1 10 ∧ m.1 10 ≤ 8 := hT.1 10
  have f11 : (-1) ≤ m.1 11 ∧ m.1 11 ≤ 4000 := hT.1 11
  have f12 : (-9223372036854775808) ≤ m.1 12 ∧ m.1 12 ≤ 9223372036854775807 := hT.1 12
  have f25 : 0 ≤ m.1 25 ∧ m.1 25 ≤ 16 := hT.1 25
  have f22 : 0 ≤ m.1 22 ∧ m.1 22 ≤ 8 := hT.1 22
  have f19 : 0 ≤ m.1 19 ∧ m.1 19 ≤ 12 := hT.1 19
  have f20 : 0 ≤ m.1 20 ∧ m.1 20 ≤ 12 := hT.1 20
  have f21 : 0 ≤ m.1 21 ∧ m.1 21 ≤ 16 := hT.1 21
  have f13 : 0 ≤ m.1 13 ∧ m.1 13 ≤ 120 := hT.1 13
  have f6 : 0 ≤ m.1 6 ∧ m.1 6 ≤ 4000 := hT.1 6
  have f23 : 0 ≤ m.1 23 ∧ m.1 23 ≤ 16 := hT.1 23
  have f26 : 0 ≤ m.1 26 ∧ m.1 26 ≤ 8 := hT.1 26
  refine Tc_of rfl ?_
  show TT w D pm_276 (0, [(0, .ref 189), (1, .int (i32 t))], [], (mhp m c, N), 0, 0) (Q_takeList m c N t)
  rw [show (mhp m c, N) = (mhp (mO m [(7, (m.1 7)), (8, (m.1 8)), (9, (m.1 9)), (10, (m.1 10)), (11, (m.1 11)), (12, (m.1 12))] [(53, (m.2 53)), (114, (m.2 114)), (116, (m.2 116))]) c, N) from congrArg (fun M => (mhp M c, N)) (mO_pad m [7, 8, 9, 10, 11, 12] [53, 114, 116])]
  by_cases hf0 : m.1 10 = 0
  · skip
    obtain ⟨pPN, hta0⟩ := hC hf0
    have h7 := hLx (by omega)
    have hNM := hNM0
    have hK1 := agr_r (m.2 53) t
    have hK2 := agr_r (m.2 114) (8 * t)
    have hLI : ∀ k, 8 * t ≤ k → k < 8 * t + (m.2 53) t → (m.2 114) k < (m.1 25) := fun k k0 k1 => by rw [hta0] at k1; omega
    refine T_ld 1 (.ref 189) rfl (fun _ => rfl) ?_
    refine T_ld 4 (.int (i32 315)) rfl (fun _ => rfl) ?_
    refine T_call 7 232 [.ref 189, .int (i32 315)] [] rfl (fun _ => rfl) rfl (c_need w (mO m [(7, (m.1 7)), (8, (m.1 8)), (9, (m.1 9)), (10, (m.1 10)), (11, (m.1 11)), (12, (m.1 12))] [(53, (m.2 53)), (114, (m.2 114)), (116, (m.2 116))]) c N D (by omega) (Ty_mO hT rfl rfl ⟨f7, f8, f9, f10, f11, f12, trivial⟩ ⟨(hT.2.1 53), (hT.2.1 114), (hT.2.1 116), trivial⟩) 315 ⟨by decide, by decide⟩ (show 1 ≤ (315 : Int) by omega) (show LxP (m.1 7) (m.1 8) (m.1 9) (m.1 6) (m.1 10) by first | exact hLx | (intro h9; exfalso; omega) | (intro h9; have h8 := hLx (by omega); omega))) (fun rr1 k2 => ?_)
    obtain ⟨y3, y5, y7, y9, y11, y13, g4, g6, g8, g10, g12, g14, h15, h16, h17, h18, rfl⟩ := k2
    refine ⟨_, _, rfl, ?_⟩
    refine T_nf2 (st' := []) (l' := [(7, y3), (8, y5), (9, y7), (10, y9), (11, y11), (12, y13)]) (a' := [(53, (m.2 53)), (114, (m.2 114)), (116, (m.2 116))]) [7, 8, 9, 10, 11, 12] [] rfl ⟨rfl, rfl, rfl, rfl, rfl, rfl, rfl, rfl, rfl, rfl, rfl, rfl, trivial⟩ ⟨rfl, rfl, rfl, rfl, rfl, rfl, trivial⟩ rfl rfl (by decide) (by decide) ?_
    by_cases hf19 : y9 = 0
    · skip
      subst hf19
      replace h15 : LxP y3 y5 y7 (m.1 6) (0 : Int) := h15
      have hLx := h15
      replace h16 : (m.1 10) = 0 ∧ (m.1 7) = (315 : Int) := h16 rfl
      replace h17 : (m.1 8) ≤ y5 := h17
      replace h18 : (m.1 8) + (m.1 9) ≤ y5 := h18 rfl
      have u20 : (m.1 8) + 1 ≤ y5 := by omega
      clear g10
      refine T_ld 8 (.int (i32 0)) rfl (fun _ => rfl) ?_
      refine T_sto 9 [(2, .int (i32 0)), (0, .ref 189), (1, .int (i32 t))] rfl (fun _ => rfl) ?_
      have L9_23 : ∀ (n : Nat) (v21 : Int) (m22 : mR), (R32 v21) → (Ty m22) → (0 ≤ v21) → (v21 ≤ 16) → 16 - v21 < (n : Int) → TT w D pm_276 (9, [(0, .ref 189), (1, .int (i32 t)), (2, .int (i32 v21))], [], (mhp (mO m [(7, y3), (8, y5), (9, y7), (10, 0), (11, y11), (12, y13)] [(53, (m.2 53)), (114, (m.2 114)), (116, (m22.2 116))]) c, N), 0, 0) (Q_takeList m c N t) := by
        intro n
        induction n with
        | zero =>
          intro v21 m22 q24 q25 ic26 ic27 hmu
          obtain ⟨q24a, q24b⟩ := id q24
          exfalso
          omega
        | succ n ih =>
          intro v21 m22 q24 q25 ic26 ic27 hmu
          obtain ⟨q24a, q24b⟩ := id q24
          have ih29 := ih
          refine T_ld 10 (.int (i32 v21)) rfl (fun _ => rfl) ?_
          refine T_ld 12 (.int (i32 16)) rfl (fun _ => rfl) ?_
          refine T_icmp 28 15 rfl rfl rfl (r32 (by omega) (by omega)) ⟨by decide, by decide⟩ (fun (h30 : (16 : Int) ≤ v21) => ?_) (fun (h30 : ¬ ((16 : Int) ≤ v21)) => ?_)
          · skip
            refine T_ld 29 (.int (i32 1)) rfl (fun _ => rfl) ?_
            refine T_sto 30 [(2, .int (i32 1)), (0, .ref 189), (1, .int (i32 t))] rfl (fun _ => rfl) ?_
            have L30_33 : ∀ (n : Nat) (v31 : Int) (m32 : mR), (R32 v31) → (Ty m32) → (0 ≤ v31) → (v31 ≤ 1) → (LxP (m32.1 7) (m32.1 8) (m32.1 9) (m.1 6) (m32.1 10)) → (v31 = 0 ∨ v31 = 1) → ((m32.1 10) = 0 → ((m.1 8) + 1 ≤ (m32.1 8)) ∧ (agr (m.2 53) (m32.2 53) t) ∧ (agr (m.2 114) (m32.2 114) (8 * t)) ∧ (∀ k, 8 * t ≤ k → k < 8 * t + (m32.2 53) t → (m32.2 114) k < (m.1 25))) → 1000000 * (8 - (m32.1 10)) + 2 * (4000 - (m32.1 8)) + v31 < (n : Int) → TT w D pm_276 (30, [(0, .ref 189), (1, .int (i32 t)), (2, .int (i32 v31))], [], (mhp (mO m [(7, (m32.1 7)), (8, (m32.1 8)), (9, (m32.1 9)), (10, (m32.1 10)), (11, (m32.1 11)), (12, (m32.1 12))] [(53, (m32.2 53)), (114, (m32.2 114)), (116, (m32.2 116))]) c, N), 0, 0) (Q_takeList m c N t) := by
              intro n
              induction n with
              | zero =>
                intro v31 m32 q34 q35 ic36 ic37 ic38 ic39 c40 hmu
                obtain ⟨q34a, q34b⟩ := id q34
                have q35_7 : 0 ≤ m32.1 7 ∧ m32.1 7 ≤ 330 := q35.1 7
                have q35_8 : 0 ≤ m32.1 8 ∧ m32.1 8 ≤ 4000 := q35.1 8
                have q35_9 : 0 ≤ m32.1 9 ∧ m32.1 9 ≤ 4000 := q35.1 9
                have q35_10 : 0 ≤ m32.1 10 ∧ m32.1 10 ≤ 8 := q35.1 10
                have q35_11 : (-1) ≤ m32.1 11 ∧ m32.1 11 ≤ 4000 := q35.1 11
                have q35_12 : (-9223372036854775808) ≤ m32.1 12 ∧ m32.1 12 ≤ 9223372036854775807 := q35.1 12
                have hLx := ic38
                exfalso
                omega
              | succ n ih =>
                intro v31 m32 q34 q35 ic36 ic37 ic38 ic39 c40 hmu
                obtain ⟨q34a, q34b⟩ := id q34
                have q35_7 : 0 ≤ m32.1 7 ∧ m32.1 7 ≤ 330 := q35.1 7
                have q35_8 : 0 ≤ m32.1 8 ∧ m32.1 8 ≤ 4000 := q35.1 8
                have q35_9 : 0 ≤ m32.1 9 ∧ m32.1 9 ≤ 4000 := q35.1 9
                have q35_10 : 0 ≤ m32.1 10 ∧ m32.1 10 ≤ 8 := q35.1 10
                have q35_11 : (-1) ≤ m32.1 11 ∧ m32.1 11 ≤ 4000 := q35.1 11
                have q35_12 : (-9223372036854775808) ≤ m32.1 12 ∧ m32.1 12 ≤ 9223372036854775807 := q35.1 12
                have hLx := ic38
                have ih41 := ih
                by_cases hf42 : (m32.1 10) = 0
                · skip
                  obtain ⟨c43, c44, c45, c46⟩ := c40 hf42
                  clear c40
                  have hK1 := c44
                  have hK2 := c45
                  have hLI := c46
                  refine T_ld 31 (.int (i32 v31)) rfl (fun _ => rfl) ?_
                  refine T_if 183 34 rfl rfl rfl (r32 (by omega) (by omega)) (fun (h47 : v31 = 0) => ?_) (fun (h47 : ¬ (v31 = 0)) => ?_)
                  · skip
                    refine T_ld 184 (.ref 189) rfl (fun _ => rfl) ?_
                    refine T_ld 186 (.int (i32 59)) rfl (fun _ => rfl) ?_
                    refine T_call 189 232 [.ref 189, .int (i32 59)] [] rfl (fun _ => rfl) rfl (c_need w (mO m [(7, (m32.1 7)), (8, (m32.1 8)), (9, (m32.1 9)), (10, (m32.1 10)), (11, (m32.1 11)), (12, (m32.1 12))] [(53, (m32.2 53)), (114, (m32.2 114)), (116, (m32.2 116))]) c N D (by omega) (Ty_mO hT rfl rfl ⟨(q35.1 7), (q35.1 8), (q35.1 9), (q35.1 10), (q35.1 11), (q35.1 12), trivial⟩ ⟨(q35.2.1 53), (q35.2.1 114), (q35.2.1 116), trivial⟩) 59 ⟨by decide, by decide⟩ (show 1 ≤ (59 : Int) by omega) (show LxP (m32.1 7) (m32.1 8) (m32.1 9) (m.1 6) (m32.1 10) by first | exact hLx | (intro h9; exfalso; omega) | (intro h9; have h8 := hLx (by omega); omega))) (fun rr48 k49 => ?_)
                    obtain ⟨y50, y52, y54, y56, y58, y60, g51, g53, g55, g57, g59, g61, h62, h63, h64, h65, rfl⟩ := k49
                    refine ⟨_, _, rfl, ?_⟩
                    refine T_nf2 (st' := []) (l' := [(7, y50), (8, y52), (9, y54), (10, y56), (11, y58), (12, y60)]) (a' := [(53, (m32.2 53)), (114, (m32.2 114)), (116, (m32.2 116))]) [7, 8, 9, 10, 11, 12] [] rfl ⟨rfl, rfl, rfl, rfl, rfl, rfl, rfl, rfl, rfl, rfl, rfl, rfl, trivial⟩ ⟨rfl, rfl, rfl, rfl, rfl, rfl, trivial⟩ rfl rfl (by decide) (by decide) ?_
                    by_cases hf66 : y56 = 0
                    · skip
                      subst hf66
                      replace h62 : LxP y50 y52 y54 (m.1 6) (0 : Int) := h62
                      have hLx := h62
                      replace h63 : (m32.1 10) = 0 ∧ (m32.1 7) = (59 : Int) := h63 rfl
                      replace h64 : (m32.1 8) ≤ y52 := h64
                      replace h65 : (m32.1 8) + (m32.1 9) ≤ y52 := h65 rfl
                      have u67 : (m.1 8) + 1 ≤ y52 := by omega
                      clear g4 g6 g8 g12 g14 h15 h17 h18 u20 q35_7 q35_9 q35_11 q35_12 ic38 g57 h63 h65
                      refine T_ret rfl (fun _ => rfl) ?_
                      exact ⟨(mO m [(7, y50), (8, y52), (9, y54), (10, 0), (11, y58), (12, y60)] [(53, (m32.2 53)), (114, (m32.2 114)), (116, (m32.2 116))]), (Ty_mO hT rfl rfl ⟨g51, g53, g55, ⟨(by omega : (0 : Int) ≤ 0), (by omega : (0 : Int) ≤ 8)⟩, g59, g61, trivial⟩ ⟨(q35.2.1 53), (q35.2.1 114), (q35.2.1 116), trivial⟩), (show (0 : Int) = 0 → (m.1 10) = 0 by omega), (show LxP y50 y52 y54 (m.1 6) (0 : Int) by first | (first | exact hLx | exact (fun _ => hLx (by omega)) | (intro h9; exfalso; omega)) | (exfalso; omega)), (fun _ => ⟨(show (m.1 8) + 1 ≤ y52 by omega), (show agr (m.2 53) (m32.2 53) t by first | (exact hK1) | (exfalso; omega)), (show agr (m.2 114) (m32.2 114) (8 * t) by first | (exact hK2) | (exfalso; omega)), (show ∀ k, 8 * t ≤ k → k < 8 * t + (m32.2 53) t → (m32.2 114) k < (m.1 25) by first | (exact hLI) | (exfalso; omega))⟩), rfl⟩
                    · skip
                      replace h62 : LxP y50 y52 y54 (m.1 6) y56 := h62
                      have hLx := h62
                      clear h63
                      replace h64 : (m32.1 8) ≤ y52 := h64
                      clear h65
                      have hf68 : 1 ≤ y56 := by omega
                      clear g4 g6 g8 g12 g14 h15 h17 h18 u20 q35_7 q35_9 q35_11 q35_12 ic38
                      refine T_ret rfl (fun _ => rfl) ?_
                      exact ⟨(mO m [(7, y50), (8, y52), (9, y54), (10, y56), (11, y58), (12, y60)] [(53, (m32.2 53)), (114, (m32.2 114)), (116, (m32.2 116))]), (Ty_mO hT rfl rfl ⟨g51, g53, g55, g57, g59, g61, trivial⟩ ⟨(q35.2.1 53), (q35.2.1 114), (q35.2.1 116), trivial⟩), (show y56 = 0 → (m.1 10) = 0 by omega), (show LxP y50 y52 y54 (m.1 6) y56 by first | (first | exact hLx | exact (fun _ => hLx (by omega)) | (intro h9; exfalso; omega)) | (exfalso; omega)), (fun (h : y56 = 0) => absurd h (by omega)), rfl⟩
                  · skip
                    refine T_gf 38 (.int (i32 (m32.1 10))) rfl rfl rfl rfl rfl rfl ?_
                    refine T_if 183 41 rfl rfl rfl (r32 (by omega) (by omega)) (fun (h69 : (m32.1 10) ≠ 0) => by exfalso; omega) (fun (h69 : ¬ ((m32.1 10) ≠ 0)) => ?_)
                    have h7 := hLx (by omega)
                    refine T_gf 45 (.int (i32 (m32.1 7))) rfl rfl rfl rfl rfl rfl ?_
                    refine T_ld 46 (.int (i32 1)) rfl (fun _ => rfl) ?_
                    refine T_icmp 69 49 rfl rfl rfl (r32 (by omega) (by omega)) ⟨by decide, by decide⟩ (fun (h70 : (m32.1 7) ≠ 1) => ?_) (fun (h70 : ¬ ((m32.1 7) ≠ 1)) => ?_)
                    · skip
                      refine T_gf 73 (.int (i32 (m32.1 8))) rfl rfl rfl rfl rfl rfl ?_
                      refine T_sto 74 [(3, .int (i32 (m32.1 8))), (0, .ref 189), (1, .int (i32 t)), (2, .int (i32 v31))] rfl (fun _ => rfl) ?_
                      refine T_ld 75 (.ref 189) rfl (fun _ => rfl) ?_
                      refine T_ld 77 (.int (i32 6)) rfl (fun _ => rfl) ?_
                      have hOL : (m32.1 10) = 0 → ∀ k, 0 ≤ k → k < (m.1 13) → (m.2 16) k = 6 → 0 ≤ (m.2 17) k ∧ (m.2 17) k < (m.1 25) := fun _ k h1 h2 h3 => by
                        have h4 := PNl_6 pPN k h1 h2 h3
                        omega
                      refine T_call 80 236 [.ref 189, .int (i32 6)] [] rfl (fun _ => rfl) rfl (c_oldName w (mO m [(7, (m32.1 7)), (8, (m32.1 8)), (9, (m32.1 9)), (10, (m32.1 10)), (11, (m32.1 11)), (12, (m32.1 12))] [(53, (m32.2 53)), (114, (m32.2 114)), (116, (m32.2 116))]) c N D (by omega) (Ty_mO hT rfl rfl ⟨(q35.1 7), (q35.1 8), (q35.1 9), (q35.1 10), (q35.1 11), (q35.1 12), trivial⟩ ⟨(q35.2.1 53), (q35.2.1 114), (q35.2.1 116), trivial⟩) 6 (m.1 25) ⟨by decide, by decide⟩ (show LxP (m32.1 7) (m32.1 8) (m32.1 9) (m.1 6) (m32.1 10) by first | exact hLx | (intro h9; exfalso; omega) | (intro h9; have h8 := hLx (by omega); omega)) (show ∀ k, (m.2 14) k + (m.2 15) k ≤ 4000 by first | exact p1 | exact hNM) (show 1 ≤ (6 : Int) ∧ (6 : Int) ≤ 7 ∧ (6 : Int) ≠ 5 by omega) (show (m.1 25) ≤ 16 by omega) (show (m32.1 10) = 0 → ∀ k, 0 ≤ k → k < (m.1 13) → (m.2 16) k = (6 : Int) → 0 ≤ (m.2 17) k ∧ (m.2 17) k < (m.1 25) by first | exact hOL | (intro h; exfalso; omega)) (show (6 : Int) = 3 → 3 ≤ (m.1 25) by omega)) (fun rr71 k72 => ?_)
                      obtain ⟨y73, y75, y77, y79, y81, y83, oo, g74, g76, g78, g80, g82, g84, g85, h86, h87, h88, h89, h90, h91, rfl⟩ := k72
                      refine ⟨_, _, rfl, ?_⟩
                      refine T_nf2 (st' := [.int (i32 oo)]) (l' := [(7, y73), (8, y75), (9, y77), (10, y79), (11, y81), (12, y83)]) (a' := [(53, (m32.2 53)), (114, (m32.2 114)), (116, (m32.2 116))]) [7, 8, 9, 10, 11, 12] [] rfl ⟨rfl, rfl, rfl, rfl, rfl, rfl, rfl, rfl, rfl, rfl, rfl, rfl, trivial⟩ ⟨rfl, rfl, rfl, rfl, rfl, rfl, trivial⟩ rfl rfl (by decide) (by decide) ?_
                      obtain ⟨g85a, g85b⟩ := g85
                      by_cases hf92 : y79 = 0
                      · skip
                        subst hf92
                        replace h86 : LxP y73 y75 y77 (m.1 6) (0 : Int) := h86
                        have hLx := h86
                        replace h87 : (m32.1 8) ≤ y75 := h87
                        replace h88 : (m32.1 10) = 0 ∧ (m32.1 8) + (m32.1 9) ≤ y75 := h88 rfl
                        replace h89 : (m32.1 7) = 1 := h89 rfl
                        replace h90 : 0 ≤ oo ∧ (oo < (m.1 25) ∨ oo = 0) := h90
                        replace h91 : oo < (m.1 25) := h91 rfl
                        have u93 : (m.1 8) + 1 ≤ y75 := by omega
                        clear g4 g6 g8 g12 g14 h15 h17 h18 u20 q35_7 q35_9 q35_11 q35_12 ic38 h70 g80 h88 h89
                        refine T_sto 82 [(4, .int (i32 oo)), (3, .int (i32 (m32.1 8))), (0, .ref 189), (1, .int (i32 t)), (2, .int (i32 v31))] rfl (fun _ => rfl) ?_
                        refine T_gf 86 (.int (i32 0)) rfl rfl rfl rfl rfl rfl ?_
                        refine T_if 106 89 rfl rfl rfl ⟨by decide, by decide⟩ (fun h94 => absurd (show (0 : Int) ≠ 0 from h94) (by decide)) (fun _ => ?_)
                        refine T_gf 93 (.ref 276) rfl rfl rfl rfl rfl rfl ?_
                        refine T_ld 95 (.int (i32 oo)) rfl (fun _ => rfl) ?_
                        refine T_bald 96 116 (m32.2 116) rfl rfl rfl (by omega) (show oo < (16 : Int) by omega) rfl ?_
                        have e95 : 0 ≤ (m32.2 116) oo ∧ (m32.2 116) oo ≤ 1 := (q35.2.1 116) oo
                        refine T_if 106 99 rfl rfl rfl (r32 (by omega) (by omega)) (fun (h96 : (m32.2 116) oo = 0) => ?_) (fun (h96 : ¬ ((m32.2 116) oo = 0)) => ?_)
                        · skip
                          refine T_gf 110 (.int (i32 0)) rfl rfl rfl rfl rfl rfl ?_
                          refine T_if 114 113 rfl rfl rfl ⟨by decide, by decide⟩ (fun _ => ?_) (fun h97 => absurd (show (0 : Int) ≤ 0 by decide) h97)
                          refine T_gf 118 (.ref 276) rfl rfl rfl rfl rfl rfl ?_
                          refine T_ld 120 (.int (i32 oo)) rfl (fun _ => rfl) ?_
                          refine T_ld 121 (.int (i32 1)) rfl (fun _ => rfl) ?_
                          have G98 : ∀ j, 0 ≤ (upI (m32.2 116) oo 1) j ∧ (upI (m32.2 116) oo 1) j ≤ 1 := upI_rg (q35.2.1 116) ⟨by omega, by omega⟩
                          refine T_bast (a' := [(53, (m32.2 53)), (114, (m32.2 114)), (116, upI (m32.2 116) oo 1)]) 122 116 (m32.2 116) rfl rfl rfl (by omega) (show oo < (16 : Int) by omega) (by omega) rfl rfl ?_
                          refine T_gf 126 (.ref 274) rfl rfl rfl rfl rfl rfl ?_
                          refine T_ld 128 (.int (i32 8)) rfl (fun _ => rfl) ?_
                          refine T_ld 129 (.int (i32 t)) rfl (fun _ => rfl) ?_
                          refine T_imul 130 rfl rfl ?_
                          refine T_gf 134 (.ref 223) rfl rfl rfl rfl rfl rfl ?_
                          refine T_ld 135 (.int (i32 t)) rfl (fun _ => rfl) ?_
                          refine T_iald 136 53 (m32.2 53) rfl rfl rfl (by omega) (show t < (8 : Int) by omega) rfl ?_
                          have e99 : 0 ≤ (m32.2 53) t ∧ (m32.2 53) t ≤ 8 := (q35.2.1 53) t
                          refine T_iadd 137 rfl rfl ?_
                          refine T_ld 139 (.int (i32 oo)) rfl (fun _ => rfl) ?_
                          have G100 : ∀ j, 0 ≤ (upI (m32.2 114) ((8 * t) + ((m32.2 53) t)) oo) j ∧ (upI (m32.2 114) ((8 * t) + ((m32.2 53) t)) oo) j ≤ 15 := upI_rg (q35.2.1 114) ⟨by omega, by omega⟩
                          refine T_iast (a' := [(53, (m32.2 53)), (114, upI (m32.2 114) ((8 * t) + ((m32.2 53) t)) oo), (116, upI (m32.2 116) oo 1)]) 140 114 (m32.2 114) rfl rfl rfl (by omega) (show ((8 * t) + ((m32.2 53) t)) < (64 : Int) by omega) rfl rfl ?_
                          refine T_gf 144 (.ref 223) rfl rfl rfl rfl rfl rfl ?_
                          refine T_ld 145 (.int (i32 t)) rfl (fun _ => rfl) ?_
                          refine T_dup2 146 rfl (fun _ => rfl) ?_
                          refine T_iald 147 53 (m32.2 53) rfl rfl rfl (by omega) (show t < (8 : Int) by omega) rfl ?_
                          have e101 : 0 ≤ (m32.2 53) t ∧ (m32.2 53) t ≤ 8 := (q35.2.1 53) t
                          refine T_ld 148 (.int (i32 1)) rfl (fun _ => rfl) ?_
                          refine T_iadd 149 rfl rfl ?_
                          have G102 : ∀ j, 0 ≤ (upI (m32.2 53) t (((m32.2 53) t) + 1)) j ∧ (upI (m32.2 53) t (((m32.2 53) t) + 1)) j ≤ 8 := upI_rg (q35.2.1 53) ⟨by omega, by omega⟩
                          refine T_iast (a' := [(53, upI (m32.2 53) t (((m32.2 53) t) + 1)), (114, upI (m32.2 114) ((8 * t) + ((m32.2 53) t)) oo), (116, upI (m32.2 116) oo 1)]) 150 53 (m32.2 53) rfl rfl rfl (by omega) (show t < (8 : Int) by omega) rfl rfl ?_
                          have hLI : ∀ k, 8 * t ≤ k → k < 8 * t + (upI (m32.2 53) t (((m32.2 53) t) + 1)) t → (upI (m32.2 114) ((8 * t) + ((m32.2 53) t)) oo) k < (m.1 25) := by
                            intro k k0 k1
                            rw [upI_s] at k1
                            unfold upI
                            split
                            · omega
                            · exact hLI k k0 (by omega)
                          refine T_gf 154 (.int (i32 0)) rfl rfl rfl rfl rfl rfl ?_
                          refine T_if 170 157 rfl rfl rfl ⟨by decide, by decide⟩ (fun h103 => absurd (show (0 : Int) ≠ 0 from h103) (by decide)) (fun _ => ?_)
                          refine T_gf 161 (.int (i32 y73)) rfl rfl rfl rfl rfl rfl ?_
                          refine T_ld 163 (.int (i32 44)) rfl (fun _ => rfl) ?_
                          have J171_105 : ∀ (s104 : Int), (R32 s104) → (0 ≤ s104) → (s104 ≤ 1) → TT w D pm_276 (171, [(0, .ref 189), (1, .int (i32 t)), (2, .int (i32 v31)), (3, .int (i32 (m32.1 8))), (4, .int (i32 oo))], [.int (i32 s104)], (mhp (mO m [(7, y73), (8, y75), (9, y77), (10, 0), (11, y81), (12, y83)] [(53, upI (m32.2 53) t (((m32.2 53) t) + 1)), (114, upI (m32.2 114) ((8 * t) + ((m32.2 53) t)) oo), (116, upI (m32.2 116) oo 1)]) c, N), 0, 0) (Q_takeList m c N t) := by
                            intro s104 q106 ic107 ic108
                            obtain ⟨q106a, q106b⟩ := id q106
                            refine T_sto 172 [(2, .int (i32 s104)), (0, .ref 189), (1, .int (i32 t)), (3, .int (i32 (m32.1 8))), (4, .int (i32 oo))] rfl (fun _ => rfl) ?_
                            refine T_ld 173 (.int (i32 s104)) rfl (fun _ => rfl) ?_
                            refine T_if 180 176 rfl rfl rfl (r32 (by omega) (by omega)) (fun (h110 : s104 = 0) => ?_) (fun (h110 : ¬ (s104 = 0)) => ?_)
                            · skip
                              refine T_goto 30 rfl (fun _ => rfl) ?_
                              refine Tm_lv (a := [(0, .ref 189), (1, .int (i32 t)), (2, .int (i32 s104))]) rfl rfl ⟨rfl, rfl, rfl, trivial⟩ ?_
                              exact ih41 s104 (mO m [(7, y73), (8, y75), (9, y77), (10, 0), (11, y81), (12, y83)] [(53, upI (m32.2 53) t (((m32.2 53) t) + 1)), (114, upI (m32.2 114) ((8 * t) + ((m32.2 53) t)) oo), (116, upI (m32.2 116) oo 1)]) (r32 (by omega) (by omega)) (Ty_mO hT rfl rfl ⟨g74, g76, g78, ⟨(by omega : (0 : Int) ≤ 0), (by omega : (0 : Int) ≤ 8)⟩, g82, g84, trivial⟩ ⟨G102, G100, G98, trivial⟩) (show 0 ≤ s104 by omega) (show s104 ≤ 1 by omega) (show LxP y73 y75 y77 (m.1 6) (0 : Int) by exact hLx) (show s104 = 0 ∨ s104 = 1 by omega) (fun _ => ⟨(show (m.1 8) + 1 ≤ y75 by omega), (show agr (m.2 53) (upI (m32.2 53) t (((m32.2 53) t) + 1)) t by first | exact hK1 | exact agr_t hK1 (agr_u (Int.le_refl _)) (Int.le_refl _)), (show agr (m.2 114) (upI (m32.2 114) ((8 * t) + ((m32.2 53) t)) oo) (8 * t) by first | exact hK2 | exact agr_t hK2 (agr_u (by omega)) (Int.le_refl _)), (show ∀ k, 8 * t ≤ k → k < 8 * t + (upI (m32.2 53) t (((m32.2 53) t) + 1)) t → (upI (m32.2 114) ((8 * t) + ((m32.2 53) t)) oo) k < (m.1 25) by exact hLI)⟩) (show 1000000 * (8 - (0 : Int)) + 2 * (4000 - y75) + s104 < (n : Int) by omega)
                            · skip
                              refine T_ld 177 (.ref 189) rfl (fun _ => rfl) ?_
                              refine T_call 180 212 [.ref 189] [] rfl (fun _ => rfl) rfl (c_next w (mO m [(7, y73), (8, y75), (9, y77), (10, 0), (11, y81), (12, y83)] [(53, upI (m32.2 53) t (((m32.2 53) t) + 1)), (114, upI (m32.2 114) ((8 * t) + ((m32.2 53) t)) oo), (116, upI (m32.2 116) oo 1)]) c N D (by omega) (Ty_mO hT rfl rfl ⟨g74, g76, g78, ⟨(by omega : (0 : Int) ≤ 0), (by omega : (0 : Int) ≤ 8)⟩, g82, g84, trivial⟩ ⟨G102, G100, G98, trivial⟩) (show (0 : Int) = 0 → y75 + y77 ≤ (m.1 6) by first | omega | (intro h9; have h8 := hLx h9; omega))) (fun rr111 k112 => ?_)
                              obtain ⟨y113, y115, y117, y119, y121, y123, g114, g116, g118, g120, g122, g124, h125, h126, h127, h128, rfl⟩ := k112
                              refine ⟨_, _, rfl, ?_⟩
                              refine T_nf2 (st' := []) (l' := [(7, y113), (8, y115), (9, y117), (10, y119), (11, y121), (12, y123)]) (a' := [(53, upI (m32.2 53) t (((m32.2 53) t) + 1)), (114, upI (m32.2 114) ((8 * t) + ((m32.2 53) t)) oo), (116, upI (m32.2 116) oo 1)]) [7, 8, 9, 10, 11, 12] [] rfl ⟨rfl, rfl, rfl, rfl, rfl, rfl, rfl, rfl, rfl, rfl, rfl, rfl, trivial⟩ ⟨rfl, rfl, rfl, rfl, rfl, rfl, trivial⟩ rfl rfl (by decide) (by decide) ?_
                              by_cases hf129 : y119 = 0
                              · skip
                                subst hf129
                                replace h125 : LxP y113 y115 y117 (m.1 6) (0 : Int) := h125
                                have hLx := h125
                                replace h126 : (0 : Int) = 0 := h126 rfl
                                replace h127 : y75 ≤ y115 := h127
                                replace h128 : y75 + y77 ≤ y115 := h128 rfl
                                have u130 : (m.1 8) + 1 ≤ y115 := by omega
                                clear g74 g76 g78 g82 g84 h86 h87 u93 g120 h127 h128
                                refine T_goto 30 rfl (fun _ => rfl) ?_
                                refine Tm_lv (a := [(0, .ref 189), (1, .int (i32 t)), (2, .int (i32 s104))]) rfl rfl ⟨rfl, rfl, rfl, trivial⟩ ?_
                                exact ih41 s104 (mO m [(7, y113), (8, y115), (9, y117), (10, 0), (11, y121), (12, y123)] [(53, upI (m32.2 53) t (((m32.2 53) t) + 1)), (114, upI (m32.2 114) ((8 * t) + ((m32.2 53) t)) oo), (116, upI (m32.2 116) oo 1)]) (r32 (by omega) (by omega)) (Ty_mO hT rfl rfl ⟨g114, g116, g118, ⟨(by omega : (0 : Int) ≤ 0), (by omega : (0 : Int) ≤ 8)⟩, g122, g124, trivial⟩ ⟨G102, G100, G98, trivial⟩) (show 0 ≤ s104 by omega) (show s104 ≤ 1 by omega) (show LxP y113 y115 y117 (m.1 6) (0 : Int) by exact hLx) (show s104 = 0 ∨ s104 = 1 by omega) (fun _ => ⟨(show (m.1 8) + 1 ≤ y115 by omega), (show agr (m.2 53) (upI (m32.2 53) t (((m32.2 53) t) + 1)) t by first | exact hK1 | exact agr_t hK1 (agr_u (Int.le_refl _)) (Int.le_refl _)), (show agr (m.2 114) (upI (m32.2 114) ((8 * t) + ((m32.2 53) t)) oo) (8 * t) by first | exact hK2 | exact agr_t hK2 (agr_u (by omega)) (Int.le_refl _)), (show ∀ k, 8 * t ≤ k → k < 8 * t + (upI (m32.2 53) t (((m32.2 53) t) + 1)) t → (upI (m32.2 114) ((8 * t) + ((m32.2 53) t)) oo) k < (m.1 25) by exact hLI)⟩) (show 1000000 * (8 - (0 : Int)) + 2 * (4000 - y115) + s104 < (n : Int) by omega)
                              · skip
                                replace h125 : LxP y113 y115 y117 (m.1 6) y119 := h125
                                have hLx := h125
                                clear h126
                                replace h127 : y75 ≤ y115 := h127
                                clear h128
                                have hf131 : 1 ≤ y119 := by omega
                                clear g74 g76 g78 g82 g84 h86 h87 u93 h127
                                refine T_goto 30 rfl (fun _ => rfl) ?_
                                refine Tm_lv (a := [(0, .ref 189), (1, .int (i32 t)), (2, .int (i32 s104))]) rfl rfl ⟨rfl, rfl, rfl, trivial⟩ ?_
                                exact ih41 s104 (mO m [(7, y113), (8, y115), (9, y117), (10, y119), (11, y121), (12, y123)] [(53, upI (m32.2 53) t (((m32.2 53) t) + 1)), (114, upI (m32.2 114) ((8 * t) + ((m32.2 53) t)) oo), (116, upI (m32.2 116) oo 1)]) (r32 (by omega) (by omega)) (Ty_mO hT rfl rfl ⟨g114, g116, g118, g120, g122, g124, trivial⟩ ⟨G102, G100, G98, trivial⟩) (show 0 ≤ s104 by omega) (show s104 ≤ 1 by omega) (show LxP y113 y115 y117 (m.1 6) y119 by exact hLx) (show s104 = 0 ∨ s104 = 1 by omega) (fun (h : y119 = 0) => absurd h (by omega)) (show 1000000 * (8 - y119) + 2 * (4000 - y115) + s104 < (n : Int) by omega)
                          refine T_icmp 170 166 rfl rfl rfl (r32 (by omega) (by omega)) ⟨by decide, by decide⟩ (fun (h132 : y73 ≠ 44) => ?_) (fun (h132 : ¬ (y73 ≠ 44)) => ?_)
                          · skip
                            refine T_ld 171 (.int (i32 0)) rfl (fun _ => rfl) ?_
                            refine Tm_lv (a := [(0, .ref 189), (1, .int (i32 t)), (2, .int (i32 v31)), (3, .int (i32 (m32.1 8))), (4, .int (i32 oo))]) rfl rfl ⟨rfl, rfl, rfl, rfl, rfl, trivial⟩ ?_
                            exact J171_105 0 ⟨by decide, by decide⟩ (show 0 ≤ (0 : Int) by omega) (show (0 : Int) ≤ 1 by omega)
                          · skip
                            refine T_ld 167 (.int (i32 1)) rfl (fun _ => rfl) ?_
                            refine T_goto 171 rfl (fun _ => rfl) ?_
                            refine Tm_lv (a := [(0, .ref 189), (1, .int (i32 t)), (2, .int (i32 v31)), (3, .int (i32 (m32.1 8))), (4, .int (i32 oo))]) rfl rfl ⟨rfl, rfl, rfl, rfl, rfl, trivial⟩ ?_
                            exact J171_105 1 ⟨by decide, by decide⟩ (show 0 ≤ (1 : Int) by omega) (show (1 : Int) ≤ 1 by omega)
                        · skip
                          refine T_ld 100 (.ref 189) rfl (fun _ => rfl) ?_
                          refine T_ld 102 (.int (i32 8)) rfl (fun _ => rfl) ?_
                          refine T_ld 103 (.int (i32 (m32.1 8))) rfl (fun _ => rfl) ?_
                          refine T_call 106 222 [.ref 189, .int (i32 8), .int (i32 (m32.1 8))] [] rfl (fun _ => rfl) rfl (c_wrong w (mO m [(7, y73), (8, y75), (9, y77), (10, 0), (11, y81), (12, y83)] [(53, (m32.2 53)), (114, (m32.2 114)), (116, (m32.2 116))]) c N D (by omega) (Ty_mO hT rfl rfl ⟨g74, g76, g78, ⟨(by omega : (0 : Int) ≤ 0), (by omega : (0 : Int) ≤ 8)⟩, g82, g84, trivial⟩ ⟨(q35.2.1 53), (q35.2.1 114), (q35.2.1 116), trivial⟩) 8 (m32.1 8) ⟨by decide, by decide⟩ (r32 (by omega) (by omega)) (show 1 ≤ (8 : Int) ∧ (8 : Int) ≤ 8 by omega) (show 0 ≤ (m32.1 8) ∧ (m32.1 8) ≤ 4000 by omega)) (fun rr133 k134 => ?_)
                          obtain ⟨y135, y137, g136, g138, h139, rfl⟩ := k134
                          refine ⟨_, _, rfl, ?_⟩
                          refine T_nf2 (st' := []) (l' := [(7, y73), (8, y75), (9, y77), (10, y135), (11, y137), (12, y83)]) (a' := [(53, (m32.2 53)), (114, (m32.2 114)), (116, (m32.2 116))]) [10, 11] [] rfl ⟨rfl, rfl, rfl, rfl, rfl, rfl, rfl, rfl, rfl, rfl, rfl, rfl, rfl, rfl, rfl, trivial⟩ ⟨rfl, rfl, rfl, rfl, rfl, rfl, trivial⟩ rfl rfl (by decide) (by decide) ?_
                          replace h139 : (0 < (0 : Int) → y135 = (0 : Int) ∧ y137 = y81) ∧ ((0 : Int) ≤ 0 → y135 = (8 : Int) ∧ y137 = (m32.1 8)) := h139
                          have hf140 : 1 ≤ y135 := by omega
                          clear g82 h139
                          refine T_gf 110 (.int (i32 y135)) rfl rfl rfl rfl rfl rfl ?_
                          refine T_if 114 113 rfl rfl rfl (r32 (by omega) (by omega)) (fun (h141 : y135 ≤ 0) => by exfalso; omega) (fun (h141 : ¬ (y135 ≤ 0)) => ?_)
                          refine T_ret rfl (fun _ => rfl) ?_
                          exact ⟨(mO m [(7, y73), (8, y75), (9, y77), (10, y135), (11, y137), (12, y83)] [(53, (m32.2 53)), (114, (m32.2 114)), (116, (m32.2 116))]), (Ty_mO hT rfl rfl ⟨g74, g76, g78, g136, g138, g84, trivial⟩ ⟨(q35.2.1 53), (q35.2.1 114), (q35.2.1 116), trivial⟩), (show y135 = 0 → (m.1 10) = 0 by omega), (show LxP y73 y75 y77 (m.1 6) y135 by first | (first | exact hLx | exact (fun _ => hLx (by omega)) | (intro h9; exfalso; omega)) | (exfalso; omega)), (fun (h : y135 = 0) => absurd h (by omega)), rfl⟩
                      · skip
                        replace h86 : LxP y73 y75 y77 (m.1 6) y79 := h86
                        have hLx := h86
                        replace h87 : (m32.1 8) ≤ y75 := h87
                        clear h88
                        clear h89
                        replace h90 : 0 ≤ oo ∧ (oo < (m.1 25) ∨ oo = 0) := h90
                        clear h91
                        have hf142 : 1 ≤ y79 := by omega
                        clear g4 g6 g8 g12 g14 h15 h17 h18 u20 q35_7 q35_9 q35_11 q35_12 ic38 h70
                        refine T_sto 82 [(4, .int (i32 oo)), (3, .int (i32 (m32.1 8))), (0, .ref 189), (1, .int (i32 t)), (2, .int (i32 v31))] rfl (fun _ => rfl) ?_
                        refine T_gf 86 (.int (i32 y79)) rfl rfl rfl rfl rfl rfl ?_
                        refine T_if 106 89 rfl rfl rfl (r32 (by omega) (by omega)) (fun (h143 : y79 ≠ 0) => ?_) (fun (h143 : ¬ (y79 ≠ 0)) => by exfalso; omega)
                        refine T_gf 110 (.int (i32 y79)) rfl rfl rfl rfl rfl rfl ?_
                        refine T_if 114 113 rfl rfl rfl (r32 (by omega) (by omega)) (fun (h144 : y79 ≤ 0) => by exfalso; omega) (fun (h144 : ¬ (y79 ≤ 0)) => ?_)
                        refine T_ret rfl (fun _ => rfl) ?_
                        exact ⟨(mO m [(7, y73), (8, y75), (9, y77), (10, y79), (11, y81), (12, y83)] [(53, (m32.2 53)), (114, (m32.2 114)), (116, (m32.2 116))]), (Ty_mO hT rfl rfl ⟨g74, g76, g78, g80, g82, g84, trivial⟩ ⟨(q35.2.1 53), (q35.2.1 114), (q35.2.1 116), trivial⟩), (show y79 = 0 → (m.1 10) = 0 by omega), (show LxP y73 y75 y77 (m.1 6) y79 by first | (first | exact hLx | exact (fun _ => hLx (by omega)) | (intro h9; exfalso; omega)) | (exfalso; omega)), (fun (h : y79 = 0) => absurd h (by omega)), rfl⟩
                    · skip
                      refine T_gf 53 (.ref 223) rfl rfl rfl rfl rfl rfl ?_
                      refine T_ld 54 (.int (i32 t)) rfl (fun _ => rfl) ?_
                      refine T_iald 55 53 (m32.2 53) rfl rfl rfl (by omega) (show t < (8 : Int) by omega) rfl ?_
                      have e145 : 0 ≤ (m32.2 53) t ∧ (m32.2 53) t ≤ 8 := (q35.2.1 53) t
                      refine T_ld 57 (.int (i32 8)) rfl (fun _ => rfl) ?_
                      refine T_icmp 69 60 rfl rfl rfl (r32 (by omega) (by omega)) ⟨by decide, by decide⟩ (fun (h146 : (m32.2 53) t ≠ 8) => ?_) (fun (h146 : ¬ ((m32.2 53) t ≠ 8)) => ?_)
                      · skip
                        refine T_gf 73 (.int (i32 (m32.1 8))) rfl rfl rfl rfl rfl rfl ?_
                        refine T_sto 74 [(3, .int (i32 (m32.1 8))), (0, .ref 189), (1, .int (i32 t)), (2, .int (i32 v31))] rfl (fun _ => rfl) ?_
                        refine T_ld 75 (.ref 189) rfl (fun _ => rfl) ?_
                        refine T_ld 77 (.int (i32 6)) rfl (fun _ => rfl) ?_
                        have hOL : (m32.1 10) = 0 → ∀ k, 0 ≤ k → k < (m.1 13) → (m.2 16) k = 6 → 0 ≤ (m.2 17) k ∧ (m.2 17) k < (m.1 25) := fun _ k h1 h2 h3 => by
                          have h4 := PNl_6 pPN k h1 h2 h3
                          omega
                        refine T_call 80 236 [.ref 189, .int (i32 6)] [] rfl (fun _ => rfl) rfl (c_oldName w (mO m [(7, (m32.1 7)), (8, (m32.1 8)), (9, (m32.1 9)), (10, (m32.1 10)), (11, (m32.1 11)), (12, (m32.1 12))] [(53, (m32.2 53)), (114, (m32.2 114)), (116, (m32.2 116))]) c N D (by omega) (Ty_mO hT rfl rfl ⟨(q35.1 7), (q35.1 8), (q35.1 9), (q35.1 10), (q35.1 11), (q35.1 12), trivial⟩ ⟨(q35.2.1 53), (q35.2.1 114), (q35.2.1 116), trivial⟩) 6 (m.1 25) ⟨by decide, by decide⟩ (show LxP (m32.1 7) (m32.1 8) (m32.1 9) (m.1 6) (m32.1 10) by first | exact hLx | (intro h9; exfalso; omega) | (intro h9; have h8 := hLx (by omega); omega)) (show ∀ k, (m.2 14) k + (m.2 15) k ≤ 4000 by first | exact p1 | exact hNM) (show 1 ≤ (6 : Int) ∧ (6 : Int) ≤ 7 ∧ (6 : Int) ≠ 5 by omega) (show (m.1 25) ≤ 16 by omega) (show (m32.1 10) = 0 → ∀ k, 0 ≤ k → k < (m.1 13) → (m.2 16) k = (6 : Int) → 0 ≤ (m.2 17) k ∧ (m.2 17) k < (m.1 25) by first | exact hOL | (intro h; exfalso; omega)) (show (6 : Int) = 3 → 3 ≤ (m.1 25) by omega)) (fun rr147 k148 => ?_)
                        obtain ⟨y149, y151, y153, y155, y157, y159, oo, g150, g152, g154, g156, g158, g160, g161, h162, h163, h164, h165, h166, h167, rfl⟩ := k148
                        refine ⟨_, _, rfl, ?_⟩
                        refine T_nf2 (st' := [.int (i32 oo)]) (l' := [(7, y149), (8, y151), (9, y153), (10, y155), (11, y157), (12, y159)]) (a' := [(53, (m32.2 53)), (114, (m32.2 114)), (116, (m32.2 116))]) [7, 8, 9, 10, 11, 12] [] rfl ⟨rfl, rfl, rfl, rfl, rfl, rfl, rfl, rfl, rfl, rfl, rfl, rfl, trivial⟩ ⟨rfl, rfl, rfl, rfl, rfl, rfl, trivial⟩ rfl rfl (by decide) (by decide) ?_
                        obtain ⟨g161a, g161b⟩ := g161
                        by_cases hf168 : y155 = 0
                        · skip
                          subst hf168
                          replace h162 : LxP y149 y151 y153 (m.1 6) (0 : Int) := h162
                          have hLx := h162
                          replace h163 : (m32.1 8) ≤ y151 := h163
                          replace h164 : (m32.1 10) = 0 ∧ (m32.1 8) + (m32.1 9) ≤ y151 := h164 rfl
                          replace h165 : (m32.1 7) = 1 := h165 rfl
                          replace h166 : 0 ≤ oo ∧ (oo < (m.1 25) ∨ oo = 0) := h166
                          replace h167 : oo < (m.1 25) := h167 rfl
                          have u169 : (m.1 8) + 1 ≤ y151 := by omega
                          clear g4 g6 g8 g12 g14 h15 h17 h18 u20 q35_7 q35_9 q35_11 q35_12 ic38 h70 g156 h164 h165
                          refine T_sto 82 [(4, .int (i32 oo)), (3, .int (i32 (m32.1 8))), (0, .ref 189), (1, .int (i32 t)), (2, .int (i32 v31))] rfl (fun _ => rfl) ?_
                          refine T_gf 86 (.int (i32 0)) rfl rfl rfl rfl rfl rfl ?_
                          refine T_if 106 89 rfl rfl rfl ⟨by decide, by decide⟩ (fun h170 => absurd (show (0 : Int) ≠ 0 from h170) (by decide)) (fun _ => ?_)
                          refine T_gf 93 (.ref 276) rfl rfl rfl rfl rfl rfl ?_
                          refine T_ld 95 (.int (i32 oo)) rfl (fun _ => rfl) ?_
                          refine T_bald 96 116 (m32.2 116) rfl rfl rfl (by omega) (show oo < (16 : Int) by omega) rfl ?_
                          have e171 : 0 ≤ (m32.2 116) oo ∧ (m32.2 116) oo ≤ 1 := (q35.2.1 116) oo
                          refine T_if 106 99 rfl rfl rfl (r32 (by omega) (by omega)) (fun (h172 : (m32.2 116) oo = 0) => ?_) (fun (h172 : ¬ ((m32.2 116) oo = 0)) => ?_)
                          · skip
                            refine T_gf 110 (.int (i32 0)) rfl rfl rfl rfl rfl rfl ?_
                            refine T_if 114 113 rfl rfl rfl ⟨by decide, by decide⟩ (fun _ => ?_) (fun h173 => absurd (show (0 : Int) ≤ 0 by decide) h173)
                            refine T_gf 118 (.ref 276) rfl rfl rfl rfl rfl rfl ?_
                            refine T_ld 120 (.int (i32 oo)) rfl (fun _ => rfl) ?_
                            refine T_ld 121 (.int (i32 1)) rfl (fun _ => rfl) ?_
                            have G174 : ∀ j, 0 ≤ (upI (m32.2 116) oo 1) j ∧ (upI (m32.2 116) oo 1) j ≤ 1 := upI_rg (q35.2.1 116) ⟨by omega, by omega⟩
                            refine T_bast (a' := [(53, (m32.2 53)), (114, (m32.2 114)), (116, upI (m32.2 116) oo 1)]) 122 116 (m32.2 116) rfl rfl rfl (by omega) (show oo < (16 : Int) by omega) (by omega) rfl rfl ?_
                            refine T_gf 126 (.ref 274) rfl rfl rfl rfl rfl rfl ?_
                            refine T_ld 128 (.int (i32 8)) rfl (fun _ => rfl) ?_
                            refine T_ld 129 (.int (i32 t)) rfl (fun _ => rfl) ?_
                            refine T_imul 130 rfl rfl ?_
                            refine T_gf 134 (.ref 223) rfl rfl rfl rfl rfl rfl ?_
                            refine T_ld 135 (.int (i32 t)) rfl (fun _ => rfl) ?_
                            refine T_iald 136 53 (m32.2 53) rfl rfl rfl (by omega) (show t < (8 : Int) by omega) rfl ?_
                            have e175 : 0 ≤ (m32.2 53) t ∧ (m32.2 53) t ≤ 8 := (q35.2.1 53) t
                            refine T_iadd 137 rfl rfl ?_
                            refine T_ld 139 (.int (i32 oo)) rfl (fun _ => rfl) ?_
                            have G176 : ∀ j, 0 ≤ (upI (m32.2 114) ((8 * t) + ((m32.2 53) t)) oo) j ∧ (upI (m32.2 114) ((8 * t) + ((m32.2 53) t)) oo) j ≤ 15 := upI_rg (q35.2.1 114) ⟨by omega, by omega⟩
                            refine T_iast (a' := [(53, (m32.2 53)), (114, upI (m32.2 114) ((8 * t) + ((m32.2 53) t)) oo), (116, upI (m32.2 116) oo 1)]) 140 114 (m32.2 114) rfl rfl rfl (by omega) (show ((8 * t) + ((m32.2 53) t)) < (64 : Int) by omega) rfl rfl ?_
                            refine T_gf 144 (.ref 223) rfl rfl rfl rfl rfl rfl ?_
                            refine T_ld 145 (.int (i32 t)) rfl (fun _ => rfl) ?_
                            refine T_dup2 146 rfl (fun _ => rfl) ?_
                            refine T_iald 147 53 (m32.2 53) rfl rfl rfl (by omega) (show t < (8 : Int) by omega) rfl ?_
                            have e177 : 0 ≤ (m32.2 53) t ∧ (m32.2 53) t ≤ 8 := (q35.2.1 53) t
                            refine T_ld 148 (.int (i32 1)) rfl (fun _ => rfl) ?_
                            refine T_iadd 149 rfl rfl ?_
                            have G178 : ∀ j, 0 ≤ (upI (m32.2 53) t (((m32.2 53) t) + 1)) j ∧ (upI (m32.2 53) t (((m32.2 53) t) + 1)) j ≤ 8 := upI_rg (q35.2.1 53) ⟨by omega, by omega⟩
                            refine T_iast (a' := [(53, upI (m32.2 53) t (((m32.2 53) t) + 1)), (114, upI (m32.2 114) ((8 * t) + ((m32.2 53) t)) oo), (116, upI (m32.2 116) oo 1)]) 150 53 (m32.2 53) rfl rfl rfl (by omega) (show t < (8 : Int) by omega) rfl rfl ?_
                            have hLI : ∀ k, 8 * t ≤ k → k < 8 * t + (upI (m32.2 53) t (((m32.2 53) t) + 1)) t → (upI (m32.2 114) ((8 * t) + ((m32.2 53) t)) oo) k < (m.1 25) := by
                              intro k k0 k1
                              rw [upI_s] at k1
                              unfold upI
                              split
                              · omega
                              · exact hLI k k0 (by omega)
                            refine T_gf 154 (.int (i32 0)) rfl rfl rfl rfl rfl rfl ?_
                            refine T_if 170 157 rfl rfl rfl ⟨by decide, by decide⟩ (fun h179 => absurd (show (0 : Int) ≠ 0 from h179) (by decide)) (fun _ => ?_)
                            refine T_gf 161 (.int (i32 y149)) rfl rfl rfl rfl rfl rfl ?_
                            refine T_ld 163 (.int (i32 44)) rfl (fun _ => rfl) ?_
                            have J171_181 : ∀ (s180 : Int), (R32 s180) → (0 ≤ s180) → (s180 ≤ 1) → TT w D pm_276 (171, [(0, .ref 189), (1, .int (i32 t)), (2, .int (i32 v31)), (3, .int (i32 (m32.1 8))), (4, .int (i32 oo))], [.int (i32 s180)], (mhp (mO m [(7, y149), (8, y151), (9, y153), (10, 0), (11, y157), (12, y159)] [(53, upI (m32.2 53) t (((m32.2 53) t) + 1)), (114, upI (m32.2 114) ((8 * t) + ((m32.2 53) t)) oo), (116, upI (m32.2 116) oo 1)]) c, N), 0, 0) (Q_takeList m c N t) := by
                              intro s180 q182 ic183 ic184
                              obtain ⟨q182a, q182b⟩ := id q182
                              refine T_sto 172 [(2, .int (i32 s180)), (0, .ref 189), (1, .int (i32 t)), (3, .int (i32 (m32.1 8))), (4, .int (i32 oo))] rfl (fun _ => rfl) ?_
                              refine T_ld 173 (.int (i32 s180)) rfl (fun _ => rfl) ?_
                              refine T_if 180 176 rfl rfl rfl (r32 (by omega) (by omega)) (fun (h186 : s180 = 0) => ?_) (fun (h186 : ¬ (s180 = 0)) => ?_)
                              · skip
                                refine T_goto 30 rfl (fun _ => rfl) ?_
                                refine Tm_lv (a := [(0, .ref 189), (1, .int (i32 t)), (2, .int (i32 s180))]) rfl rfl ⟨rfl, rfl, rfl, trivial⟩ ?_
                                exact ih41 s180 (mO m [(7, y149), (8, y151), (9, y153), (10, 0), (11, y157), (12, y159)] [(53, upI (m32.2 53) t (((m32.2 53) t) + 1)), (114, upI (m32.2 114) ((8 * t) + ((m32.2 53) t)) oo), (116, upI (m32.2 116) oo 1)]) (r32 (by omega) (by omega)) (Ty_mO hT rfl rfl ⟨g150, g152, g154, ⟨(by omega : (0 : Int) ≤ 0), (by omega : (0 : Int) ≤ 8)⟩, g158, g160, trivial⟩ ⟨G178, G176, G174, trivial⟩) (show 0 ≤ s180 by omega) (show s180 ≤ 1 by omega) (show LxP y149 y151 y153 (m.1 6) (0 : Int) by exact hLx) (show s180 = 0 ∨ s180 = 1 by omega) (fun _ => ⟨(show (m.1 8) + 1 ≤ y151 by omega), (show agr (m.2 53) (upI (m32.2 53) t (((m32.2 53) t) + 1)) t by first | exact hK1 | exact agr_t hK1 (agr_u (Int.le_refl _)) (Int.le_refl _)), (show agr (m.2 114) (upI (m32.2 114) ((8 * t) + ((m32.2 53) t)) oo) (8 * t) by first | exact hK2 | exact agr_t hK2 (agr_u (by omega)) (Int.le_refl _)), (show ∀ k, 8 * t ≤ k → k < 8 * t + (upI (m32.2 53) t (((m32.2 53) t) + 1)) t → (upI (m32.2 114) ((8 * t) + ((m32.2 53) t)) oo) k < (m.1 25) by exact hLI)⟩) (show 1000000 * (8 - (0 : Int)) + 2 * (4000 - y151) + s180 < (n : Int) by omega)
                              · skip
                                refine T_ld 177 (.ref 189) rfl (fun _ => rfl) ?_
                                refine T_call 180 212 [.ref 189] [] rfl (fun _ => rfl) rfl (c_next w (mO m [(7, y149), (8, y151), (9, y153), (10, 0), (11, y157), (12, y159)] [(53, upI (m32.2 53) t (((m32.2 53) t) + 1)), (114, upI (m32.2 114) ((8 * t) + ((m32.2 53) t)) oo), (116, upI (m32.2 116) oo 1)]) c N D (by omega) (Ty_mO hT rfl rfl ⟨g150, g152, g154, ⟨(by omega : (0 : Int) ≤ 0), (by omega : (0 : Int) ≤ 8)⟩, g158, g160, trivial⟩ ⟨G178, G176, G174, trivial⟩) (show (0 : Int) = 0 → y151 + y153 ≤ (m.1 6) by first | omega | (intro h9; have h8 := hLx h9; omega))) (fun rr187 k188 => ?_)
                                obtain ⟨y189, y191, y193, y195, y197, y199, g190, g192, g194, g196, g198, g200, h201, h202, h203, h204, rfl⟩ := k188
                                refine ⟨_, _, rfl, ?_⟩
                                refine T_nf2 (st' := []) (l' := [(7, y189), (8, y191), (9, y193), (10, y195), (11, y197), (12, y199)]) (a' := [(53, upI (m32.2 53) t (((m32.2 53) t) + 1)), (114, upI (m32.2 114) ((8 * t) + ((m32.2 53) t)) oo), (116, upI (m32.2 116) oo 1)]) [7, 8, 9, 10, 11, 12] [] rfl ⟨rfl, rfl, rfl, rfl, rfl, rfl, rfl, rfl, rfl, rfl, rfl, rfl, trivial⟩ ⟨rfl, rfl, rfl, rfl, rfl, rfl, trivial⟩ rfl rfl (by decide) (by decide) ?_
                                by_cases hf205 : y195 = 0
                                · skip
                                  subst hf205
                                  replace h201 : LxP y189 y191 y193 (m.1 6) (0 : Int) := h201
                                  have hLx := h201
                                  replace h202 : (0 : Int) = 0 := h202 rfl
                                  replace h203 : y151 ≤ y191 := h203
                                  replace h204 : y151 + y153 ≤ y191 := h204 rfl
                                  have u206 : (m.1 8) + 1 ≤ y191 := by omega
                                  clear g150 g152 g154 g158 g160 h162 h163 u169 g196 h203 h204
                                  refine T_goto 30 rfl (fun _ => rfl) ?_
                                  refine Tm_lv (a := [(0, .ref 189), (1, .int (i32 t)), (2, .int (i32 s180))]) rfl rfl ⟨rfl, rfl, rfl, trivial⟩ ?_
                                  exact ih41 s180 (mO m [(7, y189), (8, y191), (9, y193), (10, 0), (11, y197), (12, y199)] [(53, upI (m32.2 53) t (((m32.2 53) t) + 1)), (114, upI (m32.2 114) ((8 * t) + ((m32.2 53) t)) oo), (116, upI (m32.2 116) oo 1)]) (r32 (by omega) (by omega)) (Ty_mO hT rfl rfl ⟨g190, g192, g194, ⟨(by omega : (0 : Int) ≤ 0), (by omega : (0 : Int) ≤ 8)⟩, g198, g200, trivial⟩ ⟨G178, G176, G174, trivial⟩) (show 0 ≤ s180 by omega) (show s180 ≤ 1 by omega) (show LxP y189 y191 y193 (m.1 6) (0 : Int) by exact hLx) (show s180 = 0 ∨ s180 = 1 by omega) (fun _ => ⟨(show (m.1 8) + 1 ≤ y191 by omega), (show agr (m.2 53) (upI (m32.2 53) t (((m32.2 53) t) + 1)) t by first | exact hK1 | exact agr_t hK1 (agr_u (Int.le_refl _)) (Int.le_refl _)), (show agr (m.2 114) (upI (m32.2 114) ((8 * t) + ((m32.2 53) t)) oo) (8 * t) by first | exact hK2 | exact agr_t hK2 (agr_u (by omega)) (Int.le_refl _)), (show ∀ k, 8 * t ≤ k → k < 8 * t + (upI (m32.2 53) t (((m32.2 53) t) + 1)) t → (upI (m32.2 114) ((8 * t) + ((m32.2 53) t)) oo) k < (m.1 25) by exact hLI)⟩) (show 1000000 * (8 - (0 : Int)) + 2 * (4000 - y191) + s180 < (n : Int) by omega)
                                · skip
                                  replace h201 : LxP y189 y191 y193 (m.1 6) y195 := h201
                                  have hLx := h201
                                  clear h202
                                  replace h203 : y151 ≤ y191 := h203
                                  clear h204
                                  have hf207 : 1 ≤ y195 := by omega
                                  clear g150 g152 g154 g158 g160 h162 h163 u169 h203
                                  refine T_goto 30 rfl (fun _ => rfl) ?_
                                  refine Tm_lv (a := [(0, .ref 189), (1, .int (i32 t)), (2, .int (i32 s180))]) rfl rfl ⟨rfl, rfl, rfl, trivial⟩ ?_
                                  exact ih41 s180 (mO m [(7, y189), (8, y191), (9, y193), (10, y195), (11, y197), (12, y199)] [(53, upI (m32.2 53) t (((m32.2 53) t) + 1)), (114, upI (m32.2 114) ((8 * t) + ((m32.2 53) t)) oo), (116, upI (m32.2 116) oo 1)]) (r32 (by omega) (by omega)) (Ty_mO hT rfl rfl ⟨g190, g192, g194, g196, g198, g200, trivial⟩ ⟨G178, G176, G174, trivial⟩) (show 0 ≤ s180 by omega) (show s180 ≤ 1 by omega) (show LxP y189 y191 y193 (m.1 6) y195 by exact hLx) (show s180 = 0 ∨ s180 = 1 by omega) (fun (h : y195 = 0) => absurd h (by omega)) (show 1000000 * (8 - y195) + 2 * (4000 - y191) + s180 < (n : Int) by omega)
                            refine T_icmp 170 166 rfl rfl rfl (r32 (by omega) (by omega)) ⟨by decide, by decide⟩ (fun (h208 : y149 ≠ 44) => ?_) (fun (h208 : ¬ (y149 ≠ 44)) => ?_)
                            · skip
                              refine T_ld 171 (.int (i32 0)) rfl (fun _ => rfl) ?_
                              refine Tm_lv (a := [(0, .ref 189), (1, .int (i32 t)), (2, .int (i32 v31)), (3, .int (i32 (m32.1 8))), (4, .int (i32 oo))]) rfl rfl ⟨rfl, rfl, rfl, rfl, rfl, trivial⟩ ?_
                              exact J171_181 0 ⟨by decide, by decide⟩ (show 0 ≤ (0 : Int) by omega) (show (0 : Int) ≤ 1 by omega)
                            · skip
                              refine T_ld 167 (.int (i32 1)) rfl (fun _ => rfl) ?_
                              refine T_goto 171 rfl (fun _ => rfl) ?_
                              refine Tm_lv (a := [(0, .ref 189), (1, .int (i32 t)), (2, .int (i32 v31)), (3, .int (i32 (m32.1 8))), (4, .int (i32 oo))]) rfl rfl ⟨rfl, rfl, rfl, rfl, rfl, trivial⟩ ?_
                              exact J171_181 1 ⟨by decide, by decide⟩ (show 0 ≤ (1 : Int) by omega) (show (1 : Int) ≤ 1 by omega)
                          · skip
                            refine T_ld 100 (.ref 189) rfl (fun _ => rfl) ?_
                            refine T_ld 102 (.int (i32 8)) rfl (fun _ => rfl) ?_
                            refine T_ld 103 (.int (i32 (m32.1 8))) rfl (fun _ => rfl) ?_
                            refine T_call 106 222 [.ref 189, .int (i32 8), .int (i32 (m32.1 8))] [] rfl (fun _ => rfl) rfl (c_wrong w (mO m [(7, y149), (8, y151), (9, y153), (10, 0), (11, y157), (12, y159)] [(53, (m32.2 53)), (114, (m32.2 114)), (116, (m32.2 116))]) c N D (by omega) (Ty_mO hT rfl rfl ⟨g150, g152, g154, ⟨(by omega : (0 : Int) ≤ 0), (by omega : (0 : Int) ≤ 8)⟩, g158, g160, trivial⟩ ⟨(q35.2.1 53), (q35.2.1 114), (q35.2.1 116), trivial⟩) 8 (m32.1 8) ⟨by decide, by decide⟩ (r32 (by omega) (by omega)) (show 1 ≤ (8 : Int) ∧ (8 : Int) ≤ 8 by omega) (show 0 ≤ (m32.1 8) ∧ (m32.1 8) ≤ 4000 by omega)) (fun rr209 k210 => ?_)
                            obtain ⟨y211, y213, g212, g214, h215, rfl⟩ := k210
                            refine ⟨_, _, rfl, ?_⟩
                            refine T_nf2 (st' := []) (l' := [(7, y149), (8, y151), (9, y153), (10, y211), (11, y213), (12, y159)]) (a' := [(53, (m32.2 53)), (114, (m32.2 114)), (116, (m32.2 116))]) [10, 11] [] rfl ⟨rfl, rfl, rfl, rfl, rfl, rfl, rfl, rfl, rfl, rfl, rfl, rfl, rfl, rfl, rfl, trivial⟩ ⟨rfl, rfl, rfl, rfl, rfl, rfl, trivial⟩ rfl rfl (by decide) (by decide) ?_
                            replace h215 : (0 < (0 : Int) → y211 = (0 : Int) ∧ y213 = y157) ∧ ((0 : Int) ≤ 0 → y211 = (8 : Int) ∧ y213 = (m32.1 8)) := h215
                            have hf216 : 1 ≤ y211 := by omega
                            clear g158 h215
                            refine T_gf 110 (.int (i32 y211)) rfl rfl rfl rfl rfl rfl ?_
                            refine T_if 114 113 rfl rfl rfl (r32 (by omega) (by omega)) (fun (h217 : y211 ≤ 0) => by exfalso; omega) (fun (h217 : ¬ (y211 ≤ 0)) => ?_)
                            refine T_ret rfl (fun _ => rfl) ?_
                            exact ⟨(mO m [(7, y149), (8, y151), (9, y153), (10, y211), (11, y213), (12, y159)] [(53, (m32.2 53)), (114, (m32.2 114)), (116, (m32.2 116))]), (Ty_mO hT rfl rfl ⟨g150, g152, g154, g212, g214, g160, trivial⟩ ⟨(q35.2.1 53), (q35.2.1 114), (q35.2.1 116), trivial⟩), (show y211 = 0 → (m.1 10) = 0 by omega), (show LxP y149 y151 y153 (m.1 6) y211 by first | (first | exact hLx | exact (fun _ => hLx (by omega)) | (intro h9; exfalso; omega)) | (exfalso; omega)), (fun (h : y211 = 0) => absurd h (by omega)), rfl⟩
                        · skip
                          replace h162 : LxP y149 y151 y153 (m.1 6) y155 := h162
                          have hLx := h162
                          replace h163 : (m32.1 8) ≤ y151 := h163
                          clear h164
                          clear h165
                          replace h166 : 0 ≤ oo ∧ (oo < (m.1 25) ∨ oo = 0) := h166
                          clear h167
                          have hf218 : 1 ≤ y155 := by omega
                          clear g4 g6 g8 g12 g14 h15 h17 h18 u20 q35_7 q35_9 q35_11 q35_12 ic38 h70
                          refine T_sto 82 [(4, .int (i32 oo)), (3, .int (i32 (m32.1 8))), (0, .ref 189), (1, .int (i32 t)), (2, .int (i32 v31))] rfl (fun _ => rfl) ?_
                          refine T_gf 86 (.int (i32 y155)) rfl rfl rfl rfl rfl rfl ?_
                          refine T_if 106 89 rfl rfl rfl (r32 (by omega) (by omega)) (fun (h219 : y155 ≠ 0) => ?_) (fun (h219 : ¬ (y155 ≠ 0)) => by exfalso; omega)
                          refine T_gf 110 (.int (i32 y155)) rfl rfl rfl rfl rfl rfl ?_
                          refine T_if 114 113 rfl rfl rfl (r32 (by omega) (by omega)) (fun (h220 : y155 ≤ 0) => by exfalso; omega) (fun (h220 : ¬ (y155 ≤ 0)) => ?_)
                          refine T_ret rfl (fun _ => rfl) ?_
                          exact ⟨(mO m [(7, y149), (8, y151), (9, y153), (10, y155), (11, y157), (12, y159)] [(53, (m32.2 53)), (114, (m32.2 114)), (116, (m32.2 116))]), (Ty_mO hT rfl rfl ⟨g150, g152, g154, g156, g158, g160, trivial⟩ ⟨(q35.2.1 53), (q35.2.1 114), (q35.2.1 116), trivial⟩), (show y155 = 0 → (m.1 10) = 0 by omega), (show LxP y149 y151 y153 (m.1 6) y155 by first | (first | exact hLx | exact (fun _ => hLx (by omega)) | (intro h9; exfalso; omega)) | (exfalso; omega)), (fun (h : y155 = 0) => absurd h (by omega)), rfl⟩
                      · skip
                        refine T_ld 61 (.ref 189) rfl (fun _ => rfl) ?_
                        refine T_ld 62 (.int (i32 4)) rfl (fun _ => rfl) ?_
                        refine T_gf 66 (.int (i32 (m32.1 8))) rfl rfl rfl rfl rfl rfl ?_
                        refine T_call 69 222 [.ref 189, .int (i32 4), .int (i32 (m32.1 8))] [] rfl (fun _ => rfl) rfl (c_wrong w (mO m [(7, (m32.1 7)), (8, (m32.1 8)), (9, (m32.1 9)), (10, (m32.1 10)), (11, (m32.1 11)), (12, (m32.1 12))] [(53, (m32.2 53)), (114, (m32.2 114)), (116, (m32.2 116))]) c N D (by omega) (Ty_mO hT rfl rfl ⟨(q35.1 7), (q35.1 8), (q35.1 9), (q35.1 10), (q35.1 11), (q35.1 12), trivial⟩ ⟨(q35.2.1 53), (q35.2.1 114), (q35.2.1 116), trivial⟩) 4 (m32.1 8) ⟨by decide, by decide⟩ (r32 (by omega) (by omega)) (show 1 ≤ (4 : Int) ∧ (4 : Int) ≤ 8 by omega) (show 0 ≤ (m32.1 8) ∧ (m32.1 8) ≤ 4000 by omega)) (fun rr221 k222 => ?_)
                        obtain ⟨y223, y225, g224, g226, h227, rfl⟩ := k222
                        refine ⟨_, _, rfl, ?_⟩
                        refine T_nf2 (st' := []) (l' := [(7, (m32.1 7)), (8, (m32.1 8)), (9, (m32.1 9)), (10, y223), (11, y225), (12, (m32.1 12))]) (a' := [(53, (m32.2 53)), (114, (m32.2 114)), (116, (m32.2 116))]) [10, 11] [] rfl ⟨rfl, rfl, rfl, rfl, rfl, rfl, rfl, rfl, rfl, rfl, rfl, rfl, rfl, rfl, rfl, trivial⟩ ⟨rfl, rfl, rfl, rfl, rfl, rfl, trivial⟩ rfl rfl (by decide) (by decide) ?_
                        replace h227 : (0 < (m32.1 10) → y223 = (m32.1 10) ∧ y225 = (m32.1 11)) ∧ ((m32.1 10) ≤ 0 → y223 = (4 : Int) ∧ y225 = (m32.1 8)) := h227
                        have hf228 : 1 ≤ y223 := by omega
                        clear g4 g6 g8 g12 g14 h15 h17 h18 u20 q35_11 h227
                        refine T_gf 73 (.int (i32 (m32.1 8))) rfl rfl rfl rfl rfl rfl ?_
                        refine T_sto 74 [(3, .int (i32 (m32.1 8))), (0, .ref 189), (1, .int (i32 t)), (2, .int (i32 v31))] rfl (fun _ => rfl) ?_
                        refine T_ld 75 (.ref 189) rfl (fun _ => rfl) ?_
                        refine T_ld 77 (.int (i32 6)) rfl (fun _ => rfl) ?_
                        refine T_call 80 236 [.ref 189, .int (i32 6)] [] rfl (fun _ => rfl) rfl (c_oldName w (mO m [(7, (m32.1 7)), (8, (m32.1 8)), (9, (m32.1 9)), (10, y223), (11, y225), (12, (m32.1 12))] [(53, (m32.2 53)), (114, (m32.2 114)), (116, (m32.2 116))]) c N D (by omega) (Ty_mO hT rfl rfl ⟨(q35.1 7), (q35.1 8), (q35.1 9), g224, g226, (q35.1 12), trivial⟩ ⟨(q35.2.1 53), (q35.2.1 114), (q35.2.1 116), trivial⟩) 6 (m.1 25) ⟨by decide, by decide⟩ (show LxP (m32.1 7) (m32.1 8) (m32.1 9) (m.1 6) y223 by first | exact hLx | (intro h9; exfalso; omega) | (intro h9; have h8 := hLx (by omega); omega)) (show ∀ k, (m.2 14) k + (m.2 15) k ≤ 4000 by first | exact p1 | exact hNM) (show 1 ≤ (6 : Int) ∧ (6 : Int) ≤ 7 ∧ (6 : Int) ≠ 5 by omega) (show (m.1 25) ≤ 16 by omega) (show y223 = 0 → ∀ k, 0 ≤ k → k < (m.1 13) → (m.2 16) k = (6 : Int) → 0 ≤ (m.2 17) k ∧ (m.2 17) k < (m.1 25) by first | exact hOL | (intro h; exfalso; omega)) (show (6 : Int) = 3 → 3 ≤ (m.1 25) by omega)) (fun rr229 k230 => ?_)
                        obtain ⟨y231, y233, y235, y237, y239, y241, oo, g232, g234, g236, g238, g240, g242, g243, h244, h245, h246, h247, h248, h249, rfl⟩ := k230
                        refine ⟨_, _, rfl, ?_⟩
                        refine T_nf2 (st' := [.int (i32 oo)]) (l' := [(7, y231), (8, y233), (9, y235), (10, y237), (11, y239), (12, y241)]) (a' := [(53, (m32.2 53)), (114, (m32.2 114)), (116, (m32.2 116))]) [7, 8, 9, 10, 11, 12] [] rfl ⟨rfl, rfl, rfl, rfl, rfl, rfl, rfl, rfl, rfl, rfl, rfl, rfl, trivial⟩ ⟨rfl, rfl, rfl, rfl, rfl, rfl, trivial⟩ rfl rfl (by decide) (by decide) ?_
                        obtain ⟨g243a, g243b⟩ := g243
                        replace h244 : LxP y231 y233 y235 (m.1 6) y237 := h244
                        replace h245 : (m32.1 8) ≤ y233 := h245
                        replace h246 : y237 = 0 → y223 = 0 ∧ (m32.1 8) + (m32.1 9) ≤ y233 := h246
                        replace h247 : y237 = 0 → (m32.1 7) = 1 := h247
                        replace h248 : 0 ≤ oo ∧ (oo < (m.1 25) ∨ oo = 0) := h248
                        replace h249 : y237 = 0 → oo < (m.1 25) := h249
                        have hf250 : 1 ≤ y237 := by omega
                        clear h246
                        clear h247
                        clear h249
                        have hLx := h244
                        clear q35_7 q35_9 q35_12 ic38 h70 g224 g226 hf228
                        refine T_sto 82 [(4, .int (i32 oo)), (3, .int (i32 (m32.1 8))), (0, .ref 189), (1, .int (i32 t)), (2, .int (i32 v31))] rfl (fun _ => rfl) ?_
                        refine T_gf 86 (.int (i32 y237)) rfl rfl rfl rfl rfl rfl ?_
                        refine T_if 106 89 rfl rfl rfl (r32 (by omega) (by omega)) (fun (h251 : y237 ≠ 0) => ?_) (fun (h251 : ¬ (y237 ≠ 0)) => by exfalso; omega)
                        refine T_gf 110 (.int (i32 y237)) rfl rfl rfl rfl rfl rfl ?_
                        refine T_if 114 113 rfl rfl rfl (r32 (by omega) (by omega)) (fun (h252 : y237 ≤ 0) => by exfalso; omega) (fun (h252 : ¬ (y237 ≤ 0)) => ?_)
                        refine T_ret rfl (fun _ => rfl) ?_
                        exact ⟨(mO m [(7, y231), (8, y233), (9, y235), (10, y237), (11, y239), (12, y241)] [(53, (m32.2 53)), (114, (m32.2 114)), (116, (m32.2 116))]), (Ty_mO hT rfl rfl ⟨g232, g234, g236, g238, g240, g242, trivial⟩ ⟨(q35.2.1 53), (q35.2.1 114), (q35.2.1 116), trivial⟩), (show y237 = 0 → (m.1 10) = 0 by omega), (show LxP y231 y233 y235 (m.1 6) y237 by first | (first | exact hLx | exact (fun _ => hLx (by omega)) | (intro h9; exfalso; omega)) | (exfalso; omega)), (fun (h : y237 = 0) => absurd h (by omega)), rfl⟩
                · skip
                  clear c40
                  have hf253 : 1 ≤ (m32.1 10) := by omega
                  refine T_ld 31 (.int (i32 v31)) rfl (fun _ => rfl) ?_
                  refine T_if 183 34 rfl rfl rfl (r32 (by omega) (by omega)) (fun (h254 : v31 = 0) => ?_) (fun (h254 : ¬ (v31 = 0)) => ?_)
                  · skip
                    refine T_ld 184 (.ref 189) rfl (fun _ => rfl) ?_
                    refine T_ld 186 (.int (i32 59)) rfl (fun _ => rfl) ?_
                    refine T_call 189 232 [.ref 189, .int (i32 59)] [] rfl (fun _ => rfl) rfl (c_need w (mO m [(7, (m32.1 7)), (8, (m32.1 8)), (9, (m32.1 9)), (10, (m32.1 10)), (11, (m32.1 11)), (12, (m32.1 12))] [(53, (m32.2 53)), (114, (m32.2 114)), (116, (m32.2 116))]) c N D (by omega) (Ty_mO hT rfl rfl ⟨(q35.1 7), (q35.1 8), (q35.1 9), (q35.1 10), (q35.1 11), (q35.1 12), trivial⟩ ⟨(q35.2.1 53), (q35.2.1 114), (q35.2.1 116), trivial⟩) 59 ⟨by decide, by decide⟩ (show 1 ≤ (59 : Int) by omega) (show LxP (m32.1 7) (m32.1 8) (m32.1 9) (m.1 6) (m32.1 10) by first | exact hLx | (intro h9; exfalso; omega) | (intro h9; have h8 := hLx (by omega); omega))) (fun rr255 k256 => ?_)
                    obtain ⟨y257, y259, y261, y263, y265, y267, g258, g260, g262, g264, g266, g268, h269, h270, h271, h272, rfl⟩ := k256
                    refine ⟨_, _, rfl, ?_⟩
                    refine T_nf2 (st' := []) (l' := [(7, y257), (8, y259), (9, y261), (10, y263), (11, y265), (12, y267)]) (a' := [(53, (m32.2 53)), (114, (m32.2 114)), (116, (m32.2 116))]) [7, 8, 9, 10, 11, 12] [] rfl ⟨rfl, rfl, rfl, rfl, rfl, rfl, rfl, rfl, rfl, rfl, rfl, rfl, trivial⟩ ⟨rfl, rfl, rfl, rfl, rfl, rfl, trivial⟩ rfl rfl (by decide) (by decide) ?_
                    replace h269 : LxP y257 y259 y261 (m.1 6) y263 := h269
                    replace h270 : y263 = 0 → (m32.1 10) = 0 ∧ (m32.1 7) = (59 : Int) := h270
                    replace h271 : (m32.1 8) ≤ y259 := h271
                    replace h272 : y263 = 0 → (m32.1 8) + (m32.1 9) ≤ y259 := h272
                    have hf273 : 1 ≤ y263 := by omega
                    clear h270
                    clear h272
                    have hLx := h269
                    clear g4 g6 g8 g12 g14 h15 h17 h18 u20 q35_7 q35_9 q35_11 q35_12 ic38
                    refine T_ret rfl (fun _ => rfl) ?_
                    exact ⟨(mO m [(7, y257), (8, y259), (9, y261), (10, y263), (11, y265), (12, y267)] [(53, (m32.2 53)), (114, (m32.2 114)), (116, (m32.2 116))]), (Ty_mO hT rfl rfl ⟨g258, g260, g262, g264, g266, g268, trivial⟩ ⟨(q35.2.1 53), (q35.2.1 114), (q35.2.1 116), trivial⟩), (show y263 = 0 → (m.1 10) = 0 by omega), (show LxP y257 y259 y261 (m.1 6) y263 by first | (first | exact hLx | exact (fun _ => hLx (by omega)) | (intro h9; exfalso; omega)) | (exfalso; omega)), (fun (h : y263 = 0) => absurd h (by omega)), rfl⟩
                  · skip
                    refine T_gf 38 (.int (i32 (m32.1 10))) rfl rfl rfl rfl rfl rfl ?_
                    refine T_if 183 41 rfl rfl rfl (r32 (by omega) (by omega)) (fun (h274 : (m32.1 10) ≠ 0) => ?_) (fun (h274 : ¬ ((m32.1 10) ≠ 0)) => by exfalso; omega)
                    refine T_ld 184 (.ref 189) rfl (fun _ => rfl) ?_
                    refine T_ld 186 (.int (i32 59)) rfl (fun _ => rfl) ?_
                    refine T_call 189 232 [.ref 189, .int (i32 59)] [] rfl (fun _ => rfl) rfl (c_need w (mO m [(7, (m32.1 7)), (8, (m32.1 8)), (9, (m32.1 9)), (10, (m32.1 10)), (11, (m32.1 11)), (12, (m32.1 12))] [(53, (m32.2 53)), (114, (m32.2 114)), (116, (m32.2 116))]) c N D (by omega) (Ty_mO hT rfl rfl ⟨(q35.1 7), (q35.1 8), (q35.1 9), (q35.1 10), (q35.1 11), (q35.1 12), trivial⟩ ⟨(q35.2.1 53), (q35.2.1 114), (q35.2.1 116), trivial⟩) 59 ⟨by decide, by decide⟩ (show 1 ≤ (59 : Int) by omega) (show LxP (m32.1 7) (m32.1 8) (m32.1 9) (m.1 6) (m32.1 10) by first | exact hLx | (intro h9; exfalso; omega) | (intro h9; have h8 := hLx (by omega); omega))) (fun rr275 k276 => ?_)
                    obtain ⟨y277, y279, y281, y283, y285, y287, g278, g280, g282, g284, g286, g288, h289, h290, h291, h292, rfl⟩ := k276
                    refine ⟨_, _, rfl, ?_⟩
                    refine T_nf2 (st' := []) (l' := [(7, y277), (8, y279), (9, y281), (10, y283), (11, y285), (12, y287)]) (a' := [(53, (m32.2 53)), (114, (m32.2 114)), (116, (m32.2 116))]) [7, 8, 9, 10, 11, 12] [] rfl ⟨rfl, rfl, rfl, rfl, rfl, rfl, rfl, rfl, rfl, rfl, rfl, rfl, trivial⟩ ⟨rfl, rfl, rfl, rfl, rfl, rfl, trivial⟩ rfl rfl (by decide) (by decide) ?_
                    replace h289 : LxP y277 y279 y281 (m.1 6) y283 := h289
                    replace h290 : y283 = 0 → (m32.1 10) = 0 ∧ (m32.1 7) = (59 : Int) := h290
                    replace h291 : (m32.1 8) ≤ y279 := h291
                    replace h292 : y283 = 0 → (m32.1 8) + (m32.1 9) ≤ y279 := h292
                    have hf293 : 1 ≤ y283 := by omega
                    clear h290
                    clear h292
                    have hLx := h289
                    clear g4 g6 g8 g12 g14 h15 h17 h18 u20 q35_7 q35_9 q35_11 q35_12 ic38
                    refine T_ret rfl (fun _ => rfl) ?_
                    exact ⟨(mO m [(7, y277), (8, y279), (9, y281), (10, y283), (11, y285), (12, y287)] [(53, (m32.2 53)), (114, (m32.2 114)), (116, (m32.2 116))]), (Ty_mO hT rfl rfl ⟨g278, g280, g282, g284, g286, g288, trivial⟩ ⟨(q35.2.1 53), (q35.2.1 114), (q35.2.1 116), trivial⟩), (show y283 = 0 → (m.1 10) = 0 by omega), (show LxP y277 y279 y281 (m.1 6) y283 by first | (first | exact hLx | exact (fun _ => hLx (by omega)) | (intro h9; exfalso; omega)) | (exfalso; omega)), (fun (h : y283 = 0) => absurd h (by omega)), rfl⟩
            refine Tm_lv (a := [(0, .ref 189), (1, .int (i32 t)), (2, .int (i32 1))]) rfl rfl ⟨rfl, rfl, rfl, trivial⟩ ?_
            exact L30_33 ((1000000 * (8 - (0 : Int)) + 2 * (4000 - y5) + (1 : Int) : Int) + 1).toNat 1 (mO m [(7, y3), (8, y5), (9, y7), (10, 0), (11, y11), (12, y13)] [(53, (m.2 53)), (114, (m.2 114)), (116, (m22.2 116))]) ⟨by decide, by decide⟩ (Ty_mO hT rfl rfl ⟨g4, g6, g8, ⟨(by omega : (0 : Int) ≤ 0), (by omega : (0 : Int) ≤ 8)⟩, g12, g14, trivial⟩ ⟨(hT.2.1 53), (hT.2.1 114), (q25.2.1 116), trivial⟩) (show 0 ≤ (1 : Int) by omega) (show (1 : Int) ≤ 1 by omega) (show LxP y3 y5 y7 (m.1 6) (0 : Int) by exact hLx) (show (1 : Int) = 0 ∨ (1 : Int) = 1 by omega) (fun _ => ⟨(show (m.1 8) + 1 ≤ y5 by omega), (show agr (m.2 53) (m.2 53) t by first | exact hK1 | exact agr_t hK1 (agr_u (Int.le_refl _)) (Int.le_refl _)), (show agr (m.2 114) (m.2 114) (8 * t) by first | exact hK2 | exact agr_t hK2 (agr_u (by omega)) (Int.le_refl _)), (show ∀ k, 8 * t ≤ k → k < 8 * t + (m.2 53) t → (m.2 114) k < (m.1 25) by exact hLI)⟩) (show 1000000 * (8 - (0 : Int)) + 2 * (4000 - y5) + (1 : Int) < ((((1000000 * (8 - (0 : Int)) + 2 * (4000 - y5) + (1 : Int) : Int) + 1).toNat : Nat) : Int) by omega)
          · skip
            refine T_gf 19 (.ref 276) rfl rfl rfl rfl rfl rfl ?_
            refine T_ld 20 (.int (i32 v21)) rfl (fun _ => rfl) ?_
            refine T_ld 21 (.int (i32 0)) rfl (fun _ => rfl) ?_
            have G294 : ∀ j, 0 ≤ (upI (m22.2 116) v21 0) j ∧ (upI (m22.2 116) v21 0) j ≤ 1 := upI_rg (q25.2.1 116) ⟨by omega, by omega⟩
            refine T_bast (a' := [(53, (m.2 53)), (114, (m.2 114)), (116, upI (m22.2 116) v21 0)]) 22 116 (m22.2 116) rfl rfl rfl (by omega) (show v21 < (16 : Int) by omega) (by omega) rfl rfl ?_
            refine T_iinc 25 [(2, .int (i32 (v21 + 1))), (0, .ref 189), (1, .int (i32 t))] rfl rfl (by decide) rfl rfl ?_
            refine T_goto 9 rfl (fun _ => rfl) ?_
            refine Tm_lv (a := [(0, .ref 189), (1, .int (i32 t)), (2, .int (i32 (v21 + 1)))]) rfl rfl ⟨rfl, rfl, rfl, trivial⟩ ?_
            exact ih29 (v21 + 1) (mO m [(7, y3), (8, y5), (9, y7), (10, 0), (11, y11), (12, y13)] [(53, (m.2 53)), (114, (m.2 114)), (116, upI (m22.2 116) v21 0)]) (r32 (by omega) (by omega)) (Ty_mO hT rfl rfl ⟨g4, g6, g8, ⟨(by omega : (0 : Int) ≤ 0), (by omega : (0 : Int) ≤ 8)⟩, g12, g14, trivial⟩ ⟨(hT.2.1 53), (hT.2.1 114), G294, trivial⟩) (show 0 ≤ (v21 + 1) by omega) (show (v21 + 1) ≤ 16 by omega) (show 16 - (v21 + 1) < (n : Int) by omega)
      refine Tm_lv (a := [(0, .ref 189), (1, .int (i32 t)), (2, .int (i32 0))]) rfl rfl ⟨rfl, rfl, rfl, trivial⟩ ?_
      exact L9_23 ((16 - (0 : Int) : Int) + 1).toNat 0 (mO m [(7, y3), (8, y5), (9, y7), (10, 0), (11, y11), (12, y13)] [(53, (m.2 53)), (114, (m.2 114)), (116, (m.2 116))]) ⟨by decide, by decide⟩ (Ty_mO hT rfl rfl ⟨g4, g6, g8, ⟨(by omega : (0 : Int) ≤ 0), (by omega : (0 : Int) ≤ 8)⟩, g12, g14, trivial⟩ ⟨(hT.2.1 53), (hT.2.1 114), (hT.2.1 116), trivial⟩) (show 0 ≤ (0 : Int) by omega) (show (0 : Int) ≤ 16 by omega) (show 16 - (0 : Int) < ((((16 - (0 : Int) : Int) + 1).toNat : Nat) : Int) by omega)
    · skip
      replace h15 : LxP y3 y5 y7 (m.1 6) y9 := h15
      have hLx := h15
      clear h16
      replace h17 : (m.1 8) ≤ y5 := h17
      clear h18
      have hf295 : 1 ≤ y9 := by omega
      refine T_ld 8 (.int (i32 0)) rfl (fun _ => rfl) ?_
      refine T_sto 9 [(2, .int (i32 0)), (0, .ref 189), (1, .int (i32 t))] rfl (fun _ => rfl) ?_
      have L9_298 : ∀ (n : Nat) (v296 : Int) (m297 : mR), (R32 v296) → (Ty m297) → (0 ≤ v296) → (v296 ≤ 16) → 16 - v296 < (n : Int) → TT w D pm_276 (9, [(0, .ref 189), (1, .int (i32 t)), (2, .int (i32 v296))], [], (mhp (mO m [(7, y3), (8, y5), (9, y7), (10, y9), (11, y11), (12, y13)] [(53, (m.2 53)), (114, (m.2 114)), (116, (m297.2 116))]) c, N), 0, 0) (Q_takeList m c N t) := by
        intro n
        induction n with
        | zero =>
          intro v296 m297 q299 q300 ic301 ic302 hmu
          obtain ⟨q299a, q299b⟩ := id q299
          exfalso
          omega
        | succ n ih =>
          intro v296 m297 q299 q300 ic301 ic302 hmu
          obtain ⟨q299a, q299b⟩ := id q299
          have ih304 := ih
          refine T_ld 10 (.int (i32 v296)) rfl (fun _ => rfl) ?_
          refine T_ld 12 (.int (i32 16)) rfl (fun _ => rfl) ?_
          refine T_icmp 28 15 rfl rfl rfl (r32 (by omega) (by omega)) ⟨by decide, by decide⟩ (fun (h305 : (16 : Int) ≤ v296) => ?_) (fun (h305 : ¬ ((16 : Int) ≤ v296)) => ?_)
          · skip
            refine T_ld 29 (.int (i32 1)) rfl (fun _ => rfl) ?_
            refine T_sto 30 [(2, .int (i32 1)), (0, .ref 189), (1, .int (i32 t))] rfl (fun _ => rfl) ?_
            refine T_ld 31 (.int (i32 1)) rfl (fun _ => rfl) ?_
            refine T_if 183 34 rfl rfl rfl ⟨by decide, by decide⟩ (fun h306 => absurd (show (1 : Int) = 0 from h306) (by decide)) (fun _ => ?_)
            refine T_gf 38 (.int (i32 y9)) rfl rfl rfl rfl rfl rfl ?_
            refine T_if 183 41 rfl rfl rfl (r32 (by omega) (by omega)) (fun (h307 : y9 ≠ 0) => ?_) (fun (h307 : ¬ (y9 ≠ 0)) => by exfalso; omega)
            refine T_ld 184 (.ref 189) rfl (fun _ => rfl) ?_
            refine T_ld 186 (.int (i32 59)) rfl (fun _ => rfl) ?_
            refine T_call 189 232 [.ref 189, .int (i32 59)] [] rfl (fun _ => rfl) rfl (c_need w (mO m [(7, y3), (8, y5), (9, y7), (10, y9), (11, y11), (12, y13)] [(53, (m.2 53)), (114, (m.2 114)), (116, (m297.2 116))]) c N D (by omega) (Ty_mO hT rfl rfl ⟨g4, g6, g8, g10, g12, g14, trivial⟩ ⟨(hT.2.1 53), (hT.2.1 114), (q300.2.1 116), trivial⟩) 59 ⟨by decide, by decide⟩ (show 1 ≤ (59 : Int) by omega) (show LxP y3 y5 y7 (m.1 6) y9 by first | exact hLx | (intro h9; exfalso; omega) | (intro h9; have h8 := hLx (by omega); omega))) (fun rr308 k309 => ?_)
            obtain ⟨y310, y312, y314, y316, y318, y320, g311, g313, g315, g317, g319, g321, h322, h323, h324, h325, rfl⟩ := k309
            refine ⟨_, _, rfl, ?_⟩
            refine T_nf2 (st' := []) (l' := [(7, y310), (8, y312), (9, y314), (10, y316), (11, y318), (12, y320)]) (a' := [(53, (m.2 53)), (114, (m.2 114)), (116, (m297.2 116))]) [7, 8, 9, 10, 11, 12] [] rfl ⟨rfl, rfl, rfl, rfl, rfl, rfl, rfl, rfl, rfl, rfl, rfl, rfl, trivial⟩ ⟨rfl, rfl, rfl, rfl, rfl, rfl, trivial⟩ rfl rfl (by decide) (by decide) ?_
            replace h322 : LxP y310 y312 y314 (m.1 6) y316 := h322
            replace h323 : y316 = 0 → y9 = 0 ∧ y3 = (59 : Int) := h323
            replace h324 : y5 ≤ y312 := h324
            replace h325 : y316 = 0 → y5 + y7 ≤ y312 := h325
            have hf326 : 1 ≤ y316 := by omega
            clear h323
            clear h325
            have hLx := h322
            clear g4 g6 g8 g10 g12 g14 h15 h17 hf295 h307 h324
            refine T_ret rfl (fun _ => rfl) ?_
            exact ⟨(mO m [(7, y310), (8, y312), (9, y314), (10, y316), (11, y318), (12, y320)] [(53, (m.2 53)), (114, (m.2 114)), (116, (m297.2 116))]), (Ty_mO hT rfl rfl ⟨g311, g313, g315, g317, g319, g321, trivial⟩ ⟨(hT.2.1 53), (hT.2.1 114), (q300.2.1 116), trivial⟩), (show y316 = 0 → (m.1 10) = 0 by omega), (show LxP y310 y312 y314 (m.1 6) y316 by first | (first | exact hLx | exact (fun _ => hLx (by omega)) | (intro h9; exfalso; omega)) | (exfalso; omega)), (fun (h : y316 = 0) => absurd h (by omega)), rfl⟩
          · skip
            refine T_gf 19 (.ref 276) rfl rfl rfl rfl rfl rfl ?_
            refine T_ld 20 (.int (i32 v296)) rfl (fun _ => rfl) ?_
            refine T_ld 21 (.int (i32 0)) rfl (fun _ => rfl) ?_
            have G327 : ∀ j, 0 ≤ (upI (m297.2 116) v296 0) j ∧ (upI (m297.2 116) v296 0) j ≤ 1 := upI_rg (q300.2.1 116) ⟨by omega, by omega⟩
            refine T_bast (a' := [(53, (m.2 53)), (114, (m.2 114)), (116, upI (m297.2 116) v296 0)]) 22 116 (m297.2 116) rfl rfl rfl (by omega) (show v296 < (16 : Int) by omega) (by omega) rfl rfl ?_
            refine T_iinc 25 [(2, .int (i32 (v296 + 1))), (0, .ref 189), (1, .int (i32 t))] rfl rfl (by decide) rfl rfl ?_
            refine T_goto 9 rfl (fun _ => rfl) ?_
            refine Tm_lv (a := [(0, .ref 189), (1, .int (i32 t)), (2, .int (i32 (v296 + 1)))]) rfl rfl ⟨rfl, rfl, rfl, trivial⟩ ?_
            exact ih304 (v296 + 1) (mO m [(7, y3), (8, y5), (9, y7), (10, y9), (11, y11), (12, y13)] [(53, (m.2 53)), (114, (m.2 114)), (116, upI (m297.2 116) v296 0)]) (r32 (by omega) (by omega)) (Ty_mO hT rfl rfl ⟨g4, g6, g8, g10, g12, g14, trivial⟩ ⟨(hT.2.1 53), (hT.2.1 114), G327, trivial⟩) (show 0 ≤ (v296 + 1) by omega) (show (v296 + 1) ≤ 16 by omega) (show 16 - (v296 + 1) < (n : Int) by omega)
      refine Tm_lv (a := [(0, .ref 189), (1, .int (i32 t)), (2, .int (i32 0))]) rfl rfl ⟨rfl, rfl, rfl, trivial⟩ ?_
      exact L9_298 ((16 - (0 : Int) : Int) + 1).toNat 0 (mO m [(7, y3), (8, y5), (9, y7), (10, y9), (11, y11), (12, y13)] [(53, (m.2 53)), (114, (m.2 114)), (116, (m.2 116))]) ⟨by decide, by decide⟩ (Ty_mO hT rfl rfl ⟨g4, g6, g8, g10, g12, g14, trivial⟩ ⟨(hT.2.1 53), (hT.2.1 114), (hT.2.1 116), trivial⟩) (show 0 ≤ (0 : Int) by omega) (show (0 : Int) ≤ 16 by omega) (show 16 - (0 : Int) < ((((16 - (0 : Int) : Int) + 1).toNat : Nat) : Int) by omega)
  · skip
    clear hC
    refine T_ld 1 (.ref 189) rfl (fun _ => rfl) ?_
    refine T_ld 4 (.int (i32 315)) rfl (fun _ => rfl) ?_
    refine T_call 7 232 [.ref 189, .int (i32 315)] [] rfl (fun _ => rfl) rfl (c_need w (mO m [(7, (m.1 7)), (8, (m.1 8)), (9, (m.1 9)), (10, (m.1 10)), (11, (m.1 11)), (12, (m.1 12))] [(53, (m.2 53)), (114, (m.2 114)), (116, (m.2 116))]) c N D (by omega) (Ty_mO hT rfl rfl ⟨f7, f8, f9, f10, f11, f12, trivial⟩ ⟨(hT.2.1 53), (hT.2.1 114), (hT.2.1 116), trivial⟩) 315 ⟨by decide, by decide⟩ (show 1 ≤ (315 : Int) by omega) (show LxP (m.1 7) (m.1 8) (m.1 9) (m.1 6) (m.1 10) by first | exact hLx | (intro h9; exfalso; omega) | (intro h9; have h8 := hLx (by omega); omega))) (fun rr328 k329 => ?_)
    obtain ⟨y330, y332, y334, y336, y338, y340, g331, g333, g335, g337, g339, g341, h342, h343, h344, h345, rfl⟩ := k329
    refine ⟨_, _, rfl, ?_⟩
    refine T_nf2 (st' := []) (l' := [(7, y330), (8, y332), (9, y334), (10, y336), (11, y338), (12, y340)]) (a' := [(53, (m.2 53)), (114, (m.2 114)), (116, (m.2 116))]) [7, 8, 9, 10, 11, 12] [] rfl ⟨rfl, rfl, rfl, rfl, rfl, rfl, rfl, rfl, rfl, rfl, rfl, rfl, trivial⟩ ⟨rfl, rfl, rfl, rfl, rfl, rfl, trivial⟩ rfl rfl (by decide) (by decide) ?_
    replace h342 : LxP y330 y332 y334 (m.1 6) y336 := h342
    replace h343 : y336 = 0 → (m.1 10) = 0 ∧ (m.1 7) = (315 : Int) := h343
    replace h344 : (m.1 8) ≤ y332 := h344
    replace h345 : y336 = 0 → (m.1 8) + (m.1 9) ≤ y332 := h345
    have hf346 : 1 ≤ y336 := by omega
    clear h343
    clear h345
    have hLx := h342
    refine T_ld 8 (.int (i32 0)) rfl (fun _ => rfl) ?_
    refine T_sto 9 [(2, .int (i32 0)), (0, .ref 189), (1, .int (i32 t))] rfl (fun _ => rfl) ?_
    have L9_349 : ∀ (n : Nat) (v347 : Int) (m348 : mR), (R32 v347) → (Ty m348) → (0 ≤ v347) → (v347 ≤ 16) → 16 - v347 < (n : Int) → TT w D pm_276 (9, [(0, .ref 189), (1, .int (i32 t)), (2, .int (i32 v347))], [], (mhp (mO m [(7, y330), (8, y332), (9, y334), (10, y336), (11, y338), (12, y340)] [(53, (m.2 53)), (114, (m.2 114)), (116, (m348.2 116))]) c, N), 0, 0) (Q_takeList m c N t) := by
      intro n
      induction n with
      | zero =>
        intro v347 m348 q350 q351 ic352 ic353 hmu
        obtain ⟨q350a, q350b⟩ := id q350
        exfalso
        omega
      | succ n ih =>
        intro v347 m348 q350 q351 ic352 ic353 hmu
        obtain ⟨q350a, q350b⟩ := id q350
        have ih355 := ih
        refine T_ld 10 (.int (i32 v347)) rfl (fun _ => rfl) ?_
        refine T_ld 12 (.int (i32 16)) rfl (fun _ => rfl) ?_
        refine T_icmp 28 15 rfl rfl rfl (r32 (by omega) (by omega)) ⟨by decide, by decide⟩ (fun (h356 : (16 : Int) ≤ v347) => ?_) (fun (h356 : ¬ ((16 : Int) ≤ v347)) => ?_)
        · skip
          refine T_ld 29 (.int (i32 1)) rfl (fun _ => rfl) ?_
          refine T_sto 30 [(2, .int (i32 1)), (0, .ref 189), (1, .int (i32 t))] rfl (fun _ => rfl) ?_
          refine T_ld 31 (.int (i32 1)) rfl (fun _ => rfl) ?_
          refine T_if 183 34 rfl rfl rfl ⟨by decide, by decide⟩ (fun h357 => absurd (show (1 : Int) = 0 from h357) (by decide)) (fun _ => ?_)
          refine T_gf 38 (.int (i32 y336)) rfl rfl rfl rfl rfl rfl ?_
          refine T_if 183 41 rfl rfl rfl (r32 (by omega) (by omega)) (fun (h358 : y336 ≠ 0) => ?_) (fun (h358 : ¬ (y336 ≠ 0)) => by exfalso; omega)
          refine T_ld 184 (.ref 189) rfl (fun _ => rfl) ?_
          refine T_ld 186 (.int (i32 59)) rfl (fun _ => rfl) ?_
          refine T_call 189 232 [.ref 189, .int (i32 59)] [] rfl (fun _ => rfl) rfl (c_need w (mO m [(7, y330), (8, y332), (9, y334), (10, y336), (11, y338), (12, y340)] [(53, (m.2 53)), (114, (m.2 114)), (116, (m348.2 116))]) c N D (by omega) (Ty_mO hT rfl rfl ⟨g331, g333, g335, g337, g339, g341, trivial⟩ ⟨(hT.2.1 53), (hT.2.1 114), (q351.2.1 116), trivial⟩) 59 ⟨by decide, by decide⟩ (show 1 ≤ (59 : Int) by omega) (show LxP y330 y332 y334 (m.1 6) y336 by first | exact hLx | (intro h9; exfalso; omega) | (intro h9; have h8 := hLx (by omega); omega))) (fun rr359 k360 => ?_)
          obtain ⟨y361, y363, y365, y367, y369, y371, g362, g364, g366, g368, g370, g372, h373, h374, h375, h376, rfl⟩ := k360
          refine ⟨_, _, rfl, ?_⟩
          refine T_nf2 (st' := []) (l' := [(7, y361), (8, y363), (9, y365), (10, y367), (11, y369), (12, y371)]) (a' := [(53, (m.2 53)), (114, (m.2 114)), (116, (m348.2 116))]) [7, 8, 9, 10, 11, 12] [] rfl ⟨rfl, rfl, rfl, rfl, rfl, rfl, rfl, rfl, rfl, rfl, rfl, rfl, trivial⟩ ⟨rfl, rfl, rfl, rfl, rfl, rfl, trivial⟩ rfl rfl (by decide) (by decide) ?_
          replace h373 : LxP y361 y363 y365 (m.1 6) y367 := h373
          replace h374 : y367 = 0 → y336 = 0 ∧ y330 = (59 : Int) := h374
          replace h375 : y332 ≤ y363 := h375
          replace h376 : y367 = 0 → y332 + y334 ≤ y363 := h376
          have hf377 : 1 ≤ y367 := by omega
          clear h374
          clear h376
          have hLx := h373
          clear g331 g333 g335 g337 g339 g341 hf346 h342 h344 h358 h375
          refine T_ret rfl (fun _ => rfl) ?_
          exact ⟨(mO m [(7, y361), (8, y363), (9, y365), (10, y367), (11, y369), (12, y371)] [(53, (m.2 53)), (114, (m.2 114)), (116, (m348.2 116))]), (Ty_mO hT rfl rfl ⟨g362, g364, g366, g368, g370, g372, trivial⟩ ⟨(hT.2.1 53), (hT.2.1 114), (q351.2.1 116), trivial⟩), (show y367 = 0 → (m.1 10) = 0 by omega), (show LxP y361 y363 y365 (m.1 6) y367 by first | (first | exact hLx | exact (fun _ => hLx (by omega)) | (intro h9; exfalso; omega)) | (exfalso; omega)), (fun (h : y367 = 0) => absurd h (by omega)), rfl⟩
        · skip
          refine T_gf 19 (.ref 276) rfl rfl rfl rfl rfl rfl ?_
          refine T_ld 20 (.int (i32 v347)) rfl (fun _ => rfl) ?_
          refine T_ld 21 (.int (i32 0)) rfl (fun _ => rfl) ?_
          have G378 : ∀ j, 0 ≤ (upI (m348.2 116) v347 0) j ∧ (upI (m348.2 116) v347 0) j ≤ 1 := upI_rg (q351.2.1 116) ⟨by omega, by omega⟩
          refine T_bast (a' := [(53, (m.2 53)), (114, (m.2 114)), (116, upI (m348.2 116) v347 0)]) 22 116 (m348.2 116) rfl rfl rfl (by omega) (show v347 < (16 : Int) by omega) (by omega) rfl rfl ?_
          refine T_iinc 25 [(2, .int (i32 (v347 + 1))), (0, .ref 189), (1, .int (i32 t))] rfl rfl (by decide) rfl rfl ?_
          refine T_goto 9 rfl (fun _ => rfl) ?_
          refine Tm_lv (a := [(0, .ref 189), (1, .int (i32 t)), (2, .int (i32 (v347 + 1)))]) rfl rfl ⟨rfl, rfl, rfl, trivial⟩ ?_
          exact ih355 (v347 + 1) (mO m [(7, y330), (8, y332), (9, y334), (10, y336), (11, y338), (12, y340)] [(53, (m.2 53)), (114, (m.2 114)), (116, upI (m348.2 116) v347 0)]) (r32 (by omega) (by omega)) (Ty_mO hT rfl rfl ⟨g331, g333, g335, g337, g339, g341, trivial⟩ ⟨(hT.2.1 53), (hT.2.1 114), G378, trivial⟩) (show 0 ≤ (v347 + 1) by omega) (show (v347 + 1) ≤ 16 by omega) (show 16 - (v347 + 1) < (n : Int) by omega)
    refine Tm_lv (a := [(0, .ref 189), (1, .int (i32 t)), (2, .int (i32 0))]) rfl rfl ⟨rfl, rfl, rfl, trivial⟩ ?_
    exact L9_349 ((16 - (0 : Int) : Int) + 1).toNat 0 (mO m [(7, y330), (8, y332), (9, y334), (10, y336), (11, y338), (12, y340)] [(53, (m.2 53)), (114, (m.2 114)), (116, (m.2 116))]) ⟨by decide, by decide⟩ (Ty_mO hT rfl rfl ⟨g331, g333, g335, g337, g339, g341, trivial⟩ ⟨(hT.2.1 53), (hT.2.1 114), (hT.2.1 116), trivial⟩) (show 0 ≤ (0 : Int) by omega) (show (0 : Int) ≤ 16 by omega) (show 16 - (0 : Int) < ((((16 - (0 : Int) : Int) + 1).toNat : Nat) : Int) by omega)
def Q_takeElse (m : mR) (c : Nat → Option am_C) (N : Nat) (t : Int) : ag_Re af_T → Prop := fun R => ∃ (M : mR), Ty M ∧ ((M.1 10) = 0 → (m.1 10) = 0) ∧ (LxP (M.1 7) (M.1 8) (M.1 9) (m.1 6) (M.1 10)) ∧ (M.1 10 = 0 → ((m.1 8) + 1 ≤ (M.1 8)) ∧ ((M.2 57) t < (m.1 25)) ∧ (agr (m.2 57) (M.2 57) t)) ∧ R = (.inl (none), (mhp (mO m [(7, (M.1 7)), (8, (M.1 8)), (9, (M.1 9)), (10, (M.1 10)), (11, (M.1 11)), (12, (M.1 12))] [(57, (M.2 57)), (115, (M.2 115))]) c, N), 0, 0)
set_option maxHeartbeats 8000000 in
theorem c_takeElse (w : wX) (m : mR) (c : Nat → Option am_C) (N D : Nat) (hD : 7 ≤ D) (hT : Ty m) (t : Int) (qt : R32 t) (hLx0 : LxP (m.1 7) (m.1 8) (m.1 9) (m.1 6) (m.1 10)) (hNM0 : ∀ k, (m.2 14) k + (m.2 15) k ≤ 4000) (p2 : 0 ≤ t ∧ t ≤ 7) (hC : m.1 10 = 0 → (PN (m.1 13) (m.1 19) (m.1 20) (m.1 21) (m.1 22) (m.1 23) (m.1 25) (m.1 26) (m.2 16) (m.2 17))) : TC w D 277 [.ref 189, .int (i32 t)] (mhp m c, N) (Q_takeElse m c N t) := by
  obtain ⟨D, rfl⟩ : ∃ k, D = k + 1 := ⟨D - 1, by omega⟩
  obtain ⟨qta, qtb⟩ := id qt
  have hLx := hLx0
  have hNM := hNM0
  have f7 : 0 ≤ m.1 7 ∧ m.1 7 ≤ 330 := hT.1 7
  have f8 : 0 ≤ m.1 8 ∧ m.1 8 ≤ 4000 := hT.1 8
  have f9 : 0 ≤ m.1 9 ∧ m.1 9 ≤ 4000 := hT.1 9
  have f10 : 0 ≤ m.1 10 ∧ m.1 10 ≤ 8 := hT.1 10
  have f11 : (-1) ≤ m.1 11 ∧ m.1 11 ≤ 4000 := hT.1 11
  have f12 : (-9223372036854775808) ≤ m.1 12 ∧ m.1 12 ≤ 9223372036854775807 := hT.1 12
  have f25 : 0 ≤ m.1 25 ∧ m.1 25 ≤ 16 := hT.1 25
  have f22 : 0 ≤ m.1 22 ∧ m.1 22 ≤ 8 := hT.1 22
  have f19 : 0 ≤ m.1 19 ∧ m.1 19 ≤ 12 := hT.1 19
  have f20 : 0 ≤ m.1 20 ∧ m.1 20 ≤ 12 := hT.1 20
  have f21 : 0 ≤ m.1 21 ∧ m.1 21 ≤ 16 := hT.1 21
  have f13 : 0 ≤ m.1 13 ∧ m.1 13 ≤ 120 := hT.1 13
  have f6 : 0 ≤ m.1 6 ∧ m.1 6 ≤ 4000 := hT.1 6
  have f23 : 0 ≤ m.1 23 ∧ m.1 23 ≤ 16 := hT.1 23
  have f26 : 0 ≤ m.1 26 ∧ m.1 26 ≤ 8 := hT.1 26
  refine Tc_of rfl ?_
  show TT w D pm_277 (0, [(0, .ref 189), (1, .int (i32 t))], [], (mhp m c, N), 0, 0) (Q_takeElse m c N t)
  rw [show (mhp m c, N) = (mhp (mO m [(7, (m.1 7)), (8, (m.1 8)), (9, (m.1 9)), (10, (m.1 10)), (11, (m.1 11)), (12, (m.1 12))] [(57, (m.2 57)), (115, (m.2 115))]) c, N) from congrArg (fun M => (mhp M c, N)) (mO_pad m [7, 8, 9, 10, 11, 12] [57, 115])]
  by_cases hf0 : m.1 10 = 0
  · skip
    have pPN := hC hf0
    have h7 := hLx (by omega)
    have hNM := hNM0
    refine T_ld 1 (.ref 189) rfl (fun _ => rfl) ?_
    refine T_ld 4 (.int (i32 308)) rfl (fun _ => rfl) ?_
    refine T_call 7 232 [.ref 189, .int (i32 308)] [] rfl (fun _ => rfl) rfl (c_need w (mO m [(7, (m.1 7)), (8, (m.1 8)), (9, (m.1 9)), (10, (m.1 10)), (11, (m.1 11)), (12, (m.1 12))] [(57, (m.2 57)), (115, (m.2 115))]) c N D (by omega) (Ty_mO hT rfl rfl ⟨f7, f8, f9, f10, f11, f12, trivial⟩ ⟨(hT.2.1 57), (hT.2.1 115), trivial⟩) 308 ⟨by decide, by decide⟩ (show 1 ≤ (308 : Int) by omega) (show LxP (m.1 7) (m.1 8) (m.1 9) (m.1 6) (m.1 10) by first | exact hLx | (intro h9; exfalso; omega) | (intro h9; have h8 := hLx (by omega); omega))) (fun rr1 k2 => ?_)
    obtain ⟨y3, y5, y7, y9, y11, y13, g4, g6, g8, g10, g12, g14, h15, h16, h17, h18, rfl⟩ := k2
    refine ⟨_, _, rfl, ?_⟩
    refine T_nf2 (st' := []) (l' := [(7, y3), (8, y5), (9, y7), (10, y9), (11, y11), (12, y13)]) (a' := [(57, (m.2 57)), (115, (m.2 115))]) [7, 8, 9, 10, 11, 12] [] rfl ⟨rfl, rfl, rfl, rfl, rfl, rfl, rfl, rfl, rfl, rfl, rfl, rfl, trivial⟩ ⟨rfl, rfl, rfl, rfl, trivial⟩ rfl rfl (by decide) (by decide) ?_
    by_cases hf19 : y9 = 0
    · skip
      subst hf19
      replace h15 : LxP y3 y5 y7 (m.1 6) (0 : Int) := h15
      have hLx := h15
      replace h16 : (m.1 10) = 0 ∧ (m.1 7) = (308 : Int) := h16 rfl
      replace h17 : (m.1 8) ≤ y5 := h17
      replace h18 : (m.1 8) + (m.1 9) ≤ y5 := h18 rfl
      have u20 : (m.1 8) + 1 ≤ y5 := by omega
      clear g10
      refine T_gf 11 (.int (i32 y5)) rfl rfl rfl rfl rfl rfl ?_
      refine T_sto 12 [(2, .int (i32 y5)), (0, .ref 189), (1, .int (i32 t))] rfl (fun _ => rfl) ?_
      refine T_ld 13 (.ref 189) rfl (fun _ => rfl) ?_
      refine T_ld 15 (.int (i32 6)) rfl (fun _ => rfl) ?_
      have hOL : (0 : Int) = 0 → ∀ k, 0 ≤ k → k < (m.1 13) → (m.2 16) k = 6 → 0 ≤ (m.2 17) k ∧ (m.2 17) k < (m.1 25) := fun _ k h1 h2 h3 => by
        have h4 := PNl_6 pPN k h1 h2 h3
        omega
      refine T_call 18 236 [.ref 189, .int (i32 6)] [] rfl (fun _ => rfl) rfl (c_oldName w (mO m [(7, y3), (8, y5), (9, y7), (10, 0), (11, y11), (12, y13)] [(57, (m.2 57)), (115, (m.2 115))]) c N D (by omega) (Ty_mO hT rfl rfl ⟨g4, g6, g8, ⟨(by omega : (0 : Int) ≤ 0), (by omega : (0 : Int) ≤ 8)⟩, g12, g14, trivial⟩ ⟨(hT.2.1 57), (hT.2.1 115), trivial⟩) 6 (m.1 25) ⟨by decide, by decide⟩ (show LxP y3 y5 y7 (m.1 6) (0 : Int) by first | exact hLx | (intro h9; exfalso; omega) | (intro h9; have h8 := hLx (by omega); omega)) (show ∀ k, (m.2 14) k + (m.2 15) k ≤ 4000 by first | exact p1 | exact hNM) (show 1 ≤ (6 : Int) ∧ (6 : Int) ≤ 7 ∧ (6 : Int) ≠ 5 by omega) (show (m.1 25) ≤ 16 by omega) (show (0 : Int) = 0 → ∀ k, 0 ≤ k → k < (m.1 13) → (m.2 16) k = (6 : Int) → 0 ≤ (m.2 17) k ∧ (m.2 17) k < (m.1 25) by first | exact hOL | (intro h; exfalso; omega)) (show (6 : Int) = 3 → 3 ≤ (m.1 25) by omega)) (fun rr21 k22 => ?_)
      obtain ⟨y23, y25, y27, y29, y31, y33, oo, g24, g26, g28, g30, g32, g34, g35, h36, h37, h38, h39, h40, h41, rfl⟩ := k22
      refine ⟨_, _, rfl, ?_⟩
      refine T_nf2 (st' := [.int (i32 oo)]) (l' := [(7, y23), (8, y25), (9, y27), (10, y29), (11, y31), (12, y33)]) (a' := [(57, (m.2 57)), (115, (m.2 115))]) [7, 8, 9, 10, 11, 12] [] rfl ⟨rfl, rfl, rfl, rfl, rfl, rfl, rfl, rfl, rfl, rfl, rfl, rfl, trivial⟩ ⟨rfl, rfl, rfl, rfl, trivial⟩ rfl rfl (by decide) (by decide) ?_
      obtain ⟨g35a, g35b⟩ := g35
      by_cases hf42 : y29 = 0
      · skip
        subst hf42
        replace h36 : LxP y23 y25 y27 (m.1 6) (0 : Int) := h36
        have hLx := h36
        replace h37 : y5 ≤ y25 := h37
        replace h38 : (0 : Int) = 0 ∧ y5 + y7 ≤ y25 := h38 rfl
        replace h39 : y3 = 1 := h39 rfl
        replace h40 : 0 ≤ oo ∧ (oo < (m.1 25) ∨ oo = 0) := h40
        replace h41 : oo < (m.1 25) := h41 rfl
        have u43 : (m.1 8) + 1 ≤ y25 := by omega
        clear g4 g8 g12 g14 h15 g30 h38 h39
        refine T_sto 19 [(3, .int (i32 oo)), (2, .int (i32 y5)), (0, .ref 189), (1, .int (i32 t))] rfl (fun _ => rfl) ?_
        refine T_ld 20 (.ref 189) rfl (fun _ => rfl) ?_
        refine T_ld 22 (.int (i32 40)) rfl (fun _ => rfl) ?_
        refine T_call 25 232 [.ref 189, .int (i32 40)] [] rfl (fun _ => rfl) rfl (c_need w (mO m [(7, y23), (8, y25), (9, y27), (10, 0), (11, y31), (12, y33)] [(57, (m.2 57)), (115, (m.2 115))]) c N D (by omega) (Ty_mO hT rfl rfl ⟨g24, g26, g28, ⟨(by omega : (0 : Int) ≤ 0), (by omega : (0 : Int) ≤ 8)⟩, g32, g34, trivial⟩ ⟨(hT.2.1 57), (hT.2.1 115), trivial⟩) 40 ⟨by decide, by decide⟩ (show 1 ≤ (40 : Int) by omega) (show LxP y23 y25 y27 (m.1 6) (0 : Int) by first | exact hLx | (intro h9; exfalso; omega) | (intro h9; have h8 := hLx (by omega); omega))) (fun rr44 k45 => ?_)
        obtain ⟨y46, y48, y50, y52, y54, y56, g47, g49, g51, g53, g55, g57, h58, h59, h60, h61, rfl⟩ := k45
        refine ⟨_, _, rfl, ?_⟩
        refine T_nf2 (st' := []) (l' := [(7, y46), (8, y48), (9, y50), (10, y52), (11, y54), (12, y56)]) (a' := [(57, (m.2 57)), (115, (m.2 115))]) [7, 8, 9, 10, 11, 12] [] rfl ⟨rfl, rfl, rfl, rfl, rfl, rfl, rfl, rfl, rfl, rfl, rfl, rfl, trivial⟩ ⟨rfl, rfl, rfl, rfl, trivial⟩ rfl rfl (by decide) (by decide) ?_
        by_cases hf62 : y52 = 0
        · skip
          subst hf62
          replace h58 : LxP y46 y48 y50 (m.1 6) (0 : Int) := h58
          have hLx := h58
          replace h59 : (0 : Int) = 0 ∧ y23 = (40 : Int) := h59 rfl
          replace h60 : y25 ≤ y48 := h60
          replace h61 : y25 + y27 ≤ y48 := h61 rfl
          have u63 : (m.1 8) + 1 ≤ y48 := by omega
          clear g24 g26 g28 g32 g34 h36 h37 u43 g53 h59 h60 h61
          refine T_ld 26 (.int (i32 0)) rfl (fun _ => rfl) ?_
          refine T_sto 28 [(4, .int (i32 0)), (3, .int (i32 oo)), (2, .int (i32 y5)), (0, .ref 189), (1, .int (i32 t))] rfl (fun _ => rfl) ?_
          refine T_gf 32 (.int (i32 0)) rfl rfl rfl rfl rfl rfl ?_
          refine T_if 48 35 rfl rfl rfl ⟨by decide, by decide⟩ (fun h64 => absurd (show (0 : Int) ≠ 0 from h64) (by decide)) (fun _ => ?_)
          refine T_gf 39 (.int (i32 y46)) rfl rfl rfl rfl rfl rfl ?_
          refine T_ld 41 (.int (i32 41)) rfl (fun _ => rfl) ?_
          have J49_66 : ∀ (s65 : Int), (R32 s65) → (0 ≤ s65) → (s65 ≤ 1) → TT w D pm_277 (49, [(0, .ref 189), (1, .int (i32 t)), (2, .int (i32 y5)), (3, .int (i32 oo)), (4, .int (i32 0))], [.int (i32 s65)], (mhp (mO m [(7, y46), (8, y48), (9, y50), (10, 0), (11, y54), (12, y56)] [(57, (m.2 57)), (115, (m.2 115))]) c, N), 0, 0) (Q_takeElse m c N t) := by
            intro s65 q67 ic68 ic69
            obtain ⟨q67a, q67b⟩ := id q67
            refine T_sto 51 [(5, .int (i32 s65)), (0, .ref 189), (1, .int (i32 t)), (2, .int (i32 y5)), (3, .int (i32 oo)), (4, .int (i32 0))] rfl (fun _ => rfl) ?_
            have L51_74 : ∀ (n : Nat) (v71 : Int) (v72 : Int) (m73 : mR), (R32 v71) → (R32 v72) → (Ty m73) → (0 ≤ v71) → (0 ≤ v72) → (v72 ≤ 1) → (LxP (m73.1 7) (m73.1 8) (m73.1 9) (m.1 6) (m73.1 10)) → (v72 = 0 ∨ v72 = 1) → (0 ≤ v71 ∧ v71 ≤ 5000) → ((m73.1 10) = 0 → ((m.1 8) + 1 ≤ (m73.1 8)) ∧ (v71 ≤ (m73.1 8))) → 1000000 * (8 - (m73.1 10)) + 2 * (4000 - (m73.1 8)) + v72 < (n : Int) → TT w D pm_277 (51, [(0, .ref 189), (1, .int (i32 t)), (2, .int (i32 y5)), (3, .int (i32 oo)), (4, .int (i32 v71)), (5, .int (i32 v72))], [], (mhp (mO m [(7, (m73.1 7)), (8, (m73.1 8)), (9, (m73.1 9)), (10, (m73.1 10)), (11, (m73.1 11)), (12, (m73.1 12))] [(57, (m.2 57)), (115, (m73.2 115))]) c, N), 0, 0) (Q_takeElse m c N t) := by
              intro n
              induction n with
              | zero =>
                intro v71 v72 m73 q75 q76 q77 ic78 ic79 ic80 ic81 ic82 ic83 c84 hmu
                obtain ⟨q75a, q75b⟩ := id q75
                obtain ⟨q76a, q76b⟩ := id q76
                have q77_7 : 0 ≤ m73.1 7 ∧ m73.1 7 ≤ 330 := q77.1 7
                have q77_8 : 0 ≤ m73.1 8 ∧ m73.1 8 ≤ 4000 := q77.1 8
                have q77_9 : 0 ≤ m73.1 9 ∧ m73.1 9 ≤ 4000 := q77.1 9
                have q77_10 : 0 ≤ m73.1 10 ∧ m73.1 10 ≤ 8 := q77.1 10
                have q77_11 : (-1) ≤ m73.1 11 ∧ m73.1 11 ≤ 4000 := q77.1 11
                have q77_12 : (-9223372036854775808) ≤ m73.1 12 ∧ m73.1 12 ≤ 9223372036854775807 := q77.1 12
                have hLx := ic81
                exfalso
                omega
              | succ n ih =>
                intro v71 v72 m73 q75 q76 q77 ic78 ic79 ic80 ic81 ic82 ic83 c84 hmu
                obtain ⟨q75a, q75b⟩ := id q75
                obtain ⟨q76a, q76b⟩ := id q76
                have q77_7 : 0 ≤ m73.1 7 ∧ m73.1 7 ≤ 330 := q77.1 7
                have q77_8 : 0 ≤ m73.1 8 ∧ m73.1 8 ≤ 4000 := q77.1 8
                have q77_9 : 0 ≤ m73.1 9 ∧ m73.1 9 ≤ 4000 := q77.1 9
                have q77_10 : 0 ≤ m73.1 10 ∧ m73.1 10 ≤ 8 := q77.1 10
                have q77_11 : (-1) ≤ m73.1 11 ∧ m73.1 11 ≤ 4000 := q77.1 11
                have q77_12 : (-9223372036854775808) ≤ m73.1 12 ∧ m73.1 12 ≤ 9223372036854775807 := q77.1 12
                have hLx := ic81
                have ih85 := ih
                by_cases hf86 : (m73.1 10) = 0
                · skip
                  obtain ⟨c87, c88⟩ := c84 hf86
                  clear c84
                  refine T_ld 53 (.int (i32 v72)) rfl (fun _ => rfl) ?_
                  refine T_if 153 56 rfl rfl rfl (r32 (by omega) (by omega)) (fun (h89 : v72 = 0) => ?_) (fun (h89 : ¬ (v72 = 0)) => ?_)
                  · skip
                    refine T_gf 157 (.int (i32 (m73.1 10))) rfl rfl rfl rfl rfl rfl ?_
                    refine T_if 187 160 rfl rfl rfl (r32 (by omega) (by omega)) (fun (h90 : (m73.1 10) ≠ 0) => by exfalso; omega) (fun (h90 : ¬ ((m73.1 10) ≠ 0)) => ?_)
                    refine T_gf 164 (.int (i32 (m73.1 7))) rfl rfl rfl rfl rfl rfl ?_
                    refine T_ld 166 (.int (i32 41)) rfl (fun _ => rfl) ?_
                    refine T_icmp 187 169 rfl rfl rfl (r32 (by omega) (by omega)) ⟨by decide, by decide⟩ (fun (h91 : (m73.1 7) ≠ 41) => ?_) (fun (h91 : ¬ ((m73.1 7) ≠ 41)) => ?_)
                    · skip
                      refine T_ld 188 (.ref 189) rfl (fun _ => rfl) ?_
                      refine T_ld 190 (.int (i32 41)) rfl (fun _ => rfl) ?_
                      refine T_call 193 232 [.ref 189, .int (i32 41)] [] rfl (fun _ => rfl) rfl (c_need w (mO m [(7, (m73.1 7)), (8, (m73.1 8)), (9, (m73.1 9)), (10, (m73.1 10)), (11, (m73.1 11)), (12, (m73.1 12))] [(57, (m.2 57)), (115, (m73.2 115))]) c N D (by omega) (Ty_mO hT rfl rfl ⟨(q77.1 7), (q77.1 8), (q77.1 9), (q77.1 10), (q77.1 11), (q77.1 12), trivial⟩ ⟨(hT.2.1 57), (q77.2.1 115), trivial⟩) 41 ⟨by decide, by decide⟩ (show 1 ≤ (41 : Int) by omega) (show LxP (m73.1 7) (m73.1 8) (m73.1 9) (m.1 6) (m73.1 10) by first | exact hLx | (intro h9; exfalso; omega) | (intro h9; have h8 := hLx (by omega); omega))) (fun rr92 k93 => ?_)
                      obtain ⟨y94, y96, y98, y100, y102, y104, g95, g97, g99, g101, g103, g105, h106, h107, h108, h109, rfl⟩ := k93
                      refine ⟨_, _, rfl, ?_⟩
                      refine T_nf2 (st' := []) (l' := [(7, y94), (8, y96), (9, y98), (10, y100), (11, y102), (12, y104)]) (a' := [(57, (m.2 57)), (115, (m73.2 115))]) [7, 8, 9, 10, 11, 12] [] rfl ⟨rfl, rfl, rfl, rfl, rfl, rfl, rfl, rfl, rfl, rfl, rfl, rfl, trivial⟩ ⟨rfl, rfl, rfl, rfl, trivial⟩ rfl rfl (by decide) (by decide) ?_
                      by_cases hf110 : y100 = 0
                      · skip
                        subst hf110
                        replace h106 : LxP y94 y96 y98 (m.1 6) (0 : Int) := h106
                        have hLx := h106
                        replace h107 : (m73.1 10) = 0 ∧ (m73.1 7) = (41 : Int) := h107 rfl
                        replace h108 : (m73.1 8) ≤ y96 := h108
                        replace h109 : (m73.1 8) + (m73.1 9) ≤ y96 := h109 rfl
                        have u111 : (m.1 8) + 1 ≤ y96 := by omega
                        clear g47 g49 g51 g55 g57 h58 u63 q67a q67b q67 ic68 ic69 q77_7 q77_9 q77_11 q77_12 ic81 h91 g101 h107 h109
                        refine T_ld 194 (.ref 189) rfl (fun _ => rfl) ?_
                        refine T_ld 196 (.int (i32 59)) rfl (fun _ => rfl) ?_
                        refine T_call 199 232 [.ref 189, .int (i32 59)] [] rfl (fun _ => rfl) rfl (c_need w (mO m [(7, y94), (8, y96), (9, y98), (10, 0), (11, y102), (12, y104)] [(57, (m.2 57)), (115, (m73.2 115))]) c N D (by omega) (Ty_mO hT rfl rfl ⟨g95, g97, g99, ⟨(by omega : (0 : Int) ≤ 0), (by omega : (0 : Int) ≤ 8)⟩, g103, g105, trivial⟩ ⟨(hT.2.1 57), (q77.2.1 115), trivial⟩) 59 ⟨by decide, by decide⟩ (show 1 ≤ (59 : Int) by omega) (show LxP y94 y96 y98 (m.1 6) (0 : Int) by first | exact hLx | (intro h9; exfalso; omega) | (intro h9; have h8 := hLx (by omega); omega))) (fun rr112 k113 => ?_)
                        obtain ⟨y114, y116, y118, y120, y122, y124, g115, g117, g119, g121, g123, g125, h126, h127, h128, h129, rfl⟩ := k113
                        refine ⟨_, _, rfl, ?_⟩
                        refine T_nf2 (st' := []) (l' := [(7, y114), (8, y116), (9, y118), (10, y120), (11, y122), (12, y124)]) (a' := [(57, (m.2 57)), (115, (m73.2 115))]) [7, 8, 9, 10, 11, 12] [] rfl ⟨rfl, rfl, rfl, rfl, rfl, rfl, rfl, rfl, rfl, rfl, rfl, rfl, trivial⟩ ⟨rfl, rfl, rfl, rfl, trivial⟩ rfl rfl (by decide) (by decide) ?_
                        by_cases hf130 : y120 = 0
                        · skip
                          subst hf130
                          replace h126 : LxP y114 y116 y118 (m.1 6) (0 : Int) := h126
                          have hLx := h126
                          replace h127 : (0 : Int) = 0 ∧ y94 = (59 : Int) := h127 rfl
                          replace h128 : y96 ≤ y116 := h128
                          replace h129 : y96 + y98 ≤ y116 := h129 rfl
                          have u131 : (m.1 8) + 1 ≤ y116 := by omega
                          clear g95 g97 g99 g103 g105 h106 h108 u111 g121 h127 h128 h129
                          refine T_gf 203 (.ref 227) rfl rfl rfl rfl rfl rfl ?_
                          refine T_ld 204 (.int (i32 t)) rfl (fun _ => rfl) ?_
                          refine T_ld 205 (.int (i32 oo)) rfl (fun _ => rfl) ?_
                          have G132 : ∀ j, 0 ≤ (upI (m.2 57) t oo) j ∧ (upI (m.2 57) t oo) j ≤ 15 := upI_rg (hT.2.1 57) ⟨by omega, by omega⟩
                          refine T_iast (a' := [(57, upI (m.2 57) t oo), (115, (m73.2 115))]) 206 57 (m.2 57) rfl rfl rfl (by omega) (show t < (8 : Int) by omega) rfl rfl ?_
                          refine T_ret rfl (fun _ => rfl) ?_
                          exact ⟨(mO m [(7, y114), (8, y116), (9, y118), (10, 0), (11, y122), (12, y124)] [(57, upI (m.2 57) t oo), (115, (m73.2 115))]), (Ty_mO hT rfl rfl ⟨g115, g117, g119, ⟨(by omega : (0 : Int) ≤ 0), (by omega : (0 : Int) ≤ 8)⟩, g123, g125, trivial⟩ ⟨G132, (q77.2.1 115), trivial⟩), (show (0 : Int) = 0 → (m.1 10) = 0 by omega), (show LxP y114 y116 y118 (m.1 6) (0 : Int) by first | (first | exact hLx | exact (fun _ => hLx (by omega)) | (intro h9; exfalso; omega)) | (exfalso; omega)), (fun _ => ⟨(show (m.1 8) + 1 ≤ y116 by omega), (show (upI (m.2 57) t oo) t < (m.1 25) by first | (rw [upI_s]; omega) | (exfalso; omega)), (show agr (m.2 57) (upI (m.2 57) t oo) t by first | (exact agr_u (Int.le_refl _)) | (exfalso; omega))⟩), rfl⟩
                        · skip
                          replace h126 : LxP y114 y116 y118 (m.1 6) y120 := h126
                          have hLx := h126
                          clear h127
                          replace h128 : y96 ≤ y116 := h128
                          clear h129
                          have hf133 : 1 ≤ y120 := by omega
                          clear g95 g97 g99 g103 g105 h106 h108 u111 h128
                          refine T_gf 203 (.ref 227) rfl rfl rfl rfl rfl rfl ?_
                          refine T_ld 204 (.int (i32 t)) rfl (fun _ => rfl) ?_
                          refine T_ld 205 (.int (i32 oo)) rfl (fun _ => rfl) ?_
                          have G134 : ∀ j, 0 ≤ (upI (m.2 57) t oo) j ∧ (upI (m.2 57) t oo) j ≤ 15 := upI_rg (hT.2.1 57) ⟨by omega, by omega⟩
                          refine T_iast (a' := [(57, upI (m.2 57) t oo), (115, (m73.2 115))]) 206 57 (m.2 57) rfl rfl rfl (by omega) (show t < (8 : Int) by omega) rfl rfl ?_
                          refine T_ret rfl (fun _ => rfl) ?_
                          exact ⟨(mO m [(7, y114), (8, y116), (9, y118), (10, y120), (11, y122), (12, y124)] [(57, upI (m.2 57) t oo), (115, (m73.2 115))]), (Ty_mO hT rfl rfl ⟨g115, g117, g119, g121, g123, g125, trivial⟩ ⟨G134, (q77.2.1 115), trivial⟩), (show y120 = 0 → (m.1 10) = 0 by omega), (show LxP y114 y116 y118 (m.1 6) y120 by first | (first | exact hLx | exact (fun _ => hLx (by omega)) | (intro h9; exfalso; omega)) | (exfalso; omega)), (fun (h : y120 = 0) => absurd h (by omega)), rfl⟩
                      · skip
                        replace h106 : LxP y94 y96 y98 (m.1 6) y100 := h106
                        have hLx := h106
                        clear h107
                        replace h108 : (m73.1 8) ≤ y96 := h108
                        clear h109
                        have hf135 : 1 ≤ y100 := by omega
                        clear g47 g49 g51 g55 g57 h58 u63 q67a q67b q67 ic68 ic69 q77_7 q77_9 q77_11 q77_12 ic81 h91
                        refine T_ld 194 (.ref 189) rfl (fun _ => rfl) ?_
                        refine T_ld 196 (.int (i32 59)) rfl (fun _ => rfl) ?_
                        refine T_call 199 232 [.ref 189, .int (i32 59)] [] rfl (fun _ => rfl) rfl (c_need w (mO m [(7, y94), (8, y96), (9, y98), (10, y100), (11, y102), (12, y104)] [(57, (m.2 57)), (115, (m73.2 115))]) c N D (by omega) (Ty_mO hT rfl rfl ⟨g95, g97, g99, g101, g103, g105, trivial⟩ ⟨(hT.2.1 57), (q77.2.1 115), trivial⟩) 59 ⟨by decide, by decide⟩ (show 1 ≤ (59 : Int) by omega) (show LxP y94 y96 y98 (m.1 6) y100 by first | exact hLx | (intro h9; exfalso; omega) | (intro h9; have h8 := hLx (by omega); omega))) (fun rr136 k137 => ?_)
                        obtain ⟨y138, y140, y142, y144, y146, y148, g139, g141, g143, g145, g147, g149, h150, h151, h152, h153, rfl⟩ := k137
                        refine ⟨_, _, rfl, ?_⟩
                        refine T_nf2 (st' := []) (l' := [(7, y138), (8, y140), (9, y142), (10, y144), (11, y146), (12, y148)]) (a' := [(57, (m.2 57)), (115, (m73.2 115))]) [7, 8, 9, 10, 11, 12] [] rfl ⟨rfl, rfl, rfl, rfl, rfl, rfl, rfl, rfl, rfl, rfl, rfl, rfl, trivial⟩ ⟨rfl, rfl, rfl, rfl, trivial⟩ rfl rfl (by decide) (by decide) ?_
                        replace h150 : LxP y138 y140 y142 (m.1 6) y144 := h150
                        replace h151 : y144 = 0 → y100 = 0 ∧ y94 = (59 : Int) := h151
                        replace h152 : y96 ≤ y140 := h152
                        replace h153 : y144 = 0 → y96 + y98 ≤ y140 := h153
                        have hf154 : 1 ≤ y144 := by omega
                        clear h151
                        clear h153
                        have hLx := h150
                        clear g95 g97 g99 g101 g103 g105 h106 h108 hf135 h152
                        refine T_gf 203 (.ref 227) rfl rfl rfl rfl rfl rfl ?_
                        refine T_ld 204 (.int (i32 t)) rfl (fun _ => rfl) ?_
                        refine T_ld 205 (.int (i32 oo)) rfl (fun _ => rfl) ?_
                        have G155 : ∀ j, 0 ≤ (upI (m.2 57) t oo) j ∧ (upI (m.2 57) t oo) j ≤ 15 := upI_rg (hT.2.1 57) ⟨by omega, by omega⟩
                        refine T_iast (a' := [(57, upI (m.2 57) t oo), (115, (m73.2 115))]) 206 57 (m.2 57) rfl rfl rfl (by omega) (show t < (8 : Int) by omega) rfl rfl ?_
                        refine T_ret rfl (fun _ => rfl) ?_
                        exact ⟨(mO m [(7, y138), (8, y140), (9, y142), (10, y144), (11, y146), (12, y148)] [(57, upI (m.2 57) t oo), (115, (m73.2 115))]), (Ty_mO hT rfl rfl ⟨g139, g141, g143, g145, g147, g149, trivial⟩ ⟨G155, (q77.2.1 115), trivial⟩), (show y144 = 0 → (m.1 10) = 0 by omega), (show LxP y138 y140 y142 (m.1 6) y144 by first | (first | exact hLx | exact (fun _ => hLx (by omega)) | (intro h9; exfalso; omega)) | (exfalso; omega)), (fun (h : y144 = 0) => absurd h (by omega)), rfl⟩
                    · skip
                      refine T_ld 171 (.int (i32 v71)) rfl (fun _ => rfl) ?_
                      refine T_gf 175 (.ref 216) rfl rfl rfl rfl rfl rfl ?_
                      refine T_ld 176 (.int (i32 oo)) rfl (fun _ => rfl) ?_
                      refine T_iald 177 46 (m.2 46) rfl rfl rfl (by omega) (show oo < (16 : Int) by omega) rfl ?_
                      have e156 : 0 ≤ m.2 46 oo ∧ m.2 46 oo ≤ 4 := hT.2.1 46 oo
                      refine T_icmp 187 180 rfl rfl rfl (r32 (by omega) (by omega)) (r32 (by omega) (by omega)) (fun (h157 : v71 = (m.2 46) oo) => ?_) (fun (h157 : ¬ (v71 = (m.2 46) oo)) => ?_)
                      · skip
                        refine T_ld 188 (.ref 189) rfl (fun _ => rfl) ?_
                        refine T_ld 190 (.int (i32 41)) rfl (fun _ => rfl) ?_
                        refine T_call 193 232 [.ref 189, .int (i32 41)] [] rfl (fun _ => rfl) rfl (c_need w (mO m [(7, (m73.1 7)), (8, (m73.1 8)), (9, (m73.1 9)), (10, (m73.1 10)), (11, (m73.1 11)), (12, (m73.1 12))] [(57, (m.2 57)), (115, (m73.2 115))]) c N D (by omega) (Ty_mO hT rfl rfl ⟨(q77.1 7), (q77.1 8), (q77.1 9), (q77.1 10), (q77.1 11), (q77.1 12), trivial⟩ ⟨(hT.2.1 57), (q77.2.1 115), trivial⟩) 41 ⟨by decide, by decide⟩ (show 1 ≤ (41 : Int) by omega) (show LxP (m73.1 7) (m73.1 8) (m73.1 9) (m.1 6) (m73.1 10) by first | exact hLx | (intro h9; exfalso; omega) | (intro h9; have h8 := hLx (by omega); omega))) (fun rr158 k159 => ?_)
                        obtain ⟨y160, y162, y164, y166, y168, y170, g161, g163, g165, g167, g169, g171, h172, h173, h174, h175, rfl⟩ := k159
                        refine ⟨_, _, rfl, ?_⟩
                        refine T_nf2 (st' := []) (l' := [(7, y160), (8, y162), (9, y164), (10, y166), (11, y168), (12, y170)]) (a' := [(57, (m.2 57)), (115, (m73.2 115))]) [7, 8, 9, 10, 11, 12] [] rfl ⟨rfl, rfl, rfl, rfl, rfl, rfl, rfl, rfl, rfl, rfl, rfl, rfl, trivial⟩ ⟨rfl, rfl, rfl, rfl, trivial⟩ rfl rfl (by decide) (by decide) ?_
                        by_cases hf176 : y166 = 0
                        · skip
                          subst hf176
                          replace h172 : LxP y160 y162 y164 (m.1 6) (0 : Int) := h172
                          have hLx := h172
                          replace h173 : (m73.1 10) = 0 ∧ (m73.1 7) = (41 : Int) := h173 rfl
                          replace h174 : (m73.1 8) ≤ y162 := h174
                          replace h175 : (m73.1 8) + (m73.1 9) ≤ y162 := h175 rfl
                          have u177 : (m.1 8) + 1 ≤ y162 := by omega
                          clear g47 g49 g51 g55 g57 h58 u63 q67a q67b q67 ic68 ic69 q77_7 q77_9 q77_11 q77_12 ic81 h91 g167 h173 h175
                          refine T_ld 194 (.ref 189) rfl (fun _ => rfl) ?_
                          refine T_ld 196 (.int (i32 59)) rfl (fun _ => rfl) ?_
                          refine T_call 199 232 [.ref 189, .int (i32 59)] [] rfl (fun _ => rfl) rfl (c_need w (mO m [(7, y160), (8, y162), (9, y164), (10, 0), (11, y168), (12, y170)] [(57, (m.2 57)), (115, (m73.2 115))]) c N D (by omega) (Ty_mO hT rfl rfl ⟨g161, g163, g165, ⟨(by omega : (0 : Int) ≤ 0), (by omega : (0 : Int) ≤ 8)⟩, g169, g171, trivial⟩ ⟨(hT.2.1 57), (q77.2.1 115), trivial⟩) 59 ⟨by decide, by decide⟩ (show 1 ≤ (59 : Int) by omega) (show LxP y160 y162 y164 (m.1 6) (0 : Int) by first | exact hLx | (intro h9; exfalso; omega) | (intro h9; have h8 := hLx (by omega); omega))) (fun rr178 k179 => ?_)
                          obtain ⟨y180, y182, y184, y186, y188, y190, g181, g183, g185, g187, g189, g191, h192, h193, h194, h195, rfl⟩ := k179
                          refine ⟨_, _, rfl, ?_⟩
                          refine T_nf2 (st' := []) (l' := [(7, y180), (8, y182), (9, y184), (10, y186), (11, y188), (12, y190)]) (a' := [(57, (m.2 57)), (115, (m73.2 115))]) [7, 8, 9, 10, 11, 12] [] rfl ⟨rfl, rfl, rfl, rfl, rfl, rfl, rfl, rfl, rfl, rfl, rfl, rfl, trivial⟩ ⟨rfl, rfl, rfl, rfl, trivial⟩ rfl rfl (by decide) (by decide) ?_
                          by_cases hf196 : y186 = 0
                          · skip
                            subst hf196
                            replace h192 : LxP y180 y182 y184 (m.1 6) (0 : Int) := h192
                            have hLx := h192
                            replace h193 : (0 : Int) = 0 ∧ y160 = (59 : Int) := h193 rfl
                            replace h194 : y162 ≤ y182 := h194
                            replace h195 : y162 + y164 ≤ y182 := h195 rfl
                            have u197 : (m.1 8) + 1 ≤ y182 := by omega
                            clear g161 g163 g165 g169 g171 h172 h174 u177 g187 h193 h194 h195
                            refine T_gf 203 (.ref 227) rfl rfl rfl rfl rfl rfl ?_
                            refine T_ld 204 (.int (i32 t)) rfl (fun _ => rfl) ?_
                            refine T_ld 205 (.int (i32 oo)) rfl (fun _ => rfl) ?_
                            have G198 : ∀ j, 0 ≤ (upI (m.2 57) t oo) j ∧ (upI (m.2 57) t oo) j ≤ 15 := upI_rg (hT.2.1 57) ⟨by omega, by omega⟩
                            refine T_iast (a' := [(57, upI (m.2 57) t oo), (115, (m73.2 115))]) 206 57 (m.2 57) rfl rfl rfl (by omega) (show t < (8 : Int) by omega) rfl rfl ?_
                            refine T_ret rfl (fun _ => rfl) ?_
                            exact ⟨(mO m [(7, y180), (8, y182), (9, y184), (10, 0), (11, y188), (12, y190)] [(57, upI (m.2 57) t oo), (115, (m73.2 115))]), (Ty_mO hT rfl rfl ⟨g181, g183, g185, ⟨(by omega : (0 : Int) ≤ 0), (by omega : (0 : Int) ≤ 8)⟩, g189, g191, trivial⟩ ⟨G198, (q77.2.1 115), trivial⟩), (show (0 : Int) = 0 → (m.1 10) = 0 by omega), (show LxP y180 y182 y184 (m.1 6) (0 : Int) by first | (first | exact hLx | exact (fun _ => hLx (by omega)) | (intro h9; exfalso; omega)) | (exfalso; omega)), (fun _ => ⟨(show (m.1 8) + 1 ≤ y182 by omega), (show (upI (m.2 57) t oo) t < (m.1 25) by first | (rw [upI_s]; omega) | (exfalso; omega)), (show agr (m.2 57) (upI (m.2 57) t oo) t by first | (exact agr_u (Int.le_refl _)) | (exfalso; omega))⟩), rfl⟩
                          · skip
                            replace h192 : LxP y180 y182 y184 (m.1 6) y186 := h192
                            have hLx := h192
                            clear h193
                            replace h194 : y162 ≤ y182 := h194
                            clear h195
                            have hf199 : 1 ≤ y186 := by omega
                            clear g161 g163 g165 g169 g171 h172 h174 u177 h194
                            refine T_gf 203 (.ref 227) rfl rfl rfl rfl rfl rfl ?_
                            refine T_ld 204 (.int (i32 t)) rfl (fun _ => rfl) ?_
                            refine T_ld 205 (.int (i32 oo)) rfl (fun _ => rfl) ?_
                            have G200 : ∀ j, 0 ≤ (upI (m.2 57) t oo) j ∧ (upI (m.2 57) t oo) j ≤ 15 := upI_rg (hT.2.1 57) ⟨by omega, by omega⟩
                            refine T_iast (a' := [(57, upI (m.2 57) t oo), (115, (m73.2 115))]) 206 57 (m.2 57) rfl rfl rfl (by omega) (show t < (8 : Int) by omega) rfl rfl ?_
                            refine T_ret rfl (fun _ => rfl) ?_
                            exact ⟨(mO m [(7, y180), (8, y182), (9, y184), (10, y186), (11, y188), (12, y190)] [(57, upI (m.2 57) t oo), (115, (m73.2 115))]), (Ty_mO hT rfl rfl ⟨g181, g183, g185, g187, g189, g191, trivial⟩ ⟨G200, (q77.2.1 115), trivial⟩), (show y186 = 0 → (m.1 10) = 0 by omega), (show LxP y180 y182 y184 (m.1 6) y186 by first | (first | exact hLx | exact (fun _ => hLx (by omega)) | (intro h9; exfalso; omega)) | (exfalso; omega)), (fun (h : y186 = 0) => absurd h (by omega)), rfl⟩
                        · skip
                          replace h172 : LxP y160 y162 y164 (m.1 6) y166 := h172
                          have hLx := h172
                          clear h173
                          replace h174 : (m73.1 8) ≤ y162 := h174
                          clear h175
                          have hf201 : 1 ≤ y166 := by omega
                          clear g47 g49 g51 g55 g57 h58 u63 q67a q67b q67 ic68 ic69 q77_7 q77_9 q77_11 q77_12 ic81 h91
                          refine T_ld 194 (.ref 189) rfl (fun _ => rfl) ?_
                          refine T_ld 196 (.int (i32 59)) rfl (fun _ => rfl) ?_
                          refine T_call 199 232 [.ref 189, .int (i32 59)] [] rfl (fun _ => rfl) rfl (c_need w (mO m [(7, y160), (8, y162), (9, y164), (10, y166), (11, y168), (12, y170)] [(57, (m.2 57)), (115, (m73.2 115))]) c N D (by omega) (Ty_mO hT rfl rfl ⟨g161, g163, g165, g167, g169, g171, trivial⟩ ⟨(hT.2.1 57), (q77.2.1 115), trivial⟩) 59 ⟨by decide, by decide⟩ (show 1 ≤ (59 : Int) by omega) (show LxP y160 y162 y164 (m.1 6) y166 by first | exact hLx | (intro h9; exfalso; omega) | (intro h9; have h8 := hLx (by omega); omega))) (fun rr202 k203 => ?_)
                          obtain ⟨y204, y206, y208, y210, y212, y214, g205, g207, g209, g211, g213, g215, h216, h217, h218, h219, rfl⟩ := k203
                          refine ⟨_, _, rfl, ?_⟩
                          refine T_nf2 (st' := []) (l' := [(7, y204), (8, y206), (9, y208), (10, y210), (11, y212), (12, y214)]) (a' := [(57, (m.2 57)), (115, (m73.2 115))]) [7, 8, 9, 10, 11, 12] [] rfl ⟨rfl, rfl, rfl, rfl, rfl, rfl, rfl, rfl, rfl, rfl, rfl, rfl, trivial⟩ ⟨rfl, rfl, rfl, rfl, trivial⟩ rfl rfl (by decide) (by decide) ?_
                          replace h216 : LxP y204 y206 y208 (m.1 6) y210 := h216
                          replace h217 : y210 = 0 → y166 = 0 ∧ y160 = (59 : Int) := h217
                          replace h218 : y162 ≤ y206 := h218
                          replace h219 : y210 = 0 → y162 + y164 ≤ y206 := h219
                          have hf220 : 1 ≤ y210 := by omega
                          clear h217
                          clear h219
                          have hLx := h216
                          clear g161 g163 g165 g167 g169 g171 h172 h174 hf201 h218
                          refine T_gf 203 (.ref 227) rfl rfl rfl rfl rfl rfl ?_
                          refine T_ld 204 (.int (i32 t)) rfl (fun _ => rfl) ?_
                          refine T_ld 205 (.int (i32 oo)) rfl (fun _ => rfl) ?_
                          have G221 : ∀ j, 0 ≤ (upI (m.2 57) t oo) j ∧ (upI (m.2 57) t oo) j ≤ 15 := upI_rg (hT.2.1 57) ⟨by omega, by omega⟩
                          refine T_iast (a' := [(57, upI (m.2 57) t oo), (115, (m73.2 115))]) 206 57 (m.2 57) rfl rfl rfl (by omega) (show t < (8 : Int) by omega) rfl rfl ?_
                          refine T_ret rfl (fun _ => rfl) ?_
                          exact ⟨(mO m [(7, y204), (8, y206), (9, y208), (10, y210), (11, y212), (12, y214)] [(57, upI (m.2 57) t oo), (115, (m73.2 115))]), (Ty_mO hT rfl rfl ⟨g205, g207, g209, g211, g213, g215, trivial⟩ ⟨G221, (q77.2.1 115), trivial⟩), (show y210 = 0 → (m.1 10) = 0 by omega), (show LxP y204 y206 y208 (m.1 6) y210 by first | (first | exact hLx | exact (fun _ => hLx (by omega)) | (intro h9; exfalso; omega)) | (exfalso; omega)), (fun (h : y210 = 0) => absurd h (by omega)), rfl⟩
                      · skip
                        refine T_ld 181 (.ref 189) rfl (fun _ => rfl) ?_
                        refine T_ld 183 (.int (i32 8)) rfl (fun _ => rfl) ?_
                        refine T_ld 184 (.int (i32 y5)) rfl (fun _ => rfl) ?_
                        refine T_call 187 222 [.ref 189, .int (i32 8), .int (i32 y5)] [] rfl (fun _ => rfl) rfl (c_wrong w (mO m [(7, (m73.1 7)), (8, (m73.1 8)), (9, (m73.1 9)), (10, (m73.1 10)), (11, (m73.1 11)), (12, (m73.1 12))] [(57, (m.2 57)), (115, (m73.2 115))]) c N D (by omega) (Ty_mO hT rfl rfl ⟨(q77.1 7), (q77.1 8), (q77.1 9), (q77.1 10), (q77.1 11), (q77.1 12), trivial⟩ ⟨(hT.2.1 57), (q77.2.1 115), trivial⟩) 8 y5 ⟨by decide, by decide⟩ (r32 (by omega) (by omega)) (show 1 ≤ (8 : Int) ∧ (8 : Int) ≤ 8 by omega) (show 0 ≤ y5 ∧ y5 ≤ 4000 by omega)) (fun rr222 k223 => ?_)
                        obtain ⟨y224, y226, g225, g227, h228, rfl⟩ := k223
                        refine ⟨_, _, rfl, ?_⟩
                        refine T_nf2 (st' := []) (l' := [(7, (m73.1 7)), (8, (m73.1 8)), (9, (m73.1 9)), (10, y224), (11, y226), (12, (m73.1 12))]) (a' := [(57, (m.2 57)), (115, (m73.2 115))]) [10, 11] [] rfl ⟨rfl, rfl, rfl, rfl, rfl, rfl, rfl, rfl, rfl, rfl, rfl, rfl, rfl, rfl, rfl, trivial⟩ ⟨rfl, rfl, rfl, rfl, trivial⟩ rfl rfl (by decide) (by decide) ?_
                        replace h228 : (0 < (m73.1 10) → y224 = (m73.1 10) ∧ y226 = (m73.1 11)) ∧ ((m73.1 10) ≤ 0 → y224 = (8 : Int) ∧ y226 = y5) := h228
                        have hf229 : 1 ≤ y224 := by omega
                        clear g47 g49 g51 g55 g57 h58 u63 q67a q67b q67 ic68 ic69 q77_11 h228
                        refine T_ld 188 (.ref 189) rfl (fun _ => rfl) ?_
                        refine T_ld 190 (.int (i32 41)) rfl (fun _ => rfl) ?_
                        refine T_call 193 232 [.ref 189, .int (i32 41)] [] rfl (fun _ => rfl) rfl (c_need w (mO m [(7, (m73.1 7)), (8, (m73.1 8)), (9, (m73.1 9)), (10, y224), (11, y226), (12, (m73.1 12))] [(57, (m.2 57)), (115, (m73.2 115))]) c N D (by omega) (Ty_mO hT rfl rfl ⟨(q77.1 7), (q77.1 8), (q77.1 9), g225, g227, (q77.1 12), trivial⟩ ⟨(hT.2.1 57), (q77.2.1 115), trivial⟩) 41 ⟨by decide, by decide⟩ (show 1 ≤ (41 : Int) by omega) (show LxP (m73.1 7) (m73.1 8) (m73.1 9) (m.1 6) y224 by first | exact hLx | (intro h9; exfalso; omega) | (intro h9; have h8 := hLx (by omega); omega))) (fun rr230 k231 => ?_)
                        obtain ⟨y232, y234, y236, y238, y240, y242, g233, g235, g237, g239, g241, g243, h244, h245, h246, h247, rfl⟩ := k231
                        refine ⟨_, _, rfl, ?_⟩
                        refine T_nf2 (st' := []) (l' := [(7, y232), (8, y234), (9, y236), (10, y238), (11, y240), (12, y242)]) (a' := [(57, (m.2 57)), (115, (m73.2 115))]) [7, 8, 9, 10, 11, 12] [] rfl ⟨rfl, rfl, rfl, rfl, rfl, rfl, rfl, rfl, rfl, rfl, rfl, rfl, trivial⟩ ⟨rfl, rfl, rfl, rfl, trivial⟩ rfl rfl (by decide) (by decide) ?_
                        replace h244 : LxP y232 y234 y236 (m.1 6) y238 := h244
                        replace h245 : y238 = 0 → y224 = 0 ∧ (m73.1 7) = (41 : Int) := h245
                        replace h246 : (m73.1 8) ≤ y234 := h246
                        replace h247 : y238 = 0 → (m73.1 8) + (m73.1 9) ≤ y234 := h247
                        have hf248 : 1 ≤ y238 := by omega
                        clear h245
                        clear h247
                        have hLx := h244
                        clear q77_7 q77_9 q77_12 ic81 h91 g225 g227 hf229
                        refine T_ld 194 (.ref 189) rfl (fun _ => rfl) ?_
                        refine T_ld 196 (.int (i32 59)) rfl (fun _ => rfl) ?_
                        refine T_call 199 232 [.ref 189, .int (i32 59)] [] rfl (fun _ => rfl) rfl (c_need w (mO m [(7, y232), (8, y234), (9, y236), (10, y238), (11, y240), (12, y242)] [(57, (m.2 57)), (115, (m73.2 115))]) c N D (by omega) (Ty_mO hT rfl rfl ⟨g233, g235, g237, g239, g241, g243, trivial⟩ ⟨(hT.2.1 57), (q77.2.1 115), trivial⟩) 59 ⟨by decide, by decide⟩ (show 1 ≤ (59 : Int) by omega) (show LxP y232 y234 y236 (m.1 6) y238 by first | exact hLx | (intro h9; exfalso; omega) | (intro h9; have h8 := hLx (by omega); omega))) (fun rr249 k250 => ?_)
                        obtain ⟨y251, y253, y255, y257, y259, y261, g252, g254, g256, g258, g260, g262, h263, h264, h265, h266, rfl⟩ := k250
                        refine ⟨_, _, rfl, ?_⟩
                        refine T_nf2 (st' := []) (l' := [(7, y251), (8, y253), (9, y255), (10, y257), (11, y259), (12, y261)]) (a' := [(57, (m.2 57)), (115, (m73.2 115))]) [7, 8, 9, 10, 11, 12] [] rfl ⟨rfl, rfl, rfl, rfl, rfl, rfl, rfl, rfl, rfl, rfl, rfl, rfl, trivial⟩ ⟨rfl, rfl, rfl, rfl, trivial⟩ rfl rfl (by decide) (by decide) ?_
                        replace h263 : LxP y251 y253 y255 (m.1 6) y257 := h263
                        replace h264 : y257 = 0 → y238 = 0 ∧ y232 = (59 : Int) := h264
                        replace h265 : y234 ≤ y253 := h265
                        replace h266 : y257 = 0 → y234 + y236 ≤ y253 := h266
                        have hf267 : 1 ≤ y257 := by omega
                        clear h264
                        clear h266
                        have hLx := h263
                        clear g233 g235 g237 g239 g241 g243 hf248 h244 h246 h265
                        refine T_gf 203 (.ref 227) rfl rfl rfl rfl rfl rfl ?_
                        refine T_ld 204 (.int (i32 t)) rfl (fun _ => rfl) ?_
                        refine T_ld 205 (.int (i32 oo)) rfl (fun _ => rfl) ?_
                        have G268 : ∀ j, 0 ≤ (upI (m.2 57) t oo) j ∧ (upI (m.2 57) t oo) j ≤ 15 := upI_rg (hT.2.1 57) ⟨by omega, by omega⟩
                        refine T_iast (a' := [(57, upI (m.2 57) t oo), (115, (m73.2 115))]) 206 57 (m.2 57) rfl rfl rfl (by omega) (show t < (8 : Int) by omega) rfl rfl ?_
                        refine T_ret rfl (fun _ => rfl) ?_
                        exact ⟨(mO m [(7, y251), (8, y253), (9, y255), (10, y257), (11, y259), (12, y261)] [(57, upI (m.2 57) t oo), (115, (m73.2 115))]), (Ty_mO hT rfl rfl ⟨g252, g254, g256, g258, g260, g262, trivial⟩ ⟨G268, (q77.2.1 115), trivial⟩), (show y257 = 0 → (m.1 10) = 0 by omega), (show LxP y251 y253 y255 (m.1 6) y257 by first | (first | exact hLx | exact (fun _ => hLx (by omega)) | (intro h9; exfalso; omega)) | (exfalso; omega)), (fun (h : y257 = 0) => absurd h (by omega)), rfl⟩
                  · skip
                    refine T_gf 60 (.int (i32 (m73.1 10))) rfl rfl rfl rfl rfl rfl ?_
                    refine T_if 153 63 rfl rfl rfl (r32 (by omega) (by omega)) (fun (h269 : (m73.1 10) ≠ 0) => by exfalso; omega) (fun (h269 : ¬ ((m73.1 10) ≠ 0)) => ?_)
                    have h7 := hLx (by omega)
                    refine T_ld 64 (.ref 189) rfl (fun _ => rfl) ?_
                    refine T_ld 66 (.int (i32 v71)) rfl (fun _ => rfl) ?_
                    refine T_gf 70 (.ref 216) rfl rfl rfl rfl rfl rfl ?_
                    refine T_ld 71 (.int (i32 oo)) rfl (fun _ => rfl) ?_
                    refine T_iald 72 46 (m.2 46) rfl rfl rfl (by omega) (show oo < (16 : Int) by omega) rfl ?_
                    have e270 : 0 ≤ m.2 46 oo ∧ m.2 46 oo ≤ 4 := hT.2.1 46 oo
                    have J91_272 : ∀ (s271 : Int), (R32 s271) → (0 ≤ s271) → (s271 ≤ 64) → TT w D pm_277 (91, [(0, .ref 189), (1, .int (i32 t)), (2, .int (i32 y5)), (3, .int (i32 oo)), (4, .int (i32 v71)), (5, .int (i32 v72))], [.int (i32 s271), .ref 189], (mhp (mO m [(7, (m73.1 7)), (8, (m73.1 8)), (9, (m73.1 9)), (10, (m73.1 10)), (11, (m73.1 11)), (12, (m73.1 12))] [(57, (m.2 57)), (115, (m73.2 115))]) c, N), 0, 0) (Q_takeElse m c N t) := by
                      intro s271 q273 ic274 ic275
                      obtain ⟨q273a, q273b⟩ := id q273
                      refine T_call 94 266 [.ref 189, .int (i32 s271)] [] rfl (fun _ => rfl) rfl (c_caseNumber w (mO m [(7, (m73.1 7)), (8, (m73.1 8)), (9, (m73.1 9)), (10, (m73.1 10)), (11, (m73.1 11)), (12, (m73.1 12))] [(57, (m.2 57)), (115, (m73.2 115))]) c N D (by omega) (Ty_mO hT rfl rfl ⟨(q77.1 7), (q77.1 8), (q77.1 9), (q77.1 10), (q77.1 11), (q77.1 12), trivial⟩ ⟨(hT.2.1 57), (q77.2.1 115), trivial⟩) s271 (r32 (by omega) (by omega)) (show LxP (m73.1 7) (m73.1 8) (m73.1 9) (m.1 6) (m73.1 10) by first | exact hLx | exact (fun _ => hLx (by omega)) | (intro h9; exfalso; omega)) (fun _ => trivial)) (fun rr277 k278 => ?_)
                      obtain ⟨m279, x281, hT280, g282, h283, h284, c285, rfl⟩ := k278
                      refine ⟨_, _, rfl, ?_⟩
                      refine T_nf2 (st' := [.long (i64 x281)]) (l' := [(7, (m279.1 7)), (8, (m279.1 8)), (9, (m279.1 9)), (10, (m279.1 10)), (11, (m279.1 11)), (12, (m279.1 12))]) (a' := [(57, (m.2 57)), (115, (m73.2 115))]) [7, 8, 9, 10, 11, 12] [] rfl ⟨rfl, rfl, rfl, rfl, rfl, rfl, rfl, rfl, rfl, rfl, rfl, rfl, trivial⟩ ⟨rfl, rfl, rfl, rfl, trivial⟩ rfl rfl (by decide) (by decide) ?_
                      obtain ⟨g282a, g282b⟩ := g282
                      have g286 : 0 ≤ m279.1 7 ∧ m279.1 7 ≤ 330 := hT280.1 7
                      have g287 : 0 ≤ m279.1 8 ∧ m279.1 8 ≤ 4000 := hT280.1 8
                      have g288 : 0 ≤ m279.1 9 ∧ m279.1 9 ≤ 4000 := hT280.1 9
                      have g289 : 0 ≤ m279.1 10 ∧ m279.1 10 ≤ 8 := hT280.1 10
                      have g290 : (-1) ≤ m279.1 11 ∧ m279.1 11 ≤ 4000 := hT280.1 11
                      have g291 : (-9223372036854775808) ≤ m279.1 12 ∧ m279.1 12 ≤ 9223372036854775807 := hT280.1 12
                      by_cases hf292 : (m279.1 10) = 0
                      · skip
                        replace h283 : (m73.1 10) = 0 := h283 hf292
                        replace h284 : LxP (m279.1 7) (m279.1 8) (m279.1 9) (m.1 6) (m279.1 10) := h284
                        have hLx := h284
                        obtain ⟨c293, c294⟩ := c285 hf292
                        replace c293 : (m73.1 8) + 1 ≤ (m279.1 8) := c293
                        replace c294 : (m73.1 7) = 2 := c294
                        clear c285
                        have u295 : (m.1 8) + 1 ≤ (m279.1 8) := by omega
                        clear g47 g49 g51 g55 g57 h58 u63 q67a q67b q67 ic68 ic69 q77_7 q77_9 q77_11 q77_12 ic81 q273a q273b q273 ic274 ic275 c294
                        refine T_sto 96 [(6, .long (i64 x281)), (0, .ref 189), (1, .int (i32 t)), (2, .int (i32 y5)), (3, .int (i32 oo)), (4, .int (i32 v71)), (5, .int (i32 v72))] rfl (fun _ => rfl) ?_
                        refine T_ld 98 (.int (i32 v71)) rfl (fun _ => rfl) ?_
                        refine T_ld 99 (.int (i32 4)) rfl (fun _ => rfl) ?_
                        have J115_297 : ∀ (m296 : mR), (Ty m296) → TT w D pm_277 (115, [(0, .ref 189), (1, .int (i32 t)), (2, .int (i32 y5)), (3, .int (i32 oo)), (4, .int (i32 v71)), (5, .int (i32 v72)), (6, .long (i64 x281))], [], (mhp (mO m [(7, (m279.1 7)), (8, (m279.1 8)), (9, (m279.1 9)), (10, (m279.1 10)), (11, (m279.1 11)), (12, (m279.1 12))] [(57, (m.2 57)), (115, (m296.2 115))]) c, N), 0, 0) (Q_takeElse m c N t) := by
                          intro m296 q298
                          refine T_iinc 118 [(4, .int (i32 (v71 + 1))), (0, .ref 189), (1, .int (i32 t)), (2, .int (i32 y5)), (3, .int (i32 oo)), (5, .int (i32 v72)), (6, .long (i64 x281))] rfl rfl (by decide) rfl rfl ?_
                          refine T_gf 122 (.int (i32 (m279.1 10))) rfl rfl rfl rfl rfl rfl ?_
                          refine T_if 138 125 rfl rfl rfl (r32 (by omega) (by omega)) (fun (h300 : (m279.1 10) ≠ 0) => by exfalso; omega) (fun (h300 : ¬ ((m279.1 10) ≠ 0)) => ?_)
                          refine T_gf 129 (.int (i32 (m279.1 7))) rfl rfl rfl rfl rfl rfl ?_
                          refine T_ld 131 (.int (i32 44)) rfl (fun _ => rfl) ?_
                          have J139_302 : ∀ (s301 : Int), (R32 s301) → (0 ≤ s301) → (s301 ≤ 1) → TT w D pm_277 (139, [(0, .ref 189), (1, .int (i32 t)), (2, .int (i32 y5)), (3, .int (i32 oo)), (4, .int (i32 (v71 + 1))), (5, .int (i32 v72)), (6, .long (i64 x281))], [.int (i32 s301)], (mhp (mO m [(7, (m279.1 7)), (8, (m279.1 8)), (9, (m279.1 9)), (10, (m279.1 10)), (11, (m279.1 11)), (12, (m279.1 12))] [(57, (m.2 57)), (115, (m296.2 115))]) c, N), 0, 0) (Q_takeElse m c N t) := by
                            intro s301 q303 ic304 ic305
                            obtain ⟨q303a, q303b⟩ := id q303
                            refine T_sto 141 [(5, .int (i32 s301)), (0, .ref 189), (1, .int (i32 t)), (2, .int (i32 y5)), (3, .int (i32 oo)), (4, .int (i32 (v71 + 1))), (6, .long (i64 x281))] rfl (fun _ => rfl) ?_
                            refine T_ld 143 (.int (i32 s301)) rfl (fun _ => rfl) ?_
                            refine T_if 150 146 rfl rfl rfl (r32 (by omega) (by omega)) (fun (h307 : s301 = 0) => ?_) (fun (h307 : ¬ (s301 = 0)) => ?_)
                            · skip
                              refine T_goto 51 rfl (fun _ => rfl) ?_
                              refine Tm_lv (a := [(0, .ref 189), (1, .int (i32 t)), (2, .int (i32 y5)), (3, .int (i32 oo)), (4, .int (i32 (v71 + 1))), (5, .int (i32 s301))]) rfl rfl ⟨rfl, rfl, rfl, rfl, rfl, rfl, trivial⟩ ?_
                              exact ih85 (v71 + 1) s301 (mO m [(7, (m279.1 7)), (8, (m279.1 8)), (9, (m279.1 9)), (10, (m279.1 10)), (11, (m279.1 11)), (12, (m279.1 12))] [(57, (m.2 57)), (115, (m296.2 115))]) (r32 (by omega) (by omega)) (r32 (by omega) (by omega)) (Ty_mO hT rfl rfl ⟨(hT280.1 7), (hT280.1 8), (hT280.1 9), (hT280.1 10), (hT280.1 11), (hT280.1 12), trivial⟩ ⟨(hT.2.1 57), (q298.2.1 115), trivial⟩) (show 0 ≤ (v71 + 1) by omega) (show 0 ≤ s301 by omega) (show s301 ≤ 1 by omega) (show LxP (m279.1 7) (m279.1 8) (m279.1 9) (m.1 6) (m279.1 10) by exact hLx) (show s301 = 0 ∨ s301 = 1 by omega) (show 0 ≤ (v71 + 1) ∧ (v71 + 1) ≤ 5000 by omega) (fun _ => ⟨(show (m.1 8) + 1 ≤ (m279.1 8) by omega), (show (v71 + 1) ≤ (m279.1 8) by omega)⟩) (show 1000000 * (8 - (m279.1 10)) + 2 * (4000 - (m279.1 8)) + s301 < (n : Int) by omega)
                            · skip
                              refine T_ld 147 (.ref 189) rfl (fun _ => rfl) ?_
                              refine T_call 150 212 [.ref 189] [] rfl (fun _ => rfl) rfl (c_next w (mO m [(7, (m279.1 7)), (8, (m279.1 8)), (9, (m279.1 9)), (10, (m279.1 10)), (11, (m279.1 11)), (12, (m279.1 12))] [(57, (m.2 57)), (115, (m296.2 115))]) c N D (by omega) (Ty_mO hT rfl rfl ⟨(hT280.1 7), (hT280.1 8), (hT280.1 9), (hT280.1 10), (hT280.1 11), (hT280.1 12), trivial⟩ ⟨(hT.2.1 57), (q298.2.1 115), trivial⟩) (show (m279.1 10) = 0 → (m279.1 8) + (m279.1 9) ≤ (m.1 6) by first | omega | (intro h9; have h8 := hLx h9; omega))) (fun rr308 k309 => ?_)
                              obtain ⟨y310, y312, y314, y316, y318, y320, g311, g313, g315, g317, g319, g321, h322, h323, h324, h325, rfl⟩ := k309
                              refine ⟨_, _, rfl, ?_⟩
                              refine T_nf2 (st' := []) (l' := [(7, y310), (8, y312), (9, y314), (10, y316), (11, y318), (12, y320)]) (a' := [(57, (m.2 57)), (115, (m296.2 115))]) [7, 8, 9, 10, 11, 12] [] rfl ⟨rfl, rfl, rfl, rfl, rfl, rfl, rfl, rfl, rfl, rfl, rfl, rfl, trivial⟩ ⟨rfl, rfl, rfl, rfl, trivial⟩ rfl rfl (by decide) (by decide) ?_
                              by_cases hf326 : y316 = 0
                              · skip
                                subst hf326
                                replace h322 : LxP y310 y312 y314 (m.1 6) (0 : Int) := h322
                                have hLx := h322
                                replace h323 : (m279.1 10) = 0 := h323 rfl
                                replace h324 : (m279.1 8) ≤ y312 := h324
                                replace h325 : (m279.1 8) + (m279.1 9) ≤ y312 := h325 rfl
                                have u327 : (m.1 8) + 1 ≤ y312 := by omega
                                clear g286 g287 g288 g289 g290 g291 h284 c293 u295 h300 g317 h323 h324 h325
                                refine T_goto 51 rfl (fun _ => rfl) ?_
                                refine Tm_lv (a := [(0, .ref 189), (1, .int (i32 t)), (2, .int (i32 y5)), (3, .int (i32 oo)), (4, .int (i32 (v71 + 1))), (5, .int (i32 s301))]) rfl rfl ⟨rfl, rfl, rfl, rfl, rfl, rfl, trivial⟩ ?_
                                exact ih85 (v71 + 1) s301 (mO m [(7, y310), (8, y312), (9, y314), (10, 0), (11, y318), (12, y320)] [(57, (m.2 57)), (115, (m296.2 115))]) (r32 (by omega) (by omega)) (r32 (by omega) (by omega)) (Ty_mO hT rfl rfl ⟨g311, g313, g315, ⟨(by omega : (0 : Int) ≤ 0), (by omega : (0 : Int) ≤ 8)⟩, g319, g321, trivial⟩ ⟨(hT.2.1 57), (q298.2.1 115), trivial⟩) (show 0 ≤ (v71 + 1) by omega) (show 0 ≤ s301 by omega) (show s301 ≤ 1 by omega) (show LxP y310 y312 y314 (m.1 6) (0 : Int) by exact hLx) (show s301 = 0 ∨ s301 = 1 by omega) (show 0 ≤ (v71 + 1) ∧ (v71 + 1) ≤ 5000 by omega) (fun _ => ⟨(show (m.1 8) + 1 ≤ y312 by omega), (show (v71 + 1) ≤ y312 by omega)⟩) (show 1000000 * (8 - (0 : Int)) + 2 * (4000 - y312) + s301 < (n : Int) by omega)
                              · skip
                                replace h322 : LxP y310 y312 y314 (m.1 6) y316 := h322
                                have hLx := h322
                                clear h323
                                replace h324 : (m279.1 8) ≤ y312 := h324
                                clear h325
                                have hf328 : 1 ≤ y316 := by omega
                                clear g286 g287 g288 g289 g290 g291 h284 c293 u295 h300 h324
                                refine T_goto 51 rfl (fun _ => rfl) ?_
                                refine Tm_lv (a := [(0, .ref 189), (1, .int (i32 t)), (2, .int (i32 y5)), (3, .int (i32 oo)), (4, .int (i32 (v71 + 1))), (5, .int (i32 s301))]) rfl rfl ⟨rfl, rfl, rfl, rfl, rfl, rfl, trivial⟩ ?_
                                exact ih85 (v71 + 1) s301 (mO m [(7, y310), (8, y312), (9, y314), (10, y316), (11, y318), (12, y320)] [(57, (m.2 57)), (115, (m296.2 115))]) (r32 (by omega) (by omega)) (r32 (by omega) (by omega)) (Ty_mO hT rfl rfl ⟨g311, g313, g315, g317, g319, g321, trivial⟩ ⟨(hT.2.1 57), (q298.2.1 115), trivial⟩) (show 0 ≤ (v71 + 1) by omega) (show 0 ≤ s301 by omega) (show s301 ≤ 1 by omega) (show LxP y310 y312 y314 (m.1 6) y316 by exact hLx) (show s301 = 0 ∨ s301 = 1 by omega) (show 0 ≤ (v71 + 1) ∧ (v71 + 1) ≤ 5000 by omega) (fun (h : y316 = 0) => absurd h (by omega)) (show 1000000 * (8 - y316) + 2 * (4000 - y312) + s301 < (n : Int) by omega)
                          refine T_icmp 138 134 rfl rfl rfl (r32 (by omega) (by omega)) ⟨by decide, by decide⟩ (fun (h329 : (m279.1 7) ≠ 44) => ?_) (fun (h329 : ¬ ((m279.1 7) ≠ 44)) => ?_)
                          · skip
                            refine T_ld 139 (.int (i32 0)) rfl (fun _ => rfl) ?_
                            refine Tm_lv (a := [(0, .ref 189), (1, .int (i32 t)), (2, .int (i32 y5)), (3, .int (i32 oo)), (4, .int (i32 (v71 + 1))), (5, .int (i32 v72)), (6, .long (i64 x281))]) rfl rfl ⟨rfl, rfl, rfl, rfl, rfl, rfl, rfl, trivial⟩ ?_
                            exact J139_302 0 ⟨by decide, by decide⟩ (show 0 ≤ (0 : Int) by omega) (show (0 : Int) ≤ 1 by omega)
                          · skip
                            refine T_ld 135 (.int (i32 1)) rfl (fun _ => rfl) ?_
                            refine T_goto 139 rfl (fun _ => rfl) ?_
                            refine Tm_lv (a := [(0, .ref 189), (1, .int (i32 t)), (2, .int (i32 y5)), (3, .int (i32 oo)), (4, .int (i32 (v71 + 1))), (5, .int (i32 v72)), (6, .long (i64 x281))]) rfl rfl ⟨rfl, rfl, rfl, rfl, rfl, rfl, rfl, trivial⟩ ?_
                            exact J139_302 1 ⟨by decide, by decide⟩ (show 0 ≤ (1 : Int) by omega) (show (1 : Int) ≤ 1 by omega)
                        refine T_icmp 115 102 rfl rfl rfl (r32 (by omega) (by omega)) ⟨by decide, by decide⟩ (fun (h330 : (4 : Int) ≤ v71) => ?_) (fun (h330 : ¬ ((4 : Int) ≤ v71)) => ?_)
                        · skip
                          refine Tm_lv (a := [(0, .ref 189), (1, .int (i32 t)), (2, .int (i32 y5)), (3, .int (i32 oo)), (4, .int (i32 v71)), (5, .int (i32 v72)), (6, .long (i64 x281))]) rfl rfl ⟨rfl, rfl, rfl, rfl, rfl, rfl, rfl, trivial⟩ ?_
                          exact J115_297 (mO m [(7, (m279.1 7)), (8, (m279.1 8)), (9, (m279.1 9)), (10, (m279.1 10)), (11, (m279.1 11)), (12, (m279.1 12))] [(57, (m.2 57)), (115, (m73.2 115))]) (Ty_mO hT rfl rfl ⟨(hT280.1 7), (hT280.1 8), (hT280.1 9), (hT280.1 10), (hT280.1 11), (hT280.1 12), trivial⟩ ⟨(hT.2.1 57), (q77.2.1 115), trivial⟩)
                        · skip
                          refine T_gf 106 (.ref 275) rfl rfl rfl rfl rfl rfl ?_
                          refine T_ld 107 (.int (i32 4)) rfl (fun _ => rfl) ?_
                          refine T_ld 108 (.int (i32 t)) rfl (fun _ => rfl) ?_
                          refine T_imul 109 rfl rfl ?_
                          refine T_ld 111 (.int (i32 v71)) rfl (fun _ => rfl) ?_
                          refine T_iadd 112 rfl rfl ?_
                          refine T_ld 114 (.long (i64 x281)) rfl (fun _ => rfl) ?_
                          have G331 : ∀ j, (-9223372036854775808) ≤ (upI (m73.2 115) ((4 * t) + v71) x281) j ∧ (upI (m73.2 115) ((4 * t) + v71) x281) j ≤ 9223372036854775807 := upI_rg (q77.2.1 115) ⟨by omega, by omega⟩
                          refine T_last (a' := [(57, (m.2 57)), (115, upI (m73.2 115) ((4 * t) + v71) x281)]) 115 115 (m73.2 115) rfl rfl rfl (by omega) (show ((4 * t) + v71) < (32 : Int) by omega) rfl rfl ?_
                          refine Tm_lv (a := [(0, .ref 189), (1, .int (i32 t)), (2, .int (i32 y5)), (3, .int (i32 oo)), (4, .int (i32 v71)), (5, .int (i32 v72)), (6, .long (i64 x281))]) rfl rfl ⟨rfl, rfl, rfl, rfl, rfl, rfl, rfl, trivial⟩ ?_
                          exact J115_297 (mO m [(7, (m279.1 7)), (8, (m279.1 8)), (9, (m279.1 9)), (10, (m279.1 10)), (11, (m279.1 11)), (12, (m279.1 12))] [(57, (m.2 57)), (115, upI (m73.2 115) ((4 * t) + v71) x281)]) (Ty_mO hT rfl rfl ⟨(hT280.1 7), (hT280.1 8), (hT280.1 9), (hT280.1 10), (hT280.1 11), (hT280.1 12), trivial⟩ ⟨(hT.2.1 57), G331, trivial⟩)
                      · skip
                        clear c285
                        clear h283
                        replace h284 : LxP (m279.1 7) (m279.1 8) (m279.1 9) (m.1 6) (m279.1 10) := h284
                        have hLx := h284
                        have hf332 : 1 ≤ (m279.1 10) := by omega
                        clear g47 g49 g51 g55 g57 h58 u63 q67a q67b q67 ic68 ic69 q77_7 q77_9 q77_11 q77_12 ic81 q273a q273b q273 ic274 ic275
                        refine T_sto 96 [(6, .long (i64 x281)), (0, .ref 189), (1, .int (i32 t)), (2, .int (i32 y5)), (3, .int (i32 oo)), (4, .int (i32 v71)), (5, .int (i32 v72))] rfl (fun _ => rfl) ?_
                        refine T_ld 98 (.int (i32 v71)) rfl (fun _ => rfl) ?_
                        refine T_ld 99 (.int (i32 4)) rfl (fun _ => rfl) ?_
                        have J115_334 : ∀ (m333 : mR), (Ty m333) → TT w D pm_277 (115, [(0, .ref 189), (1, .int (i32 t)), (2, .int (i32 y5)), (3, .int (i32 oo)), (4, .int (i32 v71)), (5, .int (i32 v72)), (6, .long (i64 x281))], [], (mhp (mO m [(7, (m279.1 7)), (8, (m279.1 8)), (9, (m279.1 9)), (10, (m279.1 10)), (11, (m279.1 11)), (12, (m279.1 12))] [(57, (m.2 57)), (115, (m333.2 115))]) c, N), 0, 0) (Q_takeElse m c N t) := by
                          intro m333 q335
                          refine T_iinc 118 [(4, .int (i32 (v71 + 1))), (0, .ref 189), (1, .int (i32 t)), (2, .int (i32 y5)), (3, .int (i32 oo)), (5, .int (i32 v72)), (6, .long (i64 x281))] rfl rfl (by decide) rfl rfl ?_
                          refine T_gf 122 (.int (i32 (m279.1 10))) rfl rfl rfl rfl rfl rfl ?_
                          refine T_if 138 125 rfl rfl rfl (r32 (by omega) (by omega)) (fun (h337 : (m279.1 10) ≠ 0) => ?_) (fun (h337 : ¬ ((m279.1 10) ≠ 0)) => by exfalso; omega)
                          refine T_ld 139 (.int (i32 0)) rfl (fun _ => rfl) ?_
                          refine T_sto 141 [(5, .int (i32 0)), (4, .int (i32 (v71 + 1))), (0, .ref 189), (1, .int (i32 t)), (2, .int (i32 y5)), (3, .int (i32 oo)), (6, .long (i64 x281))] rfl (fun _ => rfl) ?_
                          refine T_ld 143 (.int (i32 0)) rfl (fun _ => rfl) ?_
                          refine T_if 150 146 rfl rfl rfl ⟨by decide, by decide⟩ (fun _ => ?_) (fun h338 => absurd (show (0 : Int) = 0 by decide) h338)
                          refine T_goto 51 rfl (fun _ => rfl) ?_
                          refine Tm_lv (a := [(0, .ref 189), (1, .int (i32 t)), (2, .int (i32 y5)), (3, .int (i32 oo)), (4, .int (i32 (v71 + 1))), (5, .int (i32 0))]) rfl rfl ⟨rfl, rfl, rfl, rfl, rfl, rfl, trivial⟩ ?_
                          exact ih85 (v71 + 1) 0 (mO m [(7, (m279.1 7)), (8, (m279.1 8)), (9, (m279.1 9)), (10, (m279.1 10)), (11, (m279.1 11)), (12, (m279.1 12))] [(57, (m.2 57)), (115, (m333.2 115))]) (r32 (by omega) (by omega)) ⟨by decide, by decide⟩ (Ty_mO hT rfl rfl ⟨(hT280.1 7), (hT280.1 8), (hT280.1 9), (hT280.1 10), (hT280.1 11), (hT280.1 12), trivial⟩ ⟨(hT.2.1 57), (q335.2.1 115), trivial⟩) (show 0 ≤ (v71 + 1) by omega) (show 0 ≤ (0 : Int) by omega) (show (0 : Int) ≤ 1 by omega) (show LxP (m279.1 7) (m279.1 8) (m279.1 9) (m.1 6) (m279.1 10) by exact hLx) (show (0 : Int) = 0 ∨ (0 : Int) = 1 by omega) (show 0 ≤ (v71 + 1) ∧ (v71 + 1) ≤ 5000 by omega) (fun (h : (m279.1 10) = 0) => absurd h (by omega)) (show 1000000 * (8 - (m279.1 10)) + 2 * (4000 - (m279.1 8)) + (0 : Int) < (n : Int) by omega)
                        refine T_icmp 115 102 rfl rfl rfl (r32 (by omega) (by omega)) ⟨by decide, by decide⟩ (fun (h339 : (4 : Int) ≤ v71) => ?_) (fun (h339 : ¬ ((4 : Int) ≤ v71)) => ?_)
                        · skip
                          refine Tm_lv (a := [(0, .ref 189), (1, .int (i32 t)), (2, .int (i32 y5)), (3, .int (i32 oo)), (4, .int (i32 v71)), (5, .int (i32 v72)), (6, .long (i64 x281))]) rfl rfl ⟨rfl, rfl, rfl, rfl, rfl, rfl, rfl, trivial⟩ ?_
                          exact J115_334 (mO m [(7, (m279.1 7)), (8, (m279.1 8)), (9, (m279.1 9)), (10, (m279.1 10)), (11, (m279.1 11)), (12, (m279.1 12))] [(57, (m.2 57)), (115, (m73.2 115))]) (Ty_mO hT rfl rfl ⟨(hT280.1 7), (hT280.1 8), (hT280.1 9), (hT280.1 10), (hT280.1 11), (hT280.1 12), trivial⟩ ⟨(hT.2.1 57), (q77.2.1 115), trivial⟩)
                        · skip
                          refine T_gf 106 (.ref 275) rfl rfl rfl rfl rfl rfl ?_
                          refine T_ld 107 (.int (i32 4)) rfl (fun _ => rfl) ?_
                          refine T_ld 108 (.int (i32 t)) rfl (fun _ => rfl) ?_
                          refine T_imul 109 rfl rfl ?_
                          refine T_ld 111 (.int (i32 v71)) rfl (fun _ => rfl) ?_
                          refine T_iadd 112 rfl rfl ?_
                          refine T_ld 114 (.long (i64 x281)) rfl (fun _ => rfl) ?_
                          have G340 : ∀ j, (-9223372036854775808) ≤ (upI (m73.2 115) ((4 * t) + v71) x281) j ∧ (upI (m73.2 115) ((4 * t) + v71) x281) j ≤ 9223372036854775807 := upI_rg (q77.2.1 115) ⟨by omega, by omega⟩
                          refine T_last (a' := [(57, (m.2 57)), (115, upI (m73.2 115) ((4 * t) + v71) x281)]) 115 115 (m73.2 115) rfl rfl rfl (by omega) (show ((4 * t) + v71) < (32 : Int) by omega) rfl rfl ?_
                          refine Tm_lv (a := [(0, .ref 189), (1, .int (i32 t)), (2, .int (i32 y5)), (3, .int (i32 oo)), (4, .int (i32 v71)), (5, .int (i32 v72)), (6, .long (i64 x281))]) rfl rfl ⟨rfl, rfl, rfl, rfl, rfl, rfl, rfl, trivial⟩ ?_
                          exact J115_334 (mO m [(7, (m279.1 7)), (8, (m279.1 8)), (9, (m279.1 9)), (10, (m279.1 10)), (11, (m279.1 11)), (12, (m279.1 12))] [(57, (m.2 57)), (115, upI (m73.2 115) ((4 * t) + v71) x281)]) (Ty_mO hT rfl rfl ⟨(hT280.1 7), (hT280.1 8), (hT280.1 9), (hT280.1 10), (hT280.1 11), (hT280.1 12), trivial⟩ ⟨(hT.2.1 57), G340, trivial⟩)
                    refine T_icmp 89 75 rfl rfl rfl (r32 (by omega) (by omega)) (r32 (by omega) (by omega)) (fun (h341 : (m.2 46) oo ≤ v71) => ?_) (fun (h341 : ¬ ((m.2 46) oo ≤ v71)) => ?_)
                    · skip
                      refine T_ld 91 (.int (i32 64)) rfl (fun _ => rfl) ?_
                      exact J91_272 64 ⟨by decide, by decide⟩ (show 0 ≤ (64 : Int) by omega) (show (64 : Int) ≤ 64 by omega)
                    · skip
                      refine T_gf 79 (.ref 219) rfl rfl rfl rfl rfl rfl ?_
                      refine T_ld 80 (.int (i32 4)) rfl (fun _ => rfl) ?_
                      refine T_ld 81 (.int (i32 oo)) rfl (fun _ => rfl) ?_
                      refine T_imul 82 rfl rfl ?_
                      refine T_ld 84 (.int (i32 v71)) rfl (fun _ => rfl) ?_
                      refine T_iadd 85 rfl rfl ?_
                      refine T_iald 86 49 (m.2 49) rfl rfl rfl (by omega) (show ((4 * oo) + v71) < (64 : Int) by omega) rfl ?_
                      have e342 : 0 ≤ m.2 49 ((4 * oo) + v71) ∧ m.2 49 ((4 * oo) + v71) ≤ 64 := hT.2.1 49 ((4 * oo) + v71)
                      refine T_goto 91 rfl (fun _ => rfl) ?_
                      exact J91_272 ((m.2 49) ((4 * oo) + v71)) (r32 (by omega) (by omega)) (show 0 ≤ ((m.2 49) ((4 * oo) + v71)) by omega) (show ((m.2 49) ((4 * oo) + v71)) ≤ 64 by omega)
                · skip
                  clear c84
                  have hf343 : 1 ≤ (m73.1 10) := by omega
                  refine T_ld 53 (.int (i32 v72)) rfl (fun _ => rfl) ?_
                  refine T_if 153 56 rfl rfl rfl (r32 (by omega) (by omega)) (fun (h344 : v72 = 0) => ?_) (fun (h344 : ¬ (v72 = 0)) => ?_)
                  · skip
                    refine T_gf 157 (.int (i32 (m73.1 10))) rfl rfl rfl rfl rfl rfl ?_
                    refine T_if 187 160 rfl rfl rfl (r32 (by omega) (by omega)) (fun (h345 : (m73.1 10) ≠ 0) => ?_) (fun (h345 : ¬ ((m73.1 10) ≠ 0)) => by exfalso; omega)
                    refine T_ld 188 (.ref 189) rfl (fun _ => rfl) ?_
                    refine T_ld 190 (.int (i32 41)) rfl (fun _ => rfl) ?_
                    refine T_call 193 232 [.ref 189, .int (i32 41)] [] rfl (fun _ => rfl) rfl (c_need w (mO m [(7, (m73.1 7)), (8, (m73.1 8)), (9, (m73.1 9)), (10, (m73.1 10)), (11, (m73.1 11)), (12, (m73.1 12))] [(57, (m.2 57)), (115, (m73.2 115))]) c N D (by omega) (Ty_mO hT rfl rfl ⟨(q77.1 7), (q77.1 8), (q77.1 9), (q77.1 10), (q77.1 11), (q77.1 12), trivial⟩ ⟨(hT.2.1 57), (q77.2.1 115), trivial⟩) 41 ⟨by decide, by decide⟩ (show 1 ≤ (41 : Int) by omega) (show LxP (m73.1 7) (m73.1 8) (m73.1 9) (m.1 6) (m73.1 10) by first | exact hLx | (intro h9; exfalso; omega) | (intro h9; have h8 := hLx (by omega); omega))) (fun rr346 k347 => ?_)
                    obtain ⟨y348, y350, y352, y354, y356, y358, g349, g351, g353, g355, g357, g359, h360, h361, h362, h363, rfl⟩ := k347
                    refine ⟨_, _, rfl, ?_⟩
                    refine T_nf2 (st' := []) (l' := [(7, y348), (8, y350), (9, y352), (10, y354), (11, y356), (12, y358)]) (a' := [(57, (m.2 57)), (115, (m73.2 115))]) [7, 8, 9, 10, 11, 12] [] rfl ⟨rfl, rfl, rfl, rfl, rfl, rfl, rfl, rfl, rfl, rfl, rfl, rfl, trivial⟩ ⟨rfl, rfl, rfl, rfl, trivial⟩ rfl rfl (by decide) (by decide) ?_
                    replace h360 : LxP y348 y350 y352 (m.1 6) y354 := h360
                    replace h361 : y354 = 0 → (m73.1 10) = 0 ∧ (m73.1 7) = (41 : Int) := h361
                    replace h362 : (m73.1 8) ≤ y350 := h362
                    replace h363 : y354 = 0 → (m73.1 8) + (m73.1 9) ≤ y350 := h363
                    have hf364 : 1 ≤ y354 := by omega
                    clear h361
                    clear h363
                    have hLx := h360
                    clear g47 g49 g51 g55 g57 h58 u63 q67a q67b q67 ic68 ic69 q77_7 q77_9 q77_11 q77_12 ic81
                    refine T_ld 194 (.ref 189) rfl (fun _ => rfl) ?_
                    refine T_ld 196 (.int (i32 59)) rfl (fun _ => rfl) ?_
                    refine T_call 199 232 [.ref 189, .int (i32 59)] [] rfl (fun _ => rfl) rfl (c_need w (mO m [(7, y348), (8, y350), (9, y352), (10, y354), (11, y356), (12, y358)] [(57, (m.2 57)), (115, (m73.2 115))]) c N D (by omega) (Ty_mO hT rfl rfl ⟨g349, g351, g353, g355, g357, g359, trivial⟩ ⟨(hT.2.1 57), (q77.2.1 115), trivial⟩) 59 ⟨by decide, by decide⟩ (show 1 ≤ (59 : Int) by omega) (show LxP y348 y350 y352 (m.1 6) y354 by first | exact hLx | (intro h9; exfalso; omega) | (intro h9; have h8 := hLx (by omega); omega))) (fun rr365 k366 => ?_)
                    obtain ⟨y367, y369, y371, y373, y375, y377, g368, g370, g372, g374, g376, g378, h379, h380, h381, h382, rfl⟩ := k366
                    refine ⟨_, _, rfl, ?_⟩
                    refine T_nf2 (st' := []) (l' := [(7, y367), (8, y369), (9, y371), (10, y373), (11, y375), (12, y377)]) (a' := [(57, (m.2 57)), (115, (m73.2 115))]) [7, 8, 9, 10, 11, 12] [] rfl ⟨rfl, rfl, rfl, rfl, rfl, rfl, rfl, rfl, rfl, rfl, rfl, rfl, trivial⟩ ⟨rfl, rfl, rfl, rfl, trivial⟩ rfl rfl (by decide) (by decide) ?_
                    replace h379 : LxP y367 y369 y371 (m.1 6) y373 := h379
                    replace h380 : y373 = 0 → y354 = 0 ∧ y348 = (59 : Int) := h380
                    replace h381 : y350 ≤ y369 := h381
                    replace h382 : y373 = 0 → y350 + y352 ≤ y369 := h382
                    have hf383 : 1 ≤ y373 := by omega
                    clear h380
                    clear h382
                    have hLx := h379
                    clear g349 g351 g353 g355 g357 g359 hf364 h360 h362 h381
                    refine T_gf 203 (.ref 227) rfl rfl rfl rfl rfl rfl ?_
                    refine T_ld 204 (.int (i32 t)) rfl (fun _ => rfl) ?_
                    refine T_ld 205 (.int (i32 oo)) rfl (fun _ => rfl) ?_
                    have G384 : ∀ j, 0 ≤ (upI (m.2 57) t oo) j ∧ (upI (m.2 57) t oo) j ≤ 15 := upI_rg (hT.2.1 57) ⟨by omega, by omega⟩
                    refine T_iast (a' := [(57, upI (m.2 57) t oo), (115, (m73.2 115))]) 206 57 (m.2 57) rfl rfl rfl (by omega) (show t < (8 : Int) by omega) rfl rfl ?_
                    refine T_ret rfl (fun _ => rfl) ?_
                    exact ⟨(mO m [(7, y367), (8, y369), (9, y371), (10, y373), (11, y375), (12, y377)] [(57, upI (m.2 57) t oo), (115, (m73.2 115))]), (Ty_mO hT rfl rfl ⟨g368, g370, g372, g374, g376, g378, trivial⟩ ⟨G384, (q77.2.1 115), trivial⟩), (show y373 = 0 → (m.1 10) = 0 by omega), (show LxP y367 y369 y371 (m.1 6) y373 by first | (first | exact hLx | exact (fun _ => hLx (by omega)) | (intro h9; exfalso; omega)) | (exfalso; omega)), (fun (h : y373 = 0) => absurd h (by omega)), rfl⟩
                  · skip
                    refine T_gf 60 (.int (i32 (m73.1 10))) rfl rfl rfl rfl rfl rfl ?_
                    refine T_if 153 63 rfl rfl rfl (r32 (by omega) (by omega)) (fun (h385 : (m73.1 10) ≠ 0) => ?_) (fun (h385 : ¬ ((m73.1 10) ≠ 0)) => by exfalso; omega)
                    refine T_gf 157 (.int (i32 (m73.1 10))) rfl rfl rfl rfl rfl rfl ?_
                    refine T_if 187 160 rfl rfl rfl (r32 (by omega) (by omega)) (fun (h386 : (m73.1 10) ≠ 0) => ?_) (fun (h386 : ¬ ((m73.1 10) ≠ 0)) => by exfalso; omega)
                    refine T_ld 188 (.ref 189) rfl (fun _ => rfl) ?_
                    refine T_ld 190 (.int (i32 41)) rfl (fun _ => rfl) ?_
                    refine T_call 193 232 [.ref 189, .int (i32 41)] [] rfl (fun _ => rfl) rfl (c_need w (mO m [(7, (m73.1 7)), (8, (m73.1 8)), (9, (m73.1 9)), (10, (m73.1 10)), (11, (m73.1 11)), (12, (m73.1 12))] [(57, (m.2 57)), (115, (m73.2 115))]) c N D (by omega) (Ty_mO hT rfl rfl ⟨(q77.1 7), (q77.1 8), (q77.1 9), (q77.1 10), (q77.1 11), (q77.1 12), trivial⟩ ⟨(hT.2.1 57), (q77.2.1 115), trivial⟩) 41 ⟨by decide, by decide⟩ (show 1 ≤ (41 : Int) by omega) (show LxP (m73.1 7) (m73.1 8) (m73.1 9) (m.1 6) (m73.1 10) by first | exact hLx | (intro h9; exfalso; omega) | (intro h9; have h8 := hLx (by omega); omega))) (fun rr387 k388 => ?_)
                    obtain ⟨y389, y391, y393, y395, y397, y399, g390, g392, g394, g396, g398, g400, h401, h402, h403, h404, rfl⟩ := k388
                    refine ⟨_, _, rfl, ?_⟩
                    refine T_nf2 (st' := []) (l' := [(7, y389), (8, y391), (9, y393), (10, y395), (11, y397), (12, y399)]) (a' := [(57, (m.2 57)), (115, (m73.2 115))]) [7, 8, 9, 10, 11, 12] [] rfl ⟨rfl, rfl, rfl, rfl, rfl, rfl, rfl, rfl, rfl, rfl, rfl, rfl, trivial⟩ ⟨rfl, rfl, rfl, rfl, trivial⟩ rfl rfl (by decide) (by decide) ?_
                    replace h401 : LxP y389 y391 y393 (m.1 6) y395 := h401
                    replace h402 : y395 = 0 → (m73.1 10) = 0 ∧ (m73.1 7) = (41 : Int) := h402
                    replace h403 : (m73.1 8) ≤ y391 := h403
                    replace h404 : y395 = 0 → (m73.1 8) + (m73.1 9) ≤ y391 := h404
                    have hf405 : 1 ≤ y395 := by omega
                    clear h402
                    clear h404
                    have hLx := h401
                    clear g47 g49 g51 g55 g57 h58 u63 q67a q67b q67 ic68 ic69 q77_7 q77_9 q77_11 q77_12 ic81
                    refine T_ld 194 (.ref 189) rfl (fun _ => rfl) ?_
                    refine T_ld 196 (.int (i32 59)) rfl (fun _ => rfl) ?_
                    refine T_call 199 232 [.ref 189, .int (i32 59)] [] rfl (fun _ => rfl) rfl (c_need w (mO m [(7, y389), (8, y391), (9, y393), (10, y395), (11, y397), (12, y399)] [(57, (m.2 57)), (115, (m73.2 115))]) c N D (by omega) (Ty_mO hT rfl rfl ⟨g390, g392, g394, g396, g398, g400, trivial⟩ ⟨(hT.2.1 57), (q77.2.1 115), trivial⟩) 59 ⟨by decide, by decide⟩ (show 1 ≤ (59 : Int) by omega) (show LxP y389 y391 y393 (m.1 6) y395 by first | exact hLx | (intro h9; exfalso; omega) | (intro h9; have h8 := hLx (by omega); omega))) (fun rr406 k407 => ?_)
                    obtain ⟨y408, y410, y412, y414, y416, y418, g409, g411, g413, g415, g417, g419, h420, h421, h422, h423, rfl⟩ := k407
                    refine ⟨_, _, rfl, ?_⟩
                    refine T_nf2 (st' := []) (l' := [(7, y408), (8, y410), (9, y412), (10, y414), (11, y416), (12, y418)]) (a' := [(57, (m.2 57)), (115, (m73.2 115))]) [7, 8, 9, 10, 11, 12] [] rfl ⟨rfl, rfl, rfl, rfl, rfl, rfl, rfl, rfl, rfl, rfl, rfl, rfl, trivial⟩ ⟨rfl, rfl, rfl, rfl, trivial⟩ rfl rfl (by decide) (by decide) ?_
                    replace h420 : LxP y408 y410 y412 (m.1 6) y414 := h420
                    replace h421 : y414 = 0 → y395 = 0 ∧ y389 = (59 : Int) := h421
                    replace h422 : y391 ≤ y410 := h422
                    replace h423 : y414 = 0 → y391 + y393 ≤ y410 := h423
                    have hf424 : 1 ≤ y414 := by omega
                    clear h421
                    clear h423
                    have hLx := h420
                    clear g390 g392 g394 g396 g398 g400 hf405 h401 h403 h422
                    refine T_gf 203 (.ref 227) rfl rfl rfl rfl rfl rfl ?_
                    refine T_ld 204 (.int (i32 t)) rfl (fun _ => rfl) ?_
                    refine T_ld 205 (.int (i32 oo)) rfl (fun _ => rfl) ?_
                    have G425 : ∀ j, 0 ≤ (upI (m.2 57) t oo) j ∧ (upI (m.2 57) t oo) j ≤ 15 := upI_rg (hT.2.1 57) ⟨by omega, by omega⟩
                    refine T_iast (a' := [(57, upI (m.2 57) t oo), (115, (m73.2 115))]) 206 57 (m.2 57) rfl rfl rfl (by omega) (show t < (8 : Int) by omega) rfl rfl ?_
                    refine T_ret rfl (fun _ => rfl) ?_
                    exact ⟨(mO m [(7, y408), (8, y410), (9, y412), (10, y414), (11, y416), (12, y418)] [(57, upI (m.2 57) t oo), (115, (m73.2 115))]), (Ty_mO hT rfl rfl ⟨g409, g411, g413, g415, g417, g419, trivial⟩ ⟨G425, (q77.2.1 115), trivial⟩), (show y414 = 0 → (m.1 10) = 0 by omega), (show LxP y408 y410 y412 (m.1 6) y414 by first | (first | exact hLx | exact (fun _ => hLx (by omega)) | (intro h9; exfalso; omega)) | (exfalso; omega)), (fun (h : y414 = 0) => absurd h (by omega)), rfl⟩
            refine Tm_lv (a := [(0, .ref 189), (1, .int (i32 t)), (2, .int (i32 y5)), (3, .int (i32 oo)), (4, .int (i32 0)), (5, .int (i32 s65))]) rfl rfl ⟨rfl, rfl, rfl, rfl, rfl, rfl, trivial⟩ ?_
            exact L51_74 ((1000000 * (8 - (0 : Int)) + 2 * (4000 - y48) + s65 : Int) + 1).toNat 0 s65 (mO m [(7, y46), (8, y48), (9, y50), (10, 0), (11, y54), (12, y56)] [(57, (m.2 57)), (115, (m.2 115))]) ⟨by decide, by decide⟩ (r32 (by omega) (by omega)) (Ty_mO hT rfl rfl ⟨g47, g49, g51, ⟨(by omega : (0 : Int) ≤ 0), (by omega : (0 : Int) ≤ 8)⟩, g55, g57, trivial⟩ ⟨(hT.2.1 57), (hT.2.1 115), trivial⟩) (show 0 ≤ (0 : Int) by omega) (show 0 ≤ s65 by omega) (show s65 ≤ 1 by omega) (show LxP y46 y48 y50 (m.1 6) (0 : Int) by exact hLx) (show s65 = 0 ∨ s65 = 1 by omega) (show 0 ≤ (0 : Int) ∧ (0 : Int) ≤ 5000 by omega) (fun _ => ⟨(show (m.1 8) + 1 ≤ y48 by omega), (show (0 : Int) ≤ y48 by omega)⟩) (show 1000000 * (8 - (0 : Int)) + 2 * (4000 - y48) + s65 < ((((1000000 * (8 - (0 : Int)) + 2 * (4000 - y48) + s65 : Int) + 1).toNat : Nat) : Int) by omega)
          refine T_icmp 48 44 rfl rfl rfl (r32 (by omega) (by omega)) ⟨by decide, by decide⟩ (fun (h426 : y46 = 41) => ?_) (fun (h426 : ¬ (y46 = 41)) => ?_)
          · skip
            refine T_ld 49 (.int (i32 0)) rfl (fun _ => rfl) ?_
            refine Tm_lv (a := [(0, .ref 189), (1, .int (i32 t)), (2, .int (i32 y5)), (3, .int (i32 oo)), (4, .int (i32 0))]) rfl rfl ⟨rfl, rfl, rfl, rfl, rfl, trivial⟩ ?_
            exact J49_66 0 ⟨by decide, by decide⟩ (show 0 ≤ (0 : Int) by omega) (show (0 : Int) ≤ 1 by omega)
          · skip
            refine T_ld 45 (.int (i32 1)) rfl (fun _ => rfl) ?_
            refine T_goto 49 rfl (fun _ => rfl) ?_
            refine Tm_lv (a := [(0, .ref 189), (1, .int (i32 t)), (2, .int (i32 y5)), (3, .int (i32 oo)), (4, .int (i32 0))]) rfl rfl ⟨rfl, rfl, rfl, rfl, rfl, trivial⟩ ?_
            exact J49_66 1 ⟨by decide, by decide⟩ (show 0 ≤ (1 : Int) by omega) (show (1 : Int) ≤ 1 by omega)
        · skip
          replace h58 : LxP y46 y48 y50 (m.1 6) y52 := h58
          have hLx := h58
          clear h59
          replace h60 : y25 ≤ y48 := h60
          clear h61
          have hf427 : 1 ≤ y52 := by omega
          clear g24 g26 g28 g32 g34 h36 h37 u43 h60
          refine T_ld 26 (.int (i32 0)) rfl (fun _ => rfl) ?_
          refine T_sto 28 [(4, .int (i32 0)), (3, .int (i32 oo)), (2, .int (i32 y5)), (0, .ref 189), (1, .int (i32 t))] rfl (fun _ => rfl) ?_
          refine T_gf 32 (.int (i32 y52)) rfl rfl rfl rfl rfl rfl ?_
          refine T_if 48 35 rfl rfl rfl (r32 (by omega) (by omega)) (fun (h428 : y52 ≠ 0) => ?_) (fun (h428 : ¬ (y52 ≠ 0)) => by exfalso; omega)
          refine T_ld 49 (.int (i32 0)) rfl (fun _ => rfl) ?_
          refine T_sto 51 [(5, .int (i32 0)), (4, .int (i32 0)), (3, .int (i32 oo)), (2, .int (i32 y5)), (0, .ref 189), (1, .int (i32 t))] rfl (fun _ => rfl) ?_
          refine T_ld 53 (.int (i32 0)) rfl (fun _ => rfl) ?_
          refine T_if 153 56 rfl rfl rfl ⟨by decide, by decide⟩ (fun _ => ?_) (fun h429 => absurd (show (0 : Int) = 0 by decide) h429)
          refine T_gf 157 (.int (i32 y52)) rfl rfl rfl rfl rfl rfl ?_
          refine T_if 187 160 rfl rfl rfl (r32 (by omega) (by omega)) (fun (h430 : y52 ≠ 0) => ?_) (fun (h430 : ¬ (y52 ≠ 0)) => by exfalso; omega)
          refine T_ld 188 (.ref 189) rfl (fun _ => rfl) ?_
          refine T_ld 190 (.int (i32 41)) rfl (fun _ => rfl) ?_
          refine T_call 193 232 [.ref 189, .int (i32 41)] [] rfl (fun _ => rfl) rfl (c_need w (mO m [(7, y46), (8, y48), (9, y50), (10, y52), (11, y54), (12, y56)] [(57, (m.2 57)), (115, (m.2 115))]) c N D (by omega) (Ty_mO hT rfl rfl ⟨g47, g49, g51, g53, g55, g57, trivial⟩ ⟨(hT.2.1 57), (hT.2.1 115), trivial⟩) 41 ⟨by decide, by decide⟩ (show 1 ≤ (41 : Int) by omega) (show LxP y46 y48 y50 (m.1 6) y52 by first | exact hLx | (intro h9; exfalso; omega) | (intro h9; have h8 := hLx (by omega); omega))) (fun rr431 k432 => ?_)
          obtain ⟨y433, y435, y437, y439, y441, y443, g434, g436, g438, g440, g442, g444, h445, h446, h447, h448, rfl⟩ := k432
          refine ⟨_, _, rfl, ?_⟩
          refine T_nf2 (st' := []) (l' := [(7, y433), (8, y435), (9, y437), (10, y439), (11, y441), (12, y443)]) (a' := [(57, (m.2 57)), (115, (m.2 115))]) [7, 8, 9, 10, 11, 12] [] rfl ⟨rfl, rfl, rfl, rfl, rfl, rfl, rfl, rfl, rfl, rfl, rfl, rfl, trivial⟩ ⟨rfl, rfl, rfl, rfl, trivial⟩ rfl rfl (by decide) (by decide) ?_
          replace h445 : LxP y433 y435 y437 (m.1 6) y439 := h445
          replace h446 : y439 = 0 → y52 = 0 ∧ y46 = (41 : Int) := h446
          replace h447 : y48 ≤ y435 := h447
          replace h448 : y439 = 0 → y48 + y50 ≤ y435 := h448
          have hf449 : 1 ≤ y439 := by omega
          clear h446
          clear h448
          have hLx := h445
          clear g47 g49 g51 g53 g55 g57 h58 hf427 h428 h430 h447
          refine T_ld 194 (.ref 189) rfl (fun _ => rfl) ?_
          refine T_ld 196 (.int (i32 59)) rfl (fun _ => rfl) ?_
          refine T_call 199 232 [.ref 189, .int (i32 59)] [] rfl (fun _ => rfl) rfl (c_need w (mO m [(7, y433), (8, y435), (9, y437), (10, y439), (11, y441), (12, y443)] [(57, (m.2 57)), (115, (m.2 115))]) c N D (by omega) (Ty_mO hT rfl rfl ⟨g434, g436, g438, g440, g442, g444, trivial⟩ ⟨(hT.2.1 57), (hT.2.1 115), trivial⟩) 59 ⟨by decide, by decide⟩ (show 1 ≤ (59 : Int) by omega) (show LxP y433 y435 y437 (m.1 6) y439 by first | exact hLx | (intro h9; exfalso; omega) | (intro h9; have h8 := hLx (by omega); omega))) (fun rr450 k451 => ?_)
          obtain ⟨y452, y454, y456, y458, y460, y462, g453, g455, g457, g459, g461, g463, h464, h465, h466, h467, rfl⟩ := k451
          refine ⟨_, _, rfl, ?_⟩
          refine T_nf2 (st' := []) (l' := [(7, y452), (8, y454), (9, y456), (10, y458), (11, y460), (12, y462)]) (a' := [(57, (m.2 57)), (115, (m.2 115))]) [7, 8, 9, 10, 11, 12] [] rfl ⟨rfl, rfl, rfl, rfl, rfl, rfl, rfl, rfl, rfl, rfl, rfl, rfl, trivial⟩ ⟨rfl, rfl, rfl, rfl, trivial⟩ rfl rfl (by decide) (by decide) ?_
          replace h464 : LxP y452 y454 y456 (m.1 6) y458 := h464
          replace h465 : y458 = 0 → y439 = 0 ∧ y433 = (59 : Int) := h465
          replace h466 : y435 ≤ y454 := h466
          replace h467 : y458 = 0 → y435 + y437 ≤ y454 := h467
          have hf468 : 1 ≤ y458 := by omega
          clear h465
          clear h467
          have hLx := h464
          clear g434 g436 g438 g440 g442 g444 hf449 h445 h466
          refine T_gf 203 (.ref 227) rfl rfl rfl rfl rfl rfl ?_
          refine T_ld 204 (.int (i32 t)) rfl (fun _ => rfl) ?_
          refine T_ld 205 (.int (i32 oo)) rfl (fun _ => rfl) ?_
          have G469 : ∀ j, 0 ≤ (upI (m.2 57) t oo) j ∧ (upI (m.2 57) t oo) j ≤ 15 := upI_rg (hT.2.1 57) ⟨by omega, by omega⟩
          refine T_iast (a' := [(57, upI (m.2 57) t oo), (115, (m.2 115))]) 206 57 (m.2 57) rfl rfl rfl (by omega) (show t < (8 : Int) by omega) rfl rfl ?_
          refine T_ret rfl (fun _ => rfl) ?_
          exact ⟨(mO m [(7, y452), (8, y454), (9, y456), (10, y458), (11, y460), (12, y462)] [(57, upI (m.2 57) t oo), (115, (m.2 115))]), (Ty_mO hT rfl rfl ⟨g453, g455, g457, g459, g461, g463, trivial⟩ ⟨G469, (hT.2.1 115), trivial⟩), (show y458 = 0 → (m.1 10) = 0 by omega), (show LxP y452 y454 y456 (m.1 6) y458 by first | (first | exact hLx | exact (fun _ => hLx (by omega)) | (intro h9; exfalso; omega)) | (exfalso; omega)), (fun (h : y458 = 0) => absurd h (by omega)), rfl⟩
      · skip
        replace h36 : LxP y23 y25 y27 (m.1 6) y29 := h36
        have hLx := h36
        replace h37 : y5 ≤ y25 := h37
        clear h38
        clear h39
        replace h40 : 0 ≤ oo ∧ (oo < (m.1 25) ∨ oo = 0) := h40
        clear h41
        have hf470 : 1 ≤ y29 := by omega
        clear g4 g8 g12 g14 h15
        refine T_sto 19 [(3, .int (i32 oo)), (2, .int (i32 y5)), (0, .ref 189), (1, .int (i32 t))] rfl (fun _ => rfl) ?_
        refine T_ld 20 (.ref 189) rfl (fun _ => rfl) ?_
        refine T_ld 22 (.int (i32 40)) rfl (fun _ => rfl) ?_
        refine T_call 25 232 [.ref 189, .int (i32 40)] [] rfl (fun _ => rfl) rfl (c_need w (mO m [(7, y23), (8, y25), (9, y27), (10, y29), (11, y31), (12, y33)] [(57, (m.2 57)), (115, (m.2 115))]) c N D (by omega) (Ty_mO hT rfl rfl ⟨g24, g26, g28, g30, g32, g34, trivial⟩ ⟨(hT.2.1 57), (hT.2.1 115), trivial⟩) 40 ⟨by decide, by decide⟩ (show 1 ≤ (40 : Int) by omega) (show LxP y23 y25 y27 (m.1 6) y29 by first | exact hLx | (intro h9; exfalso; omega) | (intro h9; have h8 := hLx (by omega); omega))) (fun rr471 k472 => ?_)
        obtain ⟨y473, y475, y477, y479, y481, y483, g474, g476, g478, g480, g482, g484, h485, h486, h487, h488, rfl⟩ := k472
        refine ⟨_, _, rfl, ?_⟩
        refine T_nf2 (st' := []) (l' := [(7, y473), (8, y475), (9, y477), (10, y479), (11, y481), (12, y483)]) (a' := [(57, (m.2 57)), (115, (m.2 115))]) [7, 8, 9, 10, 11, 12] [] rfl ⟨rfl, rfl, rfl, rfl, rfl, rfl, rfl, rfl, rfl, rfl, rfl, rfl, trivial⟩ ⟨rfl, rfl, rfl, rfl, trivial⟩ rfl rfl (by decide) (by decide) ?_
        replace h485 : LxP y473 y475 y477 (m.1 6) y479 := h485
        replace h486 : y479 = 0 → y29 = 0 ∧ y23 = (40 : Int) := h486
        replace h487 : y25 ≤ y475 := h487
        replace h488 : y479 = 0 → y25 + y27 ≤ y475 := h488
        have hf489 : 1 ≤ y479 := by omega
        clear h486
        clear h488
        have hLx := h485
        clear g24 g26 g28 g30 g32 g34 h36 h37 hf470 h487
        refine T_ld 26 (.int (i32 0)) rfl (fun _ => rfl) ?_
        refine T_sto 28 [(4, .int (i32 0)), (3, .int (i32 oo)), (2, .int (i32 y5)), (0, .ref 189), (1, .int (i32 t))] rfl (fun _ => rfl) ?_
        refine T_gf 32 (.int (i32 y479)) rfl rfl rfl rfl rfl rfl ?_
        refine T_if 48 35 rfl rfl rfl (r32 (by omega) (by omega)) (fun (h490 : y479 ≠ 0) => ?_) (fun (h490 : ¬ (y479 ≠ 0)) => by exfalso; omega)
        refine T_ld 49 (.int (i32 0)) rfl (fun _ => rfl) ?_
        refine T_sto 51 [(5, .int (i32 0)), (4, .int (i32 0)), (3, .int (i32 oo)), (2, .int (i32 y5)), (0, .ref 189), (1, .int (i32 t))] rfl (fun _ => rfl) ?_
        refine T_ld 53 (.int (i32 0)) rfl (fun _ => rfl) ?_
        refine T_if 153 56 rfl rfl rfl ⟨by decide, by decide⟩ (fun _ => ?_) (fun h491 => absurd (show (0 : Int) = 0 by decide) h491)
        refine T_gf 157 (.int (i32 y479)) rfl rfl rfl rfl rfl rfl ?_
        refine T_if 187 160 rfl rfl rfl (r32 (by omega) (by omega)) (fun (h492 : y479 ≠ 0) => ?_) (fun (h492 : ¬ (y479 ≠ 0)) => by exfalso; omega)
        refine T_ld 188 (.ref 189) rfl (fun _ => rfl) ?_
        refine T_ld 190 (.int (i32 41)) rfl (fun _ => rfl) ?_
        refine T_call 193 232 [.ref 189, .int (i32 41)] [] rfl (fun _ => rfl) rfl (c_need w (mO m [(7, y473), (8, y475), (9, y477), (10, y479), (11, y481), (12, y483)] [(57, (m.2 57)), (115, (m.2 115))]) c N D (by omega) (Ty_mO hT rfl rfl ⟨g474, g476, g478, g480, g482, g484, trivial⟩ ⟨(hT.2.1 57), (hT.2.1 115), trivial⟩) 41 ⟨by decide, by decide⟩ (show 1 ≤ (41 : Int) by omega) (show LxP y473 y475 y477 (m.1 6) y479 by first | exact hLx | (intro h9; exfalso; omega) | (intro h9; have h8 := hLx (by omega); omega))) (fun rr493 k494 => ?_)
        obtain ⟨y495, y497, y499, y501, y503, y505, g496, g498, g500, g502, g504, g506, h507, h508, h509, h510, rfl⟩ := k494
        refine ⟨_, _, rfl, ?_⟩
        refine T_nf2 (st' := []) (l' := [(7, y495), (8, y497), (9, y499), (10, y501), (11, y503), (12, y505)]) (a' := [(57, (m.2 57)), (115, (m.2 115))]) [7, 8, 9, 10, 11, 12] [] rfl ⟨rfl, rfl, rfl, rfl, rfl, rfl, rfl, rfl, rfl, rfl, rfl, rfl, trivial⟩ ⟨rfl, rfl, rfl, rfl, trivial⟩ rfl rfl (by decide) (by decide) ?_
        replace h507 : LxP y495 y497 y499 (m.1 6) y501 := h507
        replace h508 : y501 = 0 → y479 = 0 ∧ y473 = (41 : Int) := h508
        replace h509 : y475 ≤ y497 := h509
        replace h510 : y501 = 0 → y475 + y477 ≤ y497 := h510
        have hf511 : 1 ≤ y501 := by omega
        clear h508
        clear h510
        have hLx := h507
        clear g474 g476 g478 g480 g482 g484 hf489 h485 h490 h492 h509
        refine T_ld 194 (.ref 189) rfl (fun _ => rfl) ?_
        refine T_ld 196 (.int (i32 59)) rfl (fun _ => rfl) ?_
        refine T_call 199 232 [.ref 189, .int (i32 59)] [] rfl (fun _ => rfl) rfl (c_need w (mO m [(7, y495), (8, y497), (9, y499), (10, y501), (11, y503), (12, y505)] [(57, (m.2 57)), (115, (m.2 115))]) c N D (by omega) (Ty_mO hT rfl rfl ⟨g496, g498, g500, g502, g504, g506, trivial⟩ ⟨(hT.2.1 57), (hT.2.1 115), trivial⟩) 59 ⟨by decide, by decide⟩ (show 1 ≤ (59 : Int) by omega) (show LxP y495 y497 y499 (m.1 6) y501 by first | exact hLx | (intro h9; exfalso; omega) | (intro h9; have h8 := hLx (by omega); omega))) (fun rr512 k513 => ?_)
        obtain ⟨y514, y516, y518, y520, y522, y524, g515, g517, g519, g521, g523, g525, h526, h527, h528, h529, rfl⟩ := k513
        refine ⟨_, _, rfl, ?_⟩
        refine T_nf2 (st' := []) (l' := [(7, y514), (8, y516), (9, y518), (10, y520), (11, y522), (12, y524)]) (a' := [(57, (m.2 57)), (115, (m.2 115))]) [7, 8, 9, 10, 11, 12] [] rfl ⟨rfl, rfl, rfl, rfl, rfl, rfl, rfl, rfl, rfl, rfl, rfl, rfl, trivial⟩ ⟨rfl, rfl, rfl, rfl, trivial⟩ rfl rfl (by decide) (by decide) ?_
        replace h526 : LxP y514 y516 y518 (m.1 6) y520 := h526
        replace h527 : y520 = 0 → y501 = 0 ∧ y495 = (59 : Int) := h527
        replace h528 : y497 ≤ y516 := h528
        replace h529 : y520 = 0 → y497 + y499 ≤ y516 := h529
        have hf530 : 1 ≤ y520 := by omega
        clear h527
        clear h529
        have hLx := h526
        clear g496 g498 g500 g502 g504 g506 hf511 h507 h528
        refine T_gf 203 (.ref 227) rfl rfl rfl rfl rfl rfl ?_
        refine T_ld 204 (.int (i32 t)) rfl (fun _ => rfl) ?_
        refine T_ld 205 (.int (i32 oo)) rfl (fun _ => rfl) ?_
        have G531 : ∀ j, 0 ≤ (upI (m.2 57) t oo) j ∧ (upI (m.2 57) t oo) j ≤ 15 := upI_rg (hT.2.1 57) ⟨by omega, by omega⟩
        refine T_iast (a' := [(57, upI (m.2 57) t oo), (115, (m.2 115))]) 206 57 (m.2 57) rfl rfl rfl (by omega) (show t < (8 : Int) by omega) rfl rfl ?_
        refine T_ret rfl (fun _ => rfl) ?_
        exact ⟨(mO m [(7, y514), (8, y516), (9, y518), (10, y520), (11, y522), (12, y524)] [(57, upI (m.2 57) t oo), (115, (m.2 115))]), (Ty_mO hT rfl rfl ⟨g515, g517, g519, g521, g523, g525, trivial⟩ ⟨G531, (hT.2.1 115), trivial⟩), (show y520 = 0 → (m.1 10) = 0 by omega), (show LxP y514 y516 y518 (m.1 6) y520 by first | (first | exact hLx | exact (fun _ => hLx (by omega)) | (intro h9; exfalso; omega)) | (exfalso; omega)), (fun (h : y520 = 0) => absurd h (by omega)), rfl⟩
    · skip
      replace h15 : LxP y3 y5 y7 (m.1 6) y9 := h15
      have hLx := h15
      clear h16
      replace h17 : (m.1 8) ≤ y5 := h17
      clear h18
      have hf532 : 1 ≤ y9 := by omega
      refine T_gf 11 (.int (i32 y5)) rfl rfl rfl rfl rfl rfl ?_
      refine T_sto 12 [(2, .int (i32 y5)), (0, .ref 189), (1, .int (i32 t))] rfl (fun _ => rfl) ?_
      refine T_ld 13 (.ref 189) rfl (fun _ => rfl) ?_
      refine T_ld 15 (.int (i32 6)) rfl (fun _ => rfl) ?_
      refine T_call 18 236 [.ref 189, .int (i32 6)] [] rfl (fun _ => rfl) rfl (c_oldName w (mO m [(7, y3), (8, y5), (9, y7), (10, y9), (11, y11), (12, y13)] [(57, (m.2 57)), (115, (m.2 115))]) c N D (by omega) (Ty_mO hT rfl rfl ⟨g4, g6, g8, g10, g12, g14, trivial⟩ ⟨(hT.2.1 57), (hT.2.1 115), trivial⟩) 6 (m.1 25) ⟨by decide, by decide⟩ (show LxP y3 y5 y7 (m.1 6) y9 by first | exact hLx | (intro h9; exfalso; omega) | (intro h9; have h8 := hLx (by omega); omega)) (show ∀ k, (m.2 14) k + (m.2 15) k ≤ 4000 by first | exact p1 | exact hNM) (show 1 ≤ (6 : Int) ∧ (6 : Int) ≤ 7 ∧ (6 : Int) ≠ 5 by omega) (show (m.1 25) ≤ 16 by omega) (show y9 = 0 → ∀ k, 0 ≤ k → k < (m.1 13) → (m.2 16) k = (6 : Int) → 0 ≤ (m.2 17) k ∧ (m.2 17) k < (m.1 25) by first | exact hOL | (intro h; exfalso; omega)) (show (6 : Int) = 3 → 3 ≤ (m.1 25) by omega)) (fun rr533 k534 => ?_)
      obtain ⟨y535, y537, y539, y541, y543, y545, oo, g536, g538, g540, g542, g544, g546, g547, h548, h549, h550, h551, h552, h553, rfl⟩ := k534
      refine ⟨_, _, rfl, ?_⟩
      refine T_nf2 (st' := [.int (i32 oo)]) (l' := [(7, y535), (8, y537), (9, y539), (10, y541), (11, y543), (12, y545)]) (a' := [(57, (m.2 57)), (115, (m.2 115))]) [7, 8, 9, 10, 11, 12] [] rfl ⟨rfl, rfl, rfl, rfl, rfl, rfl, rfl, rfl, rfl, rfl, rfl, rfl, trivial⟩ ⟨rfl, rfl, rfl, rfl, trivial⟩ rfl rfl (by decide) (by decide) ?_
      obtain ⟨g547a, g547b⟩ := g547
      replace h548 : LxP y535 y537 y539 (m.1 6) y541 := h548
      replace h549 : y5 ≤ y537 := h549
      replace h550 : y541 = 0 → y9 = 0 ∧ y5 + y7 ≤ y537 := h550
      replace h551 : y541 = 0 → y3 = 1 := h551
      replace h552 : 0 ≤ oo ∧ (oo < (m.1 25) ∨ oo = 0) := h552
      replace h553 : y541 = 0 → oo < (m.1 25) := h553
      have hf554 : 1 ≤ y541 := by omega
      clear h550
      clear h551
      clear h553
      have hLx := h548
      clear g4 g8 g10 g12 g14 h15 hf532
      refine T_sto 19 [(3, .int (i32 oo)), (2, .int (i32 y5)), (0, .ref 189), (1, .int (i32 t))] rfl (fun _ => rfl) ?_
      refine T_ld 20 (.ref 189) rfl (fun _ => rfl) ?_
      refine T_ld 22 (.int (i32 40)) rfl (fun _ => rfl) ?_
      refine T_call 25 232 [.ref 189, .int (i32 40)] [] rfl (fun _ => rfl) rfl (c_need w (mO m [(7, y535), (8, y537), (9, y539), (10, y541), (11, y543), (12, y545)] [(57, (m.2 57)), (115, (m.2 115))]) c N D (by omega) (Ty_mO hT rfl rfl ⟨g536, g538, g540, g542, g544, g546, trivial⟩ ⟨(hT.2.1 57), (hT.2.1 115), trivial⟩) 40 ⟨by decide, by decide⟩ (show 1 ≤ (40 : Int) by omega) (show LxP y535 y537 y539 (m.1 6) y541 by first | exact hLx | (intro h9; exfalso; omega) | (intro h9; have h8 := hLx (by omega); omega))) (fun rr555 k556 => ?_)
      obtain ⟨y557, y559, y561, y563, y565, y567, g558, g560, g562, g564, g566, g568, h569, h570, h571, h572, rfl⟩ := k556
      refine ⟨_, _, rfl, ?_⟩
      refine T_nf2 (st' := []) (l' := [(7, y557), (8, y559), (9, y561), (10, y563), (11, y565), (12, y567)]) (a' := [(57, (m.2 57)), (115, (m.2 115))]) [7, 8, 9, 10, 11, 12] [] rfl ⟨rfl, rfl, rfl, rfl, rfl, rfl, rfl, rfl, rfl, rfl, rfl, rfl, trivial⟩ ⟨rfl, rfl, rfl, rfl, trivial⟩ rfl rfl (by decide) (by decide) ?_
      replace h569 : LxP y557 y559 y561 (m.1 6) y563 := h569
      replace h570 : y563 = 0 → y541 = 0 ∧ y535 = (40 : Int) := h570
      replace h571 : y537 ≤ y559 := h571
      replace h572 : y563 = 0 → y537 + y539 ≤ y559 := h572
      have hf573 : 1 ≤ y563 := by omega
      clear h570
      clear h572
      have hLx := h569
      clear g536 g538 g540 g542 g544 g546 hf554 h548 h549 h571
      refine T_ld 26 (.int (i32 0)) rfl (fun _ => rfl) ?_
      refine T_sto 28 [(4, .int (i32 0)), (3, .int (i32 oo)), (2, .int (i32 y5)), (0, .ref 189), (1, .int (i32 t))] rfl (fun _ => rfl) ?_
      refine T_gf 32 (.int (i32 y563)) rfl rfl rfl rfl rfl rfl ?_
      refine T_if 48 35 rfl rfl rfl (r32 (by omega) (by omega)) (fun (h574 : y563 ≠ 0) => ?_) (fun (h574 : ¬ (y563 ≠ 0)) => by exfalso; omega)
      refine T_ld 49 (.int (i32 0)) rfl (fun _ => rfl) ?_
      refine T_sto 51 [(5, .int (i32 0)), (4, .int (i32 0)), (3, .int (i32 oo)), (2, .int (i32 y5)), (0, .ref 189), (1, .int (i32 t))] rfl (fun _ => rfl) ?_
      refine T_ld 53 (.int (i32 0)) rfl (fun _ => rfl) ?_
      refine T_if 153 56 rfl rfl rfl ⟨by decide, by decide⟩ (fun _ => ?_) (fun h575 => absurd (show (0 : Int) = 0 by decide) h575)
      refine T_gf 157 (.int (i32 y563)) rfl rfl rfl rfl rfl rfl ?_
      refine T_if 187 160 rfl rfl rfl (r32 (by omega) (by omega)) (fun (h576 : y563 ≠ 0) => ?_) (fun (h576 : ¬ (y563 ≠ 0)) => by exfalso; omega)
      refine T_ld 188 (.ref 189) rfl (fun _ => rfl) ?_
      refine T_ld 190 (.int (i32 41)) rfl (fun _ => rfl) ?_
      refine T_call 193 232 [.ref 189, .int (i32 41)] [] rfl (fun _ => rfl) rfl (c_need w (mO m [(7, y557), (8, y559), (9, y561), (10, y563), (11, y565), (12, y567)] [(57, (m.2 57)), (115, (m.2 115))]) c N D (by omega) (Ty_mO hT rfl rfl ⟨g558, g560, g562, g564, g566, g568, trivial⟩ ⟨(hT.2.1 57), (hT.2.1 115), trivial⟩) 41 ⟨by decide, by decide⟩ (show 1 ≤ (41 : Int) by omega) (show LxP y557 y559 y561 (m.1 6) y563 by first | exact hLx | (intro h9; exfalso; omega) | (intro h9; have h8 := hLx (by omega); omega))) (fun rr577 k578 => ?_)
      obtain ⟨y579, y581, y583, y585, y587, y589, g580, g582, g584, g586, g588, g590, h591, h592, h593, h594, rfl⟩ := k578
      refine ⟨_, _, rfl, ?_⟩
      refine T_nf2 (st' := []) (l' := [(7, y579), (8, y581), (9, y583), (10, y585), (11, y587), (12, y589)]) (a' := [(57, (m.2 57)), (115, (m.2 115))]) [7, 8, 9, 10, 11, 12] [] rfl ⟨rfl, rfl, rfl, rfl, rfl, rfl, rfl, rfl, rfl, rfl, rfl, rfl, trivial⟩ ⟨rfl, rfl, rfl, rfl, trivial⟩ rfl rfl (by decide) (by decide) ?_
      replace h591 : LxP y579 y581 y583 (m.1 6) y585 := h591
      replace h592 : y585 = 0 → y563 = 0 ∧ y557 = (41 : Int) := h592
      replace h593 : y559 ≤ y581 := h593
      replace h594 : y585 = 0 → y559 + y561 ≤ y581 := h594
      have hf595 : 1 ≤ y585 := by omega
      clear h592
      clear h594
      have hLx := h591
      clear g558 g560 g562 g564 g566 g568 hf573 h569 h574 h576 h593
      refine T_ld 194 (.ref 189) rfl (fun _ => rfl) ?_
      refine T_ld 196 (.int (i32 59)) rfl (fun _ => rfl) ?_
      refine T_call 199 232 [.ref 189, .int (i32 59)] [] rfl (fun _ => rfl) rfl (c_need w (mO m [(7, y579), (8, y581), (9, y583), (10, y585), (11, y587), (12, y589)] [(57, (m.2 57)), (115, (m.2 115))]) c N D (by omega) (Ty_mO hT rfl rfl ⟨g580, g582, g584, g586, g588, g590, trivial⟩ ⟨(hT.2.1 57), (hT.2.1 115), trivial⟩) 59 ⟨by decide, by decide⟩ (show 1 ≤ (59 : Int) by omega) (show LxP y579 y581 y583 (m.1 6) y585 by first | exact hLx | (intro h9; exfalso; omega) | (intro h9; have h8 := hLx (by omega); omega))) (fun rr596 k597 => ?_)
      obtain ⟨y598, y600, y602, y604, y606, y608, g599, g601, g603, g605, g607, g609, h610, h611, h612, h613, rfl⟩ := k597
      refine ⟨_, _, rfl, ?_⟩
      refine T_nf2 (st' := []) (l' := [(7, y598), (8, y600), (9, y602), (10, y604), (11, y606), (12, y608)]) (a' := [(57, (m.2 57)), (115, (m.2 115))]) [7, 8, 9, 10, 11, 12] [] rfl ⟨rfl, rfl, rfl, rfl, rfl, rfl, rfl, rfl, rfl, rfl, rfl, rfl, trivial⟩ ⟨rfl, rfl, rfl, rfl, trivial⟩ rfl rfl (by decide) (by decide) ?_
      replace h610 : LxP y598 y600 y602 (m.1 6) y604 := h610
      replace h611 : y604 = 0 → y585 = 0 ∧ y579 = (59 : Int) := h611
      replace h612 : y581 ≤ y600 := h612
      replace h613 : y604 = 0 → y581 + y583 ≤ y600 := h613
      have hf614 : 1 ≤ y604 := by omega
      clear h611
      clear h613
      have hLx := h610
      clear g580 g582 g584 g586 g588 g590 hf595 h591 h612
      refine T_gf 203 (.ref 227) rfl rfl rfl rfl rfl rfl ?_
      refine T_ld 204 (.int (i32 t)) rfl (fun _ => rfl) ?_
      refine T_ld 205 (.int (i32 oo)) rfl (fun _ => rfl) ?_
      have G615 : ∀ j, 0 ≤ (upI (m.2 57) t oo) j ∧ (upI (m.2 57) t oo) j ≤ 15 := upI_rg (hT.2.1 57) ⟨by omega, by omega⟩
      refine T_iast (a' := [(57, upI (m.2 57) t oo), (115, (m.2 115))]) 206 57 (m.2 57) rfl rfl rfl (by omega) (show t < (8 : Int) by omega) rfl rfl ?_
      refine T_ret rfl (fun _ => rfl) ?_
      exact ⟨(mO m [(7, y598), (8, y600), (9, y602), (10, y604), (11, y606), (12, y608)] [(57, upI (m.2 57) t oo), (115, (m.2 115))]), (Ty_mO hT rfl rfl ⟨g599, g601, g603, g605, g607, g609, trivial⟩ ⟨G615, (hT.2.1 115), trivial⟩), (show y604 = 0 → (m.1 10) = 0 by omega), (show LxP y598 y600 y602 (m.1 6) y604 by first | (first | exact hLx | exact (fun _ => hLx (by omega)) | (intro h9; exfalso; omega)) | (exfalso; omega)), (fun (h : y604 = 0) => absurd h (by omega)), rfl⟩
  · skip
    clear hC
    refine T_ld 1 (.ref 189) rfl (fun _ => rfl) ?_
    refine T_ld 4 (.int (i32 308)) rfl (fun _ => rfl) ?_
    refine T_call 7 232 [.ref 189, .int (i32 308)] [] rfl (fun _ => rfl) rfl (c_need w (mO m [(7, (m.1 7)), (8, (m.1 8)), (9, (m.1 9)), (10, (m.1 10)), (11, (m.1 11)), (12, (m.1 12))] [(57, (m.2 57)), (115, (m.2 115))]) c N D (by omega) (Ty_mO hT rfl rfl ⟨f7, f8, f9, f10, f11, f12, trivial⟩ ⟨(hT.2.1 57), (hT.2.1 115), trivial⟩) 308 ⟨by decide, by decide⟩ (show 1 ≤ (308 : Int) by omega) (show LxP (m.1 7) (m.1 8) (m.1 9) (m.1 6) (m.1 10) by first | exact hLx | (intro h9; exfalso; omega) | (intro h9; have h8 := hLx (by omega); omega))) (fun rr616 k617 => ?_)
    obtain ⟨y618, y620, y622, y624, y626, y628, g619, g621, g623, g625, g627, g629, h630, h631, h632, h633, rfl⟩ := k617
    refine ⟨_, _, rfl, ?_⟩
    refine T_nf2 (st' := []) (l' := [(7, y618), (8, y620), (9, y622), (10, y624), (11, y626), (12, y628)]) (a' := [(57, (m.2 57)), (115, (m.2 115))]) [7, 8, 9, 10, 11, 12] [] rfl ⟨rfl, rfl, rfl, rfl, rfl, rfl, rfl, rfl, rfl, rfl, rfl, rfl, trivial⟩ ⟨rfl, rfl, rfl, rfl, trivial⟩ rfl rfl (by decide) (by decide) ?_
    replace h630 : LxP y618 y620 y622 (m.1 6) y624 := h630
    replace h631 : y624 = 0 → (m.1 10) = 0 ∧ (m.1 7) = (308 : Int) := h631
    replace h632 : (m.1 8) ≤ y620 := h632
    replace h633 : y624 = 0 → (m.1 8) + (m.1 9) ≤ y620 := h633
    have hf634 : 1 ≤ y624 := by omega
    clear h631
    clear h633
    have hLx := h630
    refine T_gf 11 (.int (i32 y620)) rfl rfl rfl rfl rfl rfl ?_
    refine T_sto 12 [(2, .int (i32 y620)), (0, .ref 189), (1, .int (i32 t))] rfl (fun _ => rfl) ?_
    refine T_ld 13 (.ref 189) rfl (fun _ => rfl) ?_
    refine T_ld 15 (.int (i32 6)) rfl (fun _ => rfl) ?_
    refine T_call 18 236 [.ref 189, .int (i32 6)] [] rfl (fun _ => rfl) rfl (c_oldName w (mO m [(7, y618), (8, y620), (9, y622), (10, y624), (11, y626), (12, y628)] [(57, (m.2 57)), (115, (m.2 115))]) c N D (by omega) (Ty_mO hT rfl rfl ⟨g619, g621, g623, g625, g627, g629, trivial⟩ ⟨(hT.2.1 57), (hT.2.1 115), trivial⟩) 6 (m.1 25) ⟨by decide, by decide⟩ (show LxP y618 y620 y622 (m.1 6) y624 by first | exact hLx | (intro h9; exfalso; omega) | (intro h9; have h8 := hLx (by omega); omega)) (show ∀ k, (m.2 14) k + (m.2 15) k ≤ 4000 by first | exact p1 | exact hNM) (show 1 ≤ (6 : Int) ∧ (6 : Int) ≤ 7 ∧ (6 : Int) ≠ 5 by omega) (show (m.1 25) ≤ 16 by omega) (show y624 = 0 → ∀ k, 0 ≤ k → k < (m.1 13) → (m.2 16) k = (6 : Int) → 0 ≤ (m.2 17) k ∧ (m.2 17) k < (m.1 25) by first | exact hOL | (intro h; exfalso; omega)) (show (6 : Int) = 3 → 3 ≤ (m.1 25) by omega)) (fun rr635 k636 => ?_)
    obtain ⟨y637, y639, y641, y643, y645, y647, oo, g638, g640, g642, g644, g646, g648, g649, h650, h651, h652, h653, h654, h655, rfl⟩ := k636
    refine ⟨_, _, rfl, ?_⟩
    refine T_nf2 (st' := [.int (i32 oo)]) (l' := [(7, y637), (8, y639), (9, y641), (10, y643), (11, y645), (12, y647)]) (a' := [(57, (m.2 57)), (115, (m.2 115))]) [7, 8, 9, 10, 11, 12] [] rfl ⟨rfl, rfl, rfl, rfl, rfl, rfl, rfl, rfl, rfl, rfl, rfl, rfl, trivial⟩ ⟨rfl, rfl, rfl, rfl, trivial⟩ rfl rfl (by decide) (by decide) ?_
    obtain ⟨g649a, g649b⟩ := g649
    replace h650 : LxP y637 y639 y641 (m.1 6) y643 := h650
    replace h651 : y620 ≤ y639 := h651
    replace h652 : y643 = 0 → y624 = 0 ∧ y620 + y622 ≤ y639 := h652
    replace h653 : y643 = 0 → y618 = 1 := h653
    replace h654 : 0 ≤ oo ∧ (oo < (m.1 25) ∨ oo = 0) := h654
    replace h655 : y643 = 0 → oo < (m.1 25) := h655
    have hf656 : 1 ≤ y643 := by omega
    clear h652
    clear h653
    clear h655
    have hLx := h650
    clear g619 g623 g625 g627 g629 hf634 h630
    refine T_sto 19 [(3, .int (i32 oo)), (2, .int (i32 y620)), (0, .ref 189), (1, .int (i32 t))] rfl (fun _ => rfl) ?_
    refine T_ld 20 (.ref 189) rfl (fun _ => rfl) ?_
    refine T_ld 22 (.int (i32 40)) rfl (fun _ => rfl) ?_
    refine T_call 25 232 [.ref 189, .int (i32 40)] [] rfl (fun _ => rfl) rfl (c_need w (mO m [(7, y637), (8, y639), (9, y641), (10, y643), (11, y645), (12, y647)] [(57, (m.2 57)), (115, (m.2 115))]) c N D (by omega) (Ty_mO hT rfl rfl ⟨g638, g640, g642, g644, g646, g648, trivial⟩ ⟨(hT.2.1 57), (hT.2.1 115), trivial⟩) 40 ⟨by decide, by decide⟩ (show 1 ≤ (40 : Int) by omega) (show LxP y637 y639 y641 (m.1 6) y643 by first | exact hLx | (intro h9; exfalso; omega) | (intro h9; have h8 := hLx (by omega); omega))) (fun rr657 k658 => ?_)
    obtain ⟨y659, y661, y663, y665, y667, y669, g660, g662, g664, g666, g668, g670, h671, h672, h673, h674, rfl⟩ := k658
    refine ⟨_, _, rfl, ?_⟩
    refine T_nf2 (st' := []) (l' := [(7, y659), (8, y661), (9, y663), (10, y665), (11, y667), (12, y669)]) (a' := [(57, (m.2 57)), (115, (m.2 115))]) [7, 8, 9, 10, 11, 12] [] rfl ⟨rfl, rfl, rfl, rfl, rfl, rfl, rfl, rfl, rfl, rfl, rfl, rfl, trivial⟩ ⟨rfl, rfl, rfl, rfl, trivial⟩ rfl rfl (by decide) (by decide) ?_
    replace h671 : LxP y659 y661 y663 (m.1 6) y665 := h671
    replace h672 : y665 = 0 → y643 = 0 ∧ y637 = (40 : Int) := h672
    replace h673 : y639 ≤ y661 := h673
    replace h674 : y665 = 0 → y639 + y641 ≤ y661 := h674
    have hf675 : 1 ≤ y665 := by omega
    clear h672
    clear h674
    have hLx := h671
    clear g638 g640 g642 g644 g646 g648 hf656 h650 h651 h673
    refine T_ld 26 (.int (i32 0)) rfl (fun _ => rfl) ?_
    refine T_sto 28 [(4, .int (i32 0)), (3, .int (i32 oo)), (2, .int (i32 y620)), (0, .ref 189), (1, .int (i32 t))] rfl (fun _ => rfl) ?_
    refine T_gf 32 (.int (i32 y665)) rfl rfl rfl rfl rfl rfl ?_
    refine T_if 48 35 rfl rfl rfl (r32 (by omega) (by omega)) (fun (h676 : y665 ≠ 0) => ?_) (fun (h676 : ¬ (y665 ≠ 0)) => by exfalso; omega)
    refine T_ld 49 (.int (i32 0)) rfl (fun _ => rfl) ?_
    refine T_sto 51 [(5, .int (i32 0)), (4, .int (i32 0)), (3, .int (i32 oo)), (2, .int (i32 y620)), (0, .ref 189), (1, .int (i32 t))] rfl (fun _ => rfl) ?_
    refine T_ld 53 (.int (i32 0)) rfl (fun _ => rfl) ?_
    refine T_if 153 56 rfl rfl rfl ⟨by decide, by decide⟩ (fun _ => ?_) (fun h677 => absurd (show (0 : Int) = 0 by decide) h677)
    refine T_gf 157 (.int (i32 y665)) rfl rfl rfl rfl rfl rfl ?_
    refine T_if 187 160 rfl rfl rfl (r32 (by omega) (by omega)) (fun (h678 : y665 ≠ 0) => ?_) (fun (h678 : ¬ (y665 ≠ 0)) => by exfalso; omega)
    refine T_ld 188 (.ref 189) rfl (fun _ => rfl) ?_
    refine T_ld 190 (.int (i32 41)) rfl (fun _ => rfl) ?_
    refine T_call 193 232 [.ref 189, .int (i32 41)] [] rfl (fun _ => rfl) rfl (c_need w (mO m [(7, y659), (8, y661), (9, y663), (10, y665), (11, y667), (12, y669)] [(57, (m.2 57)), (115, (m.2 115))]) c N D (by omega) (Ty_mO hT rfl rfl ⟨g660, g662, g664, g666, g668, g670, trivial⟩ ⟨(hT.2.1 57), (hT.2.1 115), trivial⟩) 41 ⟨by decide, by decide⟩ (show 1 ≤ (41 : Int) by omega) (show LxP y659 y661 y663 (m.1 6) y665 by first | exact hLx | (intro h9; exfalso; omega) | (intro h9; have h8 := hLx (by omega); omega))) (fun rr679 k680 => ?_)
    obtain ⟨y681, y683, y685, y687, y689, y691, g682, g684, g686, g688, g690, g692, h693, h694, h695, h696, rfl⟩ := k680
    refine ⟨_, _, rfl, ?_⟩
    refine T_nf2 (st' := []) (l' := [(7, y681), (8, y683), (9, y685), (10, y687), (11, y689), (12, y691)]) (a' := [(57, (m.2 57)), (115, (m.2 115))]) [7, 8, 9, 10, 11, 12] [] rfl ⟨rfl, rfl, rfl, rfl, rfl, rfl, rfl, rfl, rfl, rfl, rfl, rfl, trivial⟩ ⟨rfl, rfl, rfl, rfl, trivial⟩ rfl rfl (by decide) (by decide) ?_
    replace h693 : LxP y681 y683 y685 (m.1 6) y687 := h693
    replace h694 : y687 = 0 → y665 = 0 ∧ y659 = (41 : Int) := h694
    replace h695 : y661 ≤ y683 := h695
    replace h696 : y687 = 0 → y661 + y663 ≤ y683 := h696
    have hf697 : 1 ≤ y687 := by omega
    clear h694
    clear h696
    have hLx := h693
    clear g660 g662 g664 g666 g668 g670 hf675 h671 h676 h678 h695
    refine T_ld 194 (.ref 189) rfl (fun _ => rfl) ?_
    refine T_ld 196 (.int (i32 59)) rfl (fun _ => rfl) ?_
    refine T_call 199 232 [.ref 189, .int (i32 59)] [] rfl (fun _ => rfl) rfl (c_need w (mO m [(7, y681), (8, y683), (9, y685), (10, y687), (11, y689), (12, y691)] [(57, (m.2 57)), (115, (m.2 115))]) c N D (by omega) (Ty_mO hT rfl rfl ⟨g682, g684, g686, g688, g690, g692, trivial⟩ ⟨(hT.2.1 57), (hT.2.1 115), trivial⟩) 59 ⟨by decide, by decide⟩ (show 1 ≤ (59 : Int) by omega) (show LxP y681 y683 y685 (m.1 6) y687 by first | exact hLx | (intro h9; exfalso; omega) | (intro h9; have h8 := hLx (by omega); omega))) (fun rr698 k699 => ?_)
    obtain ⟨y700, y702, y704, y706, y708, y710, g701, g703, g705, g707, g709, g711, h712, h713, h714, h715, rfl⟩ := k699
    refine ⟨_, _, rfl, ?_⟩
    refine T_nf2 (st' := []) (l' := [(7, y700), (8, y702), (9, y704), (10, y706), (11, y708), (12, y710)]) (a' := [(57, (m.2 57)), (115, (m.2 115))]) [7, 8, 9, 10, 11, 12] [] rfl ⟨rfl, rfl, rfl, rfl, rfl, rfl, rfl, rfl, rfl, rfl, rfl, rfl, trivial⟩ ⟨rfl, rfl, rfl, rfl, trivial⟩ rfl rfl (by decide) (by decide) ?_
    replace h712 : LxP y700 y702 y704 (m.1 6) y706 := h712
    replace h713 : y706 = 0 → y687 = 0 ∧ y681 = (59 : Int) := h713
    replace h714 : y683 ≤ y702 := h714
    replace h715 : y706 = 0 → y683 + y685 ≤ y702 := h715
    have hf716 : 1 ≤ y706 := by omega
    clear h713
    clear h715
    have hLx := h712
    clear g682 g684 g686 g688 g690 g692 hf697 h693 h714
    refine T_gf 203 (.ref 227) rfl rfl rfl rfl rfl rfl ?_
    refine T_ld 204 (.int (i32 t)) rfl (fun _ => rfl) ?_
    refine T_ld 205 (.int (i32 oo)) rfl (fun _ => rfl) ?_
    have G717 : ∀ j, 0 ≤ (upI (m.2 57) t oo) j ∧ (upI (m.2 57) t oo) j ≤ 15 := upI_rg (hT.2.1 57) ⟨by omega, by omega⟩
    refine T_iast (a' := [(57, upI (m.2 57) t oo), (115, (m.2 115))]) 206 57 (m.2 57) rfl rfl rfl (by omega) (show t < (8 : Int) by omega) rfl rfl ?_
    refine T_ret rfl (fun _ => rfl) ?_
    exact ⟨(mO m [(7, y700), (8, y702), (9, y704), (10, y706), (11, y708), (12, y710)] [(57, upI (m.2 57) t oo), (115, (m.2 115))]), (Ty_mO hT rfl rfl ⟨g701, g703, g705, g707, g709, g711, trivial⟩ ⟨G717, (hT.2.1 115), trivial⟩), (show y706 = 0 → (m.1 10) = 0 by omega), (show LxP y700 y702 y704 (m.1 6) y706 by first | (first | exact hLx | exact (fun _ => hLx (by omega)) | (intro h9; exfalso; omega)) | (exfalso; omega)), (fun (h : y706 = 0) => absurd h (by omega)), rfl⟩
def Q_takeRoom (m : mR) (c : Nat → Option am_C) (N : Nat) (t : Int) : ag_Re af_T → Prop := fun R => ∃ (M : mR), Ty M ∧ ((M.1 10) = 0 → (m.1 10) = 0) ∧ (LxP (M.1 7) (M.1 8) (M.1 9) (m.1 6) (M.1 10)) ∧ (M.1 10 = 0 → ((m.1 8) + 1 ≤ (M.1 8)) ∧ (1 ≤ (M.2 54) t) ∧ ((m.2 58) t = 1 → (M.2 54) t ≤ 16) ∧ (agr (m.2 54) (M.2 54) t)) ∧ R = (.inl (none), (mhp (mO m [(7, (M.1 7)), (8, (M.1 8)), (9, (M.1 9)), (10, (M.1 10)), (11, (M.1 11)), (12, (M.1 12))] [(54, (M.2 54)), (55, (M.2 55)), (56, (M.2 56))]) c, N), 0, 0)
set_option maxHeartbeats 8000000 in
theorem c_takeRoom (w : wX) (m : mR) (c : Nat → Option am_C) (N D : Nat) (hD : 7 ≤ D) (hT : Ty m) (t : Int) (qt : R32 t) (hLx0 : LxP (m.1 7) (m.1 8) (m.1 9) (m.1 6) (m.1 10)) (p1 : 0 ≤ t ∧ t ≤ 7) (hC : m.1 10 = 0 → True) : TC w D 278 [.ref 189, .int (i32 t)] (mhp m c, N) (Q_takeRoom m c N t) := by
  obtain ⟨D, rfl⟩ : ∃ k, D = k + 1 := ⟨D - 1, by omega⟩
  obtain ⟨qta, qtb⟩ := id qt
  have hLx := hLx0
  have f7 : 0 ≤ m.1 7 ∧ m.1 7 ≤ 330 := hT.1 7
  have f8 : 0 ≤ m.1 8 ∧ m.1 8 ≤ 4000 := hT.1 8
  have f9 : 0 ≤ m.1 9 ∧ m.1 9 ≤ 4000 := hT.1 9
  have f10 : 0 ≤ m.1 10 ∧ m.1 10 ≤ 8 := hT.1 10
  have f11 : (-1) ≤ m.1 11 ∧ m.1 11 ≤ 4000 := hT.1 11
  have f12 : (-9223372036854775808) ≤ m.1 12 ∧ m.1 12 ≤ 9223372036854775807 := hT.1 12
  have f6 : 0 ≤ m.1 6 ∧ m.1 6 ≤ 4000 := hT.1 6
  refine Tc_of rfl ?_
  show TT w D pm_278 (0, [(0, .ref 189), (1, .int (i32 t))], [], (mhp m c, N), 0, 0) (Q_takeRoom m c N t)
  rw [show (mhp m c, N) = (mhp (mO m [(7, (m.1 7)), (8, (m.1 8)), (9, (m.1 9)), (10, (m.1 10)), (11, (m.1 11)), (12, (m.1 12))] [(54, (m.2 54)), (55, (m.2 55)), (56, (m.2 56))]) c, N) from congrArg (fun M => (mhp M c, N)) (mO_pad m [7, 8, 9, 10, 11, 12] [54, 55, 56])]
  by_cases hf0 : m.1 10 = 0
  · skip
    have h7 := hLx (by omega)
    have J174_13 : ∀ (m12 : mR), (Ty m12) → (1 ≤ (m12.1 10)) → ((m12.1 10) ≤ 8) → TT w D pm_278 (174, [(0, .ref 189), (1, .int (i32 t))], [], (mhp (mO m [(7, (m12.1 7)), (8, (m12.1 8)), (9, (m12.1 9)), (10, (m12.1 10)), (11, (m12.1 11)), (12, (m12.1 12))] [(54, (m12.2 54)), (55, (m12.2 55)), (56, (m12.2 56))]) c, N), 0, 0) (Q_takeRoom m c N t) := by
      intro m12 q14 ic15 ic16
      have q14_7 : 0 ≤ m12.1 7 ∧ m12.1 7 ≤ 330 := q14.1 7
      have q14_8 : 0 ≤ m12.1 8 ∧ m12.1 8 ≤ 4000 := q14.1 8
      have q14_9 : 0 ≤ m12.1 9 ∧ m12.1 9 ≤ 4000 := q14.1 9
      have q14_10 : 0 ≤ m12.1 10 ∧ m12.1 10 ≤ 8 := q14.1 10
      have q14_11 : (-1) ≤ m12.1 11 ∧ m12.1 11 ≤ 4000 := q14.1 11
      have q14_12 : (-9223372036854775808) ≤ m12.1 12 ∧ m12.1 12 ≤ 9223372036854775807 := q14.1 12
      refine T_ret rfl (fun _ => rfl) ?_
      exact ⟨(mO m [(7, (m12.1 7)), (8, (m12.1 8)), (9, (m12.1 9)), (10, (m12.1 10)), (11, (m12.1 11)), (12, (m12.1 12))] [(54, (m12.2 54)), (55, (m12.2 55)), (56, (m12.2 56))]), (Ty_mO hT rfl rfl ⟨(q14.1 7), (q14.1 8), (q14.1 9), (q14.1 10), (q14.1 11), (q14.1 12), trivial⟩ ⟨(q14.2.1 54), (q14.2.1 55), (q14.2.1 56), trivial⟩), (show (m12.1 10) = 0 → (m.1 10) = 0 by omega), (show LxP (m12.1 7) (m12.1 8) (m12.1 9) (m.1 6) (m12.1 10) by first | (first | exact hLx | exact (fun _ => hLx (by omega)) | (intro h9; exfalso; omega)) | (exfalso; omega)), (fun (h : (m12.1 10) = 0) => absurd h (by omega)), rfl⟩
    have J167_20 : ∀ (s18 : Int) (m19 : mR), (R32 s18) → (Ty m19) → (0 ≤ s18) → (s18 ≤ 8) → (1 ≤ (m19.1 10)) → ((m19.1 10) ≤ 8) → TT w D pm_278 (167, [(0, .ref 189), (1, .int (i32 t))], [.int (i32 s18), .int (i32 t), .ref 226], (mhp (mO m [(7, (m19.1 7)), (8, (m19.1 8)), (9, (m19.1 9)), (10, (m19.1 10)), (11, (m19.1 11)), (12, (m19.1 12))] [(54, (m19.2 54)), (55, (m19.2 55)), (56, (m19.2 56))]) c, N), 0, 0) (Q_takeRoom m c N t) := by
      intro s18 m19 q21 q22 ic23 ic24 ic25 ic26
      obtain ⟨q21a, q21b⟩ := id q21
      have q22_7 : 0 ≤ m19.1 7 ∧ m19.1 7 ≤ 330 := q22.1 7
      have q22_8 : 0 ≤ m19.1 8 ∧ m19.1 8 ≤ 4000 := q22.1 8
      have q22_9 : 0 ≤ m19.1 9 ∧ m19.1 9 ≤ 4000 := q22.1 9
      have q22_10 : 0 ≤ m19.1 10 ∧ m19.1 10 ≤ 8 := q22.1 10
      have q22_11 : (-1) ≤ m19.1 11 ∧ m19.1 11 ≤ 4000 := q22.1 11
      have q22_12 : (-9223372036854775808) ≤ m19.1 12 ∧ m19.1 12 ≤ 9223372036854775807 := q22.1 12
      have G28 : ∀ j, 0 ≤ (upI (m19.2 56) t s18) j ∧ (upI (m19.2 56) t s18) j ≤ 8 := upI_rg (q22.2.1 56) ⟨by omega, by omega⟩
      refine T_iast (a' := [(54, (m19.2 54)), (55, (m19.2 55)), (56, upI (m19.2 56) t s18)]) 168 56 (m19.2 56) rfl rfl rfl (by omega) (show t < (8 : Int) by omega) rfl rfl ?_
      refine T_ld 169 (.ref 189) rfl (fun _ => rfl) ?_
      refine T_ld 171 (.int (i32 59)) rfl (fun _ => rfl) ?_
      refine T_call 174 232 [.ref 189, .int (i32 59)] [] rfl (fun _ => rfl) rfl (c_need w (mO m [(7, (m19.1 7)), (8, (m19.1 8)), (9, (m19.1 9)), (10, (m19.1 10)), (11, (m19.1 11)), (12, (m19.1 12))] [(54, (m19.2 54)), (55, (m19.2 55)), (56, upI (m19.2 56) t s18)]) c N D (by omega) (Ty_mO hT rfl rfl ⟨(q22.1 7), (q22.1 8), (q22.1 9), (q22.1 10), (q22.1 11), (q22.1 12), trivial⟩ ⟨(q22.2.1 54), (q22.2.1 55), G28, trivial⟩) 59 ⟨by decide, by decide⟩ (show 1 ≤ (59 : Int) by omega) (show LxP (m19.1 7) (m19.1 8) (m19.1 9) (m.1 6) (m19.1 10) by first | exact hLx | (intro h9; exfalso; omega) | (intro h9; have h8 := hLx (by omega); omega))) (fun rr29 k30 => ?_)
      obtain ⟨y31, y33, y35, y37, y39, y41, g32, g34, g36, g38, g40, g42, h43, h44, h45, h46, rfl⟩ := k30
      refine ⟨_, _, rfl, ?_⟩
      refine T_nf2 (st' := []) (l' := [(7, y31), (8, y33), (9, y35), (10, y37), (11, y39), (12, y41)]) (a' := [(54, (m19.2 54)), (55, (m19.2 55)), (56, upI (m19.2 56) t s18)]) [7, 8, 9, 10, 11, 12] [] rfl ⟨rfl, rfl, rfl, rfl, rfl, rfl, rfl, rfl, rfl, rfl, rfl, rfl, trivial⟩ ⟨rfl, rfl, rfl, rfl, rfl, rfl, trivial⟩ rfl rfl (by decide) (by decide) ?_
      replace h43 : LxP y31 y33 y35 (m.1 6) y37 := h43
      replace h44 : y37 = 0 → (m19.1 10) = 0 ∧ (m19.1 7) = (59 : Int) := h44
      replace h45 : (m19.1 8) ≤ y33 := h45
      replace h46 : y37 = 0 → (m19.1 8) + (m19.1 9) ≤ y33 := h46
      have hf47 : 1 ≤ y37 := by omega
      clear h44
      clear h46
      have hLx := h43
      clear q22_7 q22_8 q22_9 q22_10 q22_11 q22_12 ic25 ic26 h45
      exact J174_13 (mO m [(7, y31), (8, y33), (9, y35), (10, y37), (11, y39), (12, y41)] [(54, (m19.2 54)), (55, (m19.2 55)), (56, upI (m19.2 56) t s18)]) (Ty_mO hT rfl rfl ⟨g32, g34, g36, g38, g40, g42, trivial⟩ ⟨(q22.2.1 54), (q22.2.1 55), G28, trivial⟩) (show 1 ≤ y37 by omega) (show y37 ≤ 8 by omega)
    have J155_49 : ∀ (m48 : mR), (Ty m48) → (1 ≤ (m48.1 10)) → ((m48.1 10) ≤ 8) → TT w D pm_278 (155, [(0, .ref 189), (1, .int (i32 t))], [], (mhp (mO m [(7, (m48.1 7)), (8, (m48.1 8)), (9, (m48.1 9)), (10, (m48.1 10)), (11, (m48.1 11)), (12, (m48.1 12))] [(54, (m48.2 54)), (55, (m48.2 55)), (56, (m48.2 56))]) c, N), 0, 0) (Q_takeRoom m c N t) := by
      intro m48 q50 ic51 ic52
      have q50_7 : 0 ≤ m48.1 7 ∧ m48.1 7 ≤ 330 := q50.1 7
      have q50_8 : 0 ≤ m48.1 8 ∧ m48.1 8 ≤ 4000 := q50.1 8
      have q50_9 : 0 ≤ m48.1 9 ∧ m48.1 9 ≤ 4000 := q50.1 9
      have q50_10 : 0 ≤ m48.1 10 ∧ m48.1 10 ≤ 8 := q50.1 10
      have q50_11 : (-1) ≤ m48.1 11 ∧ m48.1 11 ≤ 4000 := q50.1 11
      have q50_12 : (-9223372036854775808) ≤ m48.1 12 ∧ m48.1 12 ≤ 9223372036854775807 := q50.1 12
      refine T_gf 159 (.ref 226) rfl rfl rfl rfl rfl rfl ?_
      refine T_ld 160 (.int (i32 t)) rfl (fun _ => rfl) ?_
      refine T_ld 161 (.ref 189) rfl (fun _ => rfl) ?_
      refine T_ld 162 (.int (i32 0)) rfl (fun _ => rfl) ?_
      refine T_ld 164 (.int (i32 8)) rfl (fun _ => rfl) ?_
      refine T_call 167 234 [.ref 189, .int (i32 0), .int (i32 8)] [.int (i32 t), .ref 226] rfl (fun _ => rfl) rfl (c_number w (mO m [(7, (m48.1 7)), (8, (m48.1 8)), (9, (m48.1 9)), (10, (m48.1 10)), (11, (m48.1 11)), (12, (m48.1 12))] [(54, (m48.2 54)), (55, (m48.2 55)), (56, (m48.2 56))]) c N D (by omega) (Ty_mO hT rfl rfl ⟨(q50.1 7), (q50.1 8), (q50.1 9), (q50.1 10), (q50.1 11), (q50.1 12), trivial⟩ ⟨(q50.2.1 54), (q50.2.1 55), (q50.2.1 56), trivial⟩) 0 8 ⟨by decide, by decide⟩ ⟨by decide, by decide⟩ (show LxP (m48.1 7) (m48.1 8) (m48.1 9) (m.1 6) (m48.1 10) by first | exact hLx | (intro h9; exfalso; omega) | (intro h9; have h8 := hLx (by omega); omega)) (show (0 : Int) ≤ (8 : Int) by omega)) (fun rr54 k55 => ?_)
      obtain ⟨y56, y58, y60, y62, y64, y66, nu, g57, g59, g61, g63, g65, g67, g68, h69, h70, h71, h72, h73, h74, rfl⟩ := k55
      refine ⟨_, _, rfl, ?_⟩
      refine T_nf2 (st' := [.int (i32 nu), .int (i32 t), .ref 226]) (l' := [(7, y56), (8, y58), (9, y60), (10, y62), (11, y64), (12, y66)]) (a' := [(54, (m48.2 54)), (55, (m48.2 55)), (56, (m48.2 56))]) [7, 8, 9, 10, 11, 12] [] rfl ⟨rfl, rfl, rfl, rfl, rfl, rfl, rfl, rfl, rfl, rfl, rfl, rfl, trivial⟩ ⟨rfl, rfl, rfl, rfl, rfl, rfl, trivial⟩ rfl rfl (by decide) (by decide) ?_
      obtain ⟨g68a, g68b⟩ := g68
      replace h69 : LxP y56 y58 y60 (m.1 6) y62 := h69
      replace h70 : (m48.1 8) ≤ y58 := h70
      replace h71 : y62 = 0 → (m48.1 10) = 0 ∧ (m48.1 8) + (m48.1 9) ≤ y58 := h71
      replace h72 : y62 = 0 → (m48.1 7) = 2 := h72
      replace h73 : (0 : Int) ≤ nu ∧ nu ≤ (8 : Int) := h73
      replace h74 : y62 = 0 → nu = (m48.1 12) := h74
      have hf75 : 1 ≤ y62 := by omega
      clear h71
      clear h72
      clear h74
      have hLx := h69
      clear q50_7 q50_8 q50_9 q50_10 q50_11 q50_12 ic51 ic52 h70
      exact J167_20 nu (mO m [(7, y56), (8, y58), (9, y60), (10, y62), (11, y64), (12, y66)] [(54, (m48.2 54)), (55, (m48.2 55)), (56, (m48.2 56))]) (r32 (by omega) (by omega)) (Ty_mO hT rfl rfl ⟨g57, g59, g61, g63, g65, g67, trivial⟩ ⟨(q50.2.1 54), (q50.2.1 55), (q50.2.1 56), trivial⟩) (show 0 ≤ nu by omega) (show nu ≤ 8 by omega) (show 1 ≤ y62 by omega) (show y62 ≤ 8 by omega)
    have J147_78 : ∀ (s76 : Int) (m77 : mR), (R32 s76) → (Ty m77) → (1 ≤ s76) → (s76 ≤ 4) → (1 ≤ (m77.1 10)) → ((m77.1 10) ≤ 8) → TT w D pm_278 (147, [(0, .ref 189), (1, .int (i32 t))], [.int (i32 s76), .int (i32 t), .ref 225], (mhp (mO m [(7, (m77.1 7)), (8, (m77.1 8)), (9, (m77.1 9)), (10, (m77.1 10)), (11, (m77.1 11)), (12, (m77.1 12))] [(54, (m77.2 54)), (55, (m77.2 55)), (56, (m77.2 56))]) c, N), 0, 0) (Q_takeRoom m c N t) := by
      intro s76 m77 q79 q80 ic81 ic82 ic83 ic84
      obtain ⟨q79a, q79b⟩ := id q79
      have q80_7 : 0 ≤ m77.1 7 ∧ m77.1 7 ≤ 330 := q80.1 7
      have q80_8 : 0 ≤ m77.1 8 ∧ m77.1 8 ≤ 4000 := q80.1 8
      have q80_9 : 0 ≤ m77.1 9 ∧ m77.1 9 ≤ 4000 := q80.1 9
      have q80_10 : 0 ≤ m77.1 10 ∧ m77.1 10 ≤ 8 := q80.1 10
      have q80_11 : (-1) ≤ m77.1 11 ∧ m77.1 11 ≤ 4000 := q80.1 11
      have q80_12 : (-9223372036854775808) ≤ m77.1 12 ∧ m77.1 12 ≤ 9223372036854775807 := q80.1 12
      have G86 : ∀ j, 0 ≤ (upI (m77.2 55) t s76) j ∧ (upI (m77.2 55) t s76) j ≤ 4 := upI_rg (q80.2.1 55) ⟨by omega, by omega⟩
      refine T_iast (a' := [(54, (m77.2 54)), (55, upI (m77.2 55) t s76), (56, (m77.2 56))]) 148 55 (m77.2 55) rfl rfl rfl (by omega) (show t < (8 : Int) by omega) rfl rfl ?_
      refine T_ld 149 (.ref 189) rfl (fun _ => rfl) ?_
      refine T_ld 152 (.int (i32 318)) rfl (fun _ => rfl) ?_
      refine T_call 155 232 [.ref 189, .int (i32 318)] [] rfl (fun _ => rfl) rfl (c_need w (mO m [(7, (m77.1 7)), (8, (m77.1 8)), (9, (m77.1 9)), (10, (m77.1 10)), (11, (m77.1 11)), (12, (m77.1 12))] [(54, (m77.2 54)), (55, upI (m77.2 55) t s76), (56, (m77.2 56))]) c N D (by omega) (Ty_mO hT rfl rfl ⟨(q80.1 7), (q80.1 8), (q80.1 9), (q80.1 10), (q80.1 11), (q80.1 12), trivial⟩ ⟨(q80.2.1 54), G86, (q80.2.1 56), trivial⟩) 318 ⟨by decide, by decide⟩ (show 1 ≤ (318 : Int) by omega) (show LxP (m77.1 7) (m77.1 8) (m77.1 9) (m.1 6) (m77.1 10) by first | exact hLx | (intro h9; exfalso; omega) | (intro h9; have h8 := hLx (by omega); omega))) (fun rr87 k88 => ?_)
      obtain ⟨y89, y91, y93, y95, y97, y99, g90, g92, g94, g96, g98, g100, h101, h102, h103, h104, rfl⟩ := k88
      refine ⟨_, _, rfl, ?_⟩
      refine T_nf2 (st' := []) (l' := [(7, y89), (8, y91), (9, y93), (10, y95), (11, y97), (12, y99)]) (a' := [(54, (m77.2 54)), (55, upI (m77.2 55) t s76), (56, (m77.2 56))]) [7, 8, 9, 10, 11, 12] [] rfl ⟨rfl, rfl, rfl, rfl, rfl, rfl, rfl, rfl, rfl, rfl, rfl, rfl, trivial⟩ ⟨rfl, rfl, rfl, rfl, rfl, rfl, trivial⟩ rfl rfl (by decide) (by decide) ?_
      replace h101 : LxP y89 y91 y93 (m.1 6) y95 := h101
      replace h102 : y95 = 0 → (m77.1 10) = 0 ∧ (m77.1 7) = (318 : Int) := h102
      replace h103 : (m77.1 8) ≤ y91 := h103
      replace h104 : y95 = 0 → (m77.1 8) + (m77.1 9) ≤ y91 := h104
      have hf105 : 1 ≤ y95 := by omega
      clear h102
      clear h104
      have hLx := h101
      clear q80_7 q80_8 q80_9 q80_10 q80_11 q80_12 ic83 ic84 h103
      exact J155_49 (mO m [(7, y89), (8, y91), (9, y93), (10, y95), (11, y97), (12, y99)] [(54, (m77.2 54)), (55, upI (m77.2 55) t s76), (56, (m77.2 56))]) (Ty_mO hT rfl rfl ⟨g90, g92, g94, g96, g98, g100, trivial⟩ ⟨(q80.2.1 54), G86, (q80.2.1 56), trivial⟩) (show 1 ≤ y95 by omega) (show y95 ≤ 8 by omega)
    have J136_107 : ∀ (m106 : mR), (Ty m106) → (1 ≤ (m106.1 10)) → ((m106.1 10) ≤ 8) → TT w D pm_278 (136, [(0, .ref 189), (1, .int (i32 t))], [], (mhp (mO m [(7, (m106.1 7)), (8, (m106.1 8)), (9, (m106.1 9)), (10, (m106.1 10)), (11, (m106.1 11)), (12, (m106.1 12))] [(54, (m106.2 54)), (55, (m106.2 55)), (56, (m106.2 56))]) c, N), 0, 0) (Q_takeRoom m c N t) := by
      intro m106 q108 ic109 ic110
      have q108_7 : 0 ≤ m106.1 7 ∧ m106.1 7 ≤ 330 := q108.1 7
      have q108_8 : 0 ≤ m106.1 8 ∧ m106.1 8 ≤ 4000 := q108.1 8
      have q108_9 : 0 ≤ m106.1 9 ∧ m106.1 9 ≤ 4000 := q108.1 9
      have q108_10 : 0 ≤ m106.1 10 ∧ m106.1 10 ≤ 8 := q108.1 10
      have q108_11 : (-1) ≤ m106.1 11 ∧ m106.1 11 ≤ 4000 := q108.1 11
      have q108_12 : (-9223372036854775808) ≤ m106.1 12 ∧ m106.1 12 ≤ 9223372036854775807 := q108.1 12
      refine T_gf 140 (.ref 225) rfl rfl rfl rfl rfl rfl ?_
      refine T_ld 141 (.int (i32 t)) rfl (fun _ => rfl) ?_
      refine T_ld 142 (.ref 189) rfl (fun _ => rfl) ?_
      refine T_ld 143 (.int (i32 1)) rfl (fun _ => rfl) ?_
      refine T_ld 144 (.int (i32 4)) rfl (fun _ => rfl) ?_
      refine T_call 147 234 [.ref 189, .int (i32 1), .int (i32 4)] [.int (i32 t), .ref 225] rfl (fun _ => rfl) rfl (c_number w (mO m [(7, (m106.1 7)), (8, (m106.1 8)), (9, (m106.1 9)), (10, (m106.1 10)), (11, (m106.1 11)), (12, (m106.1 12))] [(54, (m106.2 54)), (55, (m106.2 55)), (56, (m106.2 56))]) c N D (by omega) (Ty_mO hT rfl rfl ⟨(q108.1 7), (q108.1 8), (q108.1 9), (q108.1 10), (q108.1 11), (q108.1 12), trivial⟩ ⟨(q108.2.1 54), (q108.2.1 55), (q108.2.1 56), trivial⟩) 1 4 ⟨by decide, by decide⟩ ⟨by decide, by decide⟩ (show LxP (m106.1 7) (m106.1 8) (m106.1 9) (m.1 6) (m106.1 10) by first | exact hLx | (intro h9; exfalso; omega) | (intro h9; have h8 := hLx (by omega); omega)) (show (1 : Int) ≤ (4 : Int) by omega)) (fun rr112 k113 => ?_)
      obtain ⟨y114, y116, y118, y120, y122, y124, nu, g115, g117, g119, g121, g123, g125, g126, h127, h128, h129, h130, h131, h132, rfl⟩ := k113
      refine ⟨_, _, rfl, ?_⟩
      refine T_nf2 (st' := [.int (i32 nu), .int (i32 t), .ref 225]) (l' := [(7, y114), (8, y116), (9, y118), (10, y120), (11, y122), (12, y124)]) (a' := [(54, (m106.2 54)), (55, (m106.2 55)), (56, (m106.2 56))]) [7, 8, 9, 10, 11, 12] [] rfl ⟨rfl, rfl, rfl, rfl, rfl, rfl, rfl, rfl, rfl, rfl, rfl, rfl, trivial⟩ ⟨rfl, rfl, rfl, rfl, rfl, rfl, trivial⟩ rfl rfl (by decide) (by decide) ?_
      obtain ⟨g126a, g126b⟩ := g126
      replace h127 : LxP y114 y116 y118 (m.1 6) y120 := h127
      replace h128 : (m106.1 8) ≤ y116 := h128
      replace h129 : y120 = 0 → (m106.1 10) = 0 ∧ (m106.1 8) + (m106.1 9) ≤ y116 := h129
      replace h130 : y120 = 0 → (m106.1 7) = 2 := h130
      replace h131 : (1 : Int) ≤ nu ∧ nu ≤ (4 : Int) := h131
      replace h132 : y120 = 0 → nu = (m106.1 12) := h132
      have hf133 : 1 ≤ y120 := by omega
      clear h129
      clear h130
      clear h132
      have hLx := h127
      clear q108_7 q108_8 q108_9 q108_10 q108_11 q108_12 ic109 ic110 h128
      exact J147_78 nu (mO m [(7, y114), (8, y116), (9, y118), (10, y120), (11, y122), (12, y124)] [(54, (m106.2 54)), (55, (m106.2 55)), (56, (m106.2 56))]) (r32 (by omega) (by omega)) (Ty_mO hT rfl rfl ⟨g115, g117, g119, g121, g123, g125, trivial⟩ ⟨(q108.2.1 54), (q108.2.1 55), (q108.2.1 56), trivial⟩) (show 1 ≤ nu by omega) (show nu ≤ 4 by omega) (show 1 ≤ y120 by omega) (show y120 ≤ 8 by omega)
    have J105_136 : ∀ (s134 : Int) (m135 : mR), (R32 s134) → (Ty m135) → (1 ≤ s134) → (s134 ≤ 32) → (1 ≤ (m135.1 10)) → ((m135.1 10) ≤ 8) → TT w D pm_278 (105, [(0, .ref 189), (1, .int (i32 t))], [.int (i32 s134), .int (i32 t), .ref 224], (mhp (mO m [(7, (m135.1 7)), (8, (m135.1 8)), (9, (m135.1 9)), (10, (m135.1 10)), (11, (m135.1 11)), (12, (m135.1 12))] [(54, (m.2 54)), (55, (m.2 55)), (56, (m.2 56))]) c, N), 0, 0) (Q_takeRoom m c N t) := by
      intro s134 m135 q137 q138 ic139 ic140 ic141 ic142
      obtain ⟨q137a, q137b⟩ := id q137
      have q138_7 : 0 ≤ m135.1 7 ∧ m135.1 7 ≤ 330 := q138.1 7
      have q138_8 : 0 ≤ m135.1 8 ∧ m135.1 8 ≤ 4000 := q138.1 8
      have q138_9 : 0 ≤ m135.1 9 ∧ m135.1 9 ≤ 4000 := q138.1 9
      have q138_10 : 0 ≤ m135.1 10 ∧ m135.1 10 ≤ 8 := q138.1 10
      have q138_11 : (-1) ≤ m135.1 11 ∧ m135.1 11 ≤ 4000 := q138.1 11
      have q138_12 : (-9223372036854775808) ≤ m135.1 12 ∧ m135.1 12 ≤ 9223372036854775807 := q138.1 12
      have G144 : ∀ j, 0 ≤ (upI (m.2 54) t s134) j ∧ (upI (m.2 54) t s134) j ≤ 32 := upI_rg (hT.2.1 54) ⟨by omega, by omega⟩
      refine T_iast (a' := [(54, upI (m.2 54) t s134), (55, (m.2 55)), (56, (m.2 56))]) 106 54 (m.2 54) rfl rfl rfl (by omega) (show t < (8 : Int) by omega) rfl rfl ?_
      refine T_gf 110 (.ref 225) rfl rfl rfl rfl rfl rfl ?_
      refine T_ld 111 (.int (i32 t)) rfl (fun _ => rfl) ?_
      refine T_ld 112 (.int (i32 0)) rfl (fun _ => rfl) ?_
      have G145 : ∀ j, 0 ≤ (upI (m.2 55) t 0) j ∧ (upI (m.2 55) t 0) j ≤ 4 := upI_rg (hT.2.1 55) ⟨by omega, by omega⟩
      refine T_iast (a' := [(54, upI (m.2 54) t s134), (55, upI (m.2 55) t 0), (56, (m.2 56))]) 113 55 (m.2 55) rfl rfl rfl (by omega) (show t < (8 : Int) by omega) rfl rfl ?_
      refine T_gf 117 (.ref 226) rfl rfl rfl rfl rfl rfl ?_
      refine T_ld 118 (.int (i32 t)) rfl (fun _ => rfl) ?_
      refine T_ld 119 (.int (i32 0)) rfl (fun _ => rfl) ?_
      have G146 : ∀ j, 0 ≤ (upI (m.2 56) t 0) j ∧ (upI (m.2 56) t 0) j ≤ 8 := upI_rg (hT.2.1 56) ⟨by omega, by omega⟩
      refine T_iast (a' := [(54, upI (m.2 54) t s134), (55, upI (m.2 55) t 0), (56, upI (m.2 56) t 0)]) 120 56 (m.2 56) rfl rfl rfl (by omega) (show t < (8 : Int) by omega) rfl rfl ?_
      refine T_gf 124 (.ref 228) rfl rfl rfl rfl rfl rfl ?_
      refine T_ld 125 (.int (i32 t)) rfl (fun _ => rfl) ?_
      refine T_bald 126 58 (m.2 58) rfl rfl rfl (by omega) (show t < (8 : Int) by omega) rfl ?_
      have e147 : 0 ≤ m.2 58 t ∧ m.2 58 t ≤ 1 := hT.2.1 58 t
      refine T_if 168 129 rfl rfl rfl (r32 (by omega) (by omega)) (fun (h148 : (m.2 58) t = 0) => ?_) (fun (h148 : ¬ ((m.2 58) t = 0)) => ?_)
      · skip
        refine T_ld 169 (.ref 189) rfl (fun _ => rfl) ?_
        refine T_ld 171 (.int (i32 59)) rfl (fun _ => rfl) ?_
        refine T_call 174 232 [.ref 189, .int (i32 59)] [] rfl (fun _ => rfl) rfl (c_need w (mO m [(7, (m135.1 7)), (8, (m135.1 8)), (9, (m135.1 9)), (10, (m135.1 10)), (11, (m135.1 11)), (12, (m135.1 12))] [(54, upI (m.2 54) t s134), (55, upI (m.2 55) t 0), (56, upI (m.2 56) t 0)]) c N D (by omega) (Ty_mO hT rfl rfl ⟨(q138.1 7), (q138.1 8), (q138.1 9), (q138.1 10), (q138.1 11), (q138.1 12), trivial⟩ ⟨G144, G145, G146, trivial⟩) 59 ⟨by decide, by decide⟩ (show 1 ≤ (59 : Int) by omega) (show LxP (m135.1 7) (m135.1 8) (m135.1 9) (m.1 6) (m135.1 10) by first | exact hLx | (intro h9; exfalso; omega) | (intro h9; have h8 := hLx (by omega); omega))) (fun rr149 k150 => ?_)
        obtain ⟨y151, y153, y155, y157, y159, y161, g152, g154, g156, g158, g160, g162, h163, h164, h165, h166, rfl⟩ := k150
        refine ⟨_, _, rfl, ?_⟩
        refine T_nf2 (st' := []) (l' := [(7, y151), (8, y153), (9, y155), (10, y157), (11, y159), (12, y161)]) (a' := [(54, upI (m.2 54) t s134), (55, upI (m.2 55) t 0), (56, upI (m.2 56) t 0)]) [7, 8, 9, 10, 11, 12] [] rfl ⟨rfl, rfl, rfl, rfl, rfl, rfl, rfl, rfl, rfl, rfl, rfl, rfl, trivial⟩ ⟨rfl, rfl, rfl, rfl, rfl, rfl, trivial⟩ rfl rfl (by decide) (by decide) ?_
        replace h163 : LxP y151 y153 y155 (m.1 6) y157 := h163
        replace h164 : y157 = 0 → (m135.1 10) = 0 ∧ (m135.1 7) = (59 : Int) := h164
        replace h165 : (m135.1 8) ≤ y153 := h165
        replace h166 : y157 = 0 → (m135.1 8) + (m135.1 9) ≤ y153 := h166
        have hf167 : 1 ≤ y157 := by omega
        clear h164
        clear h166
        have hLx := h163
        clear q138_7 q138_8 q138_9 q138_10 q138_11 q138_12 ic141 ic142 h165
        exact J174_13 (mO m [(7, y151), (8, y153), (9, y155), (10, y157), (11, y159), (12, y161)] [(54, upI (m.2 54) t s134), (55, upI (m.2 55) t 0), (56, upI (m.2 56) t 0)]) (Ty_mO hT rfl rfl ⟨g152, g154, g156, g158, g160, g162, trivial⟩ ⟨G144, G145, G146, trivial⟩) (show 1 ≤ y157 by omega) (show y157 ≤ 8 by omega)
      · skip
        refine T_ld 130 (.ref 189) rfl (fun _ => rfl) ?_
        refine T_ld 133 (.int (i32 317)) rfl (fun _ => rfl) ?_
        refine T_call 136 232 [.ref 189, .int (i32 317)] [] rfl (fun _ => rfl) rfl (c_need w (mO m [(7, (m135.1 7)), (8, (m135.1 8)), (9, (m135.1 9)), (10, (m135.1 10)), (11, (m135.1 11)), (12, (m135.1 12))] [(54, upI (m.2 54) t s134), (55, upI (m.2 55) t 0), (56, upI (m.2 56) t 0)]) c N D (by omega) (Ty_mO hT rfl rfl ⟨(q138.1 7), (q138.1 8), (q138.1 9), (q138.1 10), (q138.1 11), (q138.1 12), trivial⟩ ⟨G144, G145, G146, trivial⟩) 317 ⟨by decide, by decide⟩ (show 1 ≤ (317 : Int) by omega) (show LxP (m135.1 7) (m135.1 8) (m135.1 9) (m.1 6) (m135.1 10) by first | exact hLx | (intro h9; exfalso; omega) | (intro h9; have h8 := hLx (by omega); omega))) (fun rr168 k169 => ?_)
        obtain ⟨y170, y172, y174, y176, y178, y180, g171, g173, g175, g177, g179, g181, h182, h183, h184, h185, rfl⟩ := k169
        refine ⟨_, _, rfl, ?_⟩
        refine T_nf2 (st' := []) (l' := [(7, y170), (8, y172), (9, y174), (10, y176), (11, y178), (12, y180)]) (a' := [(54, upI (m.2 54) t s134), (55, upI (m.2 55) t 0), (56, upI (m.2 56) t 0)]) [7, 8, 9, 10, 11, 12] [] rfl ⟨rfl, rfl, rfl, rfl, rfl, rfl, rfl, rfl, rfl, rfl, rfl, rfl, trivial⟩ ⟨rfl, rfl, rfl, rfl, rfl, rfl, trivial⟩ rfl rfl (by decide) (by decide) ?_
        replace h182 : LxP y170 y172 y174 (m.1 6) y176 := h182
        replace h183 : y176 = 0 → (m135.1 10) = 0 ∧ (m135.1 7) = (317 : Int) := h183
        replace h184 : (m135.1 8) ≤ y172 := h184
        replace h185 : y176 = 0 → (m135.1 8) + (m135.1 9) ≤ y172 := h185
        have hf186 : 1 ≤ y176 := by omega
        clear h183
        clear h185
        have hLx := h182
        clear q138_7 q138_8 q138_9 q138_10 q138_11 q138_12 ic141 ic142 h184
        exact J136_107 (mO m [(7, y170), (8, y172), (9, y174), (10, y176), (11, y178), (12, y180)] [(54, upI (m.2 54) t s134), (55, upI (m.2 55) t 0), (56, upI (m.2 56) t 0)]) (Ty_mO hT rfl rfl ⟨g171, g173, g175, g177, g179, g181, trivial⟩ ⟨G144, G145, G146, trivial⟩) (show 1 ≤ y176 by omega) (show y176 ≤ 8 by omega)
    refine T_ld 1 (.ref 189) rfl (fun _ => rfl) ?_
    refine T_ld 4 (.int (i32 316)) rfl (fun _ => rfl) ?_
    refine T_call 7 232 [.ref 189, .int (i32 316)] [] rfl (fun _ => rfl) rfl (c_need w (mO m [(7, (m.1 7)), (8, (m.1 8)), (9, (m.1 9)), (10, (m.1 10)), (11, (m.1 11)), (12, (m.1 12))] [(54, (m.2 54)), (55, (m.2 55)), (56, (m.2 56))]) c N D (by omega) (Ty_mO hT rfl rfl ⟨f7, f8, f9, f10, f11, f12, trivial⟩ ⟨(hT.2.1 54), (hT.2.1 55), (hT.2.1 56), trivial⟩) 316 ⟨by decide, by decide⟩ (show 1 ≤ (316 : Int) by omega) (show LxP (m.1 7) (m.1 8) (m.1 9) (m.1 6) (m.1 10) by first | exact hLx | (intro h9; exfalso; omega) | (intro h9; have h8 := hLx (by omega); omega))) (fun rr187 k188 => ?_)
    obtain ⟨y189, y191, y193, y195, y197, y199, g190, g192, g194, g196, g198, g200, h201, h202, h203, h204, rfl⟩ := k188
    refine ⟨_, _, rfl, ?_⟩
    refine T_nf2 (st' := []) (l' := [(7, y189), (8, y191), (9, y193), (10, y195), (11, y197), (12, y199)]) (a' := [(54, (m.2 54)), (55, (m.2 55)), (56, (m.2 56))]) [7, 8, 9, 10, 11, 12] [] rfl ⟨rfl, rfl, rfl, rfl, rfl, rfl, rfl, rfl, rfl, rfl, rfl, rfl, trivial⟩ ⟨rfl, rfl, rfl, rfl, rfl, rfl, trivial⟩ rfl rfl (by decide) (by decide) ?_
    by_cases hf205 : y195 = 0
    · skip
      subst hf205
      replace h201 : LxP y189 y191 y193 (m.1 6) (0 : Int) := h201
      have hLx := h201
      replace h202 : (m.1 10) = 0 ∧ (m.1 7) = (316 : Int) := h202 rfl
      replace h203 : (m.1 8) ≤ y191 := h203
      replace h204 : (m.1 8) + (m.1 9) ≤ y191 := h204 rfl
      have u206 : (m.1 8) + 1 ≤ y191 := by omega
      clear g196
      have J93_208 : ∀ (m207 : mR), (Ty m207) → ((m207.1 10) = 0 → ((m.2 58) t = 1 → y189 = 2 → 1 ≤ y199 ∧ y199 ≤ 16)) → TT w D pm_278 (93, [(0, .ref 189), (1, .int (i32 t))], [], (mhp (mO m [(7, y189), (8, y191), (9, y193), (10, (m207.1 10)), (11, (m207.1 11)), (12, y199)] [(54, (m.2 54)), (55, (m.2 55)), (56, (m.2 56))]) c, N), 0, 0) (Q_takeRoom m c N t) := by
        intro m207 q209 c210
        have q209_10 : 0 ≤ m207.1 10 ∧ m207.1 10 ≤ 8 := q209.1 10
        have q209_11 : (-1) ≤ m207.1 11 ∧ m207.1 11 ≤ 4000 := q209.1 11
        by_cases hf211 : (m207.1 10) = 0
        · skip
          have c212 := c210 hf211
          clear c210
          refine T_gf 97 (.ref 224) rfl rfl rfl rfl rfl rfl ?_
          refine T_ld 98 (.int (i32 t)) rfl (fun _ => rfl) ?_
          refine T_ld 99 (.ref 189) rfl (fun _ => rfl) ?_
          refine T_ld 100 (.int (i32 1)) rfl (fun _ => rfl) ?_
          refine T_ld 102 (.int (i32 32)) rfl (fun _ => rfl) ?_
          refine T_call 105 234 [.ref 189, .int (i32 1), .int (i32 32)] [.int (i32 t), .ref 224] rfl (fun _ => rfl) rfl (c_number w (mO m [(7, y189), (8, y191), (9, y193), (10, (m207.1 10)), (11, (m207.1 11)), (12, y199)] [(54, (m.2 54)), (55, (m.2 55)), (56, (m.2 56))]) c N D (by omega) (Ty_mO hT rfl rfl ⟨g190, g192, g194, (q209.1 10), (q209.1 11), g200, trivial⟩ ⟨(hT.2.1 54), (hT.2.1 55), (hT.2.1 56), trivial⟩) 1 32 ⟨by decide, by decide⟩ ⟨by decide, by decide⟩ (show LxP y189 y191 y193 (m.1 6) (m207.1 10) by first | exact hLx | (intro h9; exfalso; omega) | (intro h9; have h8 := hLx (by omega); omega)) (show (1 : Int) ≤ (32 : Int) by omega)) (fun rr213 k214 => ?_)
          obtain ⟨y215, y217, y219, y221, y223, y225, nu, g216, g218, g220, g222, g224, g226, g227, h228, h229, h230, h231, h232, h233, rfl⟩ := k214
          refine ⟨_, _, rfl, ?_⟩
          refine T_nf2 (st' := [.int (i32 nu), .int (i32 t), .ref 224]) (l' := [(7, y215), (8, y217), (9, y219), (10, y221), (11, y223), (12, y225)]) (a' := [(54, (m.2 54)), (55, (m.2 55)), (56, (m.2 56))]) [7, 8, 9, 10, 11, 12] [] rfl ⟨rfl, rfl, rfl, rfl, rfl, rfl, rfl, rfl, rfl, rfl, rfl, rfl, trivial⟩ ⟨rfl, rfl, rfl, rfl, rfl, rfl, trivial⟩ rfl rfl (by decide) (by decide) ?_
          obtain ⟨g227a, g227b⟩ := g227
          by_cases hf234 : y221 = 0
          · skip
            subst hf234
            replace h228 : LxP y215 y217 y219 (m.1 6) (0 : Int) := h228
            have hLx := h228
            replace h229 : y191 ≤ y217 := h229
            replace h230 : (m207.1 10) = 0 ∧ y191 + y193 ≤ y217 := h230 rfl
            replace h231 : y189 = 2 := h231 rfl
            replace h232 : (1 : Int) ≤ nu ∧ nu ≤ (32 : Int) := h232
            replace h233 : nu = y199 := h233 rfl
            have u235 : (m.1 8) + 1 ≤ y217 := by omega
            clear g190 g192 g194 g198 g200 h201 h203 h204 u206 q209_10 q209_11 c212 g222 h229 h230 h231 h233
            have G236 : ∀ j, 0 ≤ (upI (m.2 54) t nu) j ∧ (upI (m.2 54) t nu) j ≤ 32 := upI_rg (hT.2.1 54) ⟨by omega, by omega⟩
            refine T_iast (a' := [(54, upI (m.2 54) t nu), (55, (m.2 55)), (56, (m.2 56))]) 106 54 (m.2 54) rfl rfl rfl (by omega) (show t < (8 : Int) by omega) rfl rfl ?_
            refine T_gf 110 (.ref 225) rfl rfl rfl rfl rfl rfl ?_
            refine T_ld 111 (.int (i32 t)) rfl (fun _ => rfl) ?_
            refine T_ld 112 (.int (i32 0)) rfl (fun _ => rfl) ?_
            have G237 : ∀ j, 0 ≤ (upI (m.2 55) t 0) j ∧ (upI (m.2 55) t 0) j ≤ 4 := upI_rg (hT.2.1 55) ⟨by omega, by omega⟩
            refine T_iast (a' := [(54, upI (m.2 54) t nu), (55, upI (m.2 55) t 0), (56, (m.2 56))]) 113 55 (m.2 55) rfl rfl rfl (by omega) (show t < (8 : Int) by omega) rfl rfl ?_
            refine T_gf 117 (.ref 226) rfl rfl rfl rfl rfl rfl ?_
            refine T_ld 118 (.int (i32 t)) rfl (fun _ => rfl) ?_
            refine T_ld 119 (.int (i32 0)) rfl (fun _ => rfl) ?_
            have G238 : ∀ j, 0 ≤ (upI (m.2 56) t 0) j ∧ (upI (m.2 56) t 0) j ≤ 8 := upI_rg (hT.2.1 56) ⟨by omega, by omega⟩
            refine T_iast (a' := [(54, upI (m.2 54) t nu), (55, upI (m.2 55) t 0), (56, upI (m.2 56) t 0)]) 120 56 (m.2 56) rfl rfl rfl (by omega) (show t < (8 : Int) by omega) rfl rfl ?_
            refine T_gf 124 (.ref 228) rfl rfl rfl rfl rfl rfl ?_
            refine T_ld 125 (.int (i32 t)) rfl (fun _ => rfl) ?_
            refine T_bald 126 58 (m.2 58) rfl rfl rfl (by omega) (show t < (8 : Int) by omega) rfl ?_
            have e239 : 0 ≤ m.2 58 t ∧ m.2 58 t ≤ 1 := hT.2.1 58 t
            refine T_if 168 129 rfl rfl rfl (r32 (by omega) (by omega)) (fun (h240 : (m.2 58) t = 0) => ?_) (fun (h240 : ¬ ((m.2 58) t = 0)) => ?_)
            · skip
              refine T_ld 169 (.ref 189) rfl (fun _ => rfl) ?_
              refine T_ld 171 (.int (i32 59)) rfl (fun _ => rfl) ?_
              refine T_call 174 232 [.ref 189, .int (i32 59)] [] rfl (fun _ => rfl) rfl (c_need w (mO m [(7, y215), (8, y217), (9, y219), (10, 0), (11, y223), (12, y225)] [(54, upI (m.2 54) t nu), (55, upI (m.2 55) t 0), (56, upI (m.2 56) t 0)]) c N D (by omega) (Ty_mO hT rfl rfl ⟨g216, g218, g220, ⟨(by omega : (0 : Int) ≤ 0), (by omega : (0 : Int) ≤ 8)⟩, g224, g226, trivial⟩ ⟨G236, G237, G238, trivial⟩) 59 ⟨by decide, by decide⟩ (show 1 ≤ (59 : Int) by omega) (show LxP y215 y217 y219 (m.1 6) (0 : Int) by first | exact hLx | (intro h9; exfalso; omega) | (intro h9; have h8 := hLx (by omega); omega))) (fun rr241 k242 => ?_)
              obtain ⟨y243, y245, y247, y249, y251, y253, g244, g246, g248, g250, g252, g254, h255, h256, h257, h258, rfl⟩ := k242
              refine ⟨_, _, rfl, ?_⟩
              refine T_nf2 (st' := []) (l' := [(7, y243), (8, y245), (9, y247), (10, y249), (11, y251), (12, y253)]) (a' := [(54, upI (m.2 54) t nu), (55, upI (m.2 55) t 0), (56, upI (m.2 56) t 0)]) [7, 8, 9, 10, 11, 12] [] rfl ⟨rfl, rfl, rfl, rfl, rfl, rfl, rfl, rfl, rfl, rfl, rfl, rfl, trivial⟩ ⟨rfl, rfl, rfl, rfl, rfl, rfl, trivial⟩ rfl rfl (by decide) (by decide) ?_
              by_cases hf259 : y249 = 0
              · skip
                subst hf259
                replace h255 : LxP y243 y245 y247 (m.1 6) (0 : Int) := h255
                have hLx := h255
                replace h256 : (0 : Int) = 0 ∧ y215 = (59 : Int) := h256 rfl
                replace h257 : y217 ≤ y245 := h257
                replace h258 : y217 + y219 ≤ y245 := h258 rfl
                have u260 : (m.1 8) + 1 ≤ y245 := by omega
                clear g216 g218 g220 g224 g226 h228 u235 g250 h256 h257 h258
                refine T_ret rfl (fun _ => rfl) ?_
                exact ⟨(mO m [(7, y243), (8, y245), (9, y247), (10, 0), (11, y251), (12, y253)] [(54, upI (m.2 54) t nu), (55, upI (m.2 55) t 0), (56, upI (m.2 56) t 0)]), (Ty_mO hT rfl rfl ⟨g244, g246, g248, ⟨(by omega : (0 : Int) ≤ 0), (by omega : (0 : Int) ≤ 8)⟩, g252, g254, trivial⟩ ⟨G236, G237, G238, trivial⟩), (show (0 : Int) = 0 → (m.1 10) = 0 by omega), (show LxP y243 y245 y247 (m.1 6) (0 : Int) by first | (first | exact hLx | exact (fun _ => hLx (by omega)) | (intro h9; exfalso; omega)) | (exfalso; omega)), (fun _ => ⟨(show (m.1 8) + 1 ≤ y245 by omega), (show 1 ≤ (upI (m.2 54) t nu) t by first | (rw [upI_s]; omega) | (exfalso; omega)), (show (m.2 58) t = 1 → (upI (m.2 54) t nu) t ≤ 16 by first | (intro h; rw [upI_s]; omega) | (exfalso; omega)), (show agr (m.2 54) (upI (m.2 54) t nu) t by first | (exact agr_u (Int.le_refl _)) | (exfalso; omega))⟩), rfl⟩
              · skip
                replace h255 : LxP y243 y245 y247 (m.1 6) y249 := h255
                have hLx := h255
                clear h256
                replace h257 : y217 ≤ y245 := h257
                clear h258
                have hf261 : 1 ≤ y249 := by omega
                clear g216 g218 g220 g224 g226 h228 u235 h257
                exact J174_13 (mO m [(7, y243), (8, y245), (9, y247), (10, y249), (11, y251), (12, y253)] [(54, upI (m.2 54) t nu), (55, upI (m.2 55) t 0), (56, upI (m.2 56) t 0)]) (Ty_mO hT rfl rfl ⟨g244, g246, g248, g250, g252, g254, trivial⟩ ⟨G236, G237, G238, trivial⟩) (show 1 ≤ y249 by omega) (show y249 ≤ 8 by omega)
            · skip
              refine T_ld 130 (.ref 189) rfl (fun _ => rfl) ?_
              refine T_ld 133 (.int (i32 317)) rfl (fun _ => rfl) ?_
              refine T_call 136 232 [.ref 189, .int (i32 317)] [] rfl (fun _ => rfl) rfl (c_need w (mO m [(7, y215), (8, y217), (9, y219), (10, 0), (11, y223), (12, y225)] [(54, upI (m.2 54) t nu), (55, upI (m.2 55) t 0), (56, upI (m.2 56) t 0)]) c N D (by omega) (Ty_mO hT rfl rfl ⟨g216, g218, g220, ⟨(by omega : (0 : Int) ≤ 0), (by omega : (0 : Int) ≤ 8)⟩, g224, g226, trivial⟩ ⟨G236, G237, G238, trivial⟩) 317 ⟨by decide, by decide⟩ (show 1 ≤ (317 : Int) by omega) (show LxP y215 y217 y219 (m.1 6) (0 : Int) by first | exact hLx | (intro h9; exfalso; omega) | (intro h9; have h8 := hLx (by omega); omega))) (fun rr262 k263 => ?_)
              obtain ⟨y264, y266, y268, y270, y272, y274, g265, g267, g269, g271, g273, g275, h276, h277, h278, h279, rfl⟩ := k263
              refine ⟨_, _, rfl, ?_⟩
              refine T_nf2 (st' := []) (l' := [(7, y264), (8, y266), (9, y268), (10, y270), (11, y272), (12, y274)]) (a' := [(54, upI (m.2 54) t nu), (55, upI (m.2 55) t 0), (56, upI (m.2 56) t 0)]) [7, 8, 9, 10, 11, 12] [] rfl ⟨rfl, rfl, rfl, rfl, rfl, rfl, rfl, rfl, rfl, rfl, rfl, rfl, trivial⟩ ⟨rfl, rfl, rfl, rfl, rfl, rfl, trivial⟩ rfl rfl (by decide) (by decide) ?_
              by_cases hf280 : y270 = 0
              · skip
                subst hf280
                replace h276 : LxP y264 y266 y268 (m.1 6) (0 : Int) := h276
                have hLx := h276
                replace h277 : (0 : Int) = 0 ∧ y215 = (317 : Int) := h277 rfl
                replace h278 : y217 ≤ y266 := h278
                replace h279 : y217 + y219 ≤ y266 := h279 rfl
                have u281 : (m.1 8) + 1 ≤ y266 := by omega
                clear g216 g218 g220 g224 g226 h228 u235 g271 h277 h278 h279
                refine T_gf 140 (.ref 225) rfl rfl rfl rfl rfl rfl ?_
                refine T_ld 141 (.int (i32 t)) rfl (fun _ => rfl) ?_
                refine T_ld 142 (.ref 189) rfl (fun _ => rfl) ?_
                refine T_ld 143 (.int (i32 1)) rfl (fun _ => rfl) ?_
                refine T_ld 144 (.int (i32 4)) rfl (fun _ => rfl) ?_
                refine T_call 147 234 [.ref 189, .int (i32 1), .int (i32 4)] [.int (i32 t), .ref 225] rfl (fun _ => rfl) rfl (c_number w (mO m [(7, y264), (8, y266), (9, y268), (10, 0), (11, y272), (12, y274)] [(54, upI (m.2 54) t nu), (55, upI (m.2 55) t 0), (56, upI (m.2 56) t 0)]) c N D (by omega) (Ty_mO hT rfl rfl ⟨g265, g267, g269, ⟨(by omega : (0 : Int) ≤ 0), (by omega : (0 : Int) ≤ 8)⟩, g273, g275, trivial⟩ ⟨G236, G237, G238, trivial⟩) 1 4 ⟨by decide, by decide⟩ ⟨by decide, by decide⟩ (show LxP y264 y266 y268 (m.1 6) (0 : Int) by first | exact hLx | (intro h9; exfalso; omega) | (intro h9; have h8 := hLx (by omega); omega)) (show (1 : Int) ≤ (4 : Int) by omega)) (fun rr282 k283 => ?_)
                obtain ⟨y284, y286, y288, y290, y292, y294, nu296, g285, g287, g289, g291, g293, g295, g297, h298, h299, h300, h301, h302, h303, rfl⟩ := k283
                refine ⟨_, _, rfl, ?_⟩
                refine T_nf2 (st' := [.int (i32 nu296), .int (i32 t), .ref 225]) (l' := [(7, y284), (8, y286), (9, y288), (10, y290), (11, y292), (12, y294)]) (a' := [(54, upI (m.2 54) t nu), (55, upI (m.2 55) t 0), (56, upI (m.2 56) t 0)]) [7, 8, 9, 10, 11, 12] [] rfl ⟨rfl, rfl, rfl, rfl, rfl, rfl, rfl, rfl, rfl, rfl, rfl, rfl, trivial⟩ ⟨rfl, rfl, rfl, rfl, rfl, rfl, trivial⟩ rfl rfl (by decide) (by decide) ?_
                obtain ⟨g297a, g297b⟩ := g297
                by_cases hf304 : y290 = 0
                · skip
                  subst hf304
                  replace h298 : LxP y284 y286 y288 (m.1 6) (0 : Int) := h298
                  have hLx := h298
                  replace h299 : y266 ≤ y286 := h299
                  replace h300 : (0 : Int) = 0 ∧ y266 + y268 ≤ y286 := h300 rfl
                  replace h301 : y264 = 2 := h301 rfl
                  replace h302 : (1 : Int) ≤ nu296 ∧ nu296 ≤ (4 : Int) := h302
                  replace h303 : nu296 = y274 := h303 rfl
                  have u305 : (m.1 8) + 1 ≤ y286 := by omega
                  clear g265 g267 g269 g273 g275 h276 u281 g291 h299 h300 h301 h303
                  have G306 : ∀ j, 0 ≤ (upI (upI (m.2 55) t 0) t nu296) j ∧ (upI (upI (m.2 55) t 0) t nu296) j ≤ 4 := upI_rg G237 ⟨by omega, by omega⟩
                  refine T_iast (a' := [(54, upI (m.2 54) t nu), (55, upI (upI (m.2 55) t 0) t nu296), (56, upI (m.2 56) t 0)]) 148 55 (upI (m.2 55) t 0) rfl rfl rfl (by omega) (show t < (8 : Int) by omega) rfl rfl ?_
                  refine T_ld 149 (.ref 189) rfl (fun _ => rfl) ?_
                  refine T_ld 152 (.int (i32 318)) rfl (fun _ => rfl) ?_
                  refine T_call 155 232 [.ref 189, .int (i32 318)] [] rfl (fun _ => rfl) rfl (c_need w (mO m [(7, y284), (8, y286), (9, y288), (10, 0), (11, y292), (12, y294)] [(54, upI (m.2 54) t nu), (55, upI (upI (m.2 55) t 0) t nu296), (56, upI (m.2 56) t 0)]) c N D (by omega) (Ty_mO hT rfl rfl ⟨g285, g287, g289, ⟨(by omega : (0 : Int) ≤ 0), (by omega : (0 : Int) ≤ 8)⟩, g293, g295, trivial⟩ ⟨G236, G306, G238, trivial⟩) 318 ⟨by decide, by decide⟩ (show 1 ≤ (318 : Int) by omega) (show LxP y284 y286 y288 (m.1 6) (0 : Int) by first | exact hLx | (intro h9; exfalso; omega) | (intro h9; have h8 := hLx (by omega); omega))) (fun rr307 k308 => ?_)
                  obtain ⟨y309, y311, y313, y315, y317, y319, g310, g312, g314, g316, g318, g320, h321, h322, h323, h324, rfl⟩ := k308
                  refine ⟨_, _, rfl, ?_⟩
                  refine T_nf2 (st' := []) (l' := [(7, y309), (8, y311), (9, y313), (10, y315), (11, y317), (12, y319)]) (a' := [(54, upI (m.2 54) t nu), (55, upI (upI (m.2 55) t 0) t nu296), (56, upI (m.2 56) t 0)]) [7, 8, 9, 10, 11, 12] [] rfl ⟨rfl, rfl, rfl, rfl, rfl, rfl, rfl, rfl, rfl, rfl, rfl, rfl, trivial⟩ ⟨rfl, rfl, rfl, rfl, rfl, rfl, trivial⟩ rfl rfl (by decide) (by decide) ?_
                  by_cases hf325 : y315 = 0
                  · skip
                    subst hf325
                    replace h321 : LxP y309 y311 y313 (m.1 6) (0 : Int) := h321
                    have hLx := h321
                    replace h322 : (0 : Int) = 0 ∧ y284 = (318 : Int) := h322 rfl
                    replace h323 : y286 ≤ y311 := h323
                    replace h324 : y286 + y288 ≤ y311 := h324 rfl
                    have u326 : (m.1 8) + 1 ≤ y311 := by omega
                    clear g285 g287 g289 g293 g295 h298 u305 g316 h322 h323 h324
                    refine T_gf 159 (.ref 226) rfl rfl rfl rfl rfl rfl ?_
                    refine T_ld 160 (.int (i32 t)) rfl (fun _ => rfl) ?_
                    refine T_ld 161 (.ref 189) rfl (fun _ => rfl) ?_
                    refine T_ld 162 (.int (i32 0)) rfl (fun _ => rfl) ?_
                    refine T_ld 164 (.int (i32 8)) rfl (fun _ => rfl) ?_
                    refine T_call 167 234 [.ref 189, .int (i32 0), .int (i32 8)] [.int (i32 t), .ref 226] rfl (fun _ => rfl) rfl (c_number w (mO m [(7, y309), (8, y311), (9, y313), (10, 0), (11, y317), (12, y319)] [(54, upI (m.2 54) t nu), (55, upI (upI (m.2 55) t 0) t nu296), (56, upI (m.2 56) t 0)]) c N D (by omega) (Ty_mO hT rfl rfl ⟨g310, g312, g314, ⟨(by omega : (0 : Int) ≤ 0), (by omega : (0 : Int) ≤ 8)⟩, g318, g320, trivial⟩ ⟨G236, G306, G238, trivial⟩) 0 8 ⟨by decide, by decide⟩ ⟨by decide, by decide⟩ (show LxP y309 y311 y313 (m.1 6) (0 : Int) by first | exact hLx | (intro h9; exfalso; omega) | (intro h9; have h8 := hLx (by omega); omega)) (show (0 : Int) ≤ (8 : Int) by omega)) (fun rr327 k328 => ?_)
                    obtain ⟨y329, y331, y333, y335, y337, y339, nu341, g330, g332, g334, g336, g338, g340, g342, h343, h344, h345, h346, h347, h348, rfl⟩ := k328
                    refine ⟨_, _, rfl, ?_⟩
                    refine T_nf2 (st' := [.int (i32 nu341), .int (i32 t), .ref 226]) (l' := [(7, y329), (8, y331), (9, y333), (10, y335), (11, y337), (12, y339)]) (a' := [(54, upI (m.2 54) t nu), (55, upI (upI (m.2 55) t 0) t nu296), (56, upI (m.2 56) t 0)]) [7, 8, 9, 10, 11, 12] [] rfl ⟨rfl, rfl, rfl, rfl, rfl, rfl, rfl, rfl, rfl, rfl, rfl, rfl, trivial⟩ ⟨rfl, rfl, rfl, rfl, rfl, rfl, trivial⟩ rfl rfl (by decide) (by decide) ?_
                    obtain ⟨g342a, g342b⟩ := g342
                    by_cases hf349 : y335 = 0
                    · skip
                      subst hf349
                      replace h343 : LxP y329 y331 y333 (m.1 6) (0 : Int) := h343
                      have hLx := h343
                      replace h344 : y311 ≤ y331 := h344
                      replace h345 : (0 : Int) = 0 ∧ y311 + y313 ≤ y331 := h345 rfl
                      replace h346 : y309 = 2 := h346 rfl
                      replace h347 : (0 : Int) ≤ nu341 ∧ nu341 ≤ (8 : Int) := h347
                      replace h348 : nu341 = y319 := h348 rfl
                      have u350 : (m.1 8) + 1 ≤ y331 := by omega
                      clear g310 g312 g314 g318 g320 h321 u326 g336 h344 h345 h346 h348
                      have G351 : ∀ j, 0 ≤ (upI (upI (m.2 56) t 0) t nu341) j ∧ (upI (upI (m.2 56) t 0) t nu341) j ≤ 8 := upI_rg G238 ⟨by omega, by omega⟩
                      refine T_iast (a' := [(54, upI (m.2 54) t nu), (55, upI (upI (m.2 55) t 0) t nu296), (56, upI (upI (m.2 56) t 0) t nu341)]) 168 56 (upI (m.2 56) t 0) rfl rfl rfl (by omega) (show t < (8 : Int) by omega) rfl rfl ?_
                      refine T_ld 169 (.ref 189) rfl (fun _ => rfl) ?_
                      refine T_ld 171 (.int (i32 59)) rfl (fun _ => rfl) ?_
                      refine T_call 174 232 [.ref 189, .int (i32 59)] [] rfl (fun _ => rfl) rfl (c_need w (mO m [(7, y329), (8, y331), (9, y333), (10, 0), (11, y337), (12, y339)] [(54, upI (m.2 54) t nu), (55, upI (upI (m.2 55) t 0) t nu296), (56, upI (upI (m.2 56) t 0) t nu341)]) c N D (by omega) (Ty_mO hT rfl rfl ⟨g330, g332, g334, ⟨(by omega : (0 : Int) ≤ 0), (by omega : (0 : Int) ≤ 8)⟩, g338, g340, trivial⟩ ⟨G236, G306, G351, trivial⟩) 59 ⟨by decide, by decide⟩ (show 1 ≤ (59 : Int) by omega) (show LxP y329 y331 y333 (m.1 6) (0 : Int) by first | exact hLx | (intro h9; exfalso; omega) | (intro h9; have h8 := hLx (by omega); omega))) (fun rr352 k353 => ?_)
                      obtain ⟨y354, y356, y358, y360, y362, y364, g355, g357, g359, g361, g363, g365, h366, h367, h368, h369, rfl⟩ := k353
                      refine ⟨_, _, rfl, ?_⟩
                      refine T_nf2 (st' := []) (l' := [(7, y354), (8, y356), (9, y358), (10, y360), (11, y362), (12, y364)]) (a' := [(54, upI (m.2 54) t nu), (55, upI (upI (m.2 55) t 0) t nu296), (56, upI (upI (m.2 56) t 0) t nu341)]) [7, 8, 9, 10, 11, 12] [] rfl ⟨rfl, rfl, rfl, rfl, rfl, rfl, rfl, rfl, rfl, rfl, rfl, rfl, trivial⟩ ⟨rfl, rfl, rfl, rfl, rfl, rfl, trivial⟩ rfl rfl (by decide) (by decide) ?_
                      by_cases hf370 : y360 = 0
                      · skip
                        subst hf370
                        replace h366 : LxP y354 y356 y358 (m.1 6) (0 : Int) := h366
                        have hLx := h366
                        replace h367 : (0 : Int) = 0 ∧ y329 = (59 : Int) := h367 rfl
                        replace h368 : y331 ≤ y356 := h368
                        replace h369 : y331 + y333 ≤ y356 := h369 rfl
                        have u371 : (m.1 8) + 1 ≤ y356 := by omega
                        clear g330 g332 g334 g338 g340 h343 u350 g361 h367 h368 h369
                        refine T_ret rfl (fun _ => rfl) ?_
                        exact ⟨(mO m [(7, y354), (8, y356), (9, y358), (10, 0), (11, y362), (12, y364)] [(54, upI (m.2 54) t nu), (55, upI (upI (m.2 55) t 0) t nu296), (56, upI (upI (m.2 56) t 0) t nu341)]), (Ty_mO hT rfl rfl ⟨g355, g357, g359, ⟨(by omega : (0 : Int) ≤ 0), (by omega : (0 : Int) ≤ 8)⟩, g363, g365, trivial⟩ ⟨G236, G306, G351, trivial⟩), (show (0 : Int) = 0 → (m.1 10) = 0 by omega), (show LxP y354 y356 y358 (m.1 6) (0 : Int) by first | (first | exact hLx | exact (fun _ => hLx (by omega)) | (intro h9; exfalso; omega)) | (exfalso; omega)), (fun _ => ⟨(show (m.1 8) + 1 ≤ y356 by omega), (show 1 ≤ (upI (m.2 54) t nu) t by first | (rw [upI_s]; omega) | (exfalso; omega)), (show (m.2 58) t = 1 → (upI (m.2 54) t nu) t ≤ 16 by first | (intro h; rw [upI_s]; omega) | (exfalso; omega)), (show agr (m.2 54) (upI (m.2 54) t nu) t by first | (exact agr_u (Int.le_refl _)) | (exfalso; omega))⟩), rfl⟩
                      · skip
                        replace h366 : LxP y354 y356 y358 (m.1 6) y360 := h366
                        have hLx := h366
                        clear h367
                        replace h368 : y331 ≤ y356 := h368
                        clear h369
                        have hf372 : 1 ≤ y360 := by omega
                        clear g330 g332 g334 g338 g340 h343 u350 h368
                        exact J174_13 (mO m [(7, y354), (8, y356), (9, y358), (10, y360), (11, y362), (12, y364)] [(54, upI (m.2 54) t nu), (55, upI (upI (m.2 55) t 0) t nu296), (56, upI (upI (m.2 56) t 0) t nu341)]) (Ty_mO hT rfl rfl ⟨g355, g357, g359, g361, g363, g365, trivial⟩ ⟨G236, G306, G351, trivial⟩) (show 1 ≤ y360 by omega) (show y360 ≤ 8 by omega)
                    · skip
                      replace h343 : LxP y329 y331 y333 (m.1 6) y335 := h343
                      have hLx := h343
                      replace h344 : y311 ≤ y331 := h344
                      clear h345
                      clear h346
                      replace h347 : (0 : Int) ≤ nu341 ∧ nu341 ≤ (8 : Int) := h347
                      clear h348
                      have hf373 : 1 ≤ y335 := by omega
                      clear g310 g312 g314 g318 g320 h321 u326 h344
                      exact J167_20 nu341 (mO m [(7, y329), (8, y331), (9, y333), (10, y335), (11, y337), (12, y339)] [(54, upI (m.2 54) t nu), (55, upI (upI (m.2 55) t 0) t nu296), (56, upI (m.2 56) t 0)]) (r32 (by omega) (by omega)) (Ty_mO hT rfl rfl ⟨g330, g332, g334, g336, g338, g340, trivial⟩ ⟨G236, G306, G238, trivial⟩) (show 0 ≤ nu341 by omega) (show nu341 ≤ 8 by omega) (show 1 ≤ y335 by omega) (show y335 ≤ 8 by omega)
                  · skip
                    replace h321 : LxP y309 y311 y313 (m.1 6) y315 := h321
                    have hLx := h321
                    clear h322
                    replace h323 : y286 ≤ y311 := h323
                    clear h324
                    have hf374 : 1 ≤ y315 := by omega
                    clear g285 g287 g289 g293 g295 h298 u305 h323
                    exact J155_49 (mO m [(7, y309), (8, y311), (9, y313), (10, y315), (11, y317), (12, y319)] [(54, upI (m.2 54) t nu), (55, upI (upI (m.2 55) t 0) t nu296), (56, upI (m.2 56) t 0)]) (Ty_mO hT rfl rfl ⟨g310, g312, g314, g316, g318, g320, trivial⟩ ⟨G236, G306, G238, trivial⟩) (show 1 ≤ y315 by omega) (show y315 ≤ 8 by omega)
                · skip
                  replace h298 : LxP y284 y286 y288 (m.1 6) y290 := h298
                  have hLx := h298
                  replace h299 : y266 ≤ y286 := h299
                  clear h300
                  clear h301
                  replace h302 : (1 : Int) ≤ nu296 ∧ nu296 ≤ (4 : Int) := h302
                  clear h303
                  have hf375 : 1 ≤ y290 := by omega
                  clear g265 g267 g269 g273 g275 h276 u281 h299
                  exact J147_78 nu296 (mO m [(7, y284), (8, y286), (9, y288), (10, y290), (11, y292), (12, y294)] [(54, upI (m.2 54) t nu), (55, upI (m.2 55) t 0), (56, upI (m.2 56) t 0)]) (r32 (by omega) (by omega)) (Ty_mO hT rfl rfl ⟨g285, g287, g289, g291, g293, g295, trivial⟩ ⟨G236, G237, G238, trivial⟩) (show 1 ≤ nu296 by omega) (show nu296 ≤ 4 by omega) (show 1 ≤ y290 by omega) (show y290 ≤ 8 by omega)
              · skip
                replace h276 : LxP y264 y266 y268 (m.1 6) y270 := h276
                have hLx := h276
                clear h277
                replace h278 : y217 ≤ y266 := h278
                clear h279
                have hf376 : 1 ≤ y270 := by omega
                clear g216 g218 g220 g224 g226 h228 u235 h278
                exact J136_107 (mO m [(7, y264), (8, y266), (9, y268), (10, y270), (11, y272), (12, y274)] [(54, upI (m.2 54) t nu), (55, upI (m.2 55) t 0), (56, upI (m.2 56) t 0)]) (Ty_mO hT rfl rfl ⟨g265, g267, g269, g271, g273, g275, trivial⟩ ⟨G236, G237, G238, trivial⟩) (show 1 ≤ y270 by omega) (show y270 ≤ 8 by omega)
          · skip
            replace h228 : LxP y215 y217 y219 (m.1 6) y221 := h228
            have hLx := h228
            replace h229 : y191 ≤ y217 := h229
            clear h230
            clear h231
            replace h232 : (1 : Int) ≤ nu ∧ nu ≤ (32 : Int) := h232
            clear h233
            have hf377 : 1 ≤ y221 := by omega
            clear g190 g192 g194 g198 g200 h201 h203 h204 u206 q209_10 q209_11 c212 h229
            exact J105_136 nu (mO m [(7, y215), (8, y217), (9, y219), (10, y221), (11, y223), (12, y225)] [(54, (m.2 54)), (55, (m.2 55)), (56, (m.2 56))]) (r32 (by omega) (by omega)) (Ty_mO hT rfl rfl ⟨g216, g218, g220, g222, g224, g226, trivial⟩ ⟨(hT.2.1 54), (hT.2.1 55), (hT.2.1 56), trivial⟩) (show 1 ≤ nu by omega) (show nu ≤ 32 by omega) (show 1 ≤ y221 by omega) (show y221 ≤ 8 by omega)
        · skip
          clear c210
          have hf378 : 1 ≤ (m207.1 10) := by omega
          refine T_gf 97 (.ref 224) rfl rfl rfl rfl rfl rfl ?_
          refine T_ld 98 (.int (i32 t)) rfl (fun _ => rfl) ?_
          refine T_ld 99 (.ref 189) rfl (fun _ => rfl) ?_
          refine T_ld 100 (.int (i32 1)) rfl (fun _ => rfl) ?_
          refine T_ld 102 (.int (i32 32)) rfl (fun _ => rfl) ?_
          refine T_call 105 234 [.ref 189, .int (i32 1), .int (i32 32)] [.int (i32 t), .ref 224] rfl (fun _ => rfl) rfl (c_number w (mO m [(7, y189), (8, y191), (9, y193), (10, (m207.1 10)), (11, (m207.1 11)), (12, y199)] [(54, (m.2 54)), (55, (m.2 55)), (56, (m.2 56))]) c N D (by omega) (Ty_mO hT rfl rfl ⟨g190, g192, g194, (q209.1 10), (q209.1 11), g200, trivial⟩ ⟨(hT.2.1 54), (hT.2.1 55), (hT.2.1 56), trivial⟩) 1 32 ⟨by decide, by decide⟩ ⟨by decide, by decide⟩ (show LxP y189 y191 y193 (m.1 6) (m207.1 10) by first | exact hLx | (intro h9; exfalso; omega) | (intro h9; have h8 := hLx (by omega); omega)) (show (1 : Int) ≤ (32 : Int) by omega)) (fun rr379 k380 => ?_)
          obtain ⟨y381, y383, y385, y387, y389, y391, nu, g382, g384, g386, g388, g390, g392, g393, h394, h395, h396, h397, h398, h399, rfl⟩ := k380
          refine ⟨_, _, rfl, ?_⟩
          refine T_nf2 (st' := [.int (i32 nu), .int (i32 t), .ref 224]) (l' := [(7, y381), (8, y383), (9, y385), (10, y387), (11, y389), (12, y391)]) (a' := [(54, (m.2 54)), (55, (m.2 55)), (56, (m.2 56))]) [7, 8, 9, 10, 11, 12] [] rfl ⟨rfl, rfl, rfl, rfl, rfl, rfl, rfl, rfl, rfl, rfl, rfl, rfl, trivial⟩ ⟨rfl, rfl, rfl, rfl, rfl, rfl, trivial⟩ rfl rfl (by decide) (by decide) ?_
          obtain ⟨g393a, g393b⟩ := g393
          replace h394 : LxP y381 y383 y385 (m.1 6) y387 := h394
          replace h395 : y191 ≤ y383 := h395
          replace h396 : y387 = 0 → (m207.1 10) = 0 ∧ y191 + y193 ≤ y383 := h396
          replace h397 : y387 = 0 → y189 = 2 := h397
          replace h398 : (1 : Int) ≤ nu ∧ nu ≤ (32 : Int) := h398
          replace h399 : y387 = 0 → nu = y199 := h399
          have hf400 : 1 ≤ y387 := by omega
          clear h396
          clear h397
          clear h399
          have hLx := h394
          clear g190 g192 g194 g198 g200 h201 h203 h204 u206 q209_10 q209_11 hf378 h395
          exact J105_136 nu (mO m [(7, y381), (8, y383), (9, y385), (10, y387), (11, y389), (12, y391)] [(54, (m.2 54)), (55, (m.2 55)), (56, (m.2 56))]) (r32 (by omega) (by omega)) (Ty_mO hT rfl rfl ⟨g382, g384, g386, g388, g390, g392, trivial⟩ ⟨(hT.2.1 54), (hT.2.1 55), (hT.2.1 56), trivial⟩) (show 1 ≤ nu by omega) (show nu ≤ 32 by omega) (show 1 ≤ y387 by omega) (show y387 ≤ 8 by omega)
      refine T_gf 11 (.int (i32 0)) rfl rfl rfl rfl rfl rfl ?_
      refine T_if 93 14 rfl rfl rfl ⟨by decide, by decide⟩ (fun h401 => absurd (show (0 : Int) ≠ 0 from h401) (by decide)) (fun _ => ?_)
      refine T_gf 18 (.ref 228) rfl rfl rfl rfl rfl rfl ?_
      refine T_ld 19 (.int (i32 t)) rfl (fun _ => rfl) ?_
      refine T_bald 20 58 (m.2 58) rfl rfl rfl (by omega) (show t < (8 : Int) by omega) rfl ?_
      have e402 : 0 ≤ m.2 58 t ∧ m.2 58 t ≤ 1 := hT.2.1 58 t
      refine T_if 93 23 rfl rfl rfl (r32 (by omega) (by omega)) (fun (h403 : (m.2 58) t = 0) => ?_) (fun (h403 : ¬ ((m.2 58) t = 0)) => ?_)
      · skip
        exact J93_208 (mO m [(7, y189), (8, y191), (9, y193), (10, 0), (11, y197), (12, y199)] [(54, (m.2 54)), (55, (m.2 55)), (56, (m.2 56))]) (Ty_mO hT rfl rfl ⟨g190, g192, g194, ⟨(by omega : (0 : Int) ≤ 0), (by omega : (0 : Int) ≤ 8)⟩, g198, g200, trivial⟩ ⟨(hT.2.1 54), (hT.2.1 55), (hT.2.1 56), trivial⟩) (fun _ => (show (m.2 58) t = 1 → y189 = 2 → 1 ≤ y199 ∧ y199 ≤ 16 by omega))
      · skip
        refine T_gf 27 (.int (i32 y189)) rfl rfl rfl rfl rfl rfl ?_
        refine T_ld 28 (.int (i32 2)) rfl (fun _ => rfl) ?_
        refine T_icmp 93 31 rfl rfl rfl (r32 (by omega) (by omega)) ⟨by decide, by decide⟩ (fun (h404 : y189 ≠ 2) => ?_) (fun (h404 : ¬ (y189 ≠ 2)) => ?_)
        · skip
          exact J93_208 (mO m [(7, y189), (8, y191), (9, y193), (10, 0), (11, y197), (12, y199)] [(54, (m.2 54)), (55, (m.2 55)), (56, (m.2 56))]) (Ty_mO hT rfl rfl ⟨g190, g192, g194, ⟨(by omega : (0 : Int) ≤ 0), (by omega : (0 : Int) ≤ 8)⟩, g198, g200, trivial⟩ ⟨(hT.2.1 54), (hT.2.1 55), (hT.2.1 56), trivial⟩) (fun _ => (show (m.2 58) t = 1 → y189 = 2 → 1 ≤ y199 ∧ y199 ≤ 16 by omega))
        · skip
          refine T_gf 35 (.long (i64 y199)) rfl rfl rfl rfl rfl rfl ?_
          refine T_ld 36 (.long (i64 1)) rfl (fun _ => rfl) ?_
          refine T_lcmp 37 rfl rfl (r64 (by omega) (by omega)) ⟨by decide, by decide⟩ (fun z405 h406 => ?_)
          obtain ⟨h406a, h406b, h406c, h406d, h406e⟩ := h406
          refine T_if 93 40 rfl rfl rfl (r32 (by omega) (by omega)) (fun (h407 : z405 = 0) => ?_) (fun (h407 : ¬ (z405 = 0)) => ?_)
          · skip
            have hl408 : y199 = 1 := by omega
            exact J93_208 (mO m [(7, y189), (8, y191), (9, y193), (10, 0), (11, y197), (12, y199)] [(54, (m.2 54)), (55, (m.2 55)), (56, (m.2 56))]) (Ty_mO hT rfl rfl ⟨g190, g192, g194, ⟨(by omega : (0 : Int) ≤ 0), (by omega : (0 : Int) ≤ 8)⟩, g198, g200, trivial⟩ ⟨(hT.2.1 54), (hT.2.1 55), (hT.2.1 56), trivial⟩) (fun _ => (show (m.2 58) t = 1 → y189 = 2 → 1 ≤ y199 ∧ y199 ≤ 16 by omega))
          · skip
            have hl409 : y199 ≠ 1 := by omega
            refine T_gf 44 (.long (i64 y199)) rfl rfl rfl rfl rfl rfl ?_
            refine T_ld 47 (.long (i64 2)) rfl (fun _ => rfl) ?_
            refine T_lcmp 48 rfl rfl (r64 (by omega) (by omega)) ⟨by decide, by decide⟩ (fun z410 h411 => ?_)
            obtain ⟨h411a, h411b, h411c, h411d, h411e⟩ := h411
            refine T_if 93 51 rfl rfl rfl (r32 (by omega) (by omega)) (fun (h412 : z410 = 0) => ?_) (fun (h412 : ¬ (z410 = 0)) => ?_)
            · skip
              have hl413 : y199 = 2 := by omega
              exact J93_208 (mO m [(7, y189), (8, y191), (9, y193), (10, 0), (11, y197), (12, y199)] [(54, (m.2 54)), (55, (m.2 55)), (56, (m.2 56))]) (Ty_mO hT rfl rfl ⟨g190, g192, g194, ⟨(by omega : (0 : Int) ≤ 0), (by omega : (0 : Int) ≤ 8)⟩, g198, g200, trivial⟩ ⟨(hT.2.1 54), (hT.2.1 55), (hT.2.1 56), trivial⟩) (fun _ => (show (m.2 58) t = 1 → y189 = 2 → 1 ≤ y199 ∧ y199 ≤ 16 by omega))
            · skip
              have hl414 : y199 ≠ 2 := by omega
              refine T_gf 55 (.long (i64 y199)) rfl rfl rfl rfl rfl rfl ?_
              refine T_ld 58 (.long (i64 4)) rfl (fun _ => rfl) ?_
              refine T_lcmp 59 rfl rfl (r64 (by omega) (by omega)) ⟨by decide, by decide⟩ (fun z415 h416 => ?_)
              obtain ⟨h416a, h416b, h416c, h416d, h416e⟩ := h416
              refine T_if 93 62 rfl rfl rfl (r32 (by omega) (by omega)) (fun (h417 : z415 = 0) => ?_) (fun (h417 : ¬ (z415 = 0)) => ?_)
              · skip
                have hl418 : y199 = 4 := by omega
                exact J93_208 (mO m [(7, y189), (8, y191), (9, y193), (10, 0), (11, y197), (12, y199)] [(54, (m.2 54)), (55, (m.2 55)), (56, (m.2 56))]) (Ty_mO hT rfl rfl ⟨g190, g192, g194, ⟨(by omega : (0 : Int) ≤ 0), (by omega : (0 : Int) ≤ 8)⟩, g198, g200, trivial⟩ ⟨(hT.2.1 54), (hT.2.1 55), (hT.2.1 56), trivial⟩) (fun _ => (show (m.2 58) t = 1 → y189 = 2 → 1 ≤ y199 ∧ y199 ≤ 16 by omega))
              · skip
                have hl419 : y199 ≠ 4 := by omega
                refine T_gf 66 (.long (i64 y199)) rfl rfl rfl rfl rfl rfl ?_
                refine T_ld 69 (.long (i64 8)) rfl (fun _ => rfl) ?_
                refine T_lcmp 70 rfl rfl (r64 (by omega) (by omega)) ⟨by decide, by decide⟩ (fun z420 h421 => ?_)
                obtain ⟨h421a, h421b, h421c, h421d, h421e⟩ := h421
                refine T_if 93 73 rfl rfl rfl (r32 (by omega) (by omega)) (fun (h422 : z420 = 0) => ?_) (fun (h422 : ¬ (z420 = 0)) => ?_)
                · skip
                  have hl423 : y199 = 8 := by omega
                  exact J93_208 (mO m [(7, y189), (8, y191), (9, y193), (10, 0), (11, y197), (12, y199)] [(54, (m.2 54)), (55, (m.2 55)), (56, (m.2 56))]) (Ty_mO hT rfl rfl ⟨g190, g192, g194, ⟨(by omega : (0 : Int) ≤ 0), (by omega : (0 : Int) ≤ 8)⟩, g198, g200, trivial⟩ ⟨(hT.2.1 54), (hT.2.1 55), (hT.2.1 56), trivial⟩) (fun _ => (show (m.2 58) t = 1 → y189 = 2 → 1 ≤ y199 ∧ y199 ≤ 16 by omega))
                · skip
                  have hl424 : y199 ≠ 8 := by omega
                  refine T_gf 77 (.long (i64 y199)) rfl rfl rfl rfl rfl rfl ?_
                  refine T_ld 80 (.long (i64 16)) rfl (fun _ => rfl) ?_
                  refine T_lcmp 81 rfl rfl (r64 (by omega) (by omega)) ⟨by decide, by decide⟩ (fun z425 h426 => ?_)
                  obtain ⟨h426a, h426b, h426c, h426d, h426e⟩ := h426
                  refine T_if 93 84 rfl rfl rfl (r32 (by omega) (by omega)) (fun (h427 : z425 = 0) => ?_) (fun (h427 : ¬ (z425 = 0)) => ?_)
                  · skip
                    have hl428 : y199 = 16 := by omega
                    exact J93_208 (mO m [(7, y189), (8, y191), (9, y193), (10, 0), (11, y197), (12, y199)] [(54, (m.2 54)), (55, (m.2 55)), (56, (m.2 56))]) (Ty_mO hT rfl rfl ⟨g190, g192, g194, ⟨(by omega : (0 : Int) ≤ 0), (by omega : (0 : Int) ≤ 8)⟩, g198, g200, trivial⟩ ⟨(hT.2.1 54), (hT.2.1 55), (hT.2.1 56), trivial⟩) (fun _ => (show (m.2 58) t = 1 → y189 = 2 → 1 ≤ y199 ∧ y199 ≤ 16 by omega))
                  · skip
                    have hl429 : y199 ≠ 16 := by omega
                    refine T_ld 85 (.ref 189) rfl (fun _ => rfl) ?_
                    refine T_ld 86 (.int (i32 5)) rfl (fun _ => rfl) ?_
                    refine T_gf 90 (.int (i32 y191)) rfl rfl rfl rfl rfl rfl ?_
                    refine T_call 93 222 [.ref 189, .int (i32 5), .int (i32 y191)] [] rfl (fun _ => rfl) rfl (c_wrong w (mO m [(7, y189), (8, y191), (9, y193), (10, 0), (11, y197), (12, y199)] [(54, (m.2 54)), (55, (m.2 55)), (56, (m.2 56))]) c N D (by omega) (Ty_mO hT rfl rfl ⟨g190, g192, g194, ⟨(by omega : (0 : Int) ≤ 0), (by omega : (0 : Int) ≤ 8)⟩, g198, g200, trivial⟩ ⟨(hT.2.1 54), (hT.2.1 55), (hT.2.1 56), trivial⟩) 5 y191 ⟨by decide, by decide⟩ (r32 (by omega) (by omega)) (show 1 ≤ (5 : Int) ∧ (5 : Int) ≤ 8 by omega) (show 0 ≤ y191 ∧ y191 ≤ 4000 by omega)) (fun rr430 k431 => ?_)
                    obtain ⟨y432, y434, g433, g435, h436, rfl⟩ := k431
                    refine ⟨_, _, rfl, ?_⟩
                    refine T_nf2 (st' := []) (l' := [(7, y189), (8, y191), (9, y193), (10, y432), (11, y434), (12, y199)]) (a' := [(54, (m.2 54)), (55, (m.2 55)), (56, (m.2 56))]) [10, 11] [] rfl ⟨rfl, rfl, rfl, rfl, rfl, rfl, rfl, rfl, rfl, rfl, rfl, rfl, rfl, rfl, rfl, trivial⟩ ⟨rfl, rfl, rfl, rfl, rfl, rfl, trivial⟩ rfl rfl (by decide) (by decide) ?_
                    replace h436 : (0 < (0 : Int) → y432 = (0 : Int) ∧ y434 = y197) ∧ ((0 : Int) ≤ 0 → y432 = (5 : Int) ∧ y434 = y191) := h436
                    have hf437 : 1 ≤ y432 := by omega
                    clear g198 h406a h406b h406c h406d h406e h407 h411a h411b h411c h411d h411e h412 h416a h416b h416c h416d h416e h417 h421a h421b h421c h421d h421e h422 h426a h426b h426c h426d h426e h427 h436
                    exact J93_208 (mO m [(7, y189), (8, y191), (9, y193), (10, y432), (11, y434), (12, y199)] [(54, (m.2 54)), (55, (m.2 55)), (56, (m.2 56))]) (Ty_mO hT rfl rfl ⟨g190, g192, g194, g433, g435, g200, trivial⟩ ⟨(hT.2.1 54), (hT.2.1 55), (hT.2.1 56), trivial⟩) (fun (h : y432 = 0) => absurd h (by omega))
    · skip
      replace h201 : LxP y189 y191 y193 (m.1 6) y195 := h201
      have hLx := h201
      clear h202
      replace h203 : (m.1 8) ≤ y191 := h203
      clear h204
      have hf438 : 1 ≤ y195 := by omega
      refine T_gf 11 (.int (i32 y195)) rfl rfl rfl rfl rfl rfl ?_
      refine T_if 93 14 rfl rfl rfl (r32 (by omega) (by omega)) (fun (h439 : y195 ≠ 0) => ?_) (fun (h439 : ¬ (y195 ≠ 0)) => by exfalso; omega)
      refine T_gf 97 (.ref 224) rfl rfl rfl rfl rfl rfl ?_
      refine T_ld 98 (.int (i32 t)) rfl (fun _ => rfl) ?_
      refine T_ld 99 (.ref 189) rfl (fun _ => rfl) ?_
      refine T_ld 100 (.int (i32 1)) rfl (fun _ => rfl) ?_
      refine T_ld 102 (.int (i32 32)) rfl (fun _ => rfl) ?_
      refine T_call 105 234 [.ref 189, .int (i32 1), .int (i32 32)] [.int (i32 t), .ref 224] rfl (fun _ => rfl) rfl (c_number w (mO m [(7, y189), (8, y191), (9, y193), (10, y195), (11, y197), (12, y199)] [(54, (m.2 54)), (55, (m.2 55)), (56, (m.2 56))]) c N D (by omega) (Ty_mO hT rfl rfl ⟨g190, g192, g194, g196, g198, g200, trivial⟩ ⟨(hT.2.1 54), (hT.2.1 55), (hT.2.1 56), trivial⟩) 1 32 ⟨by decide, by decide⟩ ⟨by decide, by decide⟩ (show LxP y189 y191 y193 (m.1 6) y195 by first | exact hLx | (intro h9; exfalso; omega) | (intro h9; have h8 := hLx (by omega); omega)) (show (1 : Int) ≤ (32 : Int) by omega)) (fun rr440 k441 => ?_)
      obtain ⟨y442, y444, y446, y448, y450, y452, nu, g443, g445, g447, g449, g451, g453, g454, h455, h456, h457, h458, h459, h460, rfl⟩ := k441
      refine ⟨_, _, rfl, ?_⟩
      refine T_nf2 (st' := [.int (i32 nu), .int (i32 t), .ref 224]) (l' := [(7, y442), (8, y444), (9, y446), (10, y448), (11, y450), (12, y452)]) (a' := [(54, (m.2 54)), (55, (m.2 55)), (56, (m.2 56))]) [7, 8, 9, 10, 11, 12] [] rfl ⟨rfl, rfl, rfl, rfl, rfl, rfl, rfl, rfl, rfl, rfl, rfl, rfl, trivial⟩ ⟨rfl, rfl, rfl, rfl, rfl, rfl, trivial⟩ rfl rfl (by decide) (by decide) ?_
      obtain ⟨g454a, g454b⟩ := g454
      replace h455 : LxP y442 y444 y446 (m.1 6) y448 := h455
      replace h456 : y191 ≤ y444 := h456
      replace h457 : y448 = 0 → y195 = 0 ∧ y191 + y193 ≤ y444 := h457
      replace h458 : y448 = 0 → y189 = 2 := h458
      replace h459 : (1 : Int) ≤ nu ∧ nu ≤ (32 : Int) := h459
      replace h460 : y448 = 0 → nu = y199 := h460
      have hf461 : 1 ≤ y448 := by omega
      clear h457
      clear h458
      clear h460
      have hLx := h455
      clear g190 g192 g194 g196 g198 g200 h201 h203 hf438 h439 h456
      exact J105_136 nu (mO m [(7, y442), (8, y444), (9, y446), (10, y448), (11, y450), (12, y452)] [(54, (m.2 54)), (55, (m.2 55)), (56, (m.2 56))]) (r32 (by omega) (by omega)) (Ty_mO hT rfl rfl ⟨g443, g445, g447, g449, g451, g453, trivial⟩ ⟨(hT.2.1 54), (hT.2.1 55), (hT.2.1 56), trivial⟩) (show 1 ≤ nu by omega) (show nu ≤ 32 by omega) (show 1 ≤ y448 by omega) (show y448 ≤ 8 by omega)
  · skip
    clear hC
    refine T_ld 1 (.ref 189) rfl (fun _ => rfl) ?_
    refine T_ld 4 (.int (i32 316)) rfl (fun _ => rfl) ?_
    refine T_call 7 232 [.ref 189, .int (i32 316)] [] rfl (fun _ => rfl) rfl (c_need w (mO m [(7, (m.1 7)), (8, (m.1 8)), (9, (m.1 9)), (10, (m.1 10)), (11, (m.1 11)), (12, (m.1 12))] [(54, (m.2 54)), (55, (m.2 55)), (56, (m.2 56))]) c N D (by omega) (Ty_mO hT rfl rfl ⟨f7, f8, f9, f10, f11, f12, trivial⟩ ⟨(hT.2.1 54), (hT.2.1 55), (hT.2.1 56), trivial⟩) 316 ⟨by decide, by decide⟩ (show 1 ≤ (316 : Int) by omega) (show LxP (m.1 7) (m.1 8) (m.1 9) (m.1 6) (m.1 10) by first | exact hLx | (intro h9; exfalso; omega) | (intro h9; have h8 := hLx (by omega); omega))) (fun rr462 k463 => ?_)
    obtain ⟨y464, y466, y468, y470, y472, y474, g465, g467, g469, g471, g473, g475, h476, h477, h478, h479, rfl⟩ := k463
    refine ⟨_, _, rfl, ?_⟩
    refine T_nf2 (st' := []) (l' := [(7, y464), (8, y466), (9, y468), (10, y470), (11, y472), (12, y474)]) (a' := [(54, (m.2 54)), (55, (m.2 55)), (56, (m.2 56))]) [7, 8, 9, 10, 11, 12] [] rfl ⟨rfl, rfl, rfl, rfl, rfl, rfl, rfl, rfl, rfl, rfl, rfl, rfl, trivial⟩ ⟨rfl, rfl, rfl, rfl, rfl, rfl, trivial⟩ rfl rfl (by decide) (by decide) ?_
    replace h476 : LxP y464 y466 y468 (m.1 6) y470 := h476
    replace h477 : y470 = 0 → (m.1 10) = 0 ∧ (m.1 7) = (316 : Int) := h477
    replace h478 : (m.1 8) ≤ y466 := h478
    replace h479 : y470 = 0 → (m.1 8) + (m.1 9) ≤ y466 := h479
    have hf480 : 1 ≤ y470 := by omega
    clear h477
    clear h479
    have hLx := h476
    refine T_gf 11 (.int (i32 y470)) rfl rfl rfl rfl rfl rfl ?_
    refine T_if 93 14 rfl rfl rfl (r32 (by omega) (by omega)) (fun (h481 : y470 ≠ 0) => ?_) (fun (h481 : ¬ (y470 ≠ 0)) => by exfalso; omega)
    refine T_gf 97 (.ref 224) rfl rfl rfl rfl rfl rfl ?_
    refine T_ld 98 (.int (i32 t)) rfl (fun _ => rfl) ?_
    refine T_ld 99 (.ref 189) rfl (fun _ => rfl) ?_
    refine T_ld 100 (.int (i32 1)) rfl (fun _ => rfl) ?_
    refine T_ld 102 (.int (i32 32)) rfl (fun _ => rfl) ?_
    refine T_call 105 234 [.ref 189, .int (i32 1), .int (i32 32)] [.int (i32 t), .ref 224] rfl (fun _ => rfl) rfl (c_number w (mO m [(7, y464), (8, y466), (9, y468), (10, y470), (11, y472), (12, y474)] [(54, (m.2 54)), (55, (m.2 55)), (56, (m.2 56))]) c N D (by omega) (Ty_mO hT rfl rfl ⟨g465, g467, g469, g471, g473, g475, trivial⟩ ⟨(hT.2.1 54), (hT.2.1 55), (hT.2.1 56), trivial⟩) 1 32 ⟨by decide, by decide⟩ ⟨by decide, by decide⟩ (show LxP y464 y466 y468 (m.1 6) y470 by first | exact hLx | (intro h9; exfalso; omega) | (intro h9; have h8 := hLx (by omega); omega)) (show (1 : Int) ≤ (32 : Int) by omega)) (fun rr482 k483 => ?_)
    obtain ⟨y484, y486, y488, y490, y492, y494, nu, g485, g487, g489, g491, g493, g495, g496, h497, h498, h499, h500, h501, h502, rfl⟩ := k483
    refine ⟨_, _, rfl, ?_⟩
    refine T_nf2 (st' := [.int (i32 nu), .int (i32 t), .ref 224]) (l' := [(7, y484), (8, y486), (9, y488), (10, y490), (11, y492), (12, y494)]) (a' := [(54, (m.2 54)), (55, (m.2 55)), (56, (m.2 56))]) [7, 8, 9, 10, 11, 12] [] rfl ⟨rfl, rfl, rfl, rfl, rfl, rfl, rfl, rfl, rfl, rfl, rfl, rfl, trivial⟩ ⟨rfl, rfl, rfl, rfl, rfl, rfl, trivial⟩ rfl rfl (by decide) (by decide) ?_
    obtain ⟨g496a, g496b⟩ := g496
    replace h497 : LxP y484 y486 y488 (m.1 6) y490 := h497
    replace h498 : y466 ≤ y486 := h498
    replace h499 : y490 = 0 → y470 = 0 ∧ y466 + y468 ≤ y486 := h499
    replace h500 : y490 = 0 → y464 = 2 := h500
    replace h501 : (1 : Int) ≤ nu ∧ nu ≤ (32 : Int) := h501
    replace h502 : y490 = 0 → nu = y474 := h502
    have hf503 : 1 ≤ y490 := by omega
    clear h499
    clear h500
    clear h502
    have hLx := h497
    clear g465 g467 g469 g471 g473 g475 hf480 h476 h478 h481 h498
    have G504 : ∀ j, 0 ≤ (upI (m.2 54) t nu) j ∧ (upI (m.2 54) t nu) j ≤ 32 := upI_rg (hT.2.1 54) ⟨by omega, by omega⟩
    refine T_iast (a' := [(54, upI (m.2 54) t nu), (55, (m.2 55)), (56, (m.2 56))]) 106 54 (m.2 54) rfl rfl rfl (by omega) (show t < (8 : Int) by omega) rfl rfl ?_
    refine T_gf 110 (.ref 225) rfl rfl rfl rfl rfl rfl ?_
    refine T_ld 111 (.int (i32 t)) rfl (fun _ => rfl) ?_
    refine T_ld 112 (.int (i32 0)) rfl (fun _ => rfl) ?_
    have G505 : ∀ j, 0 ≤ (upI (m.2 55) t 0) j ∧ (upI (m.2 55) t 0) j ≤ 4 := upI_rg (hT.2.1 55) ⟨by omega, by omega⟩
    refine T_iast (a' := [(54, upI (m.2 54) t nu), (55, upI (m.2 55) t 0), (56, (m.2 56))]) 113 55 (m.2 55) rfl rfl rfl (by omega) (show t < (8 : Int) by omega) rfl rfl ?_
    refine T_gf 117 (.ref 226) rfl rfl rfl rfl rfl rfl ?_
    refine T_ld 118 (.int (i32 t)) rfl (fun _ => rfl) ?_
    refine T_ld 119 (.int (i32 0)) rfl (fun _ => rfl) ?_
    have G506 : ∀ j, 0 ≤ (upI (m.2 56) t 0) j ∧ (upI (m.2 56) t 0) j ≤ 8 := upI_rg (hT.2.1 56) ⟨by omega, by omega⟩
    refine T_iast (a' := [(54, upI (m.2 54) t nu), (55, upI (m.2 55) t 0), (56, upI (m.2 56) t 0)]) 120 56 (m.2 56) rfl rfl rfl (by omega) (show t < (8 : Int) by omega) rfl rfl ?_
    refine T_gf 124 (.ref 228) rfl rfl rfl rfl rfl rfl ?_
    refine T_ld 125 (.int (i32 t)) rfl (fun _ => rfl) ?_
    refine T_bald 126 58 (m.2 58) rfl rfl rfl (by omega) (show t < (8 : Int) by omega) rfl ?_
    have e507 : 0 ≤ m.2 58 t ∧ m.2 58 t ≤ 1 := hT.2.1 58 t
    refine T_if 168 129 rfl rfl rfl (r32 (by omega) (by omega)) (fun (h508 : (m.2 58) t = 0) => ?_) (fun (h508 : ¬ ((m.2 58) t = 0)) => ?_)
    · skip
      refine T_ld 169 (.ref 189) rfl (fun _ => rfl) ?_
      refine T_ld 171 (.int (i32 59)) rfl (fun _ => rfl) ?_
      refine T_call 174 232 [.ref 189, .int (i32 59)] [] rfl (fun _ => rfl) rfl (c_need w (mO m [(7, y484), (8, y486), (9, y488), (10, y490), (11, y492), (12, y494)] [(54, upI (m.2 54) t nu), (55, upI (m.2 55) t 0), (56, upI (m.2 56) t 0)]) c N D (by omega) (Ty_mO hT rfl rfl ⟨g485, g487, g489, g491, g493, g495, trivial⟩ ⟨G504, G505, G506, trivial⟩) 59 ⟨by decide, by decide⟩ (show 1 ≤ (59 : Int) by omega) (show LxP y484 y486 y488 (m.1 6) y490 by first | exact hLx | (intro h9; exfalso; omega) | (intro h9; have h8 := hLx (by omega); omega))) (fun rr509 k510 => ?_)
      obtain ⟨y511, y513, y515, y517, y519, y521, g512, g514, g516, g518, g520, g522, h523, h524, h525, h526, rfl⟩ := k510
      refine ⟨_, _, rfl, ?_⟩
      refine T_nf2 (st' := []) (l' := [(7, y511), (8, y513), (9, y515), (10, y517), (11, y519), (12, y521)]) (a' := [(54, upI (m.2 54) t nu), (55, upI (m.2 55) t 0), (56, upI (m.2 56) t 0)]) [7, 8, 9, 10, 11, 12] [] rfl ⟨rfl, rfl, rfl, rfl, rfl, rfl, rfl, rfl, rfl, rfl, rfl, rfl, trivial⟩ ⟨rfl, rfl, rfl, rfl, rfl, rfl, trivial⟩ rfl rfl (by decide) (by decide) ?_
      replace h523 : LxP y511 y513 y515 (m.1 6) y517 := h523
      replace h524 : y517 = 0 → y490 = 0 ∧ y484 = (59 : Int) := h524
      replace h525 : y486 ≤ y513 := h525
      replace h526 : y517 = 0 → y486 + y488 ≤ y513 := h526
      have hf527 : 1 ≤ y517 := by omega
      clear h524
      clear h526
      have hLx := h523
      clear g485 g487 g489 g491 g493 g495 hf503 h497 h525
      refine T_ret rfl (fun _ => rfl) ?_
      exact ⟨(mO m [(7, y511), (8, y513), (9, y515), (10, y517), (11, y519), (12, y521)] [(54, upI (m.2 54) t nu), (55, upI (m.2 55) t 0), (56, upI (m.2 56) t 0)]), (Ty_mO hT rfl rfl ⟨g512, g514, g516, g518, g520, g522, trivial⟩ ⟨G504, G505, G506, trivial⟩), (show y517 = 0 → (m.1 10) = 0 by omega), (show LxP y511 y513 y515 (m.1 6) y517 by first | (first | exact hLx | exact (fun _ => hLx (by omega)) | (intro h9; exfalso; omega)) | (exfalso; omega)), (fun (h : y517 = 0) => absurd h (by omega)), rfl⟩
    · skip
      refine T_ld 130 (.ref 189) rfl (fun _ => rfl) ?_
      refine T_ld 133 (.int (i32 317)) rfl (fun _ => rfl) ?_
      refine T_call 136 232 [.ref 189, .int (i32 317)] [] rfl (fun _ => rfl) rfl (c_need w (mO m [(7, y484), (8, y486), (9, y488), (10, y490), (11, y492), (12, y494)] [(54, upI (m.2 54) t nu), (55, upI (m.2 55) t 0), (56, upI (m.2 56) t 0)]) c N D (by omega) (Ty_mO hT rfl rfl ⟨g485, g487, g489, g491, g493, g495, trivial⟩ ⟨G504, G505, G506, trivial⟩) 317 ⟨by decide, by decide⟩ (show 1 ≤ (317 : Int) by omega) (show LxP y484 y486 y488 (m.1 6) y490 by first | exact hLx | (intro h9; exfalso; omega) | (intro h9; have h8 := hLx (by omega); omega))) (fun rr528 k529 => ?_)
      obtain ⟨y530, y532, y534, y536, y538, y540, g531, g533, g535, g537, g539, g541, h542, h543, h544, h545, rfl⟩ := k529
      refine ⟨_, _, rfl, ?_⟩
      refine T_nf2 (st' := []) (l' := [(7, y530), (8, y532), (9, y534), (10, y536), (11, y538), (12, y540)]) (a' := [(54, upI (m.2 54) t nu), (55, upI (m.2 55) t 0), (56, upI (m.2 56) t 0)]) [7, 8, 9, 10, 11, 12] [] rfl ⟨rfl, rfl, rfl, rfl, rfl, rfl, rfl, rfl, rfl, rfl, rfl, rfl, trivial⟩ ⟨rfl, rfl, rfl, rfl, rfl, rfl, trivial⟩ rfl rfl (by decide) (by decide) ?_
      replace h542 : LxP y530 y532 y534 (m.1 6) y536 := h542
      replace h543 : y536 = 0 → y490 = 0 ∧ y484 = (317 : Int) := h543
      replace h544 : y486 ≤ y532 := h544
      replace h545 : y536 = 0 → y486 + y488 ≤ y532 := h545
      have hf546 : 1 ≤ y536 := by omega
      clear h543
      clear h545
      have hLx := h542
      clear g485 g487 g489 g491 g493 g495 hf503 h497 h544
      refine T_gf 140 (.ref 225) rfl rfl rfl rfl rfl rfl ?_
      refine T_ld 141 (.int (i32 t)) rfl (fun _ => rfl) ?_
      refine T_ld 142 (.ref 189) rfl (fun _ => rfl) ?_
      refine T_ld 143 (.int (i32 1)) rfl (fun _ => rfl) ?_
      refine T_ld 144 (.int (i32 4)) rfl (fun _ => rfl) ?_
      refine T_call 147 234 [.ref 189, .int (i32 1), .int (i32 4)] [.int (i32 t), .ref 225] rfl (fun _ => rfl) rfl (c_number w (mO m [(7, y530), (8, y532), (9, y534), (10, y536), (11, y538), (12, y540)] [(54, upI (m.2 54) t nu), (55, upI (m.2 55) t 0), (56, upI (m.2 56) t 0)]) c N D (by omega) (Ty_mO hT rfl rfl ⟨g531, g533, g535, g537, g539, g541, trivial⟩ ⟨G504, G505, G506, trivial⟩) 1 4 ⟨by decide, by decide⟩ ⟨by decide, by decide⟩ (show LxP y530 y532 y534 (m.1 6) y536 by first | exact hLx | (intro h9; exfalso; omega) | (intro h9; have h8 := hLx (by omega); omega)) (show (1 : Int) ≤ (4 : Int) by omega)) (fun rr547 k548 => ?_)
      obtain ⟨y549, y551, y553, y555, y557, y559, nu561, g550, g552, g554, g556, g558, g560, g562, h563, h564, h565, h566, h567, h568, rfl⟩ := k548
      refine ⟨_, _, rfl, ?_⟩
      refine T_nf2 (st' := [.int (i32 nu561), .int (i32 t), .ref 225]) (l' := [(7, y549), (8, y551), (9, y553), (10, y555), (11, y557), (12, y559)]) (a' := [(54, upI (m.2 54) t nu), (55, upI (m.2 55) t 0), (56, upI (m.2 56) t 0)]) [7, 8, 9, 10, 11, 12] [] rfl ⟨rfl, rfl, rfl, rfl, rfl, rfl, rfl, rfl, rfl, rfl, rfl, rfl, trivial⟩ ⟨rfl, rfl, rfl, rfl, rfl, rfl, trivial⟩ rfl rfl (by decide) (by decide) ?_
      obtain ⟨g562a, g562b⟩ := g562
      replace h563 : LxP y549 y551 y553 (m.1 6) y555 := h563
      replace h564 : y532 ≤ y551 := h564
      replace h565 : y555 = 0 → y536 = 0 ∧ y532 + y534 ≤ y551 := h565
      replace h566 : y555 = 0 → y530 = 2 := h566
      replace h567 : (1 : Int) ≤ nu561 ∧ nu561 ≤ (4 : Int) := h567
      replace h568 : y555 = 0 → nu561 = y540 := h568
      have hf569 : 1 ≤ y555 := by omega
      clear h565
      clear h566
      clear h568
      have hLx := h563
      clear g531 g533 g535 g537 g539 g541 hf546 h542 h564
      have G570 : ∀ j, 0 ≤ (upI (upI (m.2 55) t 0) t nu561) j ∧ (upI (upI (m.2 55) t 0) t nu561) j ≤ 4 := upI_rg G505 ⟨by omega, by omega⟩
      refine T_iast (a' := [(54, upI (m.2 54) t nu), (55, upI (upI (m.2 55) t 0) t nu561), (56, upI (m.2 56) t 0)]) 148 55 (upI (m.2 55) t 0) rfl rfl rfl (by omega) (show t < (8 : Int) by omega) rfl rfl ?_
      refine T_ld 149 (.ref 189) rfl (fun _ => rfl) ?_
      refine T_ld 152 (.int (i32 318)) rfl (fun _ => rfl) ?_
      refine T_call 155 232 [.ref 189, .int (i32 318)] [] rfl (fun _ => rfl) rfl (c_need w (mO m [(7, y549), (8, y551), (9, y553), (10, y555), (11, y557), (12, y559)] [(54, upI (m.2 54) t nu), (55, upI (upI (m.2 55) t 0) t nu561), (56, upI (m.2 56) t 0)]) c N D (by omega) (Ty_mO hT rfl rfl ⟨g550, g552, g554, g556, g558, g560, trivial⟩ ⟨G504, G570, G506, trivial⟩) 318 ⟨by decide, by decide⟩ (show 1 ≤ (318 : Int) by omega) (show LxP y549 y551 y553 (m.1 6) y555 by first | exact hLx | (intro h9; exfalso; omega) | (intro h9; have h8 := hLx (by omega); omega))) (fun rr571 k572 => ?_)
      obtain ⟨y573, y575, y577, y579, y581, y583, g574, g576, g578, g580, g582, g584, h585, h586, h587, h588, rfl⟩ := k572
      refine ⟨_, _, rfl, ?_⟩
      refine T_nf2 (st' := []) (l' := [(7, y573), (8, y575), (9, y577), (10, y579), (11, y581), (12, y583)]) (a' := [(54, upI (m.2 54) t nu), (55, upI (upI (m.2 55) t 0) t nu561), (56, upI (m.2 56) t 0)]) [7, 8, 9, 10, 11, 12] [] rfl ⟨rfl, rfl, rfl, rfl, rfl, rfl, rfl, rfl, rfl, rfl, rfl, rfl, trivial⟩ ⟨rfl, rfl, rfl, rfl, rfl, rfl, trivial⟩ rfl rfl (by decide) (by decide) ?_
      replace h585 : LxP y573 y575 y577 (m.1 6) y579 := h585
      replace h586 : y579 = 0 → y555 = 0 ∧ y549 = (318 : Int) := h586
      replace h587 : y551 ≤ y575 := h587
      replace h588 : y579 = 0 → y551 + y553 ≤ y575 := h588
      have hf589 : 1 ≤ y579 := by omega
      clear h586
      clear h588
      have hLx := h585
      clear g550 g552 g554 g556 g558 g560 hf569 h563 h587
      refine T_gf 159 (.ref 226) rfl rfl rfl rfl rfl rfl ?_
      refine T_ld 160 (.int (i32 t)) rfl (fun _ => rfl) ?_
      refine T_ld 161 (.ref 189) rfl (fun _ => rfl) ?_
      refine T_ld 162 (.int (i32 0)) rfl (fun _ => rfl) ?_
      refine T_ld 164 (.int (i32 8)) rfl (fun _ => rfl) ?_
      refine T_call 167 234 [.ref 189, .int (i32 0), .int (i32 8)] [.int (i32 t), .ref 226] rfl (fun _ => rfl) rfl (c_number w (mO m [(7, y573), (8, y575), (9, y577), (10, y579), (11, y581), (12, y583)] [(54, upI (m.2 54) t nu), (55, upI (upI (m.2 55) t 0) t nu561), (56, upI (m.2 56) t 0)]) c N D (by omega) (Ty_mO hT rfl rfl ⟨g574, g576, g578, g580, g582, g584, trivial⟩ ⟨G504, G570, G506, trivial⟩) 0 8 ⟨by decide, by decide⟩ ⟨by decide, by decide⟩ (show LxP y573 y575 y577 (m.1 6) y579 by first | exact hLx | (intro h9; exfalso; omega) | (intro h9; have h8 := hLx (by omega); omega)) (show (0 : Int) ≤ (8 : Int) by omega)) (fun rr590 k591 => ?_)
      obtain ⟨y592, y594, y596, y598, y600, y602, nu604, g593, g595, g597, g599, g601, g603, g605, h606, h607, h608, h609, h610, h611, rfl⟩ := k591
      refine ⟨_, _, rfl, ?_⟩
      refine T_nf2 (st' := [.int (i32 nu604), .int (i32 t), .ref 226]) (l' := [(7, y592), (8, y594), (9, y596), (10, y598), (11, y600), (12, y602)]) (a' := [(54, upI (m.2 54) t nu), (55, upI (upI (m.2 55) t 0) t nu561), (56, upI (m.2 56) t 0)]) [7, 8, 9, 10, 11, 12] [] rfl ⟨rfl, rfl, rfl, rfl, rfl, rfl, rfl, rfl, rfl, rfl, rfl, rfl, trivial⟩ ⟨rfl, rfl, rfl, rfl, rfl, rfl, trivial⟩ rfl rfl (by decide) (by decide) ?_
      obtain ⟨g605a, g605b⟩ := g605
      replace h606 : LxP y592 y594 y596 (m.1 6) y598 := h606
      replace h607 : y575 ≤ y594 := h607
      replace h608 : y598 = 0 → y579 = 0 ∧ y575 + y577 ≤ y594 := h608
      replace h609 : y598 = 0 → y573 = 2 := h609
      replace h610 : (0 : Int) ≤ nu604 ∧ nu604 ≤ (8 : Int) := h610
      replace h611 : y598 = 0 → nu604 = y583 := h611
      have hf612 : 1 ≤ y598 := by omega
      clear h608
      clear h609
      clear h611
      have hLx := h606
      clear g574 g576 g578 g580 g582 g584 hf589 h585 h607
      have G613 : ∀ j, 0 ≤ (upI (upI (m.2 56) t 0) t nu604) j ∧ (upI (upI (m.2 56) t 0) t nu604) j ≤ 8 := upI_rg G506 ⟨by omega, by omega⟩
      refine T_iast (a' := [(54, upI (m.2 54) t nu), (55, upI (upI (m.2 55) t 0) t nu561), (56, upI (upI (m.2 56) t 0) t nu604)]) 168 56 (upI (m.2 56) t 0) rfl rfl rfl (by omega) (show t < (8 : Int) by omega) rfl rfl ?_
      refine T_ld 169 (.ref 189) rfl (fun _ => rfl) ?_
      refine T_ld 171 (.int (i32 59)) rfl (fun _ => rfl) ?_
      refine T_call 174 232 [.ref 189, .int (i32 59)] [] rfl (fun _ => rfl) rfl (c_need w (mO m [(7, y592), (8, y594), (9, y596), (10, y598), (11, y600), (12, y602)] [(54, upI (m.2 54) t nu), (55, upI (upI (m.2 55) t 0) t nu561), (56, upI (upI (m.2 56) t 0) t nu604)]) c N D (by omega) (Ty_mO hT rfl rfl ⟨g593, g595, g597, g599, g601, g603, trivial⟩ ⟨G504, G570, G613, trivial⟩) 59 ⟨by decide, by decide⟩ (show 1 ≤ (59 : Int) by omega) (show LxP y592 y594 y596 (m.1 6) y598 by first | exact hLx | (intro h9; exfalso; omega) | (intro h9; have h8 := hLx (by omega); omega))) (fun rr614 k615 => ?_)
      obtain ⟨y616, y618, y620, y622, y624, y626, g617, g619, g621, g623, g625, g627, h628, h629, h630, h631, rfl⟩ := k615
      refine ⟨_, _, rfl, ?_⟩
      refine T_nf2 (st' := []) (l' := [(7, y616), (8, y618), (9, y620), (10, y622), (11, y624), (12, y626)]) (a' := [(54, upI (m.2 54) t nu), (55, upI (upI (m.2 55) t 0) t nu561), (56, upI (upI (m.2 56) t 0) t nu604)]) [7, 8, 9, 10, 11, 12] [] rfl ⟨rfl, rfl, rfl, rfl, rfl, rfl, rfl, rfl, rfl, rfl, rfl, rfl, trivial⟩ ⟨rfl, rfl, rfl, rfl, rfl, rfl, trivial⟩ rfl rfl (by decide) (by decide) ?_
      replace h628 : LxP y616 y618 y620 (m.1 6) y622 := h628
      replace h629 : y622 = 0 → y598 = 0 ∧ y592 = (59 : Int) := h629
      replace h630 : y594 ≤ y618 := h630
      replace h631 : y622 = 0 → y594 + y596 ≤ y618 := h631
      have hf632 : 1 ≤ y622 := by omega
      clear h629
      clear h631
      have hLx := h628
      clear g593 g595 g597 g599 g601 g603 hf612 h606 h630
      refine T_ret rfl (fun _ => rfl) ?_
      exact ⟨(mO m [(7, y616), (8, y618), (9, y620), (10, y622), (11, y624), (12, y626)] [(54, upI (m.2 54) t nu), (55, upI (upI (m.2 55) t 0) t nu561), (56, upI (upI (m.2 56) t 0) t nu604)]), (Ty_mO hT rfl rfl ⟨g617, g619, g621, g623, g625, g627, trivial⟩ ⟨G504, G570, G613, trivial⟩), (show y622 = 0 → (m.1 10) = 0 by omega), (show LxP y616 y618 y620 (m.1 6) y622 by first | (first | exact hLx | exact (fun _ => hLx (by omega)) | (intro h9; exfalso; omega)) | (exfalso; omega)), (fun (h : y622 = 0) => absurd h (by omega)), rfl⟩
