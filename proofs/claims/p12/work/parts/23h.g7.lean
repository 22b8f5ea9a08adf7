def Q_stateHere (m : mR) (c : Nat → Option am_C) (N : Nat) : ag_Re af_T → Prop := fun R => ∃ (y7 : Int) (y8 : Int) (y9 : Int) (y10 : Int) (y11 : Int) (y12 : Int) (y13 : Int) (y23 : Int) (F14 : Int → Int) (F15 : Int → Int) (F16 : Int → Int) (F17 : Int → Int) (F37 : Int → Int) (F38 : Int → Int) (r : Int), (0 ≤ y7 ∧ y7 ≤ 330) ∧ (0 ≤ y8 ∧ y8 ≤ 4000) ∧ (0 ≤ y9 ∧ y9 ≤ 4000) ∧ (0 ≤ y10 ∧ y10 ≤ 8) ∧ ((-1) ≤ y11 ∧ y11 ≤ 4000) ∧ ((-9223372036854775808) ≤ y12 ∧ y12 ≤ 9223372036854775807) ∧ (0 ≤ y13 ∧ y13 ≤ 120) ∧ (0 ≤ y23 ∧ y23 ≤ 16) ∧ (∀ j, 0 ≤ F14 j ∧ F14 j ≤ 4000) ∧ (∀ j, 0 ≤ F15 j ∧ F15 j ≤ 4000) ∧ (∀ j, 0 ≤ F16 j ∧ F16 j ≤ 7) ∧ (∀ j, 0 ≤ F17 j ∧ F17 j ≤ 15) ∧ (∀ j, 0 ≤ F37 j ∧ F37 j ≤ 4000) ∧ (∀ j, (-1) ≤ F38 j ∧ F38 j ≤ 15) ∧ ((-2) ≤ r ∧ r ≤ 15) ∧ (y10 = 0 → (m.1 10) = 0) ∧ (LxP y7 y8 y9 (m.1 6) y10) ∧ (∀ k, F14 k + F15 k ≤ 4000) ∧ (y10 = 0 → ((m.1 8) + 1 ≤ y8) ∧ (PN y13 (m.1 19) (m.1 20) (m.1 21) (m.1 22) y23 (m.1 25) (m.1 26) F16 F17) ∧ (SOp F38 y23 (m.1 24)) ∧ (r < y23) ∧ ((m.1 23) ≤ y23)) ∧ R = (.inl (some (.int (i32 r))), (mhp (mO m [(7, y7), (8, y8), (9, y9), (10, y10), (11, y11), (12, y12), (13, y13), (23, y23)] [(14, F14), (15, F15), (16, F16), (17, F17), (37, F37), (38, F38)]) c, N), 0, 0)
set_option maxHeartbeats 8000000 in
theorem c_stateHere (w : wX) (m : mR) (c : Nat → Option am_C) (N D : Nat) (hD : 6 ≤ D) (hT : Ty m) (hLx0 : LxP (m.1 7) (m.1 8) (m.1 9) (m.1 6) (m.1 10)) (hNM0 : ∀ k, (m.2 14) k + (m.2 15) k ≤ 4000) (hC : m.1 10 = 0 → (PN (m.1 13) (m.1 19) (m.1 20) (m.1 21) (m.1 22) (m.1 23) (m.1 25) (m.1 26) (m.2 16) (m.2 17)) ∧ (SOp (m.2 38) (m.1 23) (m.1 24))) : TC w D 242 [.ref 189] (mhp m c, N) (Q_stateHere m c N) := by
  obtain ⟨D, rfl⟩ : ∃ k, D = k + 1 := ⟨D - 1, by omega⟩
  have hLx := hLx0
  have hNM := hNM0
  have f7 : 0 ≤ m.1 7 ∧ m.1 7 ≤ 330 := hT.1 7
  have f8 : 0 ≤ m.1 8 ∧ m.1 8 ≤ 4000 := hT.1 8
  have f9 : 0 ≤ m.1 9 ∧ m.1 9 ≤ 4000 := hT.1 9
  have f10 : 0 ≤ m.1 10 ∧ m.1 10 ≤ 8 := hT.1 10
  have f11 : (-1) ≤ m.1 11 ∧ m.1 11 ≤ 4000 := hT.1 11
  have f12 : (-9223372036854775808) ≤ m.1 12 ∧ m.1 12 ≤ 9223372036854775807 := hT.1 12
  have f13 : 0 ≤ m.1 13 ∧ m.1 13 ≤ 120 := hT.1 13
  have f23 : 0 ≤ m.1 23 ∧ m.1 23 ≤ 16 := hT.1 23
  have f25 : 0 ≤ m.1 25 ∧ m.1 25 ≤ 16 := hT.1 25
  have f22 : 0 ≤ m.1 22 ∧ m.1 22 ≤ 8 := hT.1 22
  have f24 : 0 ≤ m.1 24 ∧ m.1 24 ≤ 16 := hT.1 24
  have f19 : 0 ≤ m.1 19 ∧ m.1 19 ≤ 12 := hT.1 19
  have f20 : 0 ≤ m.1 20 ∧ m.1 20 ≤ 12 := hT.1 20
  have f21 : 0 ≤ m.1 21 ∧ m.1 21 ≤ 16 := hT.1 21
  have f6 : 0 ≤ m.1 6 ∧ m.1 6 ≤ 4000 := hT.1 6
  have f26 : 0 ≤ m.1 26 ∧ m.1 26 ≤ 8 := hT.1 26
  refine Tc_of rfl ?_
  show TT w D pm_242 (0, [(0, .ref 189)], [], (mhp m c, N), 0, 0) (Q_stateHere m c N)
  rw [show (mhp m c, N) = (mhp (mO m [(7, (m.1 7)), (8, (m.1 8)), (9, (m.1 9)), (10, (m.1 10)), (11, (m.1 11)), (12, (m.1 12)), (13, (m.1 13)), (23, (m.1 23))] [(14, (m.2 14)), (15, (m.2 15)), (16, (m.2 16)), (17, (m.2 17)), (37, (m.2 37)), (38, (m.2 38))]) c, N) from congrArg (fun M => (mhp M c, N)) (mO_pad m [7, 8, 9, 10, 11, 12, 13, 23] [14, 15, 16, 17, 37, 38])]
  by_cases hf0 : m.1 10 = 0
  · skip
    obtain ⟨pPN, pSO⟩ := hC hf0
    have hn := pPN.1
    have hNM := hNM0
    refine T_gf 4 (.int (i32 (m.1 10))) rfl rfl rfl rfl rfl rfl ?_
    refine T_if 9 7 rfl rfl rfl (r32 (by omega) (by omega)) (fun (h31 : (m.1 10) ≤ 0) => ?_) (fun (h31 : ¬ ((m.1 10) ≤ 0)) => by exfalso; omega)
    refine T_gf 13 (.int (i32 (m.1 7))) rfl rfl rfl rfl rfl rfl ?_
    refine T_ld 14 (.int (i32 1)) rfl (fun _ => rfl) ?_
    refine T_icmp 23 17 rfl rfl rfl (r32 (by omega) (by omega)) ⟨by decide, by decide⟩ (fun (h32 : (m.1 7) = 1) => ?_) (fun (h32 : ¬ ((m.1 7) = 1)) => ?_)
    · skip
      have h7 := hLx (by omega)
      refine T_ld 24 (.ref 189) rfl (fun _ => rfl) ?_
      refine T_call 27 227 [.ref 189] [] rfl (fun _ => rfl) rfl (c_sortHere w (mO m [(7, (m.1 7)), (8, (m.1 8)), (9, (m.1 9)), (10, (m.1 10)), (11, (m.1 11)), (12, (m.1 12)), (13, (m.1 13)), (23, (m.1 23))] [(14, (m.2 14)), (15, (m.2 15)), (16, (m.2 16)), (17, (m.2 17)), (37, (m.2 37)), (38, (m.2 38))]) c N D (by omega) (Ty_mO hT rfl rfl ⟨f7, f8, f9, f10, f11, f12, f13, f23, trivial⟩ ⟨(hT.2.1 14), (hT.2.1 15), (hT.2.1 16), (hT.2.1 17), (hT.2.1 37), (hT.2.1 38), trivial⟩) (show 1 ≤ (m.1 9) ∧ (m.1 8) + (m.1 9) ≤ (m.1 6) by first | omega | (have h8 := hLx (by omega); omega)) (show ∀ k, (m.2 14) k + (m.2 15) k ≤ 4000 by first | exact hNM | exact p1)) (fun rr33 k34 => ?_)
      obtain ⟨so, g35, h36, h37, rfl⟩ := k34
      refine ⟨_, _, rfl, ?_⟩
      refine T_nf (st' := [.int (i32 so)]) (l' := [(7, (m.1 7)), (8, (m.1 8)), (9, (m.1 9)), (10, (m.1 10)), (11, (m.1 11)), (12, (m.1 12)), (13, (m.1 13)), (23, (m.1 23))]) (a' := [(14, (m.2 14)), (15, (m.2 15)), (16, (m.2 16)), (17, (m.2 17)), (37, (m.2 37)), (38, (m.2 38))]) rfl rfl rfl rfl rfl ?_
      obtain ⟨g35a, g35b⟩ := g35
      replace h36 : ∃ g k, isGH (m.2 4) (m.1 8) (m.1 9) g ∧ (g < 0 → isFH (m.2 4) (m.2 14) (m.2 15) (m.1 8) (m.1 9) (m.1 13) k) ∧ so = sortV (m.2 16) g k := h36
      have hSo := h36
      replace h37 : -1 ≤ so ∧ so ≤ 7 := h37
      have u38 : (m.1 8) ≤ (m.1 8) := by omega
      refine T_sto 28 [(1, .int (i32 so)), (0, .ref 189)] rfl (fun _ => rfl) ?_
      refine T_ld 29 (.int (i32 so)) rfl (fun _ => rfl) ?_
      refine T_ld 30 (.int (i32 5)) rfl (fun _ => rfl) ?_
      refine T_icmp 44 33 rfl rfl rfl (r32 (by omega) (by omega)) ⟨by decide, by decide⟩ (fun (h39 : so ≠ 5) => ?_) (fun (h39 : ¬ (so ≠ 5)) => ?_)
      · skip
        refine T_ld 45 (.int (i32 so)) rfl (fun _ => rfl) ?_
        refine T_ld 46 (.int (i32 (-1))) rfl (fun _ => rfl) ?_
        refine T_icmp 62 49 rfl rfl rfl (r32 (by omega) (by omega)) ⟨by decide, by decide⟩ (fun (h40 : so = (-1)) => ?_) (fun (h40 : ¬ (so = (-1))) => ?_)
        · skip
          refine T_gf 66 (.int (i32 (m.1 23))) rfl rfl rfl rfl rfl rfl ?_
          refine T_ld 68 (.int (i32 16)) rfl (fun _ => rfl) ?_
          refine T_icmp 80 71 rfl rfl rfl (r32 (by omega) (by omega)) ⟨by decide, by decide⟩ (fun (h41 : (m.1 23) ≠ 16) => ?_) (fun (h41 : ¬ ((m.1 23) ≠ 16)) => ?_)
          · skip
            refine T_gf 84 (.int (i32 (m.1 10))) rfl rfl rfl rfl rfl rfl ?_
            refine T_if 89 87 rfl rfl rfl (r32 (by omega) (by omega)) (fun (h42 : (m.1 10) ≤ 0) => ?_) (fun (h42 : ¬ ((m.1 10) ≤ 0)) => by exfalso; omega)
            refine T_gf 93 (.ref 207) rfl rfl rfl rfl rfl rfl ?_
            refine T_gf 97 (.int (i32 (m.1 23))) rfl rfl rfl rfl rfl rfl ?_
            refine T_gf 101 (.int (i32 (m.1 8))) rfl rfl rfl rfl rfl rfl ?_
            have G43 : ∀ j, 0 ≤ (upI (m.2 37) (m.1 23) (m.1 8)) j ∧ (upI (m.2 37) (m.1 23) (m.1 8)) j ≤ 4000 := upI_rg (hT.2.1 37) ⟨by omega, by omega⟩
            refine T_iast (a' := [(14, (m.2 14)), (15, (m.2 15)), (16, (m.2 16)), (17, (m.2 17)), (37, upI (m.2 37) (m.1 23) (m.1 8)), (38, (m.2 38))]) 102 37 (m.2 37) rfl rfl rfl (by omega) (show (m.1 23) < (16 : Int) by omega) rfl rfl ?_
            refine T_gf 106 (.ref 208) rfl rfl rfl rfl rfl rfl ?_
            refine T_gf 110 (.int (i32 (m.1 23))) rfl rfl rfl rfl rfl rfl ?_
            refine T_ld 111 (.int (i32 (-1))) rfl (fun _ => rfl) ?_
            have G44 : ∀ j, (-1) ≤ (upI (m.2 38) (m.1 23) (-1)) j ∧ (upI (m.2 38) (m.1 23) (-1)) j ≤ 15 := upI_rg (hT.2.1 38) ⟨by omega, by omega⟩
            refine T_iast (a' := [(14, (m.2 14)), (15, (m.2 15)), (16, (m.2 16)), (17, (m.2 17)), (37, upI (m.2 37) (m.1 23) (m.1 8)), (38, upI (m.2 38) (m.1 23) (-1))]) 112 38 (m.2 38) rfl rfl rfl (by omega) (show (m.1 23) < (16 : Int) by omega) rfl rfl ?_
            refine T_ld 113 (.ref 189) rfl (fun _ => rfl) ?_
            refine T_ld 114 (.int (i32 5)) rfl (fun _ => rfl) ?_
            refine T_gf 118 (.int (i32 (m.1 23))) rfl rfl rfl rfl rfl rfl ?_
            refine T_call 121 231 [.ref 189, .int (i32 5), .int (i32 (m.1 23))] [] rfl (fun _ => rfl) rfl (c_enter w (mO m [(7, (m.1 7)), (8, (m.1 8)), (9, (m.1 9)), (10, (m.1 10)), (11, (m.1 11)), (12, (m.1 12)), (13, (m.1 13)), (23, (m.1 23))] [(14, (m.2 14)), (15, (m.2 15)), (16, (m.2 16)), (17, (m.2 17)), (37, upI (m.2 37) (m.1 23) (m.1 8)), (38, upI (m.2 38) (m.1 23) (-1))]) c N D (by omega) (Ty_mO hT rfl rfl ⟨f7, f8, f9, f10, f11, f12, f13, f23, trivial⟩ ⟨(hT.2.1 14), (hT.2.1 15), (hT.2.1 16), (hT.2.1 17), G43, G44, trivial⟩) 5 (m.1 23) ⟨by decide, by decide⟩ (r32 (by omega) (by omega)) (show (m.1 13) ≤ 119 by omega) (show 1 ≤ (5 : Int) ∧ (5 : Int) ≤ 7 by omega) (show 0 ≤ (m.1 23) ∧ (m.1 23) ≤ 15 by omega)) (fun rr45 k46 => ?_)
            obtain ⟨y47, F49, F51, F53, F55, g48, G50, G52, G54, G56, h57, h58, h59, h60, h61, rfl⟩ := k46
            refine ⟨_, _, rfl, ?_⟩
            refine T_nf (st' := []) (l' := [(7, (m.1 7)), (8, (m.1 8)), (9, (m.1 9)), (10, (m.1 10)), (11, (m.1 11)), (12, (m.1 12)), (13, y47), (23, (m.1 23))]) (a' := [(14, F49), (15, F51), (16, F53), (17, F55), (37, upI (m.2 37) (m.1 23) (m.1 8)), (38, upI (m.2 38) (m.1 23) (-1))]) rfl rfl rfl rfl rfl ?_
            replace h57 : y47 = (m.1 13) + 1 := h57
            have hE0 := h57
            replace h58 : F49 = upI (m.2 14) (m.1 13) (m.1 8) := h58
            have hE1 := h58
            replace h59 : F51 = upI (m.2 15) (m.1 13) (m.1 9) := h59
            have hE2 := h59
            replace h60 : F53 = upI (m.2 16) (m.1 13) (5 : Int) := h60
            have hE3 := h60
            replace h61 : F55 = upI (m.2 17) (m.1 13) (m.1 23) := h61
            have hE4 := h61
            have u62 : (m.1 8) ≤ (m.1 8) := by omega
            refine T_ld 122 (.ref 189) rfl (fun _ => rfl) ?_
            refine T_ld 123 (.ref 189) rfl (fun _ => rfl) ?_
            refine T_gf1 126 (.int (i32 (m.1 23))) rfl rfl rfl rfl ?_
            refine T_ld 127 (.int (i32 1)) rfl (fun _ => rfl) ?_
            refine T_iadd 128 rfl rfl ?_
            refine T_pf (l' := [(7, (m.1 7)), (8, (m.1 8)), (9, (m.1 9)), (10, (m.1 10)), (11, (m.1 11)), (12, (m.1 12)), (13, y47), (23, (m.1 23) + 1)]) 131 ((m.1 23) + 1) rfl rfl rfl rfl rfl rfl ?_
            have g63 : 0 ≤ (m.1 23) + 1 ∧ (m.1 23) + 1 ≤ 16 := ⟨by omega, by omega⟩
            refine T_ld 132 (.ref 189) rfl (fun _ => rfl) ?_
            refine T_call 135 212 [.ref 189] [] rfl (fun _ => rfl) rfl (c_next w (mO m [(7, (m.1 7)), (8, (m.1 8)), (9, (m.1 9)), (10, (m.1 10)), (11, (m.1 11)), (12, (m.1 12)), (13, y47), (23, (m.1 23) + 1)] [(14, F49), (15, F51), (16, F53), (17, F55), (37, upI (m.2 37) (m.1 23) (m.1 8)), (38, upI (m.2 38) (m.1 23) (-1))]) c N D (by omega) (Ty_mO hT rfl rfl ⟨f7, f8, f9, f10, f11, f12, g48, g63, trivial⟩ ⟨G50, G52, G54, G56, G43, G44, trivial⟩) (show (m.1 10) = 0 → (m.1 8) + (m.1 9) ≤ (m.1 6) by first | omega | (intro h9; have h8 := hLx h9; omega))) (fun rr64 k65 => ?_)
            obtain ⟨y66, y68, y70, y72, y74, y76, g67, g69, g71, g73, g75, g77, h78, h79, h80, h81, rfl⟩ := k65
            refine ⟨_, _, rfl, ?_⟩
            refine T_nf (st' := []) (l' := [(7, y66), (8, y68), (9, y70), (10, y72), (11, y74), (12, y76), (13, y47), (23, (m.1 23) + 1)]) (a' := [(14, F49), (15, F51), (16, F53), (17, F55), (37, upI (m.2 37) (m.1 23) (m.1 8)), (38, upI (m.2 38) (m.1 23) (-1))]) rfl rfl rfl rfl rfl ?_
            by_cases hf82 : y72 = 0
            · skip
              subst hf82
              replace h78 : LxP y66 y68 y70 (m.1 6) (0 : Int) := h78
              have hLx := h78
              replace h79 : (m.1 10) = 0 := h79 rfl
              replace h80 : (m.1 8) ≤ y68 := h80
              replace h81 : (m.1 8) + (m.1 9) ≤ y68 := h81 rfl
              have u83 : (m.1 8) + 1 ≤ y68 := by omega
              clear g73
              refine T_gf 139 (.int (i32 ((m.1 23) + 1))) rfl rfl rfl rfl rfl rfl ?_
              refine T_ld 140 (.int (i32 1)) rfl (fun _ => rfl) ?_
              refine T_isub 141 rfl rfl ?_
              refine T_ret rfl (fun _ => rfl) ?_
              exact ⟨y66, y68, y70, 0, y74, y76, y47, (m.1 23) + 1, F49, F51, F53, F55, upI (m.2 37) (m.1 23) (m.1 8), upI (m.2 38) (m.1 23) (-1), ((m.1 23) + 1) - 1, g67, g69, g71, ⟨by omega, by omega⟩, g75, g77, g48, g63, G50, G52, G54, G56, G43, G44, ⟨by omega, by omega⟩, (by omega), (by first | (first | exact hLx | (intro h9; exfalso; omega)) | (exfalso; omega)), (by first | (first | exact hNM | (intro k; rw [hE1, hE2]; have := hNM k; have h7 := hLx0 hf0; unfold upI; split <;> omega)) | (exfalso; omega)), (fun _ => ⟨(by omega), (by first | (first | exact pPN | (rw [hE0, hE3, hE4]; exact PN_5 pPN (by omega))) | (exfalso; omega)), (by first | (first | exact pSO | exact SOp_new pSO) | (exfalso; omega)), (by omega), (by omega)⟩), rfl⟩
            · skip
              replace h78 : LxP y66 y68 y70 (m.1 6) y72 := h78
              have hLx := h78
              clear h79
              replace h80 : (m.1 8) ≤ y68 := h80
              clear h81
              have hf84 : 1 ≤ y72 := by omega
              refine T_gf 139 (.int (i32 ((m.1 23) + 1))) rfl rfl rfl rfl rfl rfl ?_
              refine T_ld 140 (.int (i32 1)) rfl (fun _ => rfl) ?_
              refine T_isub 141 rfl rfl ?_
              refine T_ret rfl (fun _ => rfl) ?_
              exact ⟨y66, y68, y70, y72, y74, y76, y47, (m.1 23) + 1, F49, F51, F53, F55, upI (m.2 37) (m.1 23) (m.1 8), upI (m.2 38) (m.1 23) (-1), ((m.1 23) + 1) - 1, g67, g69, g71, g73, g75, g77, g48, g63, G50, G52, G54, G56, G43, G44, ⟨by omega, by omega⟩, (by omega), (by first | (first | exact hLx | (intro h9; exfalso; omega)) | (exfalso; omega)), (by first | (first | exact hNM | (intro k; rw [hE1, hE2]; have := hNM k; have h7 := hLx0 hf0; unfold upI; split <;> omega)) | (exfalso; omega)), (fun h => absurd h (by omega)), rfl⟩
          · skip
            refine T_ld 72 (.ref 189) rfl (fun _ => rfl) ?_
            refine T_ld 73 (.int (i32 4)) rfl (fun _ => rfl) ?_
            refine T_gf 77 (.int (i32 (m.1 8))) rfl rfl rfl rfl rfl rfl ?_
            refine T_call 80 222 [.ref 189, .int (i32 4), .int (i32 (m.1 8))] [] rfl (fun _ => rfl) rfl (c_wrong w (mO m [(7, (m.1 7)), (8, (m.1 8)), (9, (m.1 9)), (10, (m.1 10)), (11, (m.1 11)), (12, (m.1 12)), (13, (m.1 13)), (23, (m.1 23))] [(14, (m.2 14)), (15, (m.2 15)), (16, (m.2 16)), (17, (m.2 17)), (37, (m.2 37)), (38, (m.2 38))]) c N D (by omega) (Ty_mO hT rfl rfl ⟨f7, f8, f9, f10, f11, f12, f13, f23, trivial⟩ ⟨(hT.2.1 14), (hT.2.1 15), (hT.2.1 16), (hT.2.1 17), (hT.2.1 37), (hT.2.1 38), trivial⟩) 4 (m.1 8) ⟨by decide, by decide⟩ (r32 (by omega) (by omega)) (show 1 ≤ (4 : Int) ∧ (4 : Int) ≤ 8 by omega) (show 0 ≤ (m.1 8) ∧ (m.1 8) ≤ 4000 by omega)) (fun rr85 k86 => ?_)
            obtain ⟨y87, y89, g88, g90, h91, rfl⟩ := k86
            refine ⟨_, _, rfl, ?_⟩
            refine T_nf (st' := []) (l' := [(7, (m.1 7)), (8, (m.1 8)), (9, (m.1 9)), (10, y87), (11, y89), (12, (m.1 12)), (13, (m.1 13)), (23, (m.1 23))]) (a' := [(14, (m.2 14)), (15, (m.2 15)), (16, (m.2 16)), (17, (m.2 17)), (37, (m.2 37)), (38, (m.2 38))]) rfl rfl rfl rfl rfl ?_
            replace h91 : (0 < (m.1 10) → y87 = (m.1 10) ∧ y89 = (m.1 11)) ∧ ((m.1 10) ≤ 0 → y87 = (4 : Int) ∧ y89 = (m.1 8)) := h91
            have hf92 : 1 ≤ y87 := by omega
            refine T_gf 84 (.int (i32 y87)) rfl rfl rfl rfl rfl rfl ?_
            refine T_if 89 87 rfl rfl rfl (r32 (by omega) (by omega)) (fun (h93 : y87 ≤ 0) => by exfalso; omega) (fun (h93 : ¬ (y87 ≤ 0)) => ?_)
            refine T_ld 88 (.int (i32 (-1))) rfl (fun _ => rfl) ?_
            refine T_ret rfl (fun _ => rfl) ?_
            exact ⟨(m.1 7), (m.1 8), (m.1 9), y87, y89, (m.1 12), (m.1 13), (m.1 23), (m.2 14), (m.2 15), (m.2 16), (m.2 17), (m.2 37), (m.2 38), (-1), f7, f8, f9, g88, g90, f12, f13, f23, (hT.2.1 14), (hT.2.1 15), (hT.2.1 16), (hT.2.1 17), (hT.2.1 37), (hT.2.1 38), ⟨by omega, by omega⟩, (by omega), (by first | (first | exact hLx | (intro h9; exfalso; omega)) | (exfalso; omega)), (by first | (first | exact hNM | (intro k; rw [hE1, hE2]; have := hNM k; have h7 := hLx0 hf0; unfold upI; split <;> omega)) | (exfalso; omega)), (fun h => absurd h (by omega)), rfl⟩
        · skip
          refine T_ld 50 (.ref 189) rfl (fun _ => rfl) ?_
          refine T_ld 52 (.int (i32 6)) rfl (fun _ => rfl) ?_
          refine T_gf 56 (.int (i32 (m.1 8))) rfl rfl rfl rfl rfl rfl ?_
          refine T_call 59 222 [.ref 189, .int (i32 6), .int (i32 (m.1 8))] [] rfl (fun _ => rfl) rfl (c_wrong w (mO m [(7, (m.1 7)), (8, (m.1 8)), (9, (m.1 9)), (10, (m.1 10)), (11, (m.1 11)), (12, (m.1 12)), (13, (m.1 13)), (23, (m.1 23))] [(14, (m.2 14)), (15, (m.2 15)), (16, (m.2 16)), (17, (m.2 17)), (37, (m.2 37)), (38, (m.2 38))]) c N D (by omega) (Ty_mO hT rfl rfl ⟨f7, f8, f9, f10, f11, f12, f13, f23, trivial⟩ ⟨(hT.2.1 14), (hT.2.1 15), (hT.2.1 16), (hT.2.1 17), (hT.2.1 37), (hT.2.1 38), trivial⟩) 6 (m.1 8) ⟨by decide, by decide⟩ (r32 (by omega) (by omega)) (show 1 ≤ (6 : Int) ∧ (6 : Int) ≤ 8 by omega) (show 0 ≤ (m.1 8) ∧ (m.1 8) ≤ 4000 by omega)) (fun rr94 k95 => ?_)
          obtain ⟨y96, y98, g97, g99, h100, rfl⟩ := k95
          refine ⟨_, _, rfl, ?_⟩
          refine T_nf (st' := []) (l' := [(7, (m.1 7)), (8, (m.1 8)), (9, (m.1 9)), (10, y96), (11, y98), (12, (m.1 12)), (13, (m.1 13)), (23, (m.1 23))]) (a' := [(14, (m.2 14)), (15, (m.2 15)), (16, (m.2 16)), (17, (m.2 17)), (37, (m.2 37)), (38, (m.2 38))]) rfl rfl rfl rfl rfl ?_
          replace h100 : (0 < (m.1 10) → y96 = (m.1 10) ∧ y98 = (m.1 11)) ∧ ((m.1 10) ≤ 0 → y96 = (6 : Int) ∧ y98 = (m.1 8)) := h100
          have hf101 : 1 ≤ y96 := by omega
          refine T_goto 80 rfl (fun _ => rfl) ?_
          refine T_gf 84 (.int (i32 y96)) rfl rfl rfl rfl rfl rfl ?_
          refine T_if 89 87 rfl rfl rfl (r32 (by omega) (by omega)) (fun (h102 : y96 ≤ 0) => by exfalso; omega) (fun (h102 : ¬ (y96 ≤ 0)) => ?_)
          refine T_ld 88 (.int (i32 (-1))) rfl (fun _ => rfl) ?_
          refine T_ret rfl (fun _ => rfl) ?_
          exact ⟨(m.1 7), (m.1 8), (m.1 9), y96, y98, (m.1 12), (m.1 13), (m.1 23), (m.2 14), (m.2 15), (m.2 16), (m.2 17), (m.2 37), (m.2 38), (-1), f7, f8, f9, g97, g99, f12, f13, f23, (hT.2.1 14), (hT.2.1 15), (hT.2.1 16), (hT.2.1 17), (hT.2.1 37), (hT.2.1 38), ⟨by omega, by omega⟩, (by omega), (by first | (first | exact hLx | (intro h9; exfalso; omega)) | (exfalso; omega)), (by first | (first | exact hNM | (intro k; rw [hE1, hE2]; have := hNM k; have h7 := hLx0 hf0; unfold upI; split <;> omega)) | (exfalso; omega)), (fun h => absurd h (by omega)), rfl⟩
      · skip
        refine T_ld 34 (.ref 189) rfl (fun _ => rfl) ?_
        refine T_call 37 237 [.ref 189] [] rfl (fun _ => rfl) rfl (c_whichHere w (mO m [(7, (m.1 7)), (8, (m.1 8)), (9, (m.1 9)), (10, (m.1 10)), (11, (m.1 11)), (12, (m.1 12)), (13, (m.1 13)), (23, (m.1 23))] [(14, (m.2 14)), (15, (m.2 15)), (16, (m.2 16)), (17, (m.2 17)), (37, (m.2 37)), (38, (m.2 38))]) c N D (by omega) (Ty_mO hT rfl rfl ⟨f7, f8, f9, f10, f11, f12, f13, f23, trivial⟩ ⟨(hT.2.1 14), (hT.2.1 15), (hT.2.1 16), (hT.2.1 17), (hT.2.1 37), (hT.2.1 38), trivial⟩) (show 1 ≤ (m.1 9) ∧ (m.1 8) + (m.1 9) ≤ (m.1 6) by first | omega | (have h8 := hLx (by omega); omega)) (show ∀ k, (m.2 14) k + (m.2 15) k ≤ 4000 by first | exact hNM | exact p1) (show ∀ g k, isGH (m.2 4) (m.1 8) (m.1 9) g → g < 0 → isFH (m.2 4) (m.2 14) (m.2 15) (m.1 8) (m.1 9) (m.1 13) k → 0 ≤ k by exact old_ok hSo (by omega))) (fun rr103 k104 => ?_)
        obtain ⟨wi, g105, h106, rfl⟩ := k104
        refine ⟨_, _, rfl, ?_⟩
        refine T_nf (st' := [.int (i32 wi)]) (l' := [(7, (m.1 7)), (8, (m.1 8)), (9, (m.1 9)), (10, (m.1 10)), (11, (m.1 11)), (12, (m.1 12)), (13, (m.1 13)), (23, (m.1 23))]) (a' := [(14, (m.2 14)), (15, (m.2 15)), (16, (m.2 16)), (17, (m.2 17)), (37, (m.2 37)), (38, (m.2 38))]) rfl rfl rfl rfl rfl ?_
        obtain ⟨g105a, g105b⟩ := g105
        replace h106 : ∃ g k, isGH (m.2 4) (m.1 8) (m.1 9) g ∧ (g < 0 → isFH (m.2 4) (m.2 14) (m.2 15) (m.1 8) (m.1 9) (m.1 13) k) ∧ wi = whichV (m.2 17) g k := h106
        have hWi := h106
        have u107 : (m.1 8) ≤ (m.1 8) := by omega
        have hr5 : -2 ≤ wi ∧ wi < (m.1 23) := by
          rcases old_eq hSo hWi (by omega) with ⟨a, b, c⟩ | ⟨a, b⟩ | ⟨k, a, b, c, d⟩
          · omega
          · omega
          · have := PNl_5 pPN k a b (by omega)
            omega
        refine T_sto 38 [(2, .int (i32 wi)), (1, .int (i32 so)), (0, .ref 189)] rfl (fun _ => rfl) ?_
        refine T_ld 39 (.ref 189) rfl (fun _ => rfl) ?_
        refine T_call 42 212 [.ref 189] [] rfl (fun _ => rfl) rfl (c_next w (mO m [(7, (m.1 7)), (8, (m.1 8)), (9, (m.1 9)), (10, (m.1 10)), (11, (m.1 11)), (12, (m.1 12)), (13, (m.1 13)), (23, (m.1 23))] [(14, (m.2 14)), (15, (m.2 15)), (16, (m.2 16)), (17, (m.2 17)), (37, (m.2 37)), (38, (m.2 38))]) c N D (by omega) (Ty_mO hT rfl rfl ⟨f7, f8, f9, f10, f11, f12, f13, f23, trivial⟩ ⟨(hT.2.1 14), (hT.2.1 15), (hT.2.1 16), (hT.2.1 17), (hT.2.1 37), (hT.2.1 38), trivial⟩) (show (m.1 10) = 0 → (m.1 8) + (m.1 9) ≤ (m.1 6) by first | omega | (intro h9; have h8 := hLx h9; omega))) (fun rr108 k109 => ?_)
        obtain ⟨y110, y112, y114, y116, y118, y120, g111, g113, g115, g117, g119, g121, h122, h123, h124, h125, rfl⟩ := k109
        refine ⟨_, _, rfl, ?_⟩
        refine T_nf (st' := []) (l' := [(7, y110), (8, y112), (9, y114), (10, y116), (11, y118), (12, y120), (13, (m.1 13)), (23, (m.1 23))]) (a' := [(14, (m.2 14)), (15, (m.2 15)), (16, (m.2 16)), (17, (m.2 17)), (37, (m.2 37)), (38, (m.2 38))]) rfl rfl rfl rfl rfl ?_
        by_cases hf126 : y116 = 0
        · skip
          subst hf126
          replace h122 : LxP y110 y112 y114 (m.1 6) (0 : Int) := h122
          have hLx := h122
          replace h123 : (m.1 10) = 0 := h123 rfl
          replace h124 : (m.1 8) ≤ y112 := h124
          replace h125 : (m.1 8) + (m.1 9) ≤ y112 := h125 rfl
          have u127 : (m.1 8) + 1 ≤ y112 := by omega
          clear g117
          refine T_ld 43 (.int (i32 wi)) rfl (fun _ => rfl) ?_
          refine T_ret rfl (fun _ => rfl) ?_
          exact ⟨y110, y112, y114, 0, y118, y120, (m.1 13), (m.1 23), (m.2 14), (m.2 15), (m.2 16), (m.2 17), (m.2 37), (m.2 38), wi, g111, g113, g115, ⟨by omega, by omega⟩, g119, g121, f13, f23, (hT.2.1 14), (hT.2.1 15), (hT.2.1 16), (hT.2.1 17), (hT.2.1 37), (hT.2.1 38), ⟨by omega, by omega⟩, (by omega), (by first | (first | exact hLx | (intro h9; exfalso; omega)) | (exfalso; omega)), (by first | (first | exact hNM | (intro k; rw [hE1, hE2]; have := hNM k; have h7 := hLx0 hf0; unfold upI; split <;> omega)) | (exfalso; omega)), (fun _ => ⟨(by omega), (by first | (first | exact pPN | (rw [hE0, hE3, hE4]; exact PN_5 pPN (by omega))) | (exfalso; omega)), (by first | (first | exact pSO | exact SOp_new pSO) | (exfalso; omega)), (by omega), (by omega)⟩), rfl⟩
        · skip
          replace h122 : LxP y110 y112 y114 (m.1 6) y116 := h122
          have hLx := h122
          clear h123
          replace h124 : (m.1 8) ≤ y112 := h124
          clear h125
          have hf128 : 1 ≤ y116 := by omega
          refine T_ld 43 (.int (i32 wi)) rfl (fun _ => rfl) ?_
          refine T_ret rfl (fun _ => rfl) ?_
          exact ⟨y110, y112, y114, y116, y118, y120, (m.1 13), (m.1 23), (m.2 14), (m.2 15), (m.2 16), (m.2 17), (m.2 37), (m.2 38), wi, g111, g113, g115, g117, g119, g121, f13, f23, (hT.2.1 14), (hT.2.1 15), (hT.2.1 16), (hT.2.1 17), (hT.2.1 37), (hT.2.1 38), ⟨by omega, by omega⟩, (by omega), (by first | (first | exact hLx | (intro h9; exfalso; omega)) | (exfalso; omega)), (by first | (first | exact hNM | (intro k; rw [hE1, hE2]; have := hNM k; have h7 := hLx0 hf0; unfold upI; split <;> omega)) | (exfalso; omega)), (fun h => absurd h (by omega)), rfl⟩
    · skip
      refine T_ld 18 (.ref 189) rfl (fun _ => rfl) ?_
      refine T_call 21 226 [.ref 189] [] rfl (fun _ => rfl) rfl (c_bad w (mO m [(7, (m.1 7)), (8, (m.1 8)), (9, (m.1 9)), (10, (m.1 10)), (11, (m.1 11)), (12, (m.1 12)), (13, (m.1 13)), (23, (m.1 23))] [(14, (m.2 14)), (15, (m.2 15)), (16, (m.2 16)), (17, (m.2 17)), (37, (m.2 37)), (38, (m.2 38))]) c N D (by omega) (Ty_mO hT rfl rfl ⟨f7, f8, f9, f10, f11, f12, f13, f23, trivial⟩ ⟨(hT.2.1 14), (hT.2.1 15), (hT.2.1 16), (hT.2.1 17), (hT.2.1 37), (hT.2.1 38), trivial⟩) ) (fun rr129 k130 => ?_)
      obtain ⟨y131, y133, g132, g134, h135, rfl⟩ := k130
      refine ⟨_, _, rfl, ?_⟩
      refine T_nf (st' := []) (l' := [(7, (m.1 7)), (8, (m.1 8)), (9, (m.1 9)), (10, y131), (11, y133), (12, (m.1 12)), (13, (m.1 13)), (23, (m.1 23))]) (a' := [(14, (m.2 14)), (15, (m.2 15)), (16, (m.2 16)), (17, (m.2 17)), (37, (m.2 37)), (38, (m.2 38))]) rfl rfl rfl rfl rfl ?_
      replace h135 : (0 < (m.1 10) → y131 = (m.1 10) ∧ y133 = (m.1 11)) ∧ ((m.1 10) ≤ 0 → y131 = 1 ∧ y133 = (m.1 8)) := h135
      have hf136 : 1 ≤ y131 := by omega
      refine T_ld 22 (.int (i32 (-1))) rfl (fun _ => rfl) ?_
      refine T_ret rfl (fun _ => rfl) ?_
      exact ⟨(m.1 7), (m.1 8), (m.1 9), y131, y133, (m.1 12), (m.1 13), (m.1 23), (m.2 14), (m.2 15), (m.2 16), (m.2 17), (m.2 37), (m.2 38), (-1), f7, f8, f9, g132, g134, f12, f13, f23, (hT.2.1 14), (hT.2.1 15), (hT.2.1 16), (hT.2.1 17), (hT.2.1 37), (hT.2.1 38), ⟨by omega, by omega⟩, (by omega), (by first | (first | exact hLx | (intro h9; exfalso; omega)) | (exfalso; omega)), (by first | (first | exact hNM | (intro k; rw [hE1, hE2]; have := hNM k; have h7 := hLx0 hf0; unfold upI; split <;> omega)) | (exfalso; omega)), (fun h => absurd h (by omega)), rfl⟩
  · skip
    clear hC
    refine T_gf 4 (.int (i32 (m.1 10))) rfl rfl rfl rfl rfl rfl ?_
    refine T_if 9 7 rfl rfl rfl (r32 (by omega) (by omega)) (fun (h137 : (m.1 10) ≤ 0) => by exfalso; omega) (fun (h137 : ¬ ((m.1 10) ≤ 0)) => ?_)
    refine T_ld 8 (.int (i32 (-1))) rfl (fun _ => rfl) ?_
    refine T_ret rfl (fun _ => rfl) ?_
    exact ⟨(m.1 7), (m.1 8), (m.1 9), (m.1 10), (m.1 11), (m.1 12), (m.1 13), (m.1 23), (m.2 14), (m.2 15), (m.2 16), (m.2 17), (m.2 37), (m.2 38), (-1), f7, f8, f9, f10, f11, f12, f13, f23, (hT.2.1 14), (hT.2.1 15), (hT.2.1 16), (hT.2.1 17), (hT.2.1 37), (hT.2.1 38), ⟨by omega, by omega⟩, (by omega), (by first | (first | exact hLx | (intro h9; exfalso; omega)) | (exfalso; omega)), (by first | (first | exact hNM | (intro k; rw [hE1, hE2]; have := hNM k; have h7 := hLx0 hf0; unfold upI; split <;> omega)) | (exfalso; omega)), (fun h => absurd h (by omega)), rfl⟩
def Q_takeExtract (m : mR) (c : Nat → Option am_C) (N : Nat) (d : Int) : ag_Re af_T → Prop := fun R => ∃ (y7 : Int) (y8 : Int) (y9 : Int) (y10 : Int) (y11 : Int) (y12 : Int) (F41 : Int → Int) (F94 : Int → Int), (0 ≤ y7 ∧ y7 ≤ 330) ∧ (0 ≤ y8 ∧ y8 ≤ 4000) ∧ (0 ≤ y9 ∧ y9 ≤ 4000) ∧ (0 ≤ y10 ∧ y10 ≤ 8) ∧ ((-1) ≤ y11 ∧ y11 ≤ 4000) ∧ ((-9223372036854775808) ≤ y12 ∧ y12 ≤ 9223372036854775807) ∧ (∀ j, 0 ≤ F41 j ∧ F41 j ≤ 6) ∧ (∀ j, 0 ≤ F94 j ∧ F94 j ≤ 11) ∧ (y10 = 0 → (m.1 10) = 0) ∧ (LxP y7 y8 y9 (m.1 6) y10) ∧ (y10 = 0 → ((m.1 8) + 1 ≤ y8)) ∧ R = (.inl (none), (mhp (mO m [(7, y7), (8, y8), (9, y9), (10, y10), (11, y11), (12, y12)] [(41, F41), (94, F94)]) c, N), 0, 0)
set_option maxHeartbeats 8000000 in
theorem c_takeExtract (w : wX) (m : mR) (c : Nat → Option am_C) (N D : Nat) (hD : 7 ≤ D) (hT : Ty m) (d : Int) (qd : R32 d) (hLx0 : LxP (m.1 7) (m.1 8) (m.1 9) (m.1 6) (m.1 10)) (hNM0 : ∀ k, (m.2 14) k + (m.2 15) k ≤ 4000) (p2 : 0 ≤ d ∧ d ≤ 15) (hC : m.1 10 = 0 → (PN (m.1 13) (m.1 19) (m.1 20) (m.1 21) (m.1 22) (m.1 23) (m.1 25) (m.1 26) (m.2 16) (m.2 17))) : TC w D 241 [.ref 189, .int (i32 d)] (mhp m c, N) (Q_takeExtract m c N d) := by
  obtain ⟨D, rfl⟩ : ∃ k, D = k + 1 := ⟨D - 1, by omega⟩
  obtain ⟨qda, qdb⟩ := id qd
  have hLx := hLx0
  have hNM := hNM0
  have f7 : 0 ≤ m.1 7 ∧ m.1 7 ≤ 330 := hT.1 7
  have f8 : 0 ≤ m.1 8 ∧ m.1 8 ≤ 4000 := hT.1 8
  have f9 : 0 ≤ m.1 9 ∧ m.1 9 ≤ 4000 := hT.1 9
  have f10 : 0 ≤ m.1 10 ∧ m.1 10 ≤ 8 := hT.1 10
  have f11 : (-1) ≤ m.1 11 ∧ m.1 11 ≤ 4000 := hT.1 11
  have f12 : (-9223372036854775808) ≤ m.1 12 ∧ m.1 12 ≤ 9223372036854775807 := hT.1 12
  have f25 : 0 ≤ m.1 25 ∧ m.1 25 ≤ 16 := hT.1 25
  have f22 : 0 ≤ m.1 22 ∧ m.1 22 ≤ 8 := hT.1 22
  have f19 : 0 ≤ m.1 19 ∧ m.1 19 ≤ 12 := hT.1 19
  have f20 : 0 ≤ m.1 20 ∧ m.1 20 ≤ 12 := hT.1 20
  have f21 : 0 ≤ m.1 21 ∧ m.1 21 ≤ 16 := hT.1 21
  have f13 : 0 ≤ m.1 13 ∧ m.1 13 ≤ 120 := hT.1 13
  have f6 : 0 ≤ m.1 6 ∧ m.1 6 ≤ 4000 := hT.1 6
  have f23 : 0 ≤ m.1 23 ∧ m.1 23 ≤ 16 := hT.1 23
  have f26 : 0 ≤ m.1 26 ∧ m.1 26 ≤ 8 := hT.1 26
  refine Tc_of rfl ?_
  show TT w D pm_241 (0, [(0, .ref 189), (1, .int (i32 d))], [], (mhp m c, N), 0, 0) (Q_takeExtract m c N d)
  rw [show (mhp m c, N) = (mhp (mO m [(7, (m.1 7)), (8, (m.1 8)), (9, (m.1 9)), (10, (m.1 10)), (11, (m.1 11)), (12, (m.1 12))] [(41, (m.2 41)), (94, (m.2 94))]) c, N) from congrArg (fun M => (mhp M c, N)) (mO_pad m [7, 8, 9, 10, 11, 12] [41, 94])]
  by_cases hf0 : m.1 10 = 0
  · skip
    have pPN := hC hf0
    have h7 := hLx (by omega)
    have J59_30 : ∀ (y23 : Int) (y24 : Int) (y25 : Int) (y26 : Int) (y27 : Int) (y28 : Int) (F29 : Int → Int), (0 ≤ y23 ∧ y23 ≤ 330) → (0 ≤ y24 ∧ y24 ≤ 4000) → (0 ≤ y25 ∧ y25 ≤ 4000) → (0 ≤ y26 ∧ y26 ≤ 8) → ((-1) ≤ y27 ∧ y27 ≤ 4000) → ((-9223372036854775808) ≤ y28 ∧ y28 ≤ 9223372036854775807) → (∀ j, 0 ≤ F29 j ∧ F29 j ≤ 11) → (1 ≤ y26) → (y26 ≤ 8) → ((m.2 41) d ≤ 5) → TT w D pm_241 (59, [(0, .ref 189), (1, .int (i32 d))], [], (mhp (mO m [(7, y23), (8, y24), (9, y25), (10, y26), (11, y27), (12, y28)] [(41, (m.2 41)), (94, F29)]) c, N), 0, 0) (Q_takeExtract m c N d) := by
      intro y23 y24 y25 y26 y27 y28 F29 q31 q32 q33 q34 q35 q36 q37 ic38 ic39 ic40
      refine T_gf 63 (.ref 211) rfl rfl rfl rfl rfl rfl ?_
      refine T_ld 64 (.int (i32 d)) rfl (fun _ => rfl) ?_
      refine T_dup2 65 rfl (fun _ => rfl) ?_
      refine T_iald 66 41 (m.2 41) rfl rfl rfl (by omega) (show d < (16 : Int) by omega) rfl ?_
      have e42 : 0 ≤ (m.2 41) d ∧ (m.2 41) d ≤ 6 := (hT.2.1 41) d
      refine T_ld 67 (.int (i32 1)) rfl (fun _ => rfl) ?_
      refine T_iadd 68 rfl rfl ?_
      have G43 : ∀ j, 0 ≤ (upI (m.2 41) d (((m.2 41) d) + 1)) j ∧ (upI (m.2 41) d (((m.2 41) d) + 1)) j ≤ 6 := upI_rg (hT.2.1 41) ⟨by omega, by omega⟩
      refine T_iast (a' := [(41, upI (m.2 41) d (((m.2 41) d) + 1)), (94, F29)]) 69 41 (m.2 41) rfl rfl rfl (by omega) (show d < (16 : Int) by omega) rfl rfl ?_
      refine T_ret rfl (fun _ => rfl) ?_
      exact ⟨y23, y24, y25, y26, y27, y28, upI (m.2 41) d (((m.2 41) d) + 1), F29, q31, q32, q33, q34, q35, q36, G43, q37, (by omega), (by first | (first | exact hLx | (intro h9; exfalso; omega)) | (exfalso; omega)), (fun h => absurd h (by omega)), rfl⟩
    have J52_51 : ∀ (s44 : Int) (y45 : Int) (y46 : Int) (y47 : Int) (y48 : Int) (y49 : Int) (y50 : Int), (R32 s44) → (0 ≤ y45 ∧ y45 ≤ 330) → (0 ≤ y46 ∧ y46 ≤ 4000) → (0 ≤ y47 ∧ y47 ≤ 4000) → (0 ≤ y48 ∧ y48 ≤ 8) → ((-1) ≤ y49 ∧ y49 ≤ 4000) → ((-9223372036854775808) ≤ y50 ∧ y50 ≤ 9223372036854775807) → (0 ≤ s44) → (s44 ≤ 11) → (1 ≤ y48) → (y48 ≤ 8) → ((m.2 41) d ≤ 5) → TT w D pm_241 (52, [(0, .ref 189), (1, .int (i32 d))], [.int (i32 s44), .int (i32 ((6 * d) + ((m.2 41) d))), .ref 256], (mhp (mO m [(7, y45), (8, y46), (9, y47), (10, y48), (11, y49), (12, y50)] [(41, (m.2 41)), (94, (m.2 94))]) c, N), 0, 0) (Q_takeExtract m c N d) := by
      intro s44 y45 y46 y47 y48 y49 y50 q52 q53 q54 q55 q56 q57 q58 ic59 ic60 ic61 ic62 ic63
      obtain ⟨q52a, q52b⟩ := id q52
      have G65 : ∀ j, 0 ≤ (upI (m.2 94) ((6 * d) + ((m.2 41) d)) s44) j ∧ (upI (m.2 94) ((6 * d) + ((m.2 41) d)) s44) j ≤ 11 := upI_rg (hT.2.1 94) ⟨by omega, by omega⟩
      refine T_iast (a' := [(41, (m.2 41)), (94, upI (m.2 94) ((6 * d) + ((m.2 41) d)) s44)]) 53 94 (m.2 94) rfl rfl rfl (by omega) (show ((6 * d) + ((m.2 41) d)) < (96 : Int) by omega) rfl rfl ?_
      refine T_ld 54 (.ref 189) rfl (fun _ => rfl) ?_
      refine T_ld 56 (.int (i32 59)) rfl (fun _ => rfl) ?_
      refine T_call 59 232 [.ref 189, .int (i32 59)] [] rfl (fun _ => rfl) rfl (c_need w (mO m [(7, y45), (8, y46), (9, y47), (10, y48), (11, y49), (12, y50)] [(41, (m.2 41)), (94, upI (m.2 94) ((6 * d) + ((m.2 41) d)) s44)]) c N D (by omega) (Ty_mO hT rfl rfl ⟨q53, q54, q55, q56, q57, q58, trivial⟩ ⟨(hT.2.1 41), G65, trivial⟩) 59 ⟨by decide, by decide⟩ (show 1 ≤ (59 : Int) by omega) (show LxP y45 y46 y47 (m.1 6) y48 by first | exact hLx | (intro h9; exfalso; omega) | (intro h9; have h8 := hLx (by omega); omega))) (fun rr66 k67 => ?_)
      obtain ⟨y68, y70, y72, y74, y76, y78, g69, g71, g73, g75, g77, g79, h80, h81, h82, h83, rfl⟩ := k67
      refine ⟨_, _, rfl, ?_⟩
      refine T_nf (st' := []) (l' := [(7, y68), (8, y70), (9, y72), (10, y74), (11, y76), (12, y78)]) (a' := [(41, (m.2 41)), (94, upI (m.2 94) ((6 * d) + ((m.2 41) d)) s44)]) rfl rfl rfl rfl rfl ?_
      replace h80 : LxP y68 y70 y72 (m.1 6) y74 := h80
      replace h81 : y74 = 0 → y48 = 0 ∧ y45 = (59 : Int) := h81
      replace h82 : y46 ≤ y70 := h82
      replace h83 : y74 = 0 → y46 + y47 ≤ y70 := h83
      have hf84 : 1 ≤ y74 := by omega
      clear h81
      clear h83
      have hLx := h80
      clear q53 q54 q55 q56 q57 q58 ic61 ic62 h82
      exact J59_30 y68 y70 y72 y74 y76 y78 (upI (m.2 94) ((6 * d) + ((m.2 41) d)) s44) g69 g71 g73 g75 g77 g79 G65 (by omega) (by omega) (by omega)
    refine T_gf 4 (.ref 211) rfl rfl rfl rfl rfl rfl ?_
    refine T_ld 5 (.int (i32 d)) rfl (fun _ => rfl) ?_
    refine T_iald 6 41 (m.2 41) rfl rfl rfl (by omega) (show d < (16 : Int) by omega) rfl ?_
    have e85 : 0 ≤ (m.2 41) d ∧ (m.2 41) d ≤ 6 := (hT.2.1 41) d
    refine T_ld 8 (.int (i32 6)) rfl (fun _ => rfl) ?_
    refine T_icmp 20 11 rfl rfl rfl (r32 (by omega) (by omega)) ⟨by decide, by decide⟩ (fun (h86 : (m.2 41) d ≠ 6) => ?_) (fun (h86 : ¬ ((m.2 41) d ≠ 6)) => ?_)
    · skip
      refine T_gf 24 (.int (i32 (m.1 10))) rfl rfl rfl rfl rfl rfl ?_
      refine T_if 28 27 rfl rfl rfl (r32 (by omega) (by omega)) (fun (h87 : (m.1 10) ≤ 0) => ?_) (fun (h87 : ¬ ((m.1 10) ≤ 0)) => by exfalso; omega)
      refine T_ld 29 (.ref 189) rfl (fun _ => rfl) ?_
      refine T_call 32 212 [.ref 189] [] rfl (fun _ => rfl) rfl (c_next w (mO m [(7, (m.1 7)), (8, (m.1 8)), (9, (m.1 9)), (10, (m.1 10)), (11, (m.1 11)), (12, (m.1 12))] [(41, (m.2 41)), (94, (m.2 94))]) c N D (by omega) (Ty_mO hT rfl rfl ⟨f7, f8, f9, f10, f11, f12, trivial⟩ ⟨(hT.2.1 41), (hT.2.1 94), trivial⟩) (show (m.1 10) = 0 → (m.1 8) + (m.1 9) ≤ (m.1 6) by first | omega | (intro h9; have h8 := hLx h9; omega))) (fun rr88 k89 => ?_)
      obtain ⟨y90, y92, y94, y96, y98, y100, g91, g93, g95, g97, g99, g101, h102, h103, h104, h105, rfl⟩ := k89
      refine ⟨_, _, rfl, ?_⟩
      refine T_nf (st' := []) (l' := [(7, y90), (8, y92), (9, y94), (10, y96), (11, y98), (12, y100)]) (a' := [(41, (m.2 41)), (94, (m.2 94))]) rfl rfl rfl rfl rfl ?_
      by_cases hf106 : y96 = 0
      · skip
        subst hf106
        replace h102 : LxP y90 y92 y94 (m.1 6) (0 : Int) := h102
        have hLx := h102
        replace h103 : (m.1 10) = 0 := h103 rfl
        replace h104 : (m.1 8) ≤ y92 := h104
        replace h105 : (m.1 8) + (m.1 9) ≤ y92 := h105 rfl
        have u107 : (m.1 8) + 1 ≤ y92 := by omega
        clear g97
        refine T_gf 36 (.ref 256) rfl rfl rfl rfl rfl rfl ?_
        refine T_ld 38 (.int (i32 6)) rfl (fun _ => rfl) ?_
        refine T_ld 39 (.int (i32 d)) rfl (fun _ => rfl) ?_
        refine T_imul 40 rfl rfl ?_
        refine T_gf 44 (.ref 211) rfl rfl rfl rfl rfl rfl ?_
        refine T_ld 45 (.int (i32 d)) rfl (fun _ => rfl) ?_
        refine T_iald 46 41 (m.2 41) rfl rfl rfl (by omega) (show d < (16 : Int) by omega) rfl ?_
        have e108 : 0 ≤ (m.2 41) d ∧ (m.2 41) d ≤ 6 := (hT.2.1 41) d
        refine T_iadd 47 rfl rfl ?_
        refine T_ld 48 (.ref 189) rfl (fun _ => rfl) ?_
        refine T_ld 49 (.int (i32 2)) rfl (fun _ => rfl) ?_
        have hOL : (0 : Int) = 0 → ∀ k, 0 ≤ k → k < (m.1 13) → (m.2 16) k = 2 → 0 ≤ (m.2 17) k ∧ (m.2 17) k < 12 := fun _ k h1 h2 h3 => by
          have h4 := PNl_2 pPN k h1 h2 h3
          omega
        refine T_call 52 236 [.ref 189, .int (i32 2)] [.int (i32 ((6 * d) + ((m.2 41) d))), .ref 256] rfl (fun _ => rfl) rfl (c_oldName w (mO m [(7, y90), (8, y92), (9, y94), (10, 0), (11, y98), (12, y100)] [(41, (m.2 41)), (94, (m.2 94))]) c N D (by omega) (Ty_mO hT rfl rfl ⟨g91, g93, g95, ⟨(by omega : (0 : Int) ≤ 0), (by omega : (0 : Int) ≤ 8)⟩, g99, g101, trivial⟩ ⟨(hT.2.1 41), (hT.2.1 94), trivial⟩) 2 12 ⟨by decide, by decide⟩ (show LxP y90 y92 y94 (m.1 6) (0 : Int) by first | exact hLx | (intro h9; exfalso; omega) | (intro h9; have h8 := hLx (by omega); omega)) (show ∀ k, (m.2 14) k + (m.2 15) k ≤ 4000 by first | exact p1 | exact hNM) (show 1 ≤ (2 : Int) ∧ (2 : Int) ≤ 7 ∧ (2 : Int) ≠ 5 by omega) (show 12 ≤ 16 by omega) (show (0 : Int) = 0 → ∀ k, 0 ≤ k → k < (m.1 13) → (m.2 16) k = (2 : Int) → 0 ≤ (m.2 17) k ∧ (m.2 17) k < 12 by first | exact hOL | (intro h; exfalso; omega)) (show (2 : Int) = 3 → 3 ≤ 12 by omega)) (fun rr109 k110 => ?_)
        obtain ⟨y111, y113, y115, y117, y119, y121, oo, g112, g114, g116, g118, g120, g122, g123, h124, h125, h126, h127, h128, h129, rfl⟩ := k110
        refine ⟨_, _, rfl, ?_⟩
        refine T_nf (st' := [.int (i32 oo), .int (i32 ((6 * d) + ((m.2 41) d))), .ref 256]) (l' := [(7, y111), (8, y113), (9, y115), (10, y117), (11, y119), (12, y121)]) (a' := [(41, (m.2 41)), (94, (m.2 94))]) rfl rfl rfl rfl rfl ?_
        obtain ⟨g123a, g123b⟩ := g123
        by_cases hf130 : y117 = 0
        · skip
          subst hf130
          replace h124 : LxP y111 y113 y115 (m.1 6) (0 : Int) := h124
          have hLx := h124
          replace h125 : y92 ≤ y113 := h125
          replace h126 : (0 : Int) = 0 ∧ y92 + y94 ≤ y113 := h126 rfl
          replace h127 : y90 = 1 := h127 rfl
          replace h128 : 0 ≤ oo ∧ (oo < 12 ∨ oo = 0) := h128
          replace h129 : oo < 12 := h129 rfl
          have u131 : (m.1 8) + 1 ≤ y113 := by omega
          clear g91 g93 g95 g99 g101 h102 h104 h105 u107 g118 h125 h126 h127
          have G132 : ∀ j, 0 ≤ (upI (m.2 94) ((6 * d) + ((m.2 41) d)) oo) j ∧ (upI (m.2 94) ((6 * d) + ((m.2 41) d)) oo) j ≤ 11 := upI_rg (hT.2.1 94) ⟨by omega, by omega⟩
          refine T_iast (a' := [(41, (m.2 41)), (94, upI (m.2 94) ((6 * d) + ((m.2 41) d)) oo)]) 53 94 (m.2 94) rfl rfl rfl (by omega) (show ((6 * d) + ((m.2 41) d)) < (96 : Int) by omega) rfl rfl ?_
          refine T_ld 54 (.ref 189) rfl (fun _ => rfl) ?_
          refine T_ld 56 (.int (i32 59)) rfl (fun _ => rfl) ?_
          refine T_call 59 232 [.ref 189, .int (i32 59)] [] rfl (fun _ => rfl) rfl (c_need w (mO m [(7, y111), (8, y113), (9, y115), (10, 0), (11, y119), (12, y121)] [(41, (m.2 41)), (94, upI (m.2 94) ((6 * d) + ((m.2 41) d)) oo)]) c N D (by omega) (Ty_mO hT rfl rfl ⟨g112, g114, g116, ⟨(by omega : (0 : Int) ≤ 0), (by omega : (0 : Int) ≤ 8)⟩, g120, g122, trivial⟩ ⟨(hT.2.1 41), G132, trivial⟩) 59 ⟨by decide, by decide⟩ (show 1 ≤ (59 : Int) by omega) (show LxP y111 y113 y115 (m.1 6) (0 : Int) by first | exact hLx | (intro h9; exfalso; omega) | (intro h9; have h8 := hLx (by omega); omega))) (fun rr133 k134 => ?_)
          obtain ⟨y135, y137, y139, y141, y143, y145, g136, g138, g140, g142, g144, g146, h147, h148, h149, h150, rfl⟩ := k134
          refine ⟨_, _, rfl, ?_⟩
          refine T_nf (st' := []) (l' := [(7, y135), (8, y137), (9, y139), (10, y141), (11, y143), (12, y145)]) (a' := [(41, (m.2 41)), (94, upI (m.2 94) ((6 * d) + ((m.2 41) d)) oo)]) rfl rfl rfl rfl rfl ?_
          by_cases hf151 : y141 = 0
          · skip
            subst hf151
            replace h147 : LxP y135 y137 y139 (m.1 6) (0 : Int) := h147
            have hLx := h147
            replace h148 : (0 : Int) = 0 ∧ y111 = (59 : Int) := h148 rfl
            replace h149 : y113 ≤ y137 := h149
            replace h150 : y113 + y115 ≤ y137 := h150 rfl
            have u152 : (m.1 8) + 1 ≤ y137 := by omega
            clear g112 g114 g116 g120 g122 h124 u131 g142 h148 h149 h150
            refine T_gf 63 (.ref 211) rfl rfl rfl rfl rfl rfl ?_
            refine T_ld 64 (.int (i32 d)) rfl (fun _ => rfl) ?_
            refine T_dup2 65 rfl (fun _ => rfl) ?_
            refine T_iald 66 41 (m.2 41) rfl rfl rfl (by omega) (show d < (16 : Int) by omega) rfl ?_
            have e153 : 0 ≤ (m.2 41) d ∧ (m.2 41) d ≤ 6 := (hT.2.1 41) d
            refine T_ld 67 (.int (i32 1)) rfl (fun _ => rfl) ?_
            refine T_iadd 68 rfl rfl ?_
            have G154 : ∀ j, 0 ≤ (upI (m.2 41) d (((m.2 41) d) + 1)) j ∧ (upI (m.2 41) d (((m.2 41) d) + 1)) j ≤ 6 := upI_rg (hT.2.1 41) ⟨by omega, by omega⟩
            refine T_iast (a' := [(41, upI (m.2 41) d (((m.2 41) d) + 1)), (94, upI (m.2 94) ((6 * d) + ((m.2 41) d)) oo)]) 69 41 (m.2 41) rfl rfl rfl (by omega) (show d < (16 : Int) by omega) rfl rfl ?_
            refine T_ret rfl (fun _ => rfl) ?_
            exact ⟨y135, y137, y139, 0, y143, y145, upI (m.2 41) d (((m.2 41) d) + 1), upI (m.2 94) ((6 * d) + ((m.2 41) d)) oo, g136, g138, g140, ⟨by omega, by omega⟩, g144, g146, G154, G132, (by omega), (by first | (first | exact hLx | (intro h9; exfalso; omega)) | (exfalso; omega)), (fun _ => (by omega)), rfl⟩
          · skip
            replace h147 : LxP y135 y137 y139 (m.1 6) y141 := h147
            have hLx := h147
            clear h148
            replace h149 : y113 ≤ y137 := h149
            clear h150
            have hf155 : 1 ≤ y141 := by omega
            clear g112 g114 g116 g120 g122 h124 u131 h149
            exact J59_30 y135 y137 y139 y141 y143 y145 (upI (m.2 94) ((6 * d) + ((m.2 41) d)) oo) g136 g138 g140 g142 g144 g146 G132 (by omega) (by omega) (by omega)
        · skip
          replace h124 : LxP y111 y113 y115 (m.1 6) y117 := h124
          have hLx := h124
          replace h125 : y92 ≤ y113 := h125
          clear h126
          clear h127
          replace h128 : 0 ≤ oo ∧ (oo < 12 ∨ oo = 0) := h128
          clear h129
          have hf156 : 1 ≤ y117 := by omega
          clear g91 g93 g95 g99 g101 h102 h104 h105 u107 h125
          exact J52_51 oo y111 y113 y115 y117 y119 y121 (r32 (by omega) (by omega)) g112 g114 g116 g118 g120 g122 (by omega) (by omega) (by omega) (by omega) (by omega)
      · skip
        replace h102 : LxP y90 y92 y94 (m.1 6) y96 := h102
        have hLx := h102
        clear h103
        replace h104 : (m.1 8) ≤ y92 := h104
        clear h105
        have hf157 : 1 ≤ y96 := by omega
        refine T_gf 36 (.ref 256) rfl rfl rfl rfl rfl rfl ?_
        refine T_ld 38 (.int (i32 6)) rfl (fun _ => rfl) ?_
        refine T_ld 39 (.int (i32 d)) rfl (fun _ => rfl) ?_
        refine T_imul 40 rfl rfl ?_
        refine T_gf 44 (.ref 211) rfl rfl rfl rfl rfl rfl ?_
        refine T_ld 45 (.int (i32 d)) rfl (fun _ => rfl) ?_
        refine T_iald 46 41 (m.2 41) rfl rfl rfl (by omega) (show d < (16 : Int) by omega) rfl ?_
        have e158 : 0 ≤ (m.2 41) d ∧ (m.2 41) d ≤ 6 := (hT.2.1 41) d
        refine T_iadd 47 rfl rfl ?_
        refine T_ld 48 (.ref 189) rfl (fun _ => rfl) ?_
        refine T_ld 49 (.int (i32 2)) rfl (fun _ => rfl) ?_
        refine T_call 52 236 [.ref 189, .int (i32 2)] [.int (i32 ((6 * d) + ((m.2 41) d))), .ref 256] rfl (fun _ => rfl) rfl (c_oldName w (mO m [(7, y90), (8, y92), (9, y94), (10, y96), (11, y98), (12, y100)] [(41, (m.2 41)), (94, (m.2 94))]) c N D (by omega) (Ty_mO hT rfl rfl ⟨g91, g93, g95, g97, g99, g101, trivial⟩ ⟨(hT.2.1 41), (hT.2.1 94), trivial⟩) 2 12 ⟨by decide, by decide⟩ (show LxP y90 y92 y94 (m.1 6) y96 by first | exact hLx | (intro h9; exfalso; omega) | (intro h9; have h8 := hLx (by omega); omega)) (show ∀ k, (m.2 14) k + (m.2 15) k ≤ 4000 by first | exact p1 | exact hNM) (show 1 ≤ (2 : Int) ∧ (2 : Int) ≤ 7 ∧ (2 : Int) ≠ 5 by omega) (show 12 ≤ 16 by omega) (show y96 = 0 → ∀ k, 0 ≤ k → k < (m.1 13) → (m.2 16) k = (2 : Int) → 0 ≤ (m.2 17) k ∧ (m.2 17) k < 12 by first | exact hOL | (intro h; exfalso; omega)) (show (2 : Int) = 3 → 3 ≤ 12 by omega)) (fun rr159 k160 => ?_)
        obtain ⟨y161, y163, y165, y167, y169, y171, oo, g162, g164, g166, g168, g170, g172, g173, h174, h175, h176, h177, h178, h179, rfl⟩ := k160
        refine ⟨_, _, rfl, ?_⟩
        refine T_nf (st' := [.int (i32 oo), .int (i32 ((6 * d) + ((m.2 41) d))), .ref 256]) (l' := [(7, y161), (8, y163), (9, y165), (10, y167), (11, y169), (12, y171)]) (a' := [(41, (m.2 41)), (94, (m.2 94))]) rfl rfl rfl rfl rfl ?_
        obtain ⟨g173a, g173b⟩ := g173
        replace h174 : LxP y161 y163 y165 (m.1 6) y167 := h174
        replace h175 : y92 ≤ y163 := h175
        replace h176 : y167 = 0 → y96 = 0 ∧ y92 + y94 ≤ y163 := h176
        replace h177 : y167 = 0 → y90 = 1 := h177
        replace h178 : 0 ≤ oo ∧ (oo < 12 ∨ oo = 0) := h178
        replace h179 : y167 = 0 → oo < 12 := h179
        have hf180 : 1 ≤ y167 := by omega
        clear h176
        clear h177
        clear h179
        have hLx := h174
        clear g91 g93 g95 g97 g99 g101 h102 h104 hf157 h175
        exact J52_51 oo y161 y163 y165 y167 y169 y171 (r32 (by omega) (by omega)) g162 g164 g166 g168 g170 g172 (by omega) (by omega) (by omega) (by omega) (by omega)
    · skip
      refine T_ld 12 (.ref 189) rfl (fun _ => rfl) ?_
      refine T_ld 13 (.int (i32 4)) rfl (fun _ => rfl) ?_
      refine T_gf 17 (.int (i32 (m.1 8))) rfl rfl rfl rfl rfl rfl ?_
      refine T_call 20 222 [.ref 189, .int (i32 4), .int (i32 (m.1 8))] [] rfl (fun _ => rfl) rfl (c_wrong w (mO m [(7, (m.1 7)), (8, (m.1 8)), (9, (m.1 9)), (10, (m.1 10)), (11, (m.1 11)), (12, (m.1 12))] [(41, (m.2 41)), (94, (m.2 94))]) c N D (by omega) (Ty_mO hT rfl rfl ⟨f7, f8, f9, f10, f11, f12, trivial⟩ ⟨(hT.2.1 41), (hT.2.1 94), trivial⟩) 4 (m.1 8) ⟨by decide, by decide⟩ (r32 (by omega) (by omega)) (show 1 ≤ (4 : Int) ∧ (4 : Int) ≤ 8 by omega) (show 0 ≤ (m.1 8) ∧ (m.1 8) ≤ 4000 by omega)) (fun rr181 k182 => ?_)
      obtain ⟨y183, y185, g184, g186, h187, rfl⟩ := k182
      refine ⟨_, _, rfl, ?_⟩
      refine T_nf (st' := []) (l' := [(7, (m.1 7)), (8, (m.1 8)), (9, (m.1 9)), (10, y183), (11, y185), (12, (m.1 12))]) (a' := [(41, (m.2 41)), (94, (m.2 94))]) rfl rfl rfl rfl rfl ?_
      replace h187 : (0 < (m.1 10) → y183 = (m.1 10) ∧ y185 = (m.1 11)) ∧ ((m.1 10) ≤ 0 → y183 = (4 : Int) ∧ y185 = (m.1 8)) := h187
      have hf188 : 1 ≤ y183 := by omega
      refine T_gf 24 (.int (i32 y183)) rfl rfl rfl rfl rfl rfl ?_
      refine T_if 28 27 rfl rfl rfl (r32 (by omega) (by omega)) (fun (h189 : y183 ≤ 0) => by exfalso; omega) (fun (h189 : ¬ (y183 ≤ 0)) => ?_)
      refine T_ret rfl (fun _ => rfl) ?_
      exact ⟨(m.1 7), (m.1 8), (m.1 9), y183, y185, (m.1 12), (m.2 41), (m.2 94), f7, f8, f9, g184, g186, f12, (hT.2.1 41), (hT.2.1 94), (by omega), (by first | (first | exact hLx | (intro h9; exfalso; omega)) | (exfalso; omega)), (fun h => absurd h (by omega)), rfl⟩
  · skip
    clear hC
    refine T_gf 4 (.ref 211) rfl rfl rfl rfl rfl rfl ?_
    refine T_ld 5 (.int (i32 d)) rfl (fun _ => rfl) ?_
    refine T_iald 6 41 (m.2 41) rfl rfl rfl (by omega) (show d < (16 : Int) by omega) rfl ?_
    have e190 : 0 ≤ (m.2 41) d ∧ (m.2 41) d ≤ 6 := (hT.2.1 41) d
    refine T_ld 8 (.int (i32 6)) rfl (fun _ => rfl) ?_
    refine T_icmp 20 11 rfl rfl rfl (r32 (by omega) (by omega)) ⟨by decide, by decide⟩ (fun (h191 : (m.2 41) d ≠ 6) => ?_) (fun (h191 : ¬ ((m.2 41) d ≠ 6)) => ?_)
    · skip
      refine T_gf 24 (.int (i32 (m.1 10))) rfl rfl rfl rfl rfl rfl ?_
      refine T_if 28 27 rfl rfl rfl (r32 (by omega) (by omega)) (fun (h192 : (m.1 10) ≤ 0) => by exfalso; omega) (fun (h192 : ¬ ((m.1 10) ≤ 0)) => ?_)
      refine T_ret rfl (fun _ => rfl) ?_
      exact ⟨(m.1 7), (m.1 8), (m.1 9), (m.1 10), (m.1 11), (m.1 12), (m.2 41), (m.2 94), f7, f8, f9, f10, f11, f12, (hT.2.1 41), (hT.2.1 94), (by omega), (by first | (first | exact hLx | (intro h9; exfalso; omega)) | (exfalso; omega)), (fun h => absurd h (by omega)), rfl⟩
    · skip
      refine T_ld 12 (.ref 189) rfl (fun _ => rfl) ?_
      refine T_ld 13 (.int (i32 4)) rfl (fun _ => rfl) ?_
      refine T_gf 17 (.int (i32 (m.1 8))) rfl rfl rfl rfl rfl rfl ?_
      refine T_call 20 222 [.ref 189, .int (i32 4), .int (i32 (m.1 8))] [] rfl (fun _ => rfl) rfl (c_wrong w (mO m [(7, (m.1 7)), (8, (m.1 8)), (9, (m.1 9)), (10, (m.1 10)), (11, (m.1 11)), (12, (m.1 12))] [(41, (m.2 41)), (94, (m.2 94))]) c N D (by omega) (Ty_mO hT rfl rfl ⟨f7, f8, f9, f10, f11, f12, trivial⟩ ⟨(hT.2.1 41), (hT.2.1 94), trivial⟩) 4 (m.1 8) ⟨by decide, by decide⟩ (r32 (by omega) (by omega)) (show 1 ≤ (4 : Int) ∧ (4 : Int) ≤ 8 by omega) (show 0 ≤ (m.1 8) ∧ (m.1 8) ≤ 4000 by omega)) (fun rr193 k194 => ?_)
      obtain ⟨y195, y197, g196, g198, h199, rfl⟩ := k194
      refine ⟨_, _, rfl, ?_⟩
      refine T_nf (st' := []) (l' := [(7, (m.1 7)), (8, (m.1 8)), (9, (m.1 9)), (10, y195), (11, y197), (12, (m.1 12))]) (a' := [(41, (m.2 41)), (94, (m.2 94))]) rfl rfl rfl rfl rfl ?_
      replace h199 : (0 < (m.1 10) → y195 = (m.1 10) ∧ y197 = (m.1 11)) ∧ ((m.1 10) ≤ 0 → y195 = (4 : Int) ∧ y197 = (m.1 8)) := h199
      have hf200 : 1 ≤ y195 := by omega
      refine T_gf 24 (.int (i32 y195)) rfl rfl rfl rfl rfl rfl ?_
      refine T_if 28 27 rfl rfl rfl (r32 (by omega) (by omega)) (fun (h201 : y195 ≤ 0) => by exfalso; omega) (fun (h201 : ¬ (y195 ≤ 0)) => ?_)
      refine T_ret rfl (fun _ => rfl) ?_
      exact ⟨(m.1 7), (m.1 8), (m.1 9), y195, y197, (m.1 12), (m.2 41), (m.2 94), f7, f8, f9, g196, g198, f12, (hT.2.1 41), (hT.2.1 94), (by omega), (by first | (first | exact hLx | (intro h9; exfalso; omega)) | (exfalso; omega)), (fun h => absurd h (by omega)), rfl⟩
def Q_caseNumber (m : mR) (c : Nat → Option am_C) (N : Nat) (b : Int) : ag_Re af_T → Prop := fun R => ∃ (y7 : Int) (y8 : Int) (y9 : Int) (y10 : Int) (y11 : Int) (y12 : Int) (r : Int), (0 ≤ y7 ∧ y7 ≤ 330) ∧ (0 ≤ y8 ∧ y8 ≤ 4000) ∧ (0 ≤ y9 ∧ y9 ≤ 4000) ∧ (0 ≤ y10 ∧ y10 ≤ 8) ∧ ((-1) ≤ y11 ∧ y11 ≤ 4000) ∧ ((-9223372036854775808) ≤ y12 ∧ y12 ≤ 9223372036854775807) ∧ ((-9223372036854775808) ≤ r ∧ r ≤ 9223372036854775807) ∧ (y10 = 0 → (m.1 10) = 0) ∧ (LxP y7 y8 y9 (m.1 6) y10) ∧ (y10 = 0 → ((m.1 8) + 1 ≤ y8) ∧ ((m.1 7) = 2)) ∧ R = (.inl (some (.long (i64 r))), (mhp (mO m [(7, y7), (8, y8), (9, y9), (10, y10), (11, y11), (12, y12)] []) c, N), 0, 0)
set_option maxHeartbeats 8000000 in
theorem c_caseNumber (w : wX) (m : mR) (c : Nat → Option am_C) (N D : Nat) (hD : 6 ≤ D) (hT : Ty m) (b : Int) (qb : R32 b) (hLx0 : LxP (m.1 7) (m.1 8) (m.1 9) (m.1 6) (m.1 10)) (hC : m.1 10 = 0 → True) : TC w D 266 [.ref 189, .int (i32 b)] (mhp m c, N) (Q_caseNumber m c N b) := by
  obtain ⟨D, rfl⟩ : ∃ k, D = k + 1 := ⟨D - 1, by omega⟩
  obtain ⟨qba, qbb⟩ := id qb
  have hLx := hLx0
  have f7 : 0 ≤ m.1 7 ∧ m.1 7 ≤ 330 := hT.1 7
  have f8 : 0 ≤ m.1 8 ∧ m.1 8 ≤ 4000 := hT.1 8
  have f9 : 0 ≤ m.1 9 ∧ m.1 9 ≤ 4000 := hT.1 9
  have f10 : 0 ≤ m.1 10 ∧ m.1 10 ≤ 8 := hT.1 10
  have f11 : (-1) ≤ m.1 11 ∧ m.1 11 ≤ 4000 := hT.1 11
  have f12 : (-9223372036854775808) ≤ m.1 12 ∧ m.1 12 ≤ 9223372036854775807 := hT.1 12
  have f6 : 0 ≤ m.1 6 ∧ m.1 6 ≤ 4000 := hT.1 6
  refine Tc_of rfl ?_
  show TT w D pm_266 (0, [(0, .ref 189), (1, .int (i32 b))], [], (mhp m c, N), 0, 0) (Q_caseNumber m c N b)
  rw [show (mhp m c, N) = (mhp (mO m [(7, (m.1 7)), (8, (m.1 8)), (9, (m.1 9)), (10, (m.1 10)), (11, (m.1 11)), (12, (m.1 12))] []) c, N) from congrArg (fun M => (mhp M c, N)) (mO_pad m [7, 8, 9, 10, 11, 12] [])]
  by_cases hf0 : m.1 10 = 0
  · skip
    have h7 := hLx (by omega)
    refine T_gf 4 (.int (i32 (m.1 10))) rfl rfl rfl rfl rfl rfl ?_
    refine T_if 9 7 rfl rfl rfl (r32 (by omega) (by omega)) (fun (h15 : (m.1 10) ≤ 0) => ?_) (fun (h15 : ¬ ((m.1 10) ≤ 0)) => by exfalso; omega)
    refine T_gf 13 (.int (i32 (m.1 7))) rfl rfl rfl rfl rfl rfl ?_
    refine T_ld 14 (.int (i32 2)) rfl (fun _ => rfl) ?_
    refine T_icmp 23 17 rfl rfl rfl (r32 (by omega) (by omega)) ⟨by decide, by decide⟩ (fun (h16 : (m.1 7) = 2) => ?_) (fun (h16 : ¬ ((m.1 7) = 2)) => ?_)
    · skip
      refine T_gf 27 (.int (i32 (m.1 8))) rfl rfl rfl rfl rfl rfl ?_
      refine T_sto 28 [(2, .int (i32 (m.1 8))), (0, .ref 189), (1, .int (i32 b))] rfl (fun _ => rfl) ?_
      refine T_gf 32 (.long (i64 (m.1 12))) rfl rfl rfl rfl rfl rfl ?_
      refine T_sto 33 [(3, .long (i64 (m.1 12))), (2, .int (i32 (m.1 8))), (0, .ref 189), (1, .int (i32 b))] rfl (fun _ => rfl) ?_
      refine T_ld 34 (.ref 189) rfl (fun _ => rfl) ?_
      refine T_call 37 212 [.ref 189] [] rfl (fun _ => rfl) rfl (c_next w (mO m [(7, (m.1 7)), (8, (m.1 8)), (9, (m.1 9)), (10, (m.1 10)), (11, (m.1 11)), (12, (m.1 12))] []) c N D (by omega) (Ty_mO hT rfl rfl ⟨f7, f8, f9, f10, f11, f12, trivial⟩ trivial) (show (m.1 10) = 0 → (m.1 8) + (m.1 9) ≤ (m.1 6) by first | omega | (intro h9; have h8 := hLx h9; omega))) (fun rr17 k18 => ?_)
      obtain ⟨y19, y21, y23, y25, y27, y29, g20, g22, g24, g26, g28, g30, h31, h32, h33, h34, rfl⟩ := k18
      refine ⟨_, _, rfl, ?_⟩
      refine T_nf (st' := []) (l' := [(7, y19), (8, y21), (9, y23), (10, y25), (11, y27), (12, y29)]) (a' := []) rfl rfl rfl rfl rfl ?_
      by_cases hf35 : y25 = 0
      · skip
        subst hf35
        replace h31 : LxP y19 y21 y23 (m.1 6) (0 : Int) := h31
        have hLx := h31
        replace h32 : (m.1 10) = 0 := h32 rfl
        replace h33 : (m.1 8) ≤ y21 := h33
        replace h34 : (m.1 8) + (m.1 9) ≤ y21 := h34 rfl
        have u36 : (m.1 8) + 1 ≤ y21 := by omega
        clear g26
        refine T_gf 41 (.int (i32 0)) rfl rfl rfl rfl rfl rfl ?_
        refine T_if 54 44 rfl rfl rfl ⟨by decide, by decide⟩ (fun h37 => absurd (show (0 : Int) ≠ 0 from h37) (by decide)) (fun _ => ?_)
        refine T_ld 45 (.ref 189) rfl (fun _ => rfl) ?_
        refine T_ld 46 (.long (i64 (m.1 12))) rfl (fun _ => rfl) ?_
        refine T_ld 47 (.int (i32 b)) rfl (fun _ => rfl) ?_
        refine T_call 50 262 [.long (i64 (m.1 12)), .int (i32 b)] [.ref 189] rfl (fun _ => rfl) rfl (c_fits w (mO m [(7, y19), (8, y21), (9, y23), (10, 0), (11, y27), (12, y29)] []) c N D (by omega) (Ty_mO hT rfl rfl ⟨g20, g22, g24, ⟨(by omega : (0 : Int) ≤ 0), (by omega : (0 : Int) ≤ 8)⟩, g28, g30, trivial⟩ trivial) (m.1 12) b (r64 (by omega) (by omega)) (r32 (by omega) (by omega))) (fun rr38 k39 => ?_)
        obtain ⟨x40, g41, rfl⟩ := k39
        refine ⟨_, _, rfl, ?_⟩
        refine T_nf (st' := [.int (i32 x40), .ref 189]) (l' := [(7, y19), (8, y21), (9, y23), (10, 0), (11, y27), (12, y29)]) (a' := []) rfl rfl rfl rfl rfl ?_
        obtain ⟨g41a, g41b⟩ := g41
        have u42 : (m.1 8) + 1 ≤ y21 := by omega
        refine T_ld 51 (.int (i32 (m.1 8))) rfl (fun _ => rfl) ?_
        refine T_call 54 256 [.ref 189, .int (i32 x40), .int (i32 (m.1 8))] [] rfl (fun _ => rfl) rfl (c_want w (mO m [(7, y19), (8, y21), (9, y23), (10, 0), (11, y27), (12, y29)] []) c N D (by omega) (Ty_mO hT rfl rfl ⟨g20, g22, g24, ⟨(by omega : (0 : Int) ≤ 0), (by omega : (0 : Int) ≤ 8)⟩, g28, g30, trivial⟩ trivial) x40 (m.1 8) (r32 (by omega) (by omega)) (r32 (by omega) (by omega)) (show 0 ≤ (m.1 8) ∧ (m.1 8) ≤ 4000 by omega) (fun _ => trivial)) (fun rr43 k44 => ?_)
        obtain ⟨y45, y47, g46, g48, h49, c50, rfl⟩ := k44
        refine ⟨_, _, rfl, ?_⟩
        refine T_nf (st' := []) (l' := [(7, y19), (8, y21), (9, y23), (10, y45), (11, y47), (12, y29)]) (a' := []) rfl rfl rfl rfl rfl ?_
        by_cases hf51 : y45 = 0
        · skip
          subst hf51
          replace h49 : (0 : Int) = 0 := h49 rfl
          have c52 := c50 rfl
          replace c52 : x40 ≠ 0 := c52
          clear c50
          have u53 : (m.1 8) + 1 ≤ y21 := by omega
          clear g28 g41a g41b g46 c52
          refine T_ld 55 (.long (i64 (m.1 12))) rfl (fun _ => rfl) ?_
          refine T_ret rfl (fun _ => rfl) ?_
          exact ⟨y19, y21, y23, 0, y47, y29, (m.1 12), g20, g22, g24, ⟨by omega, by omega⟩, g48, g30, ⟨by omega, by omega⟩, (by omega), (by first | (first | exact hLx | (intro h9; exfalso; omega)) | (exfalso; omega)), (fun _ => ⟨(by omega), (by omega)⟩), rfl⟩
        · skip
          clear c50
          clear h49
          have hf54 : 1 ≤ y45 := by omega
          clear g28 g41a g41b
          refine T_ld 55 (.long (i64 (m.1 12))) rfl (fun _ => rfl) ?_
          refine T_ret rfl (fun _ => rfl) ?_
          exact ⟨y19, y21, y23, y45, y47, y29, (m.1 12), g20, g22, g24, g46, g48, g30, ⟨by omega, by omega⟩, (by omega), (by first | (first | exact hLx | (intro h9; exfalso; omega)) | (exfalso; omega)), (fun h => absurd h (by omega)), rfl⟩
      · skip
        replace h31 : LxP y19 y21 y23 (m.1 6) y25 := h31
        have hLx := h31
        clear h32
        replace h33 : (m.1 8) ≤ y21 := h33
        clear h34
        have hf55 : 1 ≤ y25 := by omega
        refine T_gf 41 (.int (i32 y25)) rfl rfl rfl rfl rfl rfl ?_
        refine T_if 54 44 rfl rfl rfl (r32 (by omega) (by omega)) (fun (h56 : y25 ≠ 0) => ?_) (fun (h56 : ¬ (y25 ≠ 0)) => by exfalso; omega)
        refine T_ld 55 (.long (i64 (m.1 12))) rfl (fun _ => rfl) ?_
        refine T_ret rfl (fun _ => rfl) ?_
        exact ⟨y19, y21, y23, y25, y27, y29, (m.1 12), g20, g22, g24, g26, g28, g30, ⟨by omega, by omega⟩, (by omega), (by first | (first | exact hLx | (intro h9; exfalso; omega)) | (exfalso; omega)), (fun h => absurd h (by omega)), rfl⟩
    · skip
      refine T_ld 18 (.ref 189) rfl (fun _ => rfl) ?_
      refine T_call 21 226 [.ref 189] [] rfl (fun _ => rfl) rfl (c_bad w (mO m [(7, (m.1 7)), (8, (m.1 8)), (9, (m.1 9)), (10, (m.1 10)), (11, (m.1 11)), (12, (m.1 12))] []) c N D (by omega) (Ty_mO hT rfl rfl ⟨f7, f8, f9, f10, f11, f12, trivial⟩ trivial) ) (fun rr57 k58 => ?_)
      obtain ⟨y59, y61, g60, g62, h63, rfl⟩ := k58
      refine ⟨_, _, rfl, ?_⟩
      refine T_nf (st' := []) (l' := [(7, (m.1 7)), (8, (m.1 8)), (9, (m.1 9)), (10, y59), (11, y61), (12, (m.1 12))]) (a' := []) rfl rfl rfl rfl rfl ?_
      replace h63 : (0 < (m.1 10) → y59 = (m.1 10) ∧ y61 = (m.1 11)) ∧ ((m.1 10) ≤ 0 → y59 = 1 ∧ y61 = (m.1 8)) := h63
      have hf64 : 1 ≤ y59 := by omega
      refine T_ld 22 (.long (i64 0)) rfl (fun _ => rfl) ?_
      refine T_ret rfl (fun _ => rfl) ?_
      exact ⟨(m.1 7), (m.1 8), (m.1 9), y59, y61, (m.1 12), 0, f7, f8, f9, g60, g62, f12, ⟨by omega, by omega⟩, (by omega), (by first | (first | exact hLx | (intro h9; exfalso; omega)) | (exfalso; omega)), (fun h => absurd h (by omega)), rfl⟩
  · skip
    clear hC
    refine T_gf 4 (.int (i32 (m.1 10))) rfl rfl rfl rfl rfl rfl ?_
    refine T_if 9 7 rfl rfl rfl (r32 (by omega) (by omega)) (fun (h65 : (m.1 10) ≤ 0) => by exfalso; omega) (fun (h65 : ¬ ((m.1 10) ≤ 0)) => ?_)
    refine T_ld 8 (.long (i64 0)) rfl (fun _ => rfl) ?_
    refine T_ret rfl (fun _ => rfl) ?_
    exact ⟨(m.1 7), (m.1 8), (m.1 9), (m.1 10), (m.1 11), (m.1 12), 0, f7, f8, f9, f10, f11, f12, ⟨by omega, by omega⟩, (by omega), (by first | (first | exact hLx | (intro h9; exfalso; omega)) | (exfalso; omega)), (fun h => absurd h (by omega)), rfl⟩
def Q_takeCase (m : mR) (c : Nat → Option am_C) (N : Nat) (d : Int) : ag_Re af_T → Prop := fun R => ∃ (y7 : Int) (y8 : Int) (y9 : Int) (y10 : Int) (y11 : Int) (y12 : Int) (y13 : Int) (y23 : Int) (F14 : Int → Int) (F15 : Int → Int) (F16 : Int → Int) (F17 : Int → Int) (F37 : Int → Int) (F38 : Int → Int) (F42 : Int → Int) (F45 : Int → Int) (F97 : Int → Int) (F98 : Int → Int), (0 ≤ y7 ∧ y7 ≤ 330) ∧ (0 ≤ y8 ∧ y8 ≤ 4000) ∧ (0 ≤ y9 ∧ y9 ≤ 4000) ∧ (0 ≤ y10 ∧ y10 ≤ 8) ∧ ((-1) ≤ y11 ∧ y11 ≤ 4000) ∧ ((-9223372036854775808) ≤ y12 ∧ y12 ≤ 9223372036854775807) ∧ (0 ≤ y13 ∧ y13 ≤ 120) ∧ (0 ≤ y23 ∧ y23 ≤ 16) ∧ (∀ j, 0 ≤ F14 j ∧ F14 j ≤ 4000) ∧ (∀ j, 0 ≤ F15 j ∧ F15 j ≤ 4000) ∧ (∀ j, 0 ≤ F16 j ∧ F16 j ≤ 7) ∧ (∀ j, 0 ≤ F17 j ∧ F17 j ≤ 15) ∧ (∀ j, 0 ≤ F37 j ∧ F37 j ≤ 4000) ∧ (∀ j, (-1) ≤ F38 j ∧ F38 j ≤ 15) ∧ (∀ j, 0 ≤ F42 j ∧ F42 j ≤ 8) ∧ (∀ j, (-2) ≤ F45 j ∧ F45 j ≤ 15) ∧ (∀ j, (-9223372036854775808) ≤ F97 j ∧ F97 j ≤ 9223372036854775807) ∧ (∀ j, (-9223372036854775808) ≤ F98 j ∧ F98 j ≤ 9223372036854775807) ∧ (y10 = 0 → (m.1 10) = 0) ∧ (LxP y7 y8 y9 (m.1 6) y10) ∧ (∀ k, F14 k + F15 k ≤ 4000) ∧ (y10 = 0 → ((m.1 8) + 1 ≤ y8) ∧ (PN y13 (m.1 19) (m.1 20) (m.1 21) (m.1 22) y23 (m.1 25) (m.1 26) F16 F17) ∧ (SOp F38 y23 (m.1 24)) ∧ (∀ c, 8 * d ≤ c → c < 8 * d + F42 d → F45 c < y23) ∧ ((m.1 23) ≤ y23) ∧ (agr (m.2 42) F42 d) ∧ (agr (m.2 45) F45 (8 * d))) ∧ R = (.inl (none), (mhp (mO m [(7, y7), (8, y8), (9, y9), (10, y10), (11, y11), (12, y12), (13, y13), (23, y23)] [(14, F14), (15, F15), (16, F16), (17, F17), (37, F37), (38, F38), (42, F42), (45, F45), (97, F97), (98, F98)]) c, N), 0, 0)
set_option maxHeartbeats 8000000 in
theorem c_takeCase (w : wX) (m : mR) (c : Nat → Option am_C) (N D : Nat) (hD : 7 ≤ D) (hT : Ty m) (d : Int) (qd : R32 d) (hLx0 : LxP (m.1 7) (m.1 8) (m.1 9) (m.1 6) (m.1 10)) (hNM0 : ∀ k, (m.2 14) k + (m.2 15) k ≤ 4000) (p2 : 0 ≤ d ∧ d ≤ 15) (hC : m.1 10 = 0 → (PN (m.1 13) (m.1 19) (m.1 20) (m.1 21) (m.1 22) (m.1 23) (m.1 25) (m.1 26) (m.2 16) (m.2 17)) ∧ (SOp (m.2 38) (m.1 23) (m.1 24)) ∧ (∀ c, 8 * d ≤ c → c < 8 * d + (m.2 42) d → (m.2 45) c < (m.1 23))) : TC w D 265 [.ref 189, .int (i32 d)] (mhp m c, N) (Q_takeCase m c N d) := by
  obtain ⟨D, rfl⟩ : ∃ k, D = k + 1 := ⟨D - 1, by omega⟩
  obtain ⟨qda, qdb⟩ := id qd
  have hLx := hLx0
  have hNM := hNM0
  have f7 : 0 ≤ m.1 7 ∧ m.1 7 ≤ 330 := hT.1 7
  have f8 : 0 ≤ m.1 8 ∧ m.1 8 ≤ 4000 := hT.1 8
  have f9 : 0 ≤ m.1 9 ∧ m.1 9 ≤ 4000 := hT.1 9
  have f10 : 0 ≤ m.1 10 ∧ m.1 10 ≤ 8 := hT.1 10
  have f11 : (-1) ≤ m.1 11 ∧ m.1 11 ≤ 4000 := hT.1 11
  have f12 : (-9223372036854775808) ≤ m.1 12 ∧ m.1 12 ≤ 9223372036854775807 := hT.1 12
  have f13 : 0 ≤ m.1 13 ∧ m.1 13 ≤ 120 := hT.1 13
  have f23 : 0 ≤ m.1 23 ∧ m.1 23 ≤ 16 := hT.1 23
  have f25 : 0 ≤ m.1 25 ∧ m.1 25 ≤ 16 := hT.1 25
  have f22 : 0 ≤ m.1 22 ∧ m.1 22 ≤ 8 := hT.1 22
  have f24 : 0 ≤ m.1 24 ∧ m.1 24 ≤ 16 := hT.1 24
  have f19 : 0 ≤ m.1 19 ∧ m.1 19 ≤ 12 := hT.1 19
  have f20 : 0 ≤ m.1 20 ∧ m.1 20 ≤ 12 := hT.1 20
  have f21 : 0 ≤ m.1 21 ∧ m.1 21 ≤ 16 := hT.1 21
  have f6 : 0 ≤ m.1 6 ∧ m.1 6 ≤ 4000 := hT.1 6
  have f26 : 0 ≤ m.1 26 ∧ m.1 26 ≤ 8 := hT.1 26
  refine Tc_of rfl ?_
  show TT w D pm_265 (0, [(0, .ref 189), (1, .int (i32 d))], [], (mhp m c, N), 0, 0) (Q_takeCase m c N d)
  rw [show (mhp m c, N) = (mhp (mO m [(7, (m.1 7)), (8, (m.1 8)), (9, (m.1 9)), (10, (m.1 10)), (11, (m.1 11)), (12, (m.1 12)), (13, (m.1 13)), (23, (m.1 23))] [(14, (m.2 14)), (15, (m.2 15)), (16, (m.2 16)), (17, (m.2 17)), (37, (m.2 37)), (38, (m.2 38)), (42, (m.2 42)), (45, (m.2 45)), (97, (m.2 97)), (98, (m.2 98))]) c, N) from congrArg (fun M => (mhp M c, N)) (mO_pad m [7, 8, 9, 10, 11, 12, 13, 23] [14, 15, 16, 17, 37, 38, 42, 45, 97, 98])]
  by_cases hf0 : m.1 10 = 0
  · skip
    obtain ⟨pPN, pSO, hCT⟩ := hC hf0
    have h7 := hLx (by omega)
    have hNM := hNM0
    have J123_86 : ∀ (y69 : Int) (y70 : Int) (y71 : Int) (y72 : Int) (y73 : Int) (y74 : Int) (y75 : Int) (y76 : Int) (F77 : Int → Int) (F78 : Int → Int) (F79 : Int → Int) (F80 : Int → Int) (F81 : Int → Int) (F82 : Int → Int) (F83 : Int → Int) (F84 : Int → Int) (F85 : Int → Int), (0 ≤ y69 ∧ y69 ≤ 330) → (0 ≤ y70 ∧ y70 ≤ 4000) → (0 ≤ y71 ∧ y71 ≤ 4000) → (0 ≤ y72 ∧ y72 ≤ 8) → ((-1) ≤ y73 ∧ y73 ≤ 4000) → ((-9223372036854775808) ≤ y74 ∧ y74 ≤ 9223372036854775807) → (0 ≤ y75 ∧ y75 ≤ 120) → (0 ≤ y76 ∧ y76 ≤ 16) → (∀ j, 0 ≤ F77 j ∧ F77 j ≤ 4000) → (∀ j, 0 ≤ F78 j ∧ F78 j ≤ 4000) → (∀ j, 0 ≤ F79 j ∧ F79 j ≤ 7) → (∀ j, 0 ≤ F80 j ∧ F80 j ≤ 15) → (∀ j, 0 ≤ F81 j ∧ F81 j ≤ 4000) → (∀ j, (-1) ≤ F82 j ∧ F82 j ≤ 15) → (∀ j, (-2) ≤ F83 j ∧ F83 j ≤ 15) → (∀ j, (-9223372036854775808) ≤ F84 j ∧ F84 j ≤ 9223372036854775807) → (∀ j, (-9223372036854775808) ≤ F85 j ∧ F85 j ≤ 9223372036854775807) → (1 ≤ y72) → (y72 ≤ 8) → (∀ k, F77 k + F78 k ≤ 4000) → ((m.2 42) d ≤ 7) → TT w D pm_265 (123, [(0, .ref 189), (1, .int (i32 d)), (2, .int (i32 ((8 * d) + ((m.2 42) d))))], [], (mhp (mO m [(7, y69), (8, y70), (9, y71), (10, y72), (11, y73), (12, y74), (13, y75), (23, y76)] [(14, F77), (15, F78), (16, F79), (17, F80), (37, F81), (38, F82), (42, (m.2 42)), (45, F83), (97, F84), (98, F85)]) c, N), 0, 0) (Q_takeCase m c N d) := by
      intro y69 y70 y71 y72 y73 y74 y75 y76 F77 F78 F79 F80 F81 F82 F83 F84 F85 q87 q88 q89 q90 q91 q92 q93 q94 q95 q96 q97 q98 q99 q100 q101 q102 q103 ic104 ic105 ic106 ic107
      have hNM := ic106
      refine T_gf 127 (.ref 212) rfl rfl rfl rfl rfl rfl ?_
      refine T_ld 128 (.int (i32 d)) rfl (fun _ => rfl) ?_
      refine T_dup2 129 rfl (fun _ => rfl) ?_
      refine T_iald 130 42 (m.2 42) rfl rfl rfl (by omega) (show d < (16 : Int) by omega) rfl ?_
      have e109 : 0 ≤ (m.2 42) d ∧ (m.2 42) d ≤ 8 := (hT.2.1 42) d
      refine T_ld 131 (.int (i32 1)) rfl (fun _ => rfl) ?_
      refine T_iadd 132 rfl rfl ?_
      have G110 : ∀ j, 0 ≤ (upI (m.2 42) d (((m.2 42) d) + 1)) j ∧ (upI (m.2 42) d (((m.2 42) d) + 1)) j ≤ 8 := upI_rg (hT.2.1 42) ⟨by omega, by omega⟩
      refine T_iast (a' := [(14, F77), (15, F78), (16, F79), (17, F80), (37, F81), (38, F82), (42, upI (m.2 42) d (((m.2 42) d) + 1)), (45, F83), (97, F84), (98, F85)]) 133 42 (m.2 42) rfl rfl rfl (by omega) (show d < (16 : Int) by omega) rfl rfl ?_
      refine T_ret rfl (fun _ => rfl) ?_
      exact ⟨y69, y70, y71, y72, y73, y74, y75, y76, F77, F78, F79, F80, F81, F82, upI (m.2 42) d (((m.2 42) d) + 1), F83, F84, F85, q87, q88, q89, q90, q91, q92, q93, q94, q95, q96, q97, q98, q99, q100, G110, q101, q102, q103, (by omega), (by first | (first | exact hLx | (intro h9; exfalso; omega)) | (exfalso; omega)), (by first | (first | exact hNM | (intro k; rw [hE1, hE2]; have := hNM k; have h7 := hLx0 hf0; unfold upI; split <;> omega)) | (exfalso; omega)), (fun h => absurd h (by omega)), rfl⟩
    have J116_128 : ∀ (s111 : Int) (y112 : Int) (y113 : Int) (y114 : Int) (y115 : Int) (y116 : Int) (y117 : Int) (y118 : Int) (y119 : Int) (F120 : Int → Int) (F121 : Int → Int) (F122 : Int → Int) (F123 : Int → Int) (F124 : Int → Int) (F125 : Int → Int) (F126 : Int → Int) (F127 : Int → Int), (R32 s111) → (0 ≤ y112 ∧ y112 ≤ 330) → (0 ≤ y113 ∧ y113 ≤ 4000) → (0 ≤ y114 ∧ y114 ≤ 4000) → (0 ≤ y115 ∧ y115 ≤ 8) → ((-1) ≤ y116 ∧ y116 ≤ 4000) → ((-9223372036854775808) ≤ y117 ∧ y117 ≤ 9223372036854775807) → (0 ≤ y118 ∧ y118 ≤ 120) → (0 ≤ y119 ∧ y119 ≤ 16) → (∀ j, 0 ≤ F120 j ∧ F120 j ≤ 4000) → (∀ j, 0 ≤ F121 j ∧ F121 j ≤ 4000) → (∀ j, 0 ≤ F122 j ∧ F122 j ≤ 7) → (∀ j, 0 ≤ F123 j ∧ F123 j ≤ 15) → (∀ j, 0 ≤ F124 j ∧ F124 j ≤ 4000) → (∀ j, (-1) ≤ F125 j ∧ F125 j ≤ 15) → (∀ j, (-9223372036854775808) ≤ F126 j ∧ F126 j ≤ 9223372036854775807) → (∀ j, (-9223372036854775808) ≤ F127 j ∧ F127 j ≤ 9223372036854775807) → ((-2) ≤ s111) → (s111 ≤ 15) → (1 ≤ y115) → (y115 ≤ 8) → (∀ k, F120 k + F121 k ≤ 4000) → ((m.2 42) d ≤ 7) → TT w D pm_265 (116, [(0, .ref 189), (1, .int (i32 d)), (2, .int (i32 ((8 * d) + ((m.2 42) d))))], [.int (i32 s111), .int (i32 ((8 * d) + ((m.2 42) d))), .ref 215], (mhp (mO m [(7, y112), (8, y113), (9, y114), (10, y115), (11, y116), (12, y117), (13, y118), (23, y119)] [(14, F120), (15, F121), (16, F122), (17, F123), (37, F124), (38, F125), (42, (m.2 42)), (45, (m.2 45)), (97, F126), (98, F127)]) c, N), 0, 0) (Q_takeCase m c N d) := by
      intro s111 y112 y113 y114 y115 y116 y117 y118 y119 F120 F121 F122 F123 F124 F125 F126 F127 q129 q130 q131 q132 q133 q134 q135 q136 q137 q138 q139 q140 q141 q142 q143 q144 q145 ic146 ic147 ic148 ic149 ic150 ic151
      obtain ⟨q129a, q129b⟩ := id q129
      have hNM := ic150
      have G153 : ∀ j, (-2) ≤ (upI (m.2 45) ((8 * d) + ((m.2 42) d)) s111) j ∧ (upI (m.2 45) ((8 * d) + ((m.2 42) d)) s111) j ≤ 15 := upI_rg (hT.2.1 45) ⟨by omega, by omega⟩
      refine T_iast (a' := [(14, F120), (15, F121), (16, F122), (17, F123), (37, F124), (38, F125), (42, (m.2 42)), (45, upI (m.2 45) ((8 * d) + ((m.2 42) d)) s111), (97, F126), (98, F127)]) 117 45 (m.2 45) rfl rfl rfl (by omega) (show ((8 * d) + ((m.2 42) d)) < (128 : Int) by omega) rfl rfl ?_
      refine T_ld 118 (.ref 189) rfl (fun _ => rfl) ?_
      refine T_ld 120 (.int (i32 59)) rfl (fun _ => rfl) ?_
      refine T_call 123 232 [.ref 189, .int (i32 59)] [] rfl (fun _ => rfl) rfl (c_need w (mO m [(7, y112), (8, y113), (9, y114), (10, y115), (11, y116), (12, y117), (13, y118), (23, y119)] [(14, F120), (15, F121), (16, F122), (17, F123), (37, F124), (38, F125), (42, (m.2 42)), (45, upI (m.2 45) ((8 * d) + ((m.2 42) d)) s111), (97, F126), (98, F127)]) c N D (by omega) (Ty_mO hT rfl rfl ⟨q130, q131, q132, q133, q134, q135, q136, q137, trivial⟩ ⟨q138, q139, q140, q141, q142, q143, (hT.2.1 42), G153, q144, q145, trivial⟩) 59 ⟨by decide, by decide⟩ (show 1 ≤ (59 : Int) by omega) (show LxP y112 y113 y114 (m.1 6) y115 by first | exact hLx | (intro h9; exfalso; omega) | (intro h9; have h8 := hLx (by omega); omega))) (fun rr154 k155 => ?_)
      obtain ⟨y156, y158, y160, y162, y164, y166, g157, g159, g161, g163, g165, g167, h168, h169, h170, h171, rfl⟩ := k155
      refine ⟨_, _, rfl, ?_⟩
      refine T_nf (st' := []) (l' := [(7, y156), (8, y158), (9, y160), (10, y162), (11, y164), (12, y166), (13, y118), (23, y119)]) (a' := [(14, F120), (15, F121), (16, F122), (17, F123), (37, F124), (38, F125), (42, (m.2 42)), (45, upI (m.2 45) ((8 * d) + ((m.2 42) d)) s111), (97, F126), (98, F127)]) rfl rfl rfl rfl rfl ?_
      replace h168 : LxP y156 y158 y160 (m.1 6) y162 := h168
      replace h169 : y162 = 0 → y115 = 0 ∧ y112 = (59 : Int) := h169
      replace h170 : y113 ≤ y158 := h170
      replace h171 : y162 = 0 → y113 + y114 ≤ y158 := h171
      have hf172 : 1 ≤ y162 := by omega
      clear h169
      clear h171
      have hLx := h168
      clear q130 q131 q132 q133 q134 q135 ic148 ic149 h170
      exact J123_86 y156 y158 y160 y162 y164 y166 y118 y119 F120 F121 F122 F123 F124 F125 (upI (m.2 45) ((8 * d) + ((m.2 42) d)) s111) F126 F127 g157 g159 g161 g163 g165 g167 q136 q137 q138 q139 q140 q141 q142 q143 G153 q144 q145 (by omega) (by omega) (by first | exact hNM) (by omega)
    have J107_181 : ∀ (y173 : Int) (y174 : Int) (y175 : Int) (y176 : Int) (y177 : Int) (y178 : Int) (F179 : Int → Int) (F180 : Int → Int), (0 ≤ y173 ∧ y173 ≤ 330) → (0 ≤ y174 ∧ y174 ≤ 4000) → (0 ≤ y175 ∧ y175 ≤ 4000) → (0 ≤ y176 ∧ y176 ≤ 8) → ((-1) ≤ y177 ∧ y177 ≤ 4000) → ((-9223372036854775808) ≤ y178 ∧ y178 ≤ 9223372036854775807) → (∀ j, (-9223372036854775808) ≤ F179 j ∧ F179 j ≤ 9223372036854775807) → (∀ j, (-9223372036854775808) ≤ F180 j ∧ F180 j ≤ 9223372036854775807) → (1 ≤ y176) → (y176 ≤ 8) → (∀ k, (m.2 14) k + (m.2 15) k ≤ 4000) → ((m.2 42) d ≤ 7) → TT w D pm_265 (107, [(0, .ref 189), (1, .int (i32 d)), (2, .int (i32 ((8 * d) + ((m.2 42) d))))], [], (mhp (mO m [(7, y173), (8, y174), (9, y175), (10, y176), (11, y177), (12, y178), (13, (m.1 13)), (23, (m.1 23))] [(14, (m.2 14)), (15, (m.2 15)), (16, (m.2 16)), (17, (m.2 17)), (37, (m.2 37)), (38, (m.2 38)), (42, (m.2 42)), (45, (m.2 45)), (97, F179), (98, F180)]) c, N), 0, 0) (Q_takeCase m c N d) := by
      intro y173 y174 y175 y176 y177 y178 F179 F180 q182 q183 q184 q185 q186 q187 q188 q189 ic190 ic191 ic192 ic193
      have hNM := ic192
      refine T_gf 111 (.ref 215) rfl rfl rfl rfl rfl rfl ?_
      refine T_ld 112 (.int (i32 ((8 * d) + ((m.2 42) d)))) rfl (fun _ => rfl) ?_
      refine T_ld 113 (.ref 189) rfl (fun _ => rfl) ?_
      refine T_call 116 242 [.ref 189] [.int (i32 ((8 * d) + ((m.2 42) d))), .ref 215] rfl (fun _ => rfl) rfl (c_stateHere w (mO m [(7, y173), (8, y174), (9, y175), (10, y176), (11, y177), (12, y178), (13, (m.1 13)), (23, (m.1 23))] [(14, (m.2 14)), (15, (m.2 15)), (16, (m.2 16)), (17, (m.2 17)), (37, (m.2 37)), (38, (m.2 38)), (42, (m.2 42)), (45, (m.2 45)), (97, F179), (98, F180)]) c N D (by omega) (Ty_mO hT rfl rfl ⟨q182, q183, q184, q185, q186, q187, f13, f23, trivial⟩ ⟨(hT.2.1 14), (hT.2.1 15), (hT.2.1 16), (hT.2.1 17), (hT.2.1 37), (hT.2.1 38), (hT.2.1 42), (hT.2.1 45), q188, q189, trivial⟩) (show LxP y173 y174 y175 (m.1 6) y176 by first | exact hLx | (intro h9; exfalso; omega)) (show ∀ k, (m.2 14) k + (m.2 15) k ≤ 4000 by assumption) (fun (h : y176 = 0) => absurd h (by omega))) (fun rr195 k196 => ?_)
      obtain ⟨y197, y199, y201, y203, y205, y207, y209, y211, F213, F215, F217, F219, F221, F223, x225, g198, g200, g202, g204, g206, g208, g210, g212, G214, G216, G218, G220, G222, G224, g226, h227, h228, h229, c230, rfl⟩ := k196
      refine ⟨_, _, rfl, ?_⟩
      refine T_nf (st' := [.int (i32 x225), .int (i32 ((8 * d) + ((m.2 42) d))), .ref 215]) (l' := [(7, y197), (8, y199), (9, y201), (10, y203), (11, y205), (12, y207), (13, y209), (23, y211)]) (a' := [(14, F213), (15, F215), (16, F217), (17, F219), (37, F221), (38, F223), (42, (m.2 42)), (45, (m.2 45)), (97, F179), (98, F180)]) rfl rfl rfl rfl rfl ?_
      obtain ⟨g226a, g226b⟩ := g226
      replace h227 : y203 = 0 → y176 = 0 := h227
      replace h228 : LxP y197 y199 y201 (m.1 6) y203 := h228
      replace h229 : ∀ k, F213 k + F215 k ≤ 4000 := h229
      have hf231 : 1 ≤ y203 := by omega
      clear c230
      clear h227
      have hLx := h228
      have hNM := h229
      clear q182 q183 q184 q185 q186 q187 ic190 ic191
      exact J116_128 x225 y197 y199 y201 y203 y205 y207 y209 y211 F213 F215 F217 F219 F221 F223 F179 F180 (r32 (by omega) (by omega)) g198 g200 g202 g204 g206 g208 g210 g212 G214 G216 G218 G220 G222 G224 q188 q189 (by omega) (by omega) (by omega) (by omega) (by first | exact hNM) (by omega)
    have J100_241 : ∀ (s232 : Int) (y233 : Int) (y234 : Int) (y235 : Int) (y236 : Int) (y237 : Int) (y238 : Int) (F239 : Int → Int) (F240 : Int → Int), (R64 s232) → (0 ≤ y233 ∧ y233 ≤ 330) → (0 ≤ y234 ∧ y234 ≤ 4000) → (0 ≤ y235 ∧ y235 ≤ 4000) → (0 ≤ y236 ∧ y236 ≤ 8) → ((-1) ≤ y237 ∧ y237 ≤ 4000) → ((-9223372036854775808) ≤ y238 ∧ y238 ≤ 9223372036854775807) → (∀ j, (-9223372036854775808) ≤ F239 j ∧ F239 j ≤ 9223372036854775807) → (∀ j, (-9223372036854775808) ≤ F240 j ∧ F240 j ≤ 9223372036854775807) → (1 ≤ y236) → (y236 ≤ 8) → (∀ k, (m.2 14) k + (m.2 15) k ≤ 4000) → ((m.2 42) d ≤ 7) → TT w D pm_265 (100, [(0, .ref 189), (1, .int (i32 d)), (2, .int (i32 ((8 * d) + ((m.2 42) d))))], [.long (i64 s232), .int (i32 ((8 * d) + ((m.2 42) d))), .ref 260], (mhp (mO m [(7, y233), (8, y234), (9, y235), (10, y236), (11, y237), (12, y238), (13, (m.1 13)), (23, (m.1 23))] [(14, (m.2 14)), (15, (m.2 15)), (16, (m.2 16)), (17, (m.2 17)), (37, (m.2 37)), (38, (m.2 38)), (42, (m.2 42)), (45, (m.2 45)), (97, F239), (98, F240)]) c, N), 0, 0) (Q_takeCase m c N d) := by
      intro s232 y233 y234 y235 y236 y237 y238 F239 F240 q242 q243 q244 q245 q246 q247 q248 q249 q250 ic251 ic252 ic253 ic254
      obtain ⟨q242a, q242b⟩ := id q242
      have hNM := ic253
      have G256 : ∀ j, (-9223372036854775808) ≤ (upI F240 ((8 * d) + ((m.2 42) d)) s232) j ∧ (upI F240 ((8 * d) + ((m.2 42) d)) s232) j ≤ 9223372036854775807 := upI_rg q250 ⟨by omega, by omega⟩
      refine T_last (a' := [(14, (m.2 14)), (15, (m.2 15)), (16, (m.2 16)), (17, (m.2 17)), (37, (m.2 37)), (38, (m.2 38)), (42, (m.2 42)), (45, (m.2 45)), (97, F239), (98, upI F240 ((8 * d) + ((m.2 42) d)) s232)]) 101 98 F240 rfl rfl rfl (by omega) (show ((8 * d) + ((m.2 42) d)) < (128 : Int) by omega) rfl rfl ?_
      refine T_ld 102 (.ref 189) rfl (fun _ => rfl) ?_
      refine T_ld 104 (.int (i32 58)) rfl (fun _ => rfl) ?_
      refine T_call 107 232 [.ref 189, .int (i32 58)] [] rfl (fun _ => rfl) rfl (c_need w (mO m [(7, y233), (8, y234), (9, y235), (10, y236), (11, y237), (12, y238), (13, (m.1 13)), (23, (m.1 23))] [(14, (m.2 14)), (15, (m.2 15)), (16, (m.2 16)), (17, (m.2 17)), (37, (m.2 37)), (38, (m.2 38)), (42, (m.2 42)), (45, (m.2 45)), (97, F239), (98, upI F240 ((8 * d) + ((m.2 42) d)) s232)]) c N D (by omega) (Ty_mO hT rfl rfl ⟨q243, q244, q245, q246, q247, q248, f13, f23, trivial⟩ ⟨(hT.2.1 14), (hT.2.1 15), (hT.2.1 16), (hT.2.1 17), (hT.2.1 37), (hT.2.1 38), (hT.2.1 42), (hT.2.1 45), q249, G256, trivial⟩) 58 ⟨by decide, by decide⟩ (show 1 ≤ (58 : Int) by omega) (show LxP y233 y234 y235 (m.1 6) y236 by first | exact hLx | (intro h9; exfalso; omega) | (intro h9; have h8 := hLx (by omega); omega))) (fun rr257 k258 => ?_)
      obtain ⟨y259, y261, y263, y265, y267, y269, g260, g262, g264, g266, g268, g270, h271, h272, h273, h274, rfl⟩ := k258
      refine ⟨_, _, rfl, ?_⟩
      refine T_nf (st' := []) (l' := [(7, y259), (8, y261), (9, y263), (10, y265), (11, y267), (12, y269), (13, (m.1 13)), (23, (m.1 23))]) (a' := [(14, (m.2 14)), (15, (m.2 15)), (16, (m.2 16)), (17, (m.2 17)), (37, (m.2 37)), (38, (m.2 38)), (42, (m.2 42)), (45, (m.2 45)), (97, F239), (98, upI F240 ((8 * d) + ((m.2 42) d)) s232)]) rfl rfl rfl rfl rfl ?_
      replace h271 : LxP y259 y261 y263 (m.1 6) y265 := h271
      replace h272 : y265 = 0 → y236 = 0 ∧ y233 = (58 : Int) := h272
      replace h273 : y234 ≤ y261 := h273
      replace h274 : y265 = 0 → y234 + y235 ≤ y261 := h274
      have hf275 : 1 ≤ y265 := by omega
      clear h272
      clear h274
      have hLx := h271
      clear q243 q244 q245 q246 q247 q248 ic251 ic252 h273
      exact J107_181 y259 y261 y263 y265 y267 y269 F239 (upI F240 ((8 * d) + ((m.2 42) d)) s232) g260 g262 g264 g266 g268 g270 q249 G256 (by omega) (by omega) (by first | exact hNM) (by omega)
    refine T_gf 4 (.ref 212) rfl rfl rfl rfl rfl rfl ?_
    refine T_ld 5 (.int (i32 d)) rfl (fun _ => rfl) ?_
    refine T_iald 6 42 (m.2 42) rfl rfl rfl (by omega) (show d < (16 : Int) by omega) rfl ?_
    have e276 : 0 ≤ (m.2 42) d ∧ (m.2 42) d ≤ 8 := (hT.2.1 42) d
    refine T_ld 8 (.int (i32 8)) rfl (fun _ => rfl) ?_
    refine T_icmp 20 11 rfl rfl rfl (r32 (by omega) (by omega)) ⟨by decide, by decide⟩ (fun (h277 : (m.2 42) d ≠ 8) => ?_) (fun (h277 : ¬ ((m.2 42) d ≠ 8)) => ?_)
    · skip
      refine T_gf 24 (.int (i32 (m.1 10))) rfl rfl rfl rfl rfl rfl ?_
      refine T_if 28 27 rfl rfl rfl (r32 (by omega) (by omega)) (fun (h278 : (m.1 10) ≤ 0) => ?_) (fun (h278 : ¬ ((m.1 10) ≤ 0)) => by exfalso; omega)
      refine T_ld 30 (.int (i32 8)) rfl (fun _ => rfl) ?_
      refine T_ld 31 (.int (i32 d)) rfl (fun _ => rfl) ?_
      refine T_imul 32 rfl rfl ?_
      refine T_gf 36 (.ref 212) rfl rfl rfl rfl rfl rfl ?_
      refine T_ld 37 (.int (i32 d)) rfl (fun _ => rfl) ?_
      refine T_iald 38 42 (m.2 42) rfl rfl rfl (by omega) (show d < (16 : Int) by omega) rfl ?_
      have e279 : 0 ≤ (m.2 42) d ∧ (m.2 42) d ≤ 8 := (hT.2.1 42) d
      refine T_iadd 39 rfl rfl ?_
      refine T_sto 40 [(2, .int (i32 ((8 * d) + ((m.2 42) d)))), (0, .ref 189), (1, .int (i32 d))] rfl (fun _ => rfl) ?_
      refine T_gf 44 (.ref 259) rfl rfl rfl rfl rfl rfl ?_
      refine T_ld 45 (.int (i32 ((8 * d) + ((m.2 42) d)))) rfl (fun _ => rfl) ?_
      refine T_ld 46 (.ref 189) rfl (fun _ => rfl) ?_
      refine T_gf 50 (.ref 213) rfl rfl rfl rfl rfl rfl ?_
      refine T_ld 51 (.int (i32 d)) rfl (fun _ => rfl) ?_
      refine T_iald 52 43 (m.2 43) rfl rfl rfl (by omega) (show d < (16 : Int) by omega) rfl ?_
      have e280 : 0 ≤ m.2 43 d ∧ m.2 43 d ≤ 1024 := hT.2.1 43 d
      refine T_call 55 266 [.ref 189, .int (i32 ((m.2 43) d))] [.int (i32 ((8 * d) + ((m.2 42) d))), .ref 259] rfl (fun _ => rfl) rfl (c_caseNumber w (mO m [(7, (m.1 7)), (8, (m.1 8)), (9, (m.1 9)), (10, (m.1 10)), (11, (m.1 11)), (12, (m.1 12)), (13, (m.1 13)), (23, (m.1 23))] [(14, (m.2 14)), (15, (m.2 15)), (16, (m.2 16)), (17, (m.2 17)), (37, (m.2 37)), (38, (m.2 38)), (42, (m.2 42)), (45, (m.2 45)), (97, (m.2 97)), (98, (m.2 98))]) c N D (by omega) (Ty_mO hT rfl rfl ⟨f7, f8, f9, f10, f11, f12, f13, f23, trivial⟩ ⟨(hT.2.1 14), (hT.2.1 15), (hT.2.1 16), (hT.2.1 17), (hT.2.1 37), (hT.2.1 38), (hT.2.1 42), (hT.2.1 45), (hT.2.1 97), (hT.2.1 98), trivial⟩) ((m.2 43) d) (r32 (by omega) (by omega)) (show LxP (m.1 7) (m.1 8) (m.1 9) (m.1 6) (m.1 10) by first | exact hLx | (intro h9; exfalso; omega)) (fun _ => trivial)) (fun rr281 k282 => ?_)
      obtain ⟨y283, y285, y287, y289, y291, y293, x295, g284, g286, g288, g290, g292, g294, g296, h297, h298, c299, rfl⟩ := k282
      refine ⟨_, _, rfl, ?_⟩
      refine T_nf (st' := [.long (i64 x295), .int (i32 ((8 * d) + ((m.2 42) d))), .ref 259]) (l' := [(7, y283), (8, y285), (9, y287), (10, y289), (11, y291), (12, y293), (13, (m.1 13)), (23, (m.1 23))]) (a' := [(14, (m.2 14)), (15, (m.2 15)), (16, (m.2 16)), (17, (m.2 17)), (37, (m.2 37)), (38, (m.2 38)), (42, (m.2 42)), (45, (m.2 45)), (97, (m.2 97)), (98, (m.2 98))]) rfl rfl rfl rfl rfl ?_
      obtain ⟨g296a, g296b⟩ := g296
      by_cases hf300 : y289 = 0
      · skip
        subst hf300
        replace h297 : (m.1 10) = 0 := h297 rfl
        replace h298 : LxP y283 y285 y287 (m.1 6) (0 : Int) := h298
        have hLx := h298
        obtain ⟨c301, c302⟩ := c299 rfl
        replace c301 : (m.1 8) + 1 ≤ y285 := c301
        replace c302 : (m.1 7) = 2 := c302
        clear c299
        have u303 : (m.1 8) + 1 ≤ y285 := by omega
        clear g290
        have G304 : ∀ j, (-9223372036854775808) ≤ (upI (m.2 97) ((8 * d) + ((m.2 42) d)) x295) j ∧ (upI (m.2 97) ((8 * d) + ((m.2 42) d)) x295) j ≤ 9223372036854775807 := upI_rg (hT.2.1 97) ⟨by omega, by omega⟩
        refine T_last (a' := [(14, (m.2 14)), (15, (m.2 15)), (16, (m.2 16)), (17, (m.2 17)), (37, (m.2 37)), (38, (m.2 38)), (42, (m.2 42)), (45, (m.2 45)), (97, upI (m.2 97) ((8 * d) + ((m.2 42) d)) x295), (98, (m.2 98))]) 56 97 (m.2 97) rfl rfl rfl (by omega) (show ((8 * d) + ((m.2 42) d)) < (128 : Int) by omega) rfl rfl ?_
        refine T_gf 60 (.ref 260) rfl rfl rfl rfl rfl rfl ?_
        refine T_ld 61 (.int (i32 ((8 * d) + ((m.2 42) d)))) rfl (fun _ => rfl) ?_
        refine T_ld 64 (.long (i64 (-1))) rfl (fun _ => rfl) ?_
        have G305 : ∀ j, (-9223372036854775808) ≤ (upI (m.2 98) ((8 * d) + ((m.2 42) d)) (-1)) j ∧ (upI (m.2 98) ((8 * d) + ((m.2 42) d)) (-1)) j ≤ 9223372036854775807 := upI_rg (hT.2.1 98) ⟨by omega, by omega⟩
        refine T_last (a' := [(14, (m.2 14)), (15, (m.2 15)), (16, (m.2 16)), (17, (m.2 17)), (37, (m.2 37)), (38, (m.2 38)), (42, (m.2 42)), (45, (m.2 45)), (97, upI (m.2 97) ((8 * d) + ((m.2 42) d)) x295), (98, upI (m.2 98) ((8 * d) + ((m.2 42) d)) (-1))]) 65 98 (m.2 98) rfl rfl rfl (by omega) (show ((8 * d) + ((m.2 42) d)) < (128 : Int) by omega) rfl rfl ?_
        refine T_gf 69 (.int (i32 0)) rfl rfl rfl rfl rfl rfl ?_
        refine T_if 101 72 rfl rfl rfl ⟨by decide, by decide⟩ (fun h306 => absurd (show (0 : Int) ≠ 0 from h306) (by decide)) (fun _ => ?_)
        refine T_gf 76 (.int (i32 y283)) rfl rfl rfl rfl rfl rfl ?_
        refine T_ld 78 (.int (i32 38)) rfl (fun _ => rfl) ?_
        refine T_icmp 101 81 rfl rfl rfl (r32 (by omega) (by omega)) ⟨by decide, by decide⟩ (fun (h307 : y283 ≠ 38) => ?_) (fun (h307 : ¬ (y283 ≠ 38)) => ?_)
        · skip
          refine T_ld 102 (.ref 189) rfl (fun _ => rfl) ?_
          refine T_ld 104 (.int (i32 58)) rfl (fun _ => rfl) ?_
          refine T_call 107 232 [.ref 189, .int (i32 58)] [] rfl (fun _ => rfl) rfl (c_need w (mO m [(7, y283), (8, y285), (9, y287), (10, 0), (11, y291), (12, y293), (13, (m.1 13)), (23, (m.1 23))] [(14, (m.2 14)), (15, (m.2 15)), (16, (m.2 16)), (17, (m.2 17)), (37, (m.2 37)), (38, (m.2 38)), (42, (m.2 42)), (45, (m.2 45)), (97, upI (m.2 97) ((8 * d) + ((m.2 42) d)) x295), (98, upI (m.2 98) ((8 * d) + ((m.2 42) d)) (-1))]) c N D (by omega) (Ty_mO hT rfl rfl ⟨g284, g286, g288, ⟨(by omega : (0 : Int) ≤ 0), (by omega : (0 : Int) ≤ 8)⟩, g292, g294, f13, f23, trivial⟩ ⟨(hT.2.1 14), (hT.2.1 15), (hT.2.1 16), (hT.2.1 17), (hT.2.1 37), (hT.2.1 38), (hT.2.1 42), (hT.2.1 45), G304, G305, trivial⟩) 58 ⟨by decide, by decide⟩ (show 1 ≤ (58 : Int) by omega) (show LxP y283 y285 y287 (m.1 6) (0 : Int) by first | exact hLx | (intro h9; exfalso; omega) | (intro h9; have h8 := hLx (by omega); omega))) (fun rr308 k309 => ?_)
          obtain ⟨y310, y312, y314, y316, y318, y320, g311, g313, g315, g317, g319, g321, h322, h323, h324, h325, rfl⟩ := k309
          refine ⟨_, _, rfl, ?_⟩
          refine T_nf (st' := []) (l' := [(7, y310), (8, y312), (9, y314), (10, y316), (11, y318), (12, y320), (13, (m.1 13)), (23, (m.1 23))]) (a' := [(14, (m.2 14)), (15, (m.2 15)), (16, (m.2 16)), (17, (m.2 17)), (37, (m.2 37)), (38, (m.2 38)), (42, (m.2 42)), (45, (m.2 45)), (97, upI (m.2 97) ((8 * d) + ((m.2 42) d)) x295), (98, upI (m.2 98) ((8 * d) + ((m.2 42) d)) (-1))]) rfl rfl rfl rfl rfl ?_
          by_cases hf326 : y316 = 0
          · skip
            subst hf326
            replace h322 : LxP y310 y312 y314 (m.1 6) (0 : Int) := h322
            have hLx := h322
            replace h323 : (0 : Int) = 0 ∧ y283 = (58 : Int) := h323 rfl
            replace h324 : y285 ≤ y312 := h324
            replace h325 : y285 + y287 ≤ y312 := h325 rfl
            have u327 : (m.1 8) + 1 ≤ y312 := by omega
            clear g284 g286 g288 g292 g294 h298 c301 u303 h307 g317 h323 h324 h325
            refine T_gf 111 (.ref 215) rfl rfl rfl rfl rfl rfl ?_
            refine T_ld 112 (.int (i32 ((8 * d) + ((m.2 42) d)))) rfl (fun _ => rfl) ?_
            refine T_ld 113 (.ref 189) rfl (fun _ => rfl) ?_
            refine T_call 116 242 [.ref 189] [.int (i32 ((8 * d) + ((m.2 42) d))), .ref 215] rfl (fun _ => rfl) rfl (c_stateHere w (mO m [(7, y310), (8, y312), (9, y314), (10, 0), (11, y318), (12, y320), (13, (m.1 13)), (23, (m.1 23))] [(14, (m.2 14)), (15, (m.2 15)), (16, (m.2 16)), (17, (m.2 17)), (37, (m.2 37)), (38, (m.2 38)), (42, (m.2 42)), (45, (m.2 45)), (97, upI (m.2 97) ((8 * d) + ((m.2 42) d)) x295), (98, upI (m.2 98) ((8 * d) + ((m.2 42) d)) (-1))]) c N D (by omega) (Ty_mO hT rfl rfl ⟨g311, g313, g315, ⟨(by omega : (0 : Int) ≤ 0), (by omega : (0 : Int) ≤ 8)⟩, g319, g321, f13, f23, trivial⟩ ⟨(hT.2.1 14), (hT.2.1 15), (hT.2.1 16), (hT.2.1 17), (hT.2.1 37), (hT.2.1 38), (hT.2.1 42), (hT.2.1 45), G304, G305, trivial⟩) (show LxP y310 y312 y314 (m.1 6) (0 : Int) by first | exact hLx | (intro h9; exfalso; omega)) (show ∀ k, (m.2 14) k + (m.2 15) k ≤ 4000 by assumption) (fun _ => ⟨(show PN (m.1 13) (m.1 19) (m.1 20) (m.1 21) (m.1 22) (m.1 23) (m.1 25) (m.1 26) (m.2 16) (m.2 17) by assumption), (show SOp (m.2 38) (m.1 23) (m.1 24) by first | exact pSO | assumption)⟩)) (fun rr328 k329 => ?_)
            obtain ⟨y330, y332, y334, y336, y338, y340, y342, y344, F346, F348, F350, F352, F354, F356, x358, g331, g333, g335, g337, g339, g341, g343, g345, G347, G349, G351, G353, G355, G357, g359, h360, h361, h362, c363, rfl⟩ := k329
            refine ⟨_, _, rfl, ?_⟩
            refine T_nf (st' := [.int (i32 x358), .int (i32 ((8 * d) + ((m.2 42) d))), .ref 215]) (l' := [(7, y330), (8, y332), (9, y334), (10, y336), (11, y338), (12, y340), (13, y342), (23, y344)]) (a' := [(14, F346), (15, F348), (16, F350), (17, F352), (37, F354), (38, F356), (42, (m.2 42)), (45, (m.2 45)), (97, upI (m.2 97) ((8 * d) + ((m.2 42) d)) x295), (98, upI (m.2 98) ((8 * d) + ((m.2 42) d)) (-1))]) rfl rfl rfl rfl rfl ?_
            obtain ⟨g359a, g359b⟩ := g359
            by_cases hf364 : y336 = 0
            · skip
              subst hf364
              replace h360 : (0 : Int) = 0 := h360 rfl
              replace h361 : LxP y330 y332 y334 (m.1 6) (0 : Int) := h361
              have hLx := h361
              replace h362 : ∀ k, F346 k + F348 k ≤ 4000 := h362
              have hNM := h362
              obtain ⟨c365, c366, c367, c368, c369⟩ := c363 rfl
              replace c365 : y312 + 1 ≤ y332 := c365
              replace c366 : PN y342 (m.1 19) (m.1 20) (m.1 21) (m.1 22) y344 (m.1 25) (m.1 26) F350 F352 := c366
              have pPN := c366
              replace c367 : SOp F356 y344 (m.1 24) := c367
              have pSO := c367
              replace c368 : x358 < y344 := c368
              have hRS := c368
              replace c369 : (m.1 23) ≤ y344 := c369
              clear c363
              have u370 : (m.1 8) + 1 ≤ y332 := by omega
              clear g311 g313 g315 g319 g321 h322 u327 g337 c365
              have G371 : ∀ j, (-2) ≤ (upI (m.2 45) ((8 * d) + ((m.2 42) d)) x358) j ∧ (upI (m.2 45) ((8 * d) + ((m.2 42) d)) x358) j ≤ 15 := upI_rg (hT.2.1 45) ⟨by omega, by omega⟩
              refine T_iast (a' := [(14, F346), (15, F348), (16, F350), (17, F352), (37, F354), (38, F356), (42, (m.2 42)), (45, upI (m.2 45) ((8 * d) + ((m.2 42) d)) x358), (97, upI (m.2 97) ((8 * d) + ((m.2 42) d)) x295), (98, upI (m.2 98) ((8 * d) + ((m.2 42) d)) (-1))]) 117 45 (m.2 45) rfl rfl rfl (by omega) (show ((8 * d) + ((m.2 42) d)) < (128 : Int) by omega) rfl rfl ?_
              refine T_ld 118 (.ref 189) rfl (fun _ => rfl) ?_
              refine T_ld 120 (.int (i32 59)) rfl (fun _ => rfl) ?_
              refine T_call 123 232 [.ref 189, .int (i32 59)] [] rfl (fun _ => rfl) rfl (c_need w (mO m [(7, y330), (8, y332), (9, y334), (10, 0), (11, y338), (12, y340), (13, y342), (23, y344)] [(14, F346), (15, F348), (16, F350), (17, F352), (37, F354), (38, F356), (42, (m.2 42)), (45, upI (m.2 45) ((8 * d) + ((m.2 42) d)) x358), (97, upI (m.2 97) ((8 * d) + ((m.2 42) d)) x295), (98, upI (m.2 98) ((8 * d) + ((m.2 42) d)) (-1))]) c N D (by omega) (Ty_mO hT rfl rfl ⟨g331, g333, g335, ⟨(by omega : (0 : Int) ≤ 0), (by omega : (0 : Int) ≤ 8)⟩, g339, g341, g343, g345, trivial⟩ ⟨G347, G349, G351, G353, G355, G357, (hT.2.1 42), G371, G304, G305, trivial⟩) 59 ⟨by decide, by decide⟩ (show 1 ≤ (59 : Int) by omega) (show LxP y330 y332 y334 (m.1 6) (0 : Int) by first | exact hLx | (intro h9; exfalso; omega) | (intro h9; have h8 := hLx (by omega); omega))) (fun rr372 k373 => ?_)
              obtain ⟨y374, y376, y378, y380, y382, y384, g375, g377, g379, g381, g383, g385, h386, h387, h388, h389, rfl⟩ := k373
              refine ⟨_, _, rfl, ?_⟩
              refine T_nf (st' := []) (l' := [(7, y374), (8, y376), (9, y378), (10, y380), (11, y382), (12, y384), (13, y342), (23, y344)]) (a' := [(14, F346), (15, F348), (16, F350), (17, F352), (37, F354), (38, F356), (42, (m.2 42)), (45, upI (m.2 45) ((8 * d) + ((m.2 42) d)) x358), (97, upI (m.2 97) ((8 * d) + ((m.2 42) d)) x295), (98, upI (m.2 98) ((8 * d) + ((m.2 42) d)) (-1))]) rfl rfl rfl rfl rfl ?_
              by_cases hf390 : y380 = 0
              · skip
                subst hf390
                replace h386 : LxP y374 y376 y378 (m.1 6) (0 : Int) := h386
                have hLx := h386
                replace h387 : (0 : Int) = 0 ∧ y330 = (59 : Int) := h387 rfl
                replace h388 : y332 ≤ y376 := h388
                replace h389 : y332 + y334 ≤ y376 := h389 rfl
                have u391 : (m.1 8) + 1 ≤ y376 := by omega
                clear g331 g333 g335 g339 g341 h361 u370 g381 h387 h388 h389
                have hlt : (m.2 42) d < 8 := by omega
                refine T_gf 127 (.ref 212) rfl rfl rfl rfl rfl rfl ?_
                refine T_ld 128 (.int (i32 d)) rfl (fun _ => rfl) ?_
                refine T_dup2 129 rfl (fun _ => rfl) ?_
                refine T_iald 130 42 (m.2 42) rfl rfl rfl (by omega) (show d < (16 : Int) by omega) rfl ?_
                have e392 : 0 ≤ (m.2 42) d ∧ (m.2 42) d ≤ 8 := (hT.2.1 42) d
                refine T_ld 131 (.int (i32 1)) rfl (fun _ => rfl) ?_
                refine T_iadd 132 rfl rfl ?_
                have G393 : ∀ j, 0 ≤ (upI (m.2 42) d (((m.2 42) d) + 1)) j ∧ (upI (m.2 42) d (((m.2 42) d) + 1)) j ≤ 8 := upI_rg (hT.2.1 42) ⟨by omega, by omega⟩
                refine T_iast (a' := [(14, F346), (15, F348), (16, F350), (17, F352), (37, F354), (38, F356), (42, upI (m.2 42) d (((m.2 42) d) + 1)), (45, upI (m.2 45) ((8 * d) + ((m.2 42) d)) x358), (97, upI (m.2 97) ((8 * d) + ((m.2 42) d)) x295), (98, upI (m.2 98) ((8 * d) + ((m.2 42) d)) (-1))]) 133 42 (m.2 42) rfl rfl rfl (by omega) (show d < (16 : Int) by omega) rfl rfl ?_
                have hCT2 : ∀ c, 8 * d ≤ c → c < 8 * d + (upI (m.2 42) d (((m.2 42) d) + 1)) d → (upI (m.2 45) ((8 * d) + ((m.2 42) d)) x358) c < y344 := by
                  intro c c0 c1
                  rw [upI_s] at c1
                  by_cases e : c = 8 * d + (m.2 42) d
                  · subst e
                    rw [upI_s]
                    exact hRS
                  · rw [upI_n e]
                    have := hCT c c0 (by omega)
                    omega
                refine T_ret rfl (fun _ => rfl) ?_
                exact ⟨y374, y376, y378, 0, y382, y384, y342, y344, F346, F348, F350, F352, F354, F356, upI (m.2 42) d (((m.2 42) d) + 1), upI (m.2 45) ((8 * d) + ((m.2 42) d)) x358, upI (m.2 97) ((8 * d) + ((m.2 42) d)) x295, upI (m.2 98) ((8 * d) + ((m.2 42) d)) (-1), g375, g377, g379, ⟨by omega, by omega⟩, g383, g385, g343, g345, G347, G349, G351, G353, G355, G357, G393, G371, G304, G305, (by omega), (by first | (first | exact hLx | (intro h9; exfalso; omega)) | (exfalso; omega)), (by first | (first | exact hNM | (intro k; rw [hE1, hE2]; have := hNM k; have h7 := hLx0 hf0; unfold upI; split <;> omega)) | (exfalso; omega)), (fun _ => ⟨(by omega), (by first | (exact pPN) | (exfalso; omega)), (by first | (exact pSO) | (exfalso; omega)), (by first | (exact hCT2) | (exfalso; omega)), (by omega), (by first | (exact agr_u (Int.le_refl _)) | (exfalso; omega)), (by first | (exact agr_u (by omega)) | (exfalso; omega))⟩), rfl⟩
              · skip
                replace h386 : LxP y374 y376 y378 (m.1 6) y380 := h386
                have hLx := h386
                clear h387
                replace h388 : y332 ≤ y376 := h388
                clear h389
                have hf394 : 1 ≤ y380 := by omega
                clear g331 g333 g335 g339 g341 h361 u370 h388
                refine Tm_lv (a := [(0, .ref 189), (1, .int (i32 d)), (2, .int (i32 ((8 * d) + ((m.2 42) d))))]) rfl rfl ⟨rfl, rfl, rfl, trivial⟩ ?_
                exact J123_86 y374 y376 y378 y380 y382 y384 y342 y344 F346 F348 F350 F352 F354 F356 (upI (m.2 45) ((8 * d) + ((m.2 42) d)) x358) (upI (m.2 97) ((8 * d) + ((m.2 42) d)) x295) (upI (m.2 98) ((8 * d) + ((m.2 42) d)) (-1)) g375 g377 g379 g381 g383 g385 g343 g345 G347 G349 G351 G353 G355 G357 G371 G304 G305 (by omega) (by omega) (by first | exact hNM) (by omega)
            · skip
              clear c363
              clear h360
              replace h361 : LxP y330 y332 y334 (m.1 6) y336 := h361
              have hLx := h361
              replace h362 : ∀ k, F346 k + F348 k ≤ 4000 := h362
              have hNM := h362
              have hf395 : 1 ≤ y336 := by omega
              clear g311 g313 g315 g319 g321 h322 u327
              refine Tm_lv (a := [(0, .ref 189), (1, .int (i32 d)), (2, .int (i32 ((8 * d) + ((m.2 42) d))))]) rfl rfl ⟨rfl, rfl, rfl, trivial⟩ ?_
              exact J116_128 x358 y330 y332 y334 y336 y338 y340 y342 y344 F346 F348 F350 F352 F354 F356 (upI (m.2 97) ((8 * d) + ((m.2 42) d)) x295) (upI (m.2 98) ((8 * d) + ((m.2 42) d)) (-1)) (r32 (by omega) (by omega)) g331 g333 g335 g337 g339 g341 g343 g345 G347 G349 G351 G353 G355 G357 G304 G305 (by omega) (by omega) (by omega) (by omega) (by first | exact hNM) (by omega)
          · skip
            replace h322 : LxP y310 y312 y314 (m.1 6) y316 := h322
            have hLx := h322
            clear h323
            replace h324 : y285 ≤ y312 := h324
            clear h325
            have hf396 : 1 ≤ y316 := by omega
            clear g284 g286 g288 g292 g294 h298 c301 u303 h307 h324
            refine Tm_lv (a := [(0, .ref 189), (1, .int (i32 d)), (2, .int (i32 ((8 * d) + ((m.2 42) d))))]) rfl rfl ⟨rfl, rfl, rfl, trivial⟩ ?_
            exact J107_181 y310 y312 y314 y316 y318 y320 (upI (m.2 97) ((8 * d) + ((m.2 42) d)) x295) (upI (m.2 98) ((8 * d) + ((m.2 42) d)) (-1)) g311 g313 g315 g317 g319 g321 G304 G305 (by omega) (by omega) (by first | exact hNM) (by omega)
        · skip
          refine T_ld 82 (.ref 189) rfl (fun _ => rfl) ?_
          refine T_call 85 212 [.ref 189] [] rfl (fun _ => rfl) rfl (c_next w (mO m [(7, y283), (8, y285), (9, y287), (10, 0), (11, y291), (12, y293), (13, (m.1 13)), (23, (m.1 23))] [(14, (m.2 14)), (15, (m.2 15)), (16, (m.2 16)), (17, (m.2 17)), (37, (m.2 37)), (38, (m.2 38)), (42, (m.2 42)), (45, (m.2 45)), (97, upI (m.2 97) ((8 * d) + ((m.2 42) d)) x295), (98, upI (m.2 98) ((8 * d) + ((m.2 42) d)) (-1))]) c N D (by omega) (Ty_mO hT rfl rfl ⟨g284, g286, g288, ⟨(by omega : (0 : Int) ≤ 0), (by omega : (0 : Int) ≤ 8)⟩, g292, g294, f13, f23, trivial⟩ ⟨(hT.2.1 14), (hT.2.1 15), (hT.2.1 16), (hT.2.1 17), (hT.2.1 37), (hT.2.1 38), (hT.2.1 42), (hT.2.1 45), G304, G305, trivial⟩) (show (0 : Int) = 0 → y285 + y287 ≤ (m.1 6) by first | omega | (intro h9; have h8 := hLx h9; omega))) (fun rr397 k398 => ?_)
          obtain ⟨y399, y401, y403, y405, y407, y409, g400, g402, g404, g406, g408, g410, h411, h412, h413, h414, rfl⟩ := k398
          refine ⟨_, _, rfl, ?_⟩
          refine T_nf (st' := []) (l' := [(7, y399), (8, y401), (9, y403), (10, y405), (11, y407), (12, y409), (13, (m.1 13)), (23, (m.1 23))]) (a' := [(14, (m.2 14)), (15, (m.2 15)), (16, (m.2 16)), (17, (m.2 17)), (37, (m.2 37)), (38, (m.2 38)), (42, (m.2 42)), (45, (m.2 45)), (97, upI (m.2 97) ((8 * d) + ((m.2 42) d)) x295), (98, upI (m.2 98) ((8 * d) + ((m.2 42) d)) (-1))]) rfl rfl rfl rfl rfl ?_
          by_cases hf415 : y405 = 0
          · skip
            subst hf415
            replace h411 : LxP y399 y401 y403 (m.1 6) (0 : Int) := h411
            have hLx := h411
            replace h412 : (0 : Int) = 0 := h412 rfl
            replace h413 : y285 ≤ y401 := h413
            replace h414 : y285 + y287 ≤ y401 := h414 rfl
            have u416 : (m.1 8) + 1 ≤ y401 := by omega
            clear g284 g286 g288 g292 g294 h298 c301 u303 h307 g406 h413 h414
            refine T_gf 89 (.ref 260) rfl rfl rfl rfl rfl rfl ?_
            refine T_ld 90 (.int (i32 ((8 * d) + ((m.2 42) d)))) rfl (fun _ => rfl) ?_
            refine T_ld 91 (.ref 189) rfl (fun _ => rfl) ?_
            refine T_gf 95 (.ref 213) rfl rfl rfl rfl rfl rfl ?_
            refine T_ld 96 (.int (i32 d)) rfl (fun _ => rfl) ?_
            refine T_iald 97 43 (m.2 43) rfl rfl rfl (by omega) (show d < (16 : Int) by omega) rfl ?_
            have e417 : 0 ≤ m.2 43 d ∧ m.2 43 d ≤ 1024 := hT.2.1 43 d
            refine T_call 100 266 [.ref 189, .int (i32 ((m.2 43) d))] [.int (i32 ((8 * d) + ((m.2 42) d))), .ref 260] rfl (fun _ => rfl) rfl (c_caseNumber w (mO m [(7, y399), (8, y401), (9, y403), (10, 0), (11, y407), (12, y409), (13, (m.1 13)), (23, (m.1 23))] [(14, (m.2 14)), (15, (m.2 15)), (16, (m.2 16)), (17, (m.2 17)), (37, (m.2 37)), (38, (m.2 38)), (42, (m.2 42)), (45, (m.2 45)), (97, upI (m.2 97) ((8 * d) + ((m.2 42) d)) x295), (98, upI (m.2 98) ((8 * d) + ((m.2 42) d)) (-1))]) c N D (by omega) (Ty_mO hT rfl rfl ⟨g400, g402, g404, ⟨(by omega : (0 : Int) ≤ 0), (by omega : (0 : Int) ≤ 8)⟩, g408, g410, f13, f23, trivial⟩ ⟨(hT.2.1 14), (hT.2.1 15), (hT.2.1 16), (hT.2.1 17), (hT.2.1 37), (hT.2.1 38), (hT.2.1 42), (hT.2.1 45), G304, G305, trivial⟩) ((m.2 43) d) (r32 (by omega) (by omega)) (show LxP y399 y401 y403 (m.1 6) (0 : Int) by first | exact hLx | (intro h9; exfalso; omega)) (fun _ => trivial)) (fun rr418 k419 => ?_)
            obtain ⟨y420, y422, y424, y426, y428, y430, x432, g421, g423, g425, g427, g429, g431, g433, h434, h435, c436, rfl⟩ := k419
            refine ⟨_, _, rfl, ?_⟩
            refine T_nf (st' := [.long (i64 x432), .int (i32 ((8 * d) + ((m.2 42) d))), .ref 260]) (l' := [(7, y420), (8, y422), (9, y424), (10, y426), (11, y428), (12, y430), (13, (m.1 13)), (23, (m.1 23))]) (a' := [(14, (m.2 14)), (15, (m.2 15)), (16, (m.2 16)), (17, (m.2 17)), (37, (m.2 37)), (38, (m.2 38)), (42, (m.2 42)), (45, (m.2 45)), (97, upI (m.2 97) ((8 * d) + ((m.2 42) d)) x295), (98, upI (m.2 98) ((8 * d) + ((m.2 42) d)) (-1))]) rfl rfl rfl rfl rfl ?_
            obtain ⟨g433a, g433b⟩ := g433
            by_cases hf437 : y426 = 0
            · skip
              subst hf437
              replace h434 : (0 : Int) = 0 := h434 rfl
              replace h435 : LxP y420 y422 y424 (m.1 6) (0 : Int) := h435
              have hLx := h435
              obtain ⟨c438, c439⟩ := c436 rfl
              replace c438 : y401 + 1 ≤ y422 := c438
              replace c439 : y399 = 2 := c439
              clear c436
              have u440 : (m.1 8) + 1 ≤ y422 := by omega
              clear g400 g402 g404 g408 g410 h411 u416 g427 c438 c439
              have G441 : ∀ j, (-9223372036854775808) ≤ (upI (upI (m.2 98) ((8 * d) + ((m.2 42) d)) (-1)) ((8 * d) + ((m.2 42) d)) x432) j ∧ (upI (upI (m.2 98) ((8 * d) + ((m.2 42) d)) (-1)) ((8 * d) + ((m.2 42) d)) x432) j ≤ 9223372036854775807 := upI_rg G305 ⟨by omega, by omega⟩
              refine T_last (a' := [(14, (m.2 14)), (15, (m.2 15)), (16, (m.2 16)), (17, (m.2 17)), (37, (m.2 37)), (38, (m.2 38)), (42, (m.2 42)), (45, (m.2 45)), (97, upI (m.2 97) ((8 * d) + ((m.2 42) d)) x295), (98, upI (upI (m.2 98) ((8 * d) + ((m.2 42) d)) (-1)) ((8 * d) + ((m.2 42) d)) x432)]) 101 98 (upI (m.2 98) ((8 * d) + ((m.2 42) d)) (-1)) rfl rfl rfl (by omega) (show ((8 * d) + ((m.2 42) d)) < (128 : Int) by omega) rfl rfl ?_
              refine T_ld 102 (.ref 189) rfl (fun _ => rfl) ?_
              refine T_ld 104 (.int (i32 58)) rfl (fun _ => rfl) ?_
              refine T_call 107 232 [.ref 189, .int (i32 58)] [] rfl (fun _ => rfl) rfl (c_need w (mO m [(7, y420), (8, y422), (9, y424), (10, 0), (11, y428), (12, y430), (13, (m.1 13)), (23, (m.1 23))] [(14, (m.2 14)), (15, (m.2 15)), (16, (m.2 16)), (17, (m.2 17)), (37, (m.2 37)), (38, (m.2 38)), (42, (m.2 42)), (45, (m.2 45)), (97, upI (m.2 97) ((8 * d) + ((m.2 42) d)) x295), (98, upI (upI (m.2 98) ((8 * d) + ((m.2 42) d)) (-1)) ((8 * d) + ((m.2 42) d)) x432)]) c N D (by omega) (Ty_mO hT rfl rfl ⟨g421, g423, g425, ⟨(by omega : (0 : Int) ≤ 0), (by omega : (0 : Int) ≤ 8)⟩, g429, g431, f13, f23, trivial⟩ ⟨(hT.2.1 14), (hT.2.1 15), (hT.2.1 16), (hT.2.1 17), (hT.2.1 37), (hT.2.1 38), (hT.2.1 42), (hT.2.1 45), G304, G441, trivial⟩) 58 ⟨by decide, by decide⟩ (show 1 ≤ (58 : Int) by omega) (show LxP y420 y422 y424 (m.1 6) (0 : Int) by first | exact hLx | (intro h9; exfalso; omega) | (intro h9; have h8 := hLx (by omega); omega))) (fun rr442 k443 => ?_)
              obtain ⟨y444, y446, y448, y450, y452, y454, g445, g447, g449, g451, g453, g455, h456, h457, h458, h459, rfl⟩ := k443
              refine ⟨_, _, rfl, ?_⟩
              refine T_nf (st' := []) (l' := [(7, y444), (8, y446), (9, y448), (10, y450), (11, y452), (12, y454), (13, (m.1 13)), (23, (m.1 23))]) (a' := [(14, (m.2 14)), (15, (m.2 15)), (16, (m.2 16)), (17, (m.2 17)), (37, (m.2 37)), (38, (m.2 38)), (42, (m.2 42)), (45, (m.2 45)), (97, upI (m.2 97) ((8 * d) + ((m.2 42) d)) x295), (98, upI (upI (m.2 98) ((8 * d) + ((m.2 42) d)) (-1)) ((8 * d) + ((m.2 42) d)) x432)]) rfl rfl rfl rfl rfl ?_
              by_cases hf460 : y450 = 0
              · skip
                subst hf460
                replace h456 : LxP y444 y446 y448 (m.1 6) (0 : Int) := h456
                have hLx := h456
                replace h457 : (0 : Int) = 0 ∧ y420 = (58 : Int) := h457 rfl
                replace h458 : y422 ≤ y446 := h458
                replace h459 : y422 + y424 ≤ y446 := h459 rfl
                have u461 : (m.1 8) + 1 ≤ y446 := by omega
                clear g421 g423 g425 g429 g431 h435 u440 g451 h457 h458 h459
                refine T_gf 111 (.ref 215) rfl rfl rfl rfl rfl rfl ?_
                refine T_ld 112 (.int (i32 ((8 * d) + ((m.2 42) d)))) rfl (fun _ => rfl) ?_
                refine T_ld 113 (.ref 189) rfl (fun _ => rfl) ?_
                refine T_call 116 242 [.ref 189] [.int (i32 ((8 * d) + ((m.2 42) d))), .ref 215] rfl (fun _ => rfl) rfl (c_stateHere w (mO m [(7, y444), (8, y446), (9, y448), (10, 0), (11, y452), (12, y454), (13, (m.1 13)), (23, (m.1 23))] [(14, (m.2 14)), (15, (m.2 15)), (16, (m.2 16)), (17, (m.2 17)), (37, (m.2 37)), (38, (m.2 38)), (42, (m.2 42)), (45, (m.2 45)), (97, upI (m.2 97) ((8 * d) + ((m.2 42) d)) x295), (98, upI (upI (m.2 98) ((8 * d) + ((m.2 42) d)) (-1)) ((8 * d) + ((m.2 42) d)) x432)]) c N D (by omega) (Ty_mO hT rfl rfl ⟨g445, g447, g449, ⟨(by omega : (0 : Int) ≤ 0), (by omega : (0 : Int) ≤ 8)⟩, g453, g455, f13, f23, trivial⟩ ⟨(hT.2.1 14), (hT.2.1 15), (hT.2.1 16), (hT.2.1 17), (hT.2.1 37), (hT.2.1 38), (hT.2.1 42), (hT.2.1 45), G304, G441, trivial⟩) (show LxP y444 y446 y448 (m.1 6) (0 : Int) by first | exact hLx | (intro h9; exfalso; omega)) (show ∀ k, (m.2 14) k + (m.2 15) k ≤ 4000 by assumption) (fun _ => ⟨(show PN (m.1 13) (m.1 19) (m.1 20) (m.1 21) (m.1 22) (m.1 23) (m.1 25) (m.1 26) (m.2 16) (m.2 17) by assumption), (show SOp (m.2 38) (m.1 23) (m.1 24) by first | exact pSO | assumption)⟩)) (fun rr462 k463 => ?_)
                obtain ⟨y464, y466, y468, y470, y472, y474, y476, y478, F480, F482, F484, F486, F488, F490, x492, g465, g467, g469, g471, g473, g475, g477, g479, G481, G483, G485, G487, G489, G491, g493, h494, h495, h496, c497, rfl⟩ := k463
                refine ⟨_, _, rfl, ?_⟩
                refine T_nf (st' := [.int (i32 x492), .int (i32 ((8 * d) + ((m.2 42) d))), .ref 215]) (l' := [(7, y464), (8, y466), (9, y468), (10, y470), (11, y472), (12, y474), (13, y476), (23, y478)]) (a' := [(14, F480), (15, F482), (16, F484), (17, F486), (37, F488), (38, F490), (42, (m.2 42)), (45, (m.2 45)), (97, upI (m.2 97) ((8 * d) + ((m.2 42) d)) x295), (98, upI (upI (m.2 98) ((8 * d) + ((m.2 42) d)) (-1)) ((8 * d) + ((m.2 42) d)) x432)]) rfl rfl rfl rfl rfl ?_
                obtain ⟨g493a, g493b⟩ := g493
                by_cases hf498 : y470 = 0
                · skip
                  subst hf498
                  replace h494 : (0 : Int) = 0 := h494 rfl
                  replace h495 : LxP y464 y466 y468 (m.1 6) (0 : Int) := h495
                  have hLx := h495
                  replace h496 : ∀ k, F480 k + F482 k ≤ 4000 := h496
                  have hNM := h496
                  obtain ⟨c499, c500, c501, c502, c503⟩ := c497 rfl
                  replace c499 : y446 + 1 ≤ y466 := c499
                  replace c500 : PN y476 (m.1 19) (m.1 20) (m.1 21) (m.1 22) y478 (m.1 25) (m.1 26) F484 F486 := c500
                  have pPN := c500
                  replace c501 : SOp F490 y478 (m.1 24) := c501
                  have pSO := c501
                  replace c502 : x492 < y478 := c502
                  have hRS := c502
                  replace c503 : (m.1 23) ≤ y478 := c503
                  clear c497
                  have u504 : (m.1 8) + 1 ≤ y466 := by omega
                  clear g445 g447 g449 g453 g455 h456 u461 g471 c499
                  have G505 : ∀ j, (-2) ≤ (upI (m.2 45) ((8 * d) + ((m.2 42) d)) x492) j ∧ (upI (m.2 45) ((8 * d) + ((m.2 42) d)) x492) j ≤ 15 := upI_rg (hT.2.1 45) ⟨by omega, by omega⟩
                  refine T_iast (a' := [(14, F480), (15, F482), (16, F484), (17, F486), (37, F488), (38, F490), (42, (m.2 42)), (45, upI (m.2 45) ((8 * d) + ((m.2 42) d)) x492), (97, upI (m.2 97) ((8 * d) + ((m.2 42) d)) x295), (98, upI (upI (m.2 98) ((8 * d) + ((m.2 42) d)) (-1)) ((8 * d) + ((m.2 42) d)) x432)]) 117 45 (m.2 45) rfl rfl rfl (by omega) (show ((8 * d) + ((m.2 42) d)) < (128 : Int) by omega) rfl rfl ?_
                  refine T_ld 118 (.ref 189) rfl (fun _ => rfl) ?_
                  refine T_ld 120 (.int (i32 59)) rfl (fun _ => rfl) ?_
                  refine T_call 123 232 [.ref 189, .int (i32 59)] [] rfl (fun _ => rfl) rfl (c_need w (mO m [(7, y464), (8, y466), (9, y468), (10, 0), (11, y472), (12, y474), (13, y476), (23, y478)] [(14, F480), (15, F482), (16, F484), (17, F486), (37, F488), (38, F490), (42, (m.2 42)), (45, upI (m.2 45) ((8 * d) + ((m.2 42) d)) x492), (97, upI (m.2 97) ((8 * d) + ((m.2 42) d)) x295), (98, upI (upI (m.2 98) ((8 * d) + ((m.2 42) d)) (-1)) ((8 * d) + ((m.2 42) d)) x432)]) c N D (by omega) (Ty_mO hT rfl rfl ⟨g465, g467, g469, ⟨(by omega : (0 : Int) ≤ 0), (by omega : (0 : Int) ≤ 8)⟩, g473, g475, g477, g479, trivial⟩ ⟨G481, G483, G485, G487, G489, G491, (hT.2.1 42), G505, G304, G441, trivial⟩) 59 ⟨by decide, by decide⟩ (show 1 ≤ (59 : Int) by omega) (show LxP y464 y466 y468 (m.1 6) (0 : Int) by first | exact hLx | (intro h9; exfalso; omega) | (intro h9; have h8 := hLx (by omega); omega))) (fun rr506 k507 => ?_)
                  obtain ⟨y508, y510, y512, y514, y516, y518, g509, g511, g513, g515, g517, g519, h520, h521, h522, h523, rfl⟩ := k507
                  refine ⟨_, _, rfl, ?_⟩
                  refine T_nf (st' := []) (l' := [(7, y508), (8, y510), (9, y512), (10, y514), (11, y516), (12, y518), (13, y476), (23, y478)]) (a' := [(14, F480), (15, F482), (16, F484), (17, F486), (37, F488), (38, F490), (42, (m.2 42)), (45, upI (m.2 45) ((8 * d) + ((m.2 42) d)) x492), (97, upI (m.2 97) ((8 * d) + ((m.2 42) d)) x295), (98, upI (upI (m.2 98) ((8 * d) + ((m.2 42) d)) (-1)) ((8 * d) + ((m.2 42) d)) x432)]) rfl rfl rfl rfl rfl ?_
                  by_cases hf524 : y514 = 0
                  · skip
                    subst hf524
                    replace h520 : LxP y508 y510 y512 (m.1 6) (0 : Int) := h520
                    have hLx := h520
                    replace h521 : (0 : Int) = 0 ∧ y464 = (59 : Int) := h521 rfl
                    replace h522 : y466 ≤ y510 := h522
                    replace h523 : y466 + y468 ≤ y510 := h523 rfl
                    have u525 : (m.1 8) + 1 ≤ y510 := by omega
                    clear g465 g467 g469 g473 g475 h495 u504 g515 h521 h522 h523
                    have hlt : (m.2 42) d < 8 := by omega
                    refine T_gf 127 (.ref 212) rfl rfl rfl rfl rfl rfl ?_
                    refine T_ld 128 (.int (i32 d)) rfl (fun _ => rfl) ?_
                    refine T_dup2 129 rfl (fun _ => rfl) ?_
                    refine T_iald 130 42 (m.2 42) rfl rfl rfl (by omega) (show d < (16 : Int) by omega) rfl ?_
                    have e526 : 0 ≤ (m.2 42) d ∧ (m.2 42) d ≤ 8 := (hT.2.1 42) d
                    refine T_ld 131 (.int (i32 1)) rfl (fun _ => rfl) ?_
                    refine T_iadd 132 rfl rfl ?_
                    have G527 : ∀ j, 0 ≤ (upI (m.2 42) d (((m.2 42) d) + 1)) j ∧ (upI (m.2 42) d (((m.2 42) d) + 1)) j ≤ 8 := upI_rg (hT.2.1 42) ⟨by omega, by omega⟩
                    refine T_iast (a' := [(14, F480), (15, F482), (16, F484), (17, F486), (37, F488), (38, F490), (42, upI (m.2 42) d (((m.2 42) d) + 1)), (45, upI (m.2 45) ((8 * d) + ((m.2 42) d)) x492), (97, upI (m.2 97) ((8 * d) + ((m.2 42) d)) x295), (98, upI (upI (m.2 98) ((8 * d) + ((m.2 42) d)) (-1)) ((8 * d) + ((m.2 42) d)) x432)]) 133 42 (m.2 42) rfl rfl rfl (by omega) (show d < (16 : Int) by omega) rfl rfl ?_
                    have hCT2 : ∀ c, 8 * d ≤ c → c < 8 * d + (upI (m.2 42) d (((m.2 42) d) + 1)) d → (upI (m.2 45) ((8 * d) + ((m.2 42) d)) x492) c < y478 := by
                      intro c c0 c1
                      rw [upI_s] at c1
                      by_cases e : c = 8 * d + (m.2 42) d
                      · subst e
                        rw [upI_s]
                        exact hRS
                      · rw [upI_n e]
                        have := hCT c c0 (by omega)
                        omega
                    refine T_ret rfl (fun _ => rfl) ?_
                    exact ⟨y508, y510, y512, 0, y516, y518, y476, y478, F480, F482, F484, F486, F488, F490, upI (m.2 42) d (((m.2 42) d) + 1), upI (m.2 45) ((8 * d) + ((m.2 42) d)) x492, upI (m.2 97) ((8 * d) + ((m.2 42) d)) x295, upI (upI (m.2 98) ((8 * d) + ((m.2 42) d)) (-1)) ((8 * d) + ((m.2 42) d)) x432, g509, g511, g513, ⟨by omega, by omega⟩, g517, g519, g477, g479, G481, G483, G485, G487, G489, G491, G527, G505, G304, G441, (by omega), (by first | (first | exact hLx | (intro h9; exfalso; omega)) | (exfalso; omega)), (by first | (first | exact hNM | (intro k; rw [hE1, hE2]; have := hNM k; have h7 := hLx0 hf0; unfold upI; split <;> omega)) | (exfalso; omega)), (fun _ => ⟨(by omega), (by first | (exact pPN) | (exfalso; omega)), (by first | (exact pSO) | (exfalso; omega)), (by first | (exact hCT2) | (exfalso; omega)), (by omega), (by first | (exact agr_u (Int.le_refl _)) | (exfalso; omega)), (by first | (exact agr_u (by omega)) | (exfalso; omega))⟩), rfl⟩
                  · skip
                    replace h520 : LxP y508 y510 y512 (m.1 6) y514 := h520
                    have hLx := h520
                    clear h521
                    replace h522 : y466 ≤ y510 := h522
                    clear h523
                    have hf528 : 1 ≤ y514 := by omega
                    clear g465 g467 g469 g473 g475 h495 u504 h522
                    refine Tm_lv (a := [(0, .ref 189), (1, .int (i32 d)), (2, .int (i32 ((8 * d) + ((m.2 42) d))))]) rfl rfl ⟨rfl, rfl, rfl, trivial⟩ ?_
                    exact J123_86 y508 y510 y512 y514 y516 y518 y476 y478 F480 F482 F484 F486 F488 F490 (upI (m.2 45) ((8 * d) + ((m.2 42) d)) x492) (upI (m.2 97) ((8 * d) + ((m.2 42) d)) x295) (upI (upI (m.2 98) ((8 * d) + ((m.2 42) d)) (-1)) ((8 * d) + ((m.2 42) d)) x432) g509 g511 g513 g515 g517 g519 g477 g479 G481 G483 G485 G487 G489 G491 G505 G304 G441 (by omega) (by omega) (by first | exact hNM) (by omega)
                · skip
                  clear c497
                  clear h494
                  replace h495 : LxP y464 y466 y468 (m.1 6) y470 := h495
                  have hLx := h495
                  replace h496 : ∀ k, F480 k + F482 k ≤ 4000 := h496
                  have hNM := h496
                  have hf529 : 1 ≤ y470 := by omega
                  clear g445 g447 g449 g453 g455 h456 u461
                  refine Tm_lv (a := [(0, .ref 189), (1, .int (i32 d)), (2, .int (i32 ((8 * d) + ((m.2 42) d))))]) rfl rfl ⟨rfl, rfl, rfl, trivial⟩ ?_
                  exact J116_128 x492 y464 y466 y468 y470 y472 y474 y476 y478 F480 F482 F484 F486 F488 F490 (upI (m.2 97) ((8 * d) + ((m.2 42) d)) x295) (upI (upI (m.2 98) ((8 * d) + ((m.2 42) d)) (-1)) ((8 * d) + ((m.2 42) d)) x432) (r32 (by omega) (by omega)) g465 g467 g469 g471 g473 g475 g477 g479 G481 G483 G485 G487 G489 G491 G304 G441 (by omega) (by omega) (by omega) (by omega) (by first | exact hNM) (by omega)
              · skip
                replace h456 : LxP y444 y446 y448 (m.1 6) y450 := h456
                have hLx := h456
                clear h457
                replace h458 : y422 ≤ y446 := h458
                clear h459
                have hf530 : 1 ≤ y450 := by omega
                clear g421 g423 g425 g429 g431 h435 u440 h458
                refine Tm_lv (a := [(0, .ref 189), (1, .int (i32 d)), (2, .int (i32 ((8 * d) + ((m.2 42) d))))]) rfl rfl ⟨rfl, rfl, rfl, trivial⟩ ?_
                exact J107_181 y444 y446 y448 y450 y452 y454 (upI (m.2 97) ((8 * d) + ((m.2 42) d)) x295) (upI (upI (m.2 98) ((8 * d) + ((m.2 42) d)) (-1)) ((8 * d) + ((m.2 42) d)) x432) g445 g447 g449 g451 g453 g455 G304 G441 (by omega) (by omega) (by first | exact hNM) (by omega)
            · skip
              clear c436
              clear h434
              replace h435 : LxP y420 y422 y424 (m.1 6) y426 := h435
              have hLx := h435
              have hf531 : 1 ≤ y426 := by omega
              clear g400 g402 g404 g408 g410 h411 u416
              refine Tm_lv (a := [(0, .ref 189), (1, .int (i32 d)), (2, .int (i32 ((8 * d) + ((m.2 42) d))))]) rfl rfl ⟨rfl, rfl, rfl, trivial⟩ ?_
              exact J100_241 x432 y420 y422 y424 y426 y428 y430 (upI (m.2 97) ((8 * d) + ((m.2 42) d)) x295) (upI (m.2 98) ((8 * d) + ((m.2 42) d)) (-1)) (r64 (by omega) (by omega)) g421 g423 g425 g427 g429 g431 G304 G305 (by omega) (by omega) (by first | exact hNM) (by omega)
          · skip
            replace h411 : LxP y399 y401 y403 (m.1 6) y405 := h411
            have hLx := h411
            clear h412
            replace h413 : y285 ≤ y401 := h413
            clear h414
            have hf532 : 1 ≤ y405 := by omega
            clear g284 g286 g288 g292 g294 h298 c301 u303 h307 h413
            refine T_gf 89 (.ref 260) rfl rfl rfl rfl rfl rfl ?_
            refine T_ld 90 (.int (i32 ((8 * d) + ((m.2 42) d)))) rfl (fun _ => rfl) ?_
            refine T_ld 91 (.ref 189) rfl (fun _ => rfl) ?_
            refine T_gf 95 (.ref 213) rfl rfl rfl rfl rfl rfl ?_
            refine T_ld 96 (.int (i32 d)) rfl (fun _ => rfl) ?_
            refine T_iald 97 43 (m.2 43) rfl rfl rfl (by omega) (show d < (16 : Int) by omega) rfl ?_
            have e533 : 0 ≤ m.2 43 d ∧ m.2 43 d ≤ 1024 := hT.2.1 43 d
            refine T_call 100 266 [.ref 189, .int (i32 ((m.2 43) d))] [.int (i32 ((8 * d) + ((m.2 42) d))), .ref 260] rfl (fun _ => rfl) rfl (c_caseNumber w (mO m [(7, y399), (8, y401), (9, y403), (10, y405), (11, y407), (12, y409), (13, (m.1 13)), (23, (m.1 23))] [(14, (m.2 14)), (15, (m.2 15)), (16, (m.2 16)), (17, (m.2 17)), (37, (m.2 37)), (38, (m.2 38)), (42, (m.2 42)), (45, (m.2 45)), (97, upI (m.2 97) ((8 * d) + ((m.2 42) d)) x295), (98, upI (m.2 98) ((8 * d) + ((m.2 42) d)) (-1))]) c N D (by omega) (Ty_mO hT rfl rfl ⟨g400, g402, g404, g406, g408, g410, f13, f23, trivial⟩ ⟨(hT.2.1 14), (hT.2.1 15), (hT.2.1 16), (hT.2.1 17), (hT.2.1 37), (hT.2.1 38), (hT.2.1 42), (hT.2.1 45), G304, G305, trivial⟩) ((m.2 43) d) (r32 (by omega) (by omega)) (show LxP y399 y401 y403 (m.1 6) y405 by first | exact hLx | (intro h9; exfalso; omega)) (fun (h : y405 = 0) => absurd h (by omega))) (fun rr534 k535 => ?_)
            obtain ⟨y536, y538, y540, y542, y544, y546, x548, g537, g539, g541, g543, g545, g547, g549, h550, h551, c552, rfl⟩ := k535
            refine ⟨_, _, rfl, ?_⟩
            refine T_nf (st' := [.long (i64 x548), .int (i32 ((8 * d) + ((m.2 42) d))), .ref 260]) (l' := [(7, y536), (8, y538), (9, y540), (10, y542), (11, y544), (12, y546), (13, (m.1 13)), (23, (m.1 23))]) (a' := [(14, (m.2 14)), (15, (m.2 15)), (16, (m.2 16)), (17, (m.2 17)), (37, (m.2 37)), (38, (m.2 38)), (42, (m.2 42)), (45, (m.2 45)), (97, upI (m.2 97) ((8 * d) + ((m.2 42) d)) x295), (98, upI (m.2 98) ((8 * d) + ((m.2 42) d)) (-1))]) rfl rfl rfl rfl rfl ?_
            obtain ⟨g549a, g549b⟩ := g549
            replace h550 : y542 = 0 → y405 = 0 := h550
            replace h551 : LxP y536 y538 y540 (m.1 6) y542 := h551
            have hf553 : 1 ≤ y542 := by omega
            clear c552
            clear h550
            have hLx := h551
            clear g400 g402 g404 g406 g408 g410 h411 hf532
            refine Tm_lv (a := [(0, .ref 189), (1, .int (i32 d)), (2, .int (i32 ((8 * d) + ((m.2 42) d))))]) rfl rfl ⟨rfl, rfl, rfl, trivial⟩ ?_
            exact J100_241 x548 y536 y538 y540 y542 y544 y546 (upI (m.2 97) ((8 * d) + ((m.2 42) d)) x295) (upI (m.2 98) ((8 * d) + ((m.2 42) d)) (-1)) (r64 (by omega) (by omega)) g537 g539 g541 g543 g545 g547 G304 G305 (by omega) (by omega) (by first | exact hNM) (by omega)
      · skip
        clear c299
        clear h297
        replace h298 : LxP y283 y285 y287 (m.1 6) y289 := h298
        have hLx := h298
        have hf554 : 1 ≤ y289 := by omega
        have G555 : ∀ j, (-9223372036854775808) ≤ (upI (m.2 97) ((8 * d) + ((m.2 42) d)) x295) j ∧ (upI (m.2 97) ((8 * d) + ((m.2 42) d)) x295) j ≤ 9223372036854775807 := upI_rg (hT.2.1 97) ⟨by omega, by omega⟩
        refine T_last (a' := [(14, (m.2 14)), (15, (m.2 15)), (16, (m.2 16)), (17, (m.2 17)), (37, (m.2 37)), (38, (m.2 38)), (42, (m.2 42)), (45, (m.2 45)), (97, upI (m.2 97) ((8 * d) + ((m.2 42) d)) x295), (98, (m.2 98))]) 56 97 (m.2 97) rfl rfl rfl (by omega) (show ((8 * d) + ((m.2 42) d)) < (128 : Int) by omega) rfl rfl ?_
        refine T_gf 60 (.ref 260) rfl rfl rfl rfl rfl rfl ?_
        refine T_ld 61 (.int (i32 ((8 * d) + ((m.2 42) d)))) rfl (fun _ => rfl) ?_
        refine T_ld 64 (.long (i64 (-1))) rfl (fun _ => rfl) ?_
        have G556 : ∀ j, (-9223372036854775808) ≤ (upI (m.2 98) ((8 * d) + ((m.2 42) d)) (-1)) j ∧ (upI (m.2 98) ((8 * d) + ((m.2 42) d)) (-1)) j ≤ 9223372036854775807 := upI_rg (hT.2.1 98) ⟨by omega, by omega⟩
        refine T_last (a' := [(14, (m.2 14)), (15, (m.2 15)), (16, (m.2 16)), (17, (m.2 17)), (37, (m.2 37)), (38, (m.2 38)), (42, (m.2 42)), (45, (m.2 45)), (97, upI (m.2 97) ((8 * d) + ((m.2 42) d)) x295), (98, upI (m.2 98) ((8 * d) + ((m.2 42) d)) (-1))]) 65 98 (m.2 98) rfl rfl rfl (by omega) (show ((8 * d) + ((m.2 42) d)) < (128 : Int) by omega) rfl rfl ?_
        refine T_gf 69 (.int (i32 y289)) rfl rfl rfl rfl rfl rfl ?_
        refine T_if 101 72 rfl rfl rfl (r32 (by omega) (by omega)) (fun (h557 : y289 ≠ 0) => ?_) (fun (h557 : ¬ (y289 ≠ 0)) => by exfalso; omega)
        refine T_ld 102 (.ref 189) rfl (fun _ => rfl) ?_
        refine T_ld 104 (.int (i32 58)) rfl (fun _ => rfl) ?_
        refine T_call 107 232 [.ref 189, .int (i32 58)] [] rfl (fun _ => rfl) rfl (c_need w (mO m [(7, y283), (8, y285), (9, y287), (10, y289), (11, y291), (12, y293), (13, (m.1 13)), (23, (m.1 23))] [(14, (m.2 14)), (15, (m.2 15)), (16, (m.2 16)), (17, (m.2 17)), (37, (m.2 37)), (38, (m.2 38)), (42, (m.2 42)), (45, (m.2 45)), (97, upI (m.2 97) ((8 * d) + ((m.2 42) d)) x295), (98, upI (m.2 98) ((8 * d) + ((m.2 42) d)) (-1))]) c N D (by omega) (Ty_mO hT rfl rfl ⟨g284, g286, g288, g290, g292, g294, f13, f23, trivial⟩ ⟨(hT.2.1 14), (hT.2.1 15), (hT.2.1 16), (hT.2.1 17), (hT.2.1 37), (hT.2.1 38), (hT.2.1 42), (hT.2.1 45), G555, G556, trivial⟩) 58 ⟨by decide, by decide⟩ (show 1 ≤ (58 : Int) by omega) (show LxP y283 y285 y287 (m.1 6) y289 by first | exact hLx | (intro h9; exfalso; omega) | (intro h9; have h8 := hLx (by omega); omega))) (fun rr558 k559 => ?_)
        obtain ⟨y560, y562, y564, y566, y568, y570, g561, g563, g565, g567, g569, g571, h572, h573, h574, h575, rfl⟩ := k559
        refine ⟨_, _, rfl, ?_⟩
        refine T_nf (st' := []) (l' := [(7, y560), (8, y562), (9, y564), (10, y566), (11, y568), (12, y570), (13, (m.1 13)), (23, (m.1 23))]) (a' := [(14, (m.2 14)), (15, (m.2 15)), (16, (m.2 16)), (17, (m.2 17)), (37, (m.2 37)), (38, (m.2 38)), (42, (m.2 42)), (45, (m.2 45)), (97, upI (m.2 97) ((8 * d) + ((m.2 42) d)) x295), (98, upI (m.2 98) ((8 * d) + ((m.2 42) d)) (-1))]) rfl rfl rfl rfl rfl ?_
        replace h572 : LxP y560 y562 y564 (m.1 6) y566 := h572
        replace h573 : y566 = 0 → y289 = 0 ∧ y283 = (58 : Int) := h573
        replace h574 : y285 ≤ y562 := h574
        replace h575 : y566 = 0 → y285 + y287 ≤ y562 := h575
        have hf576 : 1 ≤ y566 := by omega
        clear h573
        clear h575
        have hLx := h572
        clear g284 g286 g288 g290 g292 g294 h298 hf554 h557 h574
        refine Tm_lv (a := [(0, .ref 189), (1, .int (i32 d)), (2, .int (i32 ((8 * d) + ((m.2 42) d))))]) rfl rfl ⟨rfl, rfl, rfl, trivial⟩ ?_
        exact J107_181 y560 y562 y564 y566 y568 y570 (upI (m.2 97) ((8 * d) + ((m.2 42) d)) x295) (upI (m.2 98) ((8 * d) + ((m.2 42) d)) (-1)) g561 g563 g565 g567 g569 g571 G555 G556 (by omega) (by omega) (by first | exact hNM) (by omega)
    · skip
      refine T_ld 12 (.ref 189) rfl (fun _ => rfl) ?_
      refine T_ld 13 (.int (i32 4)) rfl (fun _ => rfl) ?_
      refine T_gf 17 (.int (i32 (m.1 8))) rfl rfl rfl rfl rfl rfl ?_
      refine T_call 20 222 [.ref 189, .int (i32 4), .int (i32 (m.1 8))] [] rfl (fun _ => rfl) rfl (c_wrong w (mO m [(7, (m.1 7)), (8, (m.1 8)), (9, (m.1 9)), (10, (m.1 10)), (11, (m.1 11)), (12, (m.1 12)), (13, (m.1 13)), (23, (m.1 23))] [(14, (m.2 14)), (15, (m.2 15)), (16, (m.2 16)), (17, (m.2 17)), (37, (m.2 37)), (38, (m.2 38)), (42, (m.2 42)), (45, (m.2 45)), (97, (m.2 97)), (98, (m.2 98))]) c N D (by omega) (Ty_mO hT rfl rfl ⟨f7, f8, f9, f10, f11, f12, f13, f23, trivial⟩ ⟨(hT.2.1 14), (hT.2.1 15), (hT.2.1 16), (hT.2.1 17), (hT.2.1 37), (hT.2.1 38), (hT.2.1 42), (hT.2.1 45), (hT.2.1 97), (hT.2.1 98), trivial⟩) 4 (m.1 8) ⟨by decide, by decide⟩ (r32 (by omega) (by omega)) (show 1 ≤ (4 : Int) ∧ (4 : Int) ≤ 8 by omega) (show 0 ≤ (m.1 8) ∧ (m.1 8) ≤ 4000 by omega)) (fun rr577 k578 => ?_)
      obtain ⟨y579, y581, g580, g582, h583, rfl⟩ := k578
      refine ⟨_, _, rfl, ?_⟩
      refine T_nf (st' := []) (l' := [(7, (m.1 7)), (8, (m.1 8)), (9, (m.1 9)), (10, y579), (11, y581), (12, (m.1 12)), (13, (m.1 13)), (23, (m.1 23))]) (a' := [(14, (m.2 14)), (15, (m.2 15)), (16, (m.2 16)), (17, (m.2 17)), (37, (m.2 37)), (38, (m.2 38)), (42, (m.2 42)), (45, (m.2 45)), (97, (m.2 97)), (98, (m.2 98))]) rfl rfl rfl rfl rfl ?_
      replace h583 : (0 < (m.1 10) → y579 = (m.1 10) ∧ y581 = (m.1 11)) ∧ ((m.1 10) ≤ 0 → y579 = (4 : Int) ∧ y581 = (m.1 8)) := h583
      have hf584 : 1 ≤ y579 := by omega
      refine T_gf 24 (.int (i32 y579)) rfl rfl rfl rfl rfl rfl ?_
      refine T_if 28 27 rfl rfl rfl (r32 (by omega) (by omega)) (fun (h585 : y579 ≤ 0) => by exfalso; omega) (fun (h585 : ¬ (y579 ≤ 0)) => ?_)
      refine T_ret rfl (fun _ => rfl) ?_
      exact ⟨(m.1 7), (m.1 8), (m.1 9), y579, y581, (m.1 12), (m.1 13), (m.1 23), (m.2 14), (m.2 15), (m.2 16), (m.2 17), (m.2 37), (m.2 38), (m.2 42), (m.2 45), (m.2 97), (m.2 98), f7, f8, f9, g580, g582, f12, f13, f23, (hT.2.1 14), (hT.2.1 15), (hT.2.1 16), (hT.2.1 17), (hT.2.1 37), (hT.2.1 38), (hT.2.1 42), (hT.2.1 45), (hT.2.1 97), (hT.2.1 98), (by omega), (by first | (first | exact hLx | (intro h9; exfalso; omega)) | (exfalso; omega)), (by first | (first | exact hNM | (intro k; rw [hE1, hE2]; have := hNM k; have h7 := hLx0 hf0; unfold upI; split <;> omega)) | (exfalso; omega)), (fun h => absurd h (by omega)), rfl⟩
  · skip
    clear hC
    refine T_gf 4 (.ref 212) rfl rfl rfl rfl rfl rfl ?_
    refine T_ld 5 (.int (i32 d)) rfl (fun _ => rfl) ?_
    refine T_iald 6 42 (m.2 42) rfl rfl rfl (by omega) (show d < (16 : Int) by omega) rfl ?_
    have e586 : 0 ≤ (m.2 42) d ∧ (m.2 42) d ≤ 8 := (hT.2.1 42) d
    refine T_ld 8 (.int (i32 8)) rfl (fun _ => rfl) ?_
    refine T_icmp 20 11 rfl rfl rfl (r32 (by omega) (by omega)) ⟨by decide, by decide⟩ (fun (h587 : (m.2 42) d ≠ 8) => ?_) (fun (h587 : ¬ ((m.2 42) d ≠ 8)) => ?_)
    · skip
      refine T_gf 24 (.int (i32 (m.1 10))) rfl rfl rfl rfl rfl rfl ?_
      refine T_if 28 27 rfl rfl rfl (r32 (by omega) (by omega)) (fun (h588 : (m.1 10) ≤ 0) => by exfalso; omega) (fun (h588 : ¬ ((m.1 10) ≤ 0)) => ?_)
      refine T_ret rfl (fun _ => rfl) ?_
      exact ⟨(m.1 7), (m.1 8), (m.1 9), (m.1 10), (m.1 11), (m.1 12), (m.1 13), (m.1 23), (m.2 14), (m.2 15), (m.2 16), (m.2 17), (m.2 37), (m.2 38), (m.2 42), (m.2 45), (m.2 97), (m.2 98), f7, f8, f9, f10, f11, f12, f13, f23, (hT.2.1 14), (hT.2.1 15), (hT.2.1 16), (hT.2.1 17), (hT.2.1 37), (hT.2.1 38), (hT.2.1 42), (hT.2.1 45), (hT.2.1 97), (hT.2.1 98), (by omega), (by first | (first | exact hLx | (intro h9; exfalso; omega)) | (exfalso; omega)), (by first | (first | exact hNM | (intro k; rw [hE1, hE2]; have := hNM k; have h7 := hLx0 hf0; unfold upI; split <;> omega)) | (exfalso; omega)), (fun h => absurd h (by omega)), rfl⟩
    · skip
      refine T_ld 12 (.ref 189) rfl (fun _ => rfl) ?_
      refine T_ld 13 (.int (i32 4)) rfl (fun _ => rfl) ?_
      refine T_gf 17 (.int (i32 (m.1 8))) rfl rfl rfl rfl rfl rfl ?_
      refine T_call 20 222 [.ref 189, .int (i32 4), .int (i32 (m.1 8))] [] rfl (fun _ => rfl) rfl (c_wrong w (mO m [(7, (m.1 7)), (8, (m.1 8)), (9, (m.1 9)), (10, (m.1 10)), (11, (m.1 11)), (12, (m.1 12)), (13, (m.1 13)), (23, (m.1 23))] [(14, (m.2 14)), (15, (m.2 15)), (16, (m.2 16)), (17, (m.2 17)), (37, (m.2 37)), (38, (m.2 38)), (42, (m.2 42)), (45, (m.2 45)), (97, (m.2 97)), (98, (m.2 98))]) c N D (by omega) (Ty_mO hT rfl rfl ⟨f7, f8, f9, f10, f11, f12, f13, f23, trivial⟩ ⟨(hT.2.1 14), (hT.2.1 15), (hT.2.1 16), (hT.2.1 17), (hT.2.1 37), (hT.2.1 38), (hT.2.1 42), (hT.2.1 45), (hT.2.1 97), (hT.2.1 98), trivial⟩) 4 (m.1 8) ⟨by decide, by decide⟩ (r32 (by omega) (by omega)) (show 1 ≤ (4 : Int) ∧ (4 : Int) ≤ 8 by omega) (show 0 ≤ (m.1 8) ∧ (m.1 8) ≤ 4000 by omega)) (fun rr589 k590 => ?_)
      obtain ⟨y591, y593, g592, g594, h595, rfl⟩ := k590
      refine ⟨_, _, rfl, ?_⟩
      refine T_nf (st' := []) (l' := [(7, (m.1 7)), (8, (m.1 8)), (9, (m.1 9)), (10, y591), (11, y593), (12, (m.1 12)), (13, (m.1 13)), (23, (m.1 23))]) (a' := [(14, (m.2 14)), (15, (m.2 15)), (16, (m.2 16)), (17, (m.2 17)), (37, (m.2 37)), (38, (m.2 38)), (42, (m.2 42)), (45, (m.2 45)), (97, (m.2 97)), (98, (m.2 98))]) rfl rfl rfl rfl rfl ?_
      replace h595 : (0 < (m.1 10) → y591 = (m.1 10) ∧ y593 = (m.1 11)) ∧ ((m.1 10) ≤ 0 → y591 = (4 : Int) ∧ y593 = (m.1 8)) := h595
      have hf596 : 1 ≤ y591 := by omega
      refine T_gf 24 (.int (i32 y591)) rfl rfl rfl rfl rfl rfl ?_
      refine T_if 28 27 rfl rfl rfl (r32 (by omega) (by omega)) (fun (h597 : y591 ≤ 0) => by exfalso; omega) (fun (h597 : ¬ (y591 ≤ 0)) => ?_)
      refine T_ret rfl (fun _ => rfl) ?_
      exact ⟨(m.1 7), (m.1 8), (m.1 9), y591, y593, (m.1 12), (m.1 13), (m.1 23), (m.2 14), (m.2 15), (m.2 16), (m.2 17), (m.2 37), (m.2 38), (m.2 42), (m.2 45), (m.2 97), (m.2 98), f7, f8, f9, g592, g594, f12, f13, f23, (hT.2.1 14), (hT.2.1 15), (hT.2.1 16), (hT.2.1 17), (hT.2.1 37), (hT.2.1 38), (hT.2.1 42), (hT.2.1 45), (hT.2.1 97), (hT.2.1 98), (by omega), (by first | (first | exact hLx | (intro h9; exfalso; omega)) | (exfalso; omega)), (by first | (first | exact hNM | (intro k; rw [hE1, hE2]; have := hNM k; have h7 := hLx0 hf0; unfold upI; split <;> omega)) | (exfalso; omega)), (fun h => absurd h (by omega)), rfl⟩
