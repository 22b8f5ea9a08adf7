def Q_stateHere (m : mR) (c : Nat → Option am_C) (N : Nat) : ag_Re af_T → Prop := fun R => ∃ (M : mR) (r : Int), Ty M ∧ ((-2) ≤ r ∧ r ≤ 15) ∧ ((M.1 10) = 0 → (m.1 10) = 0) ∧ (LxP (M.1 7) (M.1 8) (M.1 9) (m.1 6) (M.1 10)) ∧ (∀ k, (M.2 14) k + (M.2 15) k ≤ 4000) ∧ (M.1 10 = 0 → ((m.1 8) + 1 ≤ (M.1 8)) ∧ (PN (M.1 13) (m.1 19) (m.1 20) (m.1 21) (m.1 22) (M.1 23) (m.1 25) (m.1 26) (M.2 16) (M.2 17)) ∧ (SOp (M.2 38) (M.1 23) (m.1 24)) ∧ (r < (M.1 23)) ∧ ((m.1 23) ≤ (M.1 23))) ∧ R = (.inl (some (.int (i32 r))), (mhp (mO m [(7, (M.1 7)), (8, (M.1 8)), (9, (M.1 9)), (10, (M.1 10)), (11, (M.1 11)), (12, (M.1 12)), (13, (M.1 13)), (23, (M.1 23))] [(14, (M.2 14)), (15, (M.2 15)), (16, (M.2 16)), (17, (M.2 17)), (37, (M.2 37)), (38, (M.2 38))]) c, N), 0, 0)
set_option maxHeartbeats 8000000 in
theorem c_stateHere (w : wX) (m : mR) (c : Nat → Option am_C) (N D : Nat) (hD : 6 ≤ D) (hT : Ty m) (hLx0 : LxP (m.1 7) (m.1 8) (m.1 9) (m.1 6) (m.1 10)) (hNM0 : ∀ k, (m.2 14) k + (m.2 15) k ≤ 4000) (hC : m.1 10 = 0 → (PN (m.1 13) (m.1 19) (m.1 20) (m.1 21) (m.1 22) (m.1 23) (m.1 25) (m.1 26) (m.2 16) (m.2 17)) ∧ (SOp (m.2 38) (m.1 23) (m.1 24))) : TC w D 242 [.ref 189] (mhp m c, N) (Q_stateHere m c N) := by
  obtain ⟨D, rfl⟩ : ∃ k, D = k + 1 := ⟨D - 1, by omega⟩
  have hLx := hLx0
  have hNM := hNM0
  have f7 : 0 ≤ m.1 7 ∧ m.1 7 ≤ 330 := hT.1 7
  have f8 : 0 ≤ m.1 8 ∧ m.1 8 ≤ 4000 := hT.1 8
  have f9 : 0 ≤ m.1 9 ∧ m.1 9 ≤ 4000 := hT.1 9
  have f10 : 0 ≤ m.1 10 ∧ m.1 10 ≤ 8 := hT.1 10
  have f11 : (-1) ≤ m.1 11 ∧ m.1 11 ≤ 4000 := hT.1 11
  have f12 : (-9223372036854775808) ≤ m.1 12 ∧ m.1 12 ≤ 9223372036854775807 := hT.1 12
  have f13 : 0 ≤ m.1 13 ∧ m.1 13 ≤ 120 := hT.1 13
  have f23 : 0 ≤ m.1 23 ∧ m.1 23 ≤ 16 := hT.1 23
  have f25 : 0 ≤ m.1 25 ∧ m.1 25 ≤ 16 := hT.1 25
  have f22 : 0 ≤ m.1 22 ∧ m.1 22 ≤ 8 := hT.1 22
  have f24 : 0 ≤ m.1 24 ∧ m.1 24 ≤ 16 := hT.1 24
  have f19 : 0 ≤ m.1 19 ∧ m.1 19 ≤ 12 := hT.1 19
  have f20 : 0 ≤ m.1 20 ∧ m.1 20 ≤ 12 := hT.1 20
  have f21 : 0 ≤ m.1 21 ∧ m.1 21 ≤ 16 := hT.1 21
  have f6 : 0 ≤ m.1 6 ∧ m.1 6 ≤ 4000 := hT.1 6
  have f26 : 0 ≤ m.1 26 ∧ m.1 26 ≤ 8 := hT.1 26
  refine Tc_of rfl ?_
  show TT w D pm_242 (0, [(0, .ref 189)], [], (mhp m c, N), 0, 0) (Q_stateHere m c N)
  rw [show (mhp m c, N) = (mhp (mO m [(7, (m.1 7)), (8, (m.1 8)), (9, (m.1 9)), (10, (m.1 10)), (11, (m.1 11)), (12, (m.1 12)), (13, (m.1 13)), (23, (m.1 23))] [(14, (m.2 14)), (15, (m.2 15)), (16, (m.2 16)), (17, (m.2 17)), (37, (m.2 37)), (38, (m.2 38))]) c, N) from congrArg (fun M => (mhp M c, N)) (mO_pad m [7, 8, 9, 10, 11, 12, 13, 23] [14, 15, 16, 17, 37, 38])]
  by_cases hf0 : m.1 10 = 0
  · skip
    obtain ⟨pPN, pSO⟩ := hC hf0
    have hn := pPN.1
    have hNM := hNM0
    refine T_gf 4 (.int (i32 (m.1 10))) rfl rfl rfl rfl rfl rfl ?_
    refine T_if 9 7 rfl rfl rfl (r32 (by omega) (by omega)) (fun (h11 : (m.1 10) ≤ 0) => ?_) (fun (h11 : ¬ ((m.1 10) ≤ 0)) => by exfalso; omega)
    refine T_gf 13 (.int (i32 (m.1 7))) rfl rfl rfl rfl rfl rfl ?_
    refine T_ld 14 (.int (i32 1)) rfl (fun _ => rfl) ?_
    refine T_icmp 23 17 rfl rfl rfl (r32 (by omega) (by omega)) ⟨by decide, by decide⟩ (fun (h12 : (m.1 7) = 1) => ?_) (fun (h12 : ¬ ((m.1 7) = 1)) => ?_)
    · skip
      have h7 := hLx (by omega)
      refine T_ld 24 (.ref 189) rfl (fun _ => rfl) ?_
      refine T_call 27 227 [.ref 189] [] rfl (fun _ => rfl) rfl (c_sortHere w (mO m [(7, (m.1 7)), (8, (m.1 8)), (9, (m.1 9)), (10, (m.1 10)), (11, (m.1 11)), (12, (m.1 12)), (13, (m.1 13)), (23, (m.1 23))] [(14, (m.2 14)), (15, (m.2 15)), (16, (m.2 16)), (17, (m.2 17)), (37, (m.2 37)), (38, (m.2 38))]) c N D (by omega) (Ty_mO hT rfl rfl ⟨f7, f8, f9, f10, f11, f12, f13, f23, trivial⟩ ⟨(hT.2.1 14), (hT.2.1 15), (hT.2.1 16), (hT.2.1 17), (hT.2.1 37), (hT.2.1 38), trivial⟩) (show 1 ≤ (m.1 9) ∧ (m.1 8) + (m.1 9) ≤ (m.1 6) by first | omega | (have h8 := hLx (by omega); omega)) (show ∀ k, (m.2 14) k + (m.2 15) k ≤ 4000 by first | exact hNM | exact p1)) (fun rr13 k14 => ?_)
      obtain ⟨so, g15, h16, h17, rfl⟩ := k14
      refine ⟨_, _, rfl, ?_⟩
      refine T_nf2 (st' := [.int (i32 so)]) (l' := [(7, (m.1 7)), (8, (m.1 8)), (9, (m.1 9)), (10, (m.1 10)), (11, (m.1 11)), (12, (m.1 12)), (13, (m.1 13)), (23, (m.1 23))]) (a' := [(14, (m.2 14)), (15, (m.2 15)), (16, (m.2 16)), (17, (m.2 17)), (37, (m.2 37)), (38, (m.2 38))]) [] [] rfl ⟨rfl, rfl, rfl, rfl, rfl, rfl, rfl, rfl, rfl, rfl, rfl, rfl, rfl, rfl, rfl, rfl, trivial⟩ ⟨rfl, rfl, rfl, rfl, rfl, rfl, rfl, rfl, rfl, rfl, rfl, rfl, trivial⟩ rfl rfl (by decide) (by decide) ?_
      obtain ⟨g15a, g15b⟩ := g15
      replace h16 : ∃ g k, isGH (m.2 4) (m.1 8) (m.1 9) g ∧ (g < 0 → isFH (m.2 4) (m.2 14) (m.2 15) (m.1 8) (m.1 9) (m.1 13) k) ∧ so = sortV (m.2 16) g k := h16
      have hSo := h16
      replace h17 : -1 ≤ so ∧ so ≤ 7 := h17
      have u18 : (m.1 8) ≤ (m.1 8) := by omega
      refine T_sto 28 [(1, .int (i32 so)), (0, .ref 189)] rfl (fun _ => rfl) ?_
      refine T_ld 29 (.int (i32 so)) rfl (fun _ => rfl) ?_
      refine T_ld 30 (.int (i32 5)) rfl (fun _ => rfl) ?_
      refine T_icmp 44 33 rfl rfl rfl (r32 (by omega) (by omega)) ⟨by decide, by decide⟩ (fun (h19 : so ≠ 5) => ?_) (fun (h19 : ¬ (so ≠ 5)) => ?_)
      · skip
        refine T_ld 45 (.int (i32 so)) rfl (fun _ => rfl) ?_
        refine T_ld 46 (.int (i32 (-1))) rfl (fun _ => rfl) ?_
        refine T_icmp 62 49 rfl rfl rfl (r32 (by omega) (by omega)) ⟨by decide, by decide⟩ (fun (h20 : so = (-1)) => ?_) (fun (h20 : ¬ (so = (-1))) => ?_)
        · skip
          refine T_gf 66 (.int (i32 (m.1 23))) rfl rfl rfl rfl rfl rfl ?_
          refine T_ld 68 (.int (i32 16)) rfl (fun _ => rfl) ?_
          refine T_icmp 80 71 rfl rfl rfl (r32 (by omega) (by omega)) ⟨by decide, by decide⟩ (fun (h21 : (m.1 23) ≠ 16) => ?_) (fun (h21 : ¬ ((m.1 23) ≠ 16)) => ?_)
          · skip
            refine T_gf 84 (.int (i32 (m.1 10))) rfl rfl rfl rfl rfl rfl ?_
            refine T_if 89 87 rfl rfl rfl (r32 (by omega) (by omega)) (fun (h22 : (m.1 10) ≤ 0) => ?_) (fun (h22 : ¬ ((m.1 10) ≤ 0)) => by exfalso; omega)
            refine T_gf 93 (.ref 207) rfl rfl rfl rfl rfl rfl ?_
            refine T_gf 97 (.int (i32 (m.1 23))) rfl rfl rfl rfl rfl rfl ?_
            refine T_gf 101 (.int (i32 (m.1 8))) rfl rfl rfl rfl rfl rfl ?_
            have G23 : ∀ j, 0 ≤ (upI (m.2 37) (m.1 23) (m.1 8)) j ∧ (upI (m.2 37) (m.1 23) (m.1 8)) j ≤ 4000 := upI_rg (hT.2.1 37) ⟨by omega, by omega⟩
            refine T_iast (a' := [(14, (m.2 14)), (15, (m.2 15)), (16, (m.2 16)), (17, (m.2 17)), (37, upI (m.2 37) (m.1 23) (m.1 8)), (38, (m.2 38))]) 102 37 (m.2 37) rfl rfl rfl (by omega) (show (m.1 23) < (16 : Int) by omega) rfl rfl ?_
            refine T_gf 106 (.ref 208) rfl rfl rfl rfl rfl rfl ?_
            refine T_gf 110 (.int (i32 (m.1 23))) rfl rfl rfl rfl rfl rfl ?_
            refine T_ld 111 (.int (i32 (-1))) rfl (fun _ => rfl) ?_
            have G24 : ∀ j, (-1) ≤ (upI (m.2 38) (m.1 23) (-1)) j ∧ (upI (m.2 38) (m.1 23) (-1)) j ≤ 15 := upI_rg (hT.2.1 38) ⟨by omega, by omega⟩
            refine T_iast (a' := [(14, (m.2 14)), (15, (m.2 15)), (16, (m.2 16)), (17, (m.2 17)), (37, upI (m.2 37) (m.1 23) (m.1 8)), (38, upI (m.2 38) (m.1 23) (-1))]) 112 38 (m.2 38) rfl rfl rfl (by omega) (show (m.1 23) < (16 : Int) by omega) rfl rfl ?_
            refine T_ld 113 (.ref 189) rfl (fun _ => rfl) ?_
            refine T_ld 114 (.int (i32 5)) rfl (fun _ => rfl) ?_
            refine T_gf 118 (.int (i32 (m.1 23))) rfl rfl rfl rfl rfl rfl ?_
            refine T_call 121 231 [.ref 189, .int (i32 5), .int (i32 (m.1 23))] [] rfl (fun _ => rfl) rfl (c_enter w (mO m [(7, (m.1 7)), (8, (m.1 8)), (9, (m.1 9)), (10, (m.1 10)), (11, (m.1 11)), (12, (m.1 12)), (13, (m.1 13)), (23, (m.1 23))] [(14, (m.2 14)), (15, (m.2 15)), (16, (m.2 16)), (17, (m.2 17)), (37, upI (m.2 37) (m.1 23) (m.1 8)), (38, upI (m.2 38) (m.1 23) (-1))]) c N D (by omega) (Ty_mO hT rfl rfl ⟨f7, f8, f9, f10, f11, f12, f13, f23, trivial⟩ ⟨(hT.2.1 14), (hT.2.1 15), (hT.2.1 16), (hT.2.1 17), G23, G24, trivial⟩) 5 (m.1 23) ⟨by decide, by decide⟩ (r32 (by omega) (by omega)) (show (m.1 13) ≤ 119 by omega) (show 1 ≤ (5 : Int) ∧ (5 : Int) ≤ 7 by omega) (show 0 ≤ (m.1 23) ∧ (m.1 23) ≤ 15 by omega)) (fun rr25 k26 => ?_)
            obtain ⟨y27, F29, F31, F33, F35, g28, G30, G32, G34, G36, h37, h38, h39, h40, h41, rfl⟩ := k26
            refine ⟨_, _, rfl, ?_⟩
            refine T_nf2 (st' := []) (l' := [(7, (m.1 7)), (8, (m.1 8)), (9, (m.1 9)), (10, (m.1 10)), (11, (m.1 11)), (12, (m.1 12)), (13, y27), (23, (m.1 23))]) (a' := [(14, F29), (15, F31), (16, F33), (17, F35), (37, upI (m.2 37) (m.1 23) (m.1 8)), (38, upI (m.2 38) (m.1 23) (-1))]) [13] [14, 15, 16, 17] rfl ⟨rfl, rfl, rfl, rfl, rfl, rfl, rfl, rfl, rfl, rfl, rfl, rfl, rfl, rfl, rfl, rfl, rfl, rfl, rfl, rfl, rfl, rfl, trivial⟩ ⟨rfl, rfl, rfl, rfl, rfl, rfl, rfl, rfl, rfl, rfl, rfl, rfl, trivial⟩ rfl rfl (by decide) (by decide) ?_
            replace h37 : y27 = (m.1 13) + 1 := h37
            have hE0 := h37
            replace h38 : F29 = upI (m.2 14) (m.1 13) (m.1 8) := h38
            have hE1 := h38
            replace h39 : F31 = upI (m.2 15) (m.1 13) (m.1 9) := h39
            have hE2 := h39
            replace h40 : F33 = upI (m.2 16) (m.1 13) (5 : Int) := h40
            have hE3 := h40
            replace h41 : F35 = upI (m.2 17) (m.1 13) (m.1 23) := h41
            have hE4 := h41
            have u42 : (m.1 8) ≤ (m.1 8) := by omega
            refine T_ld 122 (.ref 189) rfl (fun _ => rfl) ?_
            refine T_ld 123 (.ref 189) rfl (fun _ => rfl) ?_
            refine T_gf1 126 (.int (i32 (m.1 23))) rfl rfl rfl rfl ?_
            refine T_ld 127 (.int (i32 1)) rfl (fun _ => rfl) ?_
            refine T_iadd 128 rfl rfl ?_
            refine T_pf (l' := [(7, (m.1 7)), (8, (m.1 8)), (9, (m.1 9)), (10, (m.1 10)), (11, (m.1 11)), (12, (m.1 12)), (13, y27), (23, (m.1 23) + 1)]) 131 ((m.1 23) + 1) rfl rfl rfl rfl rfl rfl ?_
            have g43 : 0 ≤ (m.1 23) + 1 ∧ (m.1 23) + 1 ≤ 16 := ⟨by omega, by omega⟩
            refine T_ld 132 (.ref 189) rfl (fun _ => rfl) ?_
            refine T_call 135 212 [.ref 189] [] rfl (fun _ => rfl) rfl (c_next w (mO m [(7, (m.1 7)), (8, (m.1 8)), (9, (m.1 9)), (10, (m.1 10)), (11, (m.1 11)), (12, (m.1 12)), (13, y27), (23, (m.1 23) + 1)] [(14, F29), (15, F31), (16, F33), (17, F35), (37, upI (m.2 37) (m.1 23) (m.1 8)), (38, upI (m.2 38) (m.1 23) (-1))]) c N D (by omega) (Ty_mO hT rfl rfl ⟨f7, f8, f9, f10, f11, f12, g28, g43, trivial⟩ ⟨G30, G32, G34, G36, G23, G24, trivial⟩) (show (m.1 10) = 0 → (m.1 8) + (m.1 9) ≤ (m.1 6) by first | omega | (intro h9; have h8 := hLx h9; omega))) (fun rr44 k45 => ?_)
            obtain ⟨y46, y48, y50, y52, y54, y56, g47, g49, g51, g53, g55, g57, h58, h59, h60, h61, rfl⟩ := k45
            refine ⟨_, _, rfl, ?_⟩
            refine T_nf2 (st' := []) (l' := [(7, y46), (8, y48), (9, y50), (10, y52), (11, y54), (12, y56), (13, y27), (23, (m.1 23) + 1)]) (a' := [(14, F29), (15, F31), (16, F33), (17, F35), (37, upI (m.2 37) (m.1 23) (m.1 8)), (38, upI (m.2 38) (m.1 23) (-1))]) [7, 8, 9, 10, 11, 12] [] rfl ⟨rfl, rfl, rfl, rfl, rfl, rfl, rfl, rfl, rfl, rfl, rfl, rfl, rfl, rfl, rfl, rfl, trivial⟩ ⟨rfl, rfl, rfl, rfl, rfl, rfl, rfl, rfl, rfl, rfl, rfl, rfl, trivial⟩ rfl rfl (by decide) (by decide) ?_
            by_cases hf62 : y52 = 0
            · skip
              subst hf62
              replace h58 : LxP y46 y48 y50 (m.1 6) (0 : Int) := h58
              have hLx := h58
              replace h59 : (m.1 10) = 0 := h59 rfl
              replace h60 : (m.1 8) ≤ y48 := h60
              replace h61 : (m.1 8) + (m.1 9) ≤ y48 := h61 rfl
              have u63 : (m.1 8) + 1 ≤ y48 := by omega
              clear g53
              refine T_gf 139 (.int (i32 ((m.1 23) + 1))) rfl rfl rfl rfl rfl rfl ?_
              refine T_ld 140 (.int (i32 1)) rfl (fun _ => rfl) ?_
              refine T_isub 141 rfl rfl ?_
              refine T_ret rfl (fun _ => rfl) ?_
              exact ⟨(mO m [(7, y46), (8, y48), (9, y50), (10, 0), (11, y54), (12, y56), (13, y27), (23, (m.1 23) + 1)] [(14, F29), (15, F31), (16, F33), (17, F35), (37, upI (m.2 37) (m.1 23) (m.1 8)), (38, upI (m.2 38) (m.1 23) (-1))]), ((m.1 23) + 1) - 1, (Ty_mO hT rfl rfl ⟨g47, g49, g51, ⟨(by omega : (0 : Int) ≤ 0), (by omega : (0 : Int) ≤ 8)⟩, g55, g57, g28, g43, trivial⟩ ⟨G30, G32, G34, G36, G23, G24, trivial⟩), ⟨by omega, by omega⟩, (show (0 : Int) = 0 → (m.1 10) = 0 by omega), (show LxP y46 y48 y50 (m.1 6) (0 : Int) by first | (first | exact hLx | exact (fun _ => hLx (by omega)) | (intro h9; exfalso; omega)) | (exfalso; omega)), (show ∀ k, F29 k + F31 k ≤ 4000 by first | (first | exact hNM | (intro k; rw [hE1, hE2]; have := hNM k; have h7 := hLx0 hf0; unfold upI; split <;> omega)) | (exfalso; omega)), (fun _ => ⟨(show (m.1 8) + 1 ≤ y48 by omega), (show PN y27 (m.1 19) (m.1 20) (m.1 21) (m.1 22) ((m.1 23) + 1) (m.1 25) (m.1 26) F33 F35 by first | (first | exact pPN | (rw [hE0, hE3, hE4]; exact PN_5 pPN (by omega))) | (exfalso; omega)), (show SOp (upI (m.2 38) (m.1 23) (-1)) ((m.1 23) + 1) (m.1 24) by first | (first | exact pSO | exact SOp_new pSO) | (exfalso; omega)), (show (((m.1 23) + 1) - 1) < ((m.1 23) + 1) by omega), (show (m.1 23) ≤ ((m.1 23) + 1) by omega)⟩), rfl⟩
            · skip
              replace h58 : LxP y46 y48 y50 (m.1 6) y52 := h58
              have hLx := h58
              clear h59
              replace h60 : (m.1 8) ≤ y48 := h60
              clear h61
              have hf64 : 1 ≤ y52 := by omega
              refine T_gf 139 (.int (i32 ((m.1 23) + 1))) rfl rfl rfl rfl rfl rfl ?_
              refine T_ld 140 (.int (i32 1)) rfl (fun _ => rfl) ?_
              refine T_isub 141 rfl rfl ?_
              refine T_ret rfl (fun _ => rfl) ?_
              exact ⟨(mO m [(7, y46), (8, y48), (9, y50), (10, y52), (11, y54), (12, y56), (13, y27), (23, (m.1 23) + 1)] [(14, F29), (15, F31), (16, F33), (17, F35), (37, upI (m.2 37) (m.1 23) (m.1 8)), (38, upI (m.2 38) (m.1 23) (-1))]), ((m.1 23) + 1) - 1, (Ty_mO hT rfl rfl ⟨g47, g49, g51, g53, g55, g57, g28, g43, trivial⟩ ⟨G30, G32, G34, G36, G23, G24, trivial⟩), ⟨by omega, by omega⟩, (show y52 = 0 → (m.1 10) = 0 by omega), (show LxP y46 y48 y50 (m.1 6) y52 by first | (first | exact hLx | exact (fun _ => hLx (by omega)) | (intro h9; exfalso; omega)) | (exfalso; omega)), (show ∀ k, F29 k + F31 k ≤ 4000 by first | (first | exact hNM | (intro k; rw [hE1, hE2]; have := hNM k; have h7 := hLx0 hf0; unfold upI; split <;> omega)) | (exfalso; omega)), (fun (h : y52 = 0) => absurd h (by omega)), rfl⟩
          · skip
            refine T_ld 72 (.ref 189) rfl (fun _ => rfl) ?_
            refine T_ld 73 (.int (i32 4)) rfl (fun _ => rfl) ?_
            refine T_gf 77 (.int (i32 (m.1 8))) rfl rfl rfl rfl rfl rfl ?_
            refine T_call 80 222 [.ref 189, .int (i32 4), .int (i32 (m.1 8))] [] rfl (fun _ => rfl) rfl (c_wrong w (mO m [(7, (m.1 7)), (8, (m.1 8)), (9, (m.1 9)), (10, (m.1 10)), (11, (m.1 11)), (12, (m.1 12)), (13, (m.1 13)), (23, (m.1 23))] [(14, (m.2 14)), (15, (m.2 15)), (16, (m.2 16)), (17, (m.2 17)), (37, (m.2 37)), (38, (m.2 38))]) c N D (by omega) (Ty_mO hT rfl rfl ⟨f7, f8, f9, f10, f11, f12, f13, f23, trivial⟩ ⟨(hT.2.1 14), (hT.2.1 15), (hT.2.1 16), (hT.2.1 17), (hT.2.1 37), (hT.2.1 38), trivial⟩) 4 (m.1 8) ⟨by decide, by decide⟩ (r32 (by omega) (by omega)) (show 1 ≤ (4 : Int) ∧ (4 : Int) ≤ 8 by omega) (show 0 ≤ (m.1 8) ∧ (m.1 8) ≤ 4000 by omega)) (fun rr65 k66 => ?_)
            obtain ⟨y67, y69, g68, g70, h71, rfl⟩ := k66
            refine ⟨_, _, rfl, ?_⟩
            refine T_nf2 (st' := []) (l' := [(7, (m.1 7)), (8, (m.1 8)), (9, (m.1 9)), (10, y67), (11, y69), (12, (m.1 12)), (13, (m.1 13)), (23, (m.1 23))]) (a' := [(14, (m.2 14)), (15, (m.2 15)), (16, (m.2 16)), (17, (m.2 17)), (37, (m.2 37)), (38, (m.2 38))]) [10, 11] [] rfl ⟨rfl, rfl, rfl, rfl, rfl, rfl, rfl, rfl, rfl, rfl, rfl, rfl, rfl, rfl, rfl, rfl, rfl, rfl, rfl, trivial⟩ ⟨rfl, rfl, rfl, rfl, rfl, rfl, rfl, rfl, rfl, rfl, rfl, rfl, trivial⟩ rfl rfl (by decide) (by decide) ?_
            replace h71 : (0 < (m.1 10) → y67 = (m.1 10) ∧ y69 = (m.1 11)) ∧ ((m.1 10) ≤ 0 → y67 = (4 : Int) ∧ y69 = (m.1 8)) := h71
            have hf72 : 1 ≤ y67 := by omega
            refine T_gf 84 (.int (i32 y67)) rfl rfl rfl rfl rfl rfl ?_
            refine T_if 89 87 rfl rfl rfl (r32 (by omega) (by omega)) (fun (h73 : y67 ≤ 0) => by exfalso; omega) (fun (h73 : ¬ (y67 ≤ 0)) => ?_)
            refine T_ld 88 (.int (i32 (-1))) rfl (fun _ => rfl) ?_
            refine T_ret rfl (fun _ => rfl) ?_
            exact ⟨(mO m [(7, (m.1 7)), (8, (m.1 8)), (9, (m.1 9)), (10, y67), (11, y69), (12, (m.1 12)), (13, (m.1 13)), (23, (m.1 23))] [(14, (m.2 14)), (15, (m.2 15)), (16, (m.2 16)), (17, (m.2 17)), (37, (m.2 37)), (38, (m.2 38))]), (-1), (Ty_mO hT rfl rfl ⟨f7, f8, f9, g68, g70, f12, f13, f23, trivial⟩ ⟨(hT.2.1 14), (hT.2.1 15), (hT.2.1 16), (hT.2.1 17), (hT.2.1 37), (hT.2.1 38), trivial⟩), ⟨by omega, by omega⟩, (show y67 = 0 → (m.1 10) = 0 by omega), (show LxP (m.1 7) (m.1 8) (m.1 9) (m.1 6) y67 by first | (first | exact hLx | exact (fun _ => hLx (by omega)) | (intro h9; exfalso; omega)) | (exfalso; omega)), (show ∀ k, (m.2 14) k + (m.2 15) k ≤ 4000 by first | (first | exact hNM | (intro k; rw [hE1, hE2]; have := hNM k; have h7 := hLx0 hf0; unfold upI; split <;> omega)) | (exfalso; omega)), (fun (h : y67 = 0) => absurd h (by omega)), rfl⟩
        · skip
          refine T_ld 50 (.ref 189) rfl (fun _ => rfl) ?_
          refine T_ld 52 (.int (i32 6)) rfl (fun _ => rfl) ?_
          refine T_gf 56 (.int (i32 (m.1 8))) rfl rfl rfl rfl rfl rfl ?_
          refine T_call 59 222 [.ref 189, .int (i32 6), .int (i32 (m.1 8))] [] rfl (fun _ => rfl) rfl (c_wrong w (mO m [(7, (m.1 7)), (8, (m.1 8)), (9, (m.1 9)), (10, (m.1 10)), (11, (m.1 11)), (12, (m.1 12)), (13, (m.1 13)), (23, (m.1 23))] [(14, (m.2 14)), (15, (m.2 15)), (16, (m.2 16)), (17, (m.2 17)), (37, (m.2 37)), (38, (m.2 38))]) c N D (by omega) (Ty_mO hT rfl rfl ⟨f7, f8, f9, f10, f11, f12, f13, f23, trivial⟩ ⟨(hT.2.1 14), (hT.2.1 15), (hT.2.1 16), (hT.2.1 17), (hT.2.1 37), (hT.2.1 38), trivial⟩) 6 (m.1 8) ⟨by decide, by decide⟩ (r32 (by omega) (by omega)) (show 1 ≤ (6 : Int) ∧ (6 : Int) ≤ 8 by omega) (show 0 ≤ (m.1 8) ∧ (m.1 8) ≤ 4000 by omega)) (fun rr74 k75 => ?_)
          obtain ⟨y76, y78, g77, g79, h80, rfl⟩ := k75
          refine ⟨_, _, rfl, ?_⟩
          refine T_nf2 (st' := []) (l' := [(7, (m.1 7)), (8, (m.1 8)), (9, (m.1 9)), (10, y76), (11, y78), (12, (m.1 12)), (13, (m.1 13)), (23, (m.1 23))]) (a' := [(14, (m.2 14)), (15, (m.2 15)), (16, (m.2 16)), (17, (m.2 17)), (37, (m.2 37)), (38, (m.2 38))]) [10, 11] [] rfl ⟨rfl, rfl, rfl, rfl, rfl, rfl, rfl, rfl, rfl, rfl, rfl, rfl, rfl, rfl, rfl, rfl, rfl, rfl, rfl, trivial⟩ ⟨rfl, rfl, rfl, rfl, rfl, rfl, rfl, rfl, rfl, rfl, rfl, rfl, trivial⟩ rfl rfl (by decide) (by decide) ?_
          replace h80 : (0 < (m.1 10) → y76 = (m.1 10) ∧ y78 = (m.1 11)) ∧ ((m.1 10) ≤ 0 → y76 = (6 : Int) ∧ y78 = (m.1 8)) := h80
          have hf81 : 1 ≤ y76 := by omega
          refine T_goto 80 rfl (fun _ => rfl) ?_
          refine T_gf 84 (.int (i32 y76)) rfl rfl rfl rfl rfl rfl ?_
          refine T_if 89 87 rfl rfl rfl (r32 (by omega) (by omega)) (fun (h82 : y76 ≤ 0) => by exfalso; omega) (fun (h82 : ¬ (y76 ≤ 0)) => ?_)
          refine T_ld 88 (.int (i32 (-1))) rfl (fun _ => rfl) ?_
          refine T_ret rfl (fun _ => rfl) ?_
          exact ⟨(mO m [(7, (m.1 7)), (8, (m.1 8)), (9, (m.1 9)), (10, y76), (11, y78), (12, (m.1 12)), (13, (m.1 13)), (23, (m.1 23))] [(14, (m.2 14)), (15, (m.2 15)), (16, (m.2 16)), (17, (m.2 17)), (37, (m.2 37)), (38, (m.2 38))]), (-1), (Ty_mO hT rfl rfl ⟨f7, f8, f9, g77, g79, f12, f13, f23, trivial⟩ ⟨(hT.2.1 14), (hT.2.1 15), (hT.2.1 16), (hT.2.1 17), (hT.2.1 37), (hT.2.1 38), trivial⟩), ⟨by omega, by omega⟩, (show y76 = 0 → (m.1 10) = 0 by omega), (show LxP (m.1 7) (m.1 8) (m.1 9) (m.1 6) y76 by first | (first | exact hLx | exact (fun _ => hLx (by omega)) | (intro h9; exfalso; omega)) | (exfalso; omega)), (show ∀ k, (m.2 14) k + (m.2 15) k ≤ 4000 by first | (first | exact hNM | (intro k; rw [hE1, hE2]; have := hNM k; have h7 := hLx0 hf0; unfold upI; split <;> omega)) | (exfalso; omega)), (fun (h : y76 = 0) => absurd h (by omega)), rfl⟩
      · skip
        refine T_ld 34 (.ref 189) rfl (fun _ => rfl) ?_
        refine T_call 37 237 [.ref 189] [] rfl (fun _ => rfl) rfl (c_whichHere w (mO m [(7, (m.1 7)), (8, (m.1 8)), (9, (m.1 9)), (10, (m.1 10)), (11, (m.1 11)), (12, (m.1 12)), (13, (m.1 13)), (23, (m.1 23))] [(14, (m.2 14)), (15, (m.2 15)), (16, (m.2 16)), (17, (m.2 17)), (37, (m.2 37)), (38, (m.2 38))]) c N D (by omega) (Ty_mO hT rfl rfl ⟨f7, f8, f9, f10, f11, f12, f13, f23, trivial⟩ ⟨(hT.2.1 14), (hT.2.1 15), (hT.2.1 16), (hT.2.1 17), (hT.2.1 37), (hT.2.1 38), trivial⟩) (show 1 ≤ (m.1 9) ∧ (m.1 8) + (m.1 9) ≤ (m.1 6) by first | omega | (have h8 := hLx (by omega); omega)) (show ∀ k, (m.2 14) k + (m.2 15) k ≤ 4000 by first | exact hNM | exact p1) (show ∀ g k, isGH (m.2 4) (m.1 8) (m.1 9) g → g < 0 → isFH (m.2 4) (m.2 14) (m.2 15) (m.1 8) (m.1 9) (m.1 13) k → 0 ≤ k by exact old_ok hSo (by omega))) (fun rr83 k84 => ?_)
        obtain ⟨wi, g85, h86, rfl⟩ := k84
        refine ⟨_, _, rfl, ?_⟩
        refine T_nf2 (st' := [.int (i32 wi)]) (l' := [(7, (m.1 7)), (8, (m.1 8)), (9, (m.1 9)), (10, (m.1 10)), (11, (m.1 11)), (12, (m.1 12)), (13, (m.1 13)), (23, (m.1 23))]) (a' := [(14, (m.2 14)), (15, (m.2 15)), (16, (m.2 16)), (17, (m.2 17)), (37, (m.2 37)), (38, (m.2 38))]) [] [] rfl ⟨rfl, rfl, rfl, rfl, rfl, rfl, rfl, rfl, rfl, rfl, rfl, rfl, rfl, rfl, rfl, rfl, trivial⟩ ⟨rfl, rfl, rfl, rfl, rfl, rfl, rfl, rfl, rfl, rfl, rfl, rfl, trivial⟩ rfl rfl (by decide) (by decide) ?_
        obtain ⟨g85a, g85b⟩ := g85
        replace h86 : ∃ g k, isGH (m.2 4) (m.1 8) (m.1 9) g ∧ (g < 0 → isFH (m.2 4) (m.2 14) (m.2 15) (m.1 8) (m.1 9) (m.1 13) k) ∧ wi = whichV (m.2 17) g k := h86
        have hWi := h86
        have u87 : (m.1 8) ≤ (m.1 8) := by omega
        have hr5 : -2 ≤ wi ∧ wi < (m.1 23) := by
          rcases old_eq hSo hWi (by omega) with ⟨a, b, c⟩ | ⟨a, b⟩ | ⟨k, a, b, c, d⟩
          · omega
          · omega
          · have := PNl_5 pPN k a b (by omega)
            omega
        refine T_sto 38 [(2, .int (i32 wi)), (1, .int (i32 so)), (0, .ref 189)] rfl (fun _ => rfl) ?_
        refine T_ld 39 (.ref 189) rfl (fun _ => rfl) ?_
        refine T_call 42 212 [.ref 189] [] rfl (fun _ => rfl) rfl (c_next w (mO m [(7, (m.1 7)), (8, (m.1 8)), (9, (m.1 9)), (10, (m.1 10)), (11, (m.1 11)), (12, (m.1 12)), (13, (m.1 13)), (23, (m.1 23))] [(14, (m.2 14)), (15, (m.2 15)), (16, (m.2 16)), (17, (m.2 17)), (37, (m.2 37)), (38, (m.2 38))]) c N D (by omega) (Ty_mO hT rfl rfl ⟨f7, f8, f9, f10, f11, f12, f13, f23, trivial⟩ ⟨(hT.2.1 14), (hT.2.1 15), (hT.2.1 16), (hT.2.1 17), (hT.2.1 37), (hT.2.1 38), trivial⟩) (show (m.1 10) = 0 → (m.1 8) + (m.1 9) ≤ (m.1 6) by first | omega | (intro h9; have h8 := hLx h9; omega))) (fun rr88 k89 => ?_)
        obtain ⟨y90, y92, y94, y96, y98, y100, g91, g93, g95, g97, g99, g101, h102, h103, h104, h105, rfl⟩ := k89
        refine ⟨_, _, rfl, ?_⟩
        refine T_nf2 (st' := []) (l' := [(7, y90), (8, y92), (9, y94), (10, y96), (11, y98), (12, y100), (13, (m.1 13)), (23, (m.1 23))]) (a' := [(14, (m.2 14)), (15, (m.2 15)), (16, (m.2 16)), (17, (m.2 17)), (37, (m.2 37)), (38, (m.2 38))]) [7, 8, 9, 10, 11, 12] [] rfl ⟨rfl, rfl, rfl, rfl, rfl, rfl, rfl, rfl, rfl, rfl, rfl, rfl, rfl, rfl, rfl, rfl, trivial⟩ ⟨rfl, rfl, rfl, rfl, rfl, rfl, rfl, rfl, rfl, rfl, rfl, rfl, trivial⟩ rfl rfl (by decide) (by decide) ?_
        by_cases hf106 : y96 = 0
        · skip
          subst hf106
          replace h102 : LxP y90 y92 y94 (m.1 6) (0 : Int) := h102
          have hLx := h102
          replace h103 : (m.1 10) = 0 := h103 rfl
          replace h104 : (m.1 8) ≤ y92 := h104
          replace h105 : (m.1 8) + (m.1 9) ≤ y92 := h105 rfl
          have u107 : (m.1 8) + 1 ≤ y92 := by omega
          clear g97
          refine T_ld 43 (.int (i32 wi)) rfl (fun _ => rfl) ?_
          refine T_ret rfl (fun _ => rfl) ?_
          exact ⟨(mO m [(7, y90), (8, y92), (9, y94), (10, 0), (11, y98), (12, y100), (13, (m.1 13)), (23, (m.1 23))] [(14, (m.2 14)), (15, (m.2 15)), (16, (m.2 16)), (17, (m.2 17)), (37, (m.2 37)), (38, (m.2 38))]), wi, (Ty_mO hT rfl rfl ⟨g91, g93, g95, ⟨(by omega : (0 : Int) ≤ 0), (by omega : (0 : Int) ≤ 8)⟩, g99, g101, f13, f23, trivial⟩ ⟨(hT.2.1 14), (hT.2.1 15), (hT.2.1 16), (hT.2.1 17), (hT.2.1 37), (hT.2.1 38), trivial⟩), ⟨by omega, by omega⟩, (show (0 : Int) = 0 → (m.1 10) = 0 by omega), (show LxP y90 y92 y94 (m.1 6) (0 : Int) by first | (first | exact hLx | exact (fun _ => hLx (by omega)) | (intro h9; exfalso; omega)) | (exfalso; omega)), (show ∀ k, (m.2 14) k + (m.2 15) k ≤ 4000 by first | (first | exact hNM | (intro k; rw [hE1, hE2]; have := hNM k; have h7 := hLx0 hf0; unfold upI; split <;> omega)) | (exfalso; omega)), (fun _ => ⟨(show (m.1 8) + 1 ≤ y92 by omega), (show PN (m.1 13) (m.1 19) (m.1 20) (m.1 21) (m.1 22) (m.1 23) (m.1 25) (m.1 26) (m.2 16) (m.2 17) by first | (first | exact pPN | (rw [hE0, hE3, hE4]; exact PN_5 pPN (by omega))) | (exfalso; omega)), (show SOp (m.2 38) (m.1 23) (m.1 24) by first | (first | exact pSO | exact SOp_new pSO) | (exfalso; omega)), (show wi < (m.1 23) by omega), (show (m.1 23) ≤ (m.1 23) by omega)⟩), rfl⟩
        · skip
          replace h102 : LxP y90 y92 y94 (m.1 6) y96 := h102
          have hLx := h102
          clear h103
          replace h104 : (m.1 8) ≤ y92 := h104
          clear h105
          have hf108 : 1 ≤ y96 := by omega
          refine T_ld 43 (.int (i32 wi)) rfl (fun _ => rfl) ?_
          refine T_ret rfl (fun _ => rfl) ?_
          exact ⟨(mO m [(7, y90), (8, y92), (9, y94), (10, y96), (11, y98), (12, y100), (13, (m.1 13)), (23, (m.1 23))] [(14, (m.2 14)), (15, (m.2 15)), (16, (m.2 16)), (17, (m.2 17)), (37, (m.2 37)), (38, (m.2 38))]), wi, (Ty_mO hT rfl rfl ⟨g91, g93, g95, g97, g99, g101, f13, f23, trivial⟩ ⟨(hT.2.1 14), (hT.2.1 15), (hT.2.1 16), (hT.2.1 17), (hT.2.1 37), (hT.2.1 38), trivial⟩), ⟨by omega, by omega⟩, (show y96 = 0 → (m.1 10) = 0 by omega), (show LxP y90 y92 y94 (m.1 6) y96 by first | (first | exact hLx | exact (fun _ => hLx (by omega)) | (intro h9; exfalso; omega)) | (exfalso; omega)), (show ∀ k, (m.2 14) k + (m.2 15) k ≤ 4000 by first | (first | exact hNM | (intro k; rw [hE1, hE2]; have := hNM k; have h7 := hLx0 hf0; unfold upI; split <;> omega)) | (exfalso; omega)), (fun (h : y96 = 0) => absurd h (by omega)), rfl⟩
    · skip
      refine T_ld 18 (.ref 189) rfl (fun _ => rfl) ?_
      refine T_call 21 226 [.ref 189] [] rfl (fun _ => rfl) rfl (c_bad w (mO m [(7, (m.1 7)), (8, (m.1 8)), (9, (m.1 9)), (10, (m.1 10)), (11, (m.1 11)), (12, (m.1 12)), (13, (m.1 13)), (23, (m.1 23))] [(14, (m.2 14)), (15, (m.2 15)), (16, (m.2 16)), (17, (m.2 17)), (37, (m.2 37)), (38, (m.2 38))]) c N D (by omega) (Ty_mO hT rfl rfl ⟨f7, f8, f9, f10, f11, f12, f13, f23, trivial⟩ ⟨(hT.2.1 14), (hT.2.1 15), (hT.2.1 16), (hT.2.1 17), (hT.2.1 37), (hT.2.1 38), trivial⟩) ) (fun rr109 k110 => ?_)
      obtain ⟨y111, y113, g112, g114, h115, rfl⟩ := k110
      refine ⟨_, _, rfl, ?_⟩
      refine T_nf2 (st' := []) (l' := [(7, (m.1 7)), (8, (m.1 8)), (9, (m.1 9)), (10, y111), (11, y113), (12, (m.1 12)), (13, (m.1 13)), (23, (m.1 23))]) (a' := [(14, (m.2 14)), (15, (m.2 15)), (16, (m.2 16)), (17, (m.2 17)), (37, (m.2 37)), (38, (m.2 38))]) [10, 11] [] rfl ⟨rfl, rfl, rfl, rfl, rfl, rfl, rfl, rfl, rfl, rfl, rfl, rfl, rfl, rfl, rfl, rfl, rfl, rfl, rfl, trivial⟩ ⟨rfl, rfl, rfl, rfl, rfl, rfl, rfl, rfl, rfl, rfl, rfl, rfl, trivial⟩ rfl rfl (by decide) (by decide) ?_
      replace h115 : (0 < (m.1 10) → y111 = (m.1 10) ∧ y113 = (m.1 11)) ∧ ((m.1 10) ≤ 0 → y111 = 1 ∧ y113 = (m.1 8)) := h115
      have hf116 : 1 ≤ y111 := by omega
      refine T_ld 22 (.int (i32 (-1))) rfl (fun _ => rfl) ?_
      refine T_ret rfl (fun _ => rfl) ?_
      exact ⟨(mO m [(7, (m.1 7)), (8, (m.1 8)), (9, (m.1 9)), (10, y111), (11, y113), (12, (m.1 12)), (13, (m.1 13)), (23, (m.1 23))] [(14, (m.2 14)), (15, (m.2 15)), (16, (m.2 16)), (17, (m.2 17)), (37, (m.2 37)), (38, (m.2 38))]), (-1), (Ty_mO hT rfl rfl ⟨f7, f8, f9, g112, g114, f12, f13, f23, trivial⟩ ⟨(hT.2.1 14), (hT.2.1 15), (hT.2.1 16), (hT.2.1 17), (hT.2.1 37), (hT.2.1 38), trivial⟩), ⟨by omega, by omega⟩, (show y111 = 0 → (m.1 10) = 0 by omega), (show LxP (m.1 7) (m.1 8) (m.1 9) (m.1 6) y111 by first | (first | exact hLx | exact (fun _ => hLx (by omega)) | (intro h9; exfalso; omega)) | (exfalso; omega)), (show ∀ k, (m.2 14) k + (m.2 15) k ≤ 4000 by first | (first | exact hNM | (intro k; rw [hE1, hE2]; have := hNM k; have h7 := hLx0 hf0; unfold upI; split <;> omega)) | (exfalso; omega)), (fun (h : y111 = 0) => absurd h (by omega)), rfl⟩
  · skip
    clear hC
    refine T_gf 4 (.int (i32 (m.1 10))) rfl rfl rfl rfl rfl rfl ?_
    refine T_if 9 7 rfl rfl rfl (r32 (by omega) (by omega)) (fun (h117 : (m.1 10) ≤ 0) => by exfalso; omega) (fun (h117 : ¬ ((m.1 10) ≤ 0)) => ?_)
    refine T_ld 8 (.int (i32 (-1))) rfl (fun _ => rfl) ?_
    refine T_ret rfl (fun _ => rfl) ?_
    exact ⟨(mO m [(7, (m.1 7)), (8, (m.1 8)), (9, (m.1 9)), (10, (m.1 10)), (11, (m.1 11)), (12, (m.1 12)), (13, (m.1 13)), (23, (m.1 23))] [(14, (m.2 14)), (15, (m.2 15)), (16, (m.2 16)), (17, (m.2 17)), (37, (m.2 37)), (38, (m.2 38))]), (-1), (Ty_mO hT rfl rfl ⟨f7, f8, f9, f10, f11, f12, f13, f23, trivial⟩ ⟨(hT.2.1 14), (hT.2.1 15), (hT.2.1 16), (hT.2.1 17), (hT.2.1 37), (hT.2.1 38), trivial⟩), ⟨by omega, by omega⟩, (show (m.1 10) = 0 → (m.1 10) = 0 by omega), (show LxP (m.1 7) (m.1 8) (m.1 9) (m.1 6) (m.1 10) by first | (first | exact hLx | exact (fun _ => hLx (by omega)) | (intro h9; exfalso; omega)) | (exfalso; omega)), (show ∀ k, (m.2 14) k + (m.2 15) k ≤ 4000 by first | (first | exact hNM | (intro k; rw [hE1, hE2]; have := hNM k; have h7 := hLx0 hf0; unfold upI; split <;> omega)) | (exfalso; omega)), (fun (h : (m.1 10) = 0) => absurd h (by omega)), rfl⟩
def Q_takeExtract (m : mR) (c : Nat → Option am_C) (N : Nat) (d : Int) : ag_Re af_T → Prop := fun R => ∃ (M : mR), Ty M ∧ ((M.1 10) = 0 → (m.1 10) = 0) ∧ (LxP (M.1 7) (M.1 8) (M.1 9) (m.1 6) (M.1 10)) ∧ (M.1 10 = 0 → ((m.1 8) + 1 ≤ (M.1 8))) ∧ R = (.inl (none), (mhp (mO m [(7, (M.1 7)), (8, (M.1 8)), (9, (M.1 9)), (10, (M.1 10)), (11, (M.1 11)), (12, (M.1 12))] [(41, (M.2 41)), (94, (M.2 94))]) c, N), 0, 0)
set_option maxHeartbeats 8000000 in
theorem c_takeExtract (w : wX) (m : mR) (c : Nat → Option am_C) (N D : Nat) (hD : 7 ≤ D) (hT : Ty m) (d : Int) (qd : R32 d) (hLx0 : LxP (m.1 7) (m.1 8) (m.1 9) (m.1 6) (m.1 10)) (hNM0 : ∀ k, (m.2 14) k + (m.2 15) k ≤ 4000) (p2 : 0 ≤ d ∧ d ≤ 15) (hC : m.1 10 = 0 → (PN (m.1 13) (m.1 19) (m.1 20) (m.1 21) (m.1 22) (m.1 23) (m.1 25) (m.1 26) (m.2 16) (m.2 17)) ∧ ((m.1 7) ≠ 0)) : TC w D 241 [.ref 189, .int (i32 d)] (mhp m c, N) (Q_takeExtract m c N d) := by
  obtain ⟨D, rfl⟩ : ∃ k, D = k + 1 := ⟨D - 1, by omega⟩
  obtain ⟨qda, qdb⟩ := id qd
  have hLx := hLx0
  have hNM := hNM0
  have f7 : 0 ≤ m.1 7 ∧ m.1 7 ≤ 330 := hT.1 7
  have f8 : 0 ≤ m.1 8 ∧ m.1 8 ≤ 4000 := hT.1 8
  have f9 : 0 ≤ m.1 9 ∧ m.1 9 ≤ 4000 := hT.1 9
  have f10 : 0 ≤ m.1 10 ∧ m.1 10 ≤ 8 := hT.1 10
  have f11 : (-1) ≤ m.1 11 ∧ m.1 11 ≤ 4000 := hT.1 11
  have f12 : (-9223372036854775808) ≤ m.1 12 ∧ m.1 12 ≤ 9223372036854775807 := hT.1 12
  have f25 : 0 ≤ m.1 25 ∧ m.1 25 ≤ 16 := hT.1 25
  have f22 : 0 ≤ m.1 22 ∧ m.1 22 ≤ 8 := hT.1 22
  have f19 : 0 ≤ m.1 19 ∧ m.1 19 ≤ 12 := hT.1 19
  have f20 : 0 ≤ m.1 20 ∧ m.1 20 ≤ 12 := hT.1 20
  have f21 : 0 ≤ m.1 21 ∧ m.1 21 ≤ 16 := hT.1 21
  have f13 : 0 ≤ m.1 13 ∧ m.1 13 ≤ 120 := hT.1 13
  have f6 : 0 ≤ m.1 6 ∧ m.1 6 ≤ 4000 := hT.1 6
  have f23 : 0 ≤ m.1 23 ∧ m.1 23 ≤ 16 := hT.1 23
  have f26 : 0 ≤ m.1 26 ∧ m.1 26 ≤ 8 := hT.1 26
  refine Tc_of rfl ?_
  show TT w D pm_241 (0, [(0, .ref 189), (1, .int (i32 d))], [], (mhp m c, N), 0, 0) (Q_takeExtract m c N d)
  rw [show (mhp m c, N) = (mhp (mO m [(7, (m.1 7)), (8, (m.1 8)), (9, (m.1 9)), (10, (m.1 10)), (11, (m.1 11)), (12, (m.1 12))] [(41, (m.2 41)), (94, (m.2 94))]) c, N) from congrArg (fun M => (mhp M c, N)) (mO_pad m [7, 8, 9, 10, 11, 12] [41, 94])]
  by_cases hf0 : m.1 10 = 0
  · skip
    obtain ⟨pPN, c1⟩ := hC hf0
    have h7 := hLx (by omega)
    have J59_8 : ∀ (m7 : mR), (Ty m7) → (1 ≤ (m7.1 10)) → ((m7.1 10) ≤ 8) → ((m.2 41) d ≤ 5) → TT w D pm_241 (59, [(0, .ref 189), (1, .int (i32 d))], [], (mhp (mO m [(7, (m7.1 7)), (8, (m7.1 8)), (9, (m7.1 9)), (10, (m7.1 10)), (11, (m7.1 11)), (12, (m7.1 12))] [(41, (m.2 41)), (94, (m7.2 94))]) c, N), 0, 0) (Q_takeExtract m c N d) := by
      intro m7 q9 ic10 ic11 ic12
      have q9_7 : 0 ≤ m7.1 7 ∧ m7.1 7 ≤ 330 := q9.1 7
      have q9_8 : 0 ≤ m7.1 8 ∧ m7.1 8 ≤ 4000 := q9.1 8
      have q9_9 : 0 ≤ m7.1 9 ∧ m7.1 9 ≤ 4000 := q9.1 9
      have q9_10 : 0 ≤ m7.1 10 ∧ m7.1 10 ≤ 8 := q9.1 10
      have q9_11 : (-1) ≤ m7.1 11 ∧ m7.1 11 ≤ 4000 := q9.1 11
      have q9_12 : (-9223372036854775808) ≤ m7.1 12 ∧ m7.1 12 ≤ 9223372036854775807 := q9.1 12
      refine T_gf 63 (.ref 211) rfl rfl rfl rfl rfl rfl ?_
      refine T_ld 64 (.int (i32 d)) rfl (fun _ => rfl) ?_
      refine T_dup2 65 rfl (fun _ => rfl) ?_
      refine T_iald 66 41 (m.2 41) rfl rfl rfl (by omega) (show d < (16 : Int) by omega) rfl ?_
      have e14 : 0 ≤ (m.2 41) d ∧ (m.2 41) d ≤ 6 := (hT.2.1 41) d
      refine T_ld 67 (.int (i32 1)) rfl (fun _ => rfl) ?_
      refine T_iadd 68 rfl rfl ?_
      have G15 : ∀ j, 0 ≤ (upI (m.2 41) d (((m.2 41) d) + 1)) j ∧ (upI (m.2 41) d (((m.2 41) d) + 1)) j ≤ 6 := upI_rg (hT.2.1 41) ⟨by omega, by omega⟩
      refine T_iast (a' := [(41, upI (m.2 41) d (((m.2 41) d) + 1)), (94, (m7.2 94))]) 69 41 (m.2 41) rfl rfl rfl (by omega) (show d < (16 : Int) by omega) rfl rfl ?_
      refine T_ret rfl (fun _ => rfl) ?_
      exact ⟨(mO m [(7, (m7.1 7)), (8, (m7.1 8)), (9, (m7.1 9)), (10, (m7.1 10)), (11, (m7.1 11)), (12, (m7.1 12))] [(41, upI (m.2 41) d (((m.2 41) d) + 1)), (94, (m7.2 94))]), (Ty_mO hT rfl rfl ⟨(q9.1 7), (q9.1 8), (q9.1 9), (q9.1 10), (q9.1 11), (q9.1 12), trivial⟩ ⟨G15, (q9.2.1 94), trivial⟩), (show (m7.1 10) = 0 → (m.1 10) = 0 by omega), (show LxP (m7.1 7) (m7.1 8) (m7.1 9) (m.1 6) (m7.1 10) by first | (first | exact hLx | exact (fun _ => hLx (by omega)) | (intro h9; exfalso; omega)) | (exfalso; omega)), (fun (h : (m7.1 10) = 0) => absurd h (by omega)), rfl⟩
    have J52_18 : ∀ (s16 : Int) (m17 : mR), (R32 s16) → (Ty m17) → (0 ≤ s16) → (s16 ≤ 11) → (1 ≤ (m17.1 10)) → ((m17.1 10) ≤ 8) → ((m.2 41) d ≤ 5) → (0 ≤ (6 * d) + ((m.2 41) d) ∧ (6 * d) + ((m.2 41) d) ≤ 96) → TT w D pm_241 (52, [(0, .ref 189), (1, .int (i32 d))], [.int (i32 s16), .int (i32 ((6 * d) + ((m.2 41) d))), .ref 256], (mhp (mO m [(7, (m17.1 7)), (8, (m17.1 8)), (9, (m17.1 9)), (10, (m17.1 10)), (11, (m17.1 11)), (12, (m17.1 12))] [(41, (m.2 41)), (94, (m.2 94))]) c, N), 0, 0) (Q_takeExtract m c N d) := by
      intro s16 m17 q19 q20 ic21 ic22 ic23 ic24 ic25 ic26
      obtain ⟨q19a, q19b⟩ := id q19
      have q20_7 : 0 ≤ m17.1 7 ∧ m17.1 7 ≤ 330 := q20.1 7
      have q20_8 : 0 ≤ m17.1 8 ∧ m17.1 8 ≤ 4000 := q20.1 8
      have q20_9 : 0 ≤ m17.1 9 ∧ m17.1 9 ≤ 4000 := q20.1 9
      have q20_10 : 0 ≤ m17.1 10 ∧ m17.1 10 ≤ 8 := q20.1 10
      have q20_11 : (-1) ≤ m17.1 11 ∧ m17.1 11 ≤ 4000 := q20.1 11
      have q20_12 : (-9223372036854775808) ≤ m17.1 12 ∧ m17.1 12 ≤ 9223372036854775807 := q20.1 12
      have G28 : ∀ j, 0 ≤ (upI (m.2 94) ((6 * d) + ((m.2 41) d)) s16) j ∧ (upI (m.2 94) ((6 * d) + ((m.2 41) d)) s16) j ≤ 11 := upI_rg (hT.2.1 94) ⟨by omega, by omega⟩
      refine T_iast (a' := [(41, (m.2 41)), (94, upI (m.2 94) ((6 * d) + ((m.2 41) d)) s16)]) 53 94 (m.2 94) rfl rfl rfl (by omega) (show ((6 * d) + ((m.2 41) d)) < (96 : Int) by omega) rfl rfl ?_
      refine T_ld 54 (.ref 189) rfl (fun _ => rfl) ?_
      refine T_ld 56 (.int (i32 59)) rfl (fun _ => rfl) ?_
      refine T_call 59 232 [.ref 189, .int (i32 59)] [] rfl (fun _ => rfl) rfl (c_need w (mO m [(7, (m17.1 7)), (8, (m17.1 8)), (9, (m17.1 9)), (10, (m17.1 10)), (11, (m17.1 11)), (12, (m17.1 12))] [(41, (m.2 41)), (94, upI (m.2 94) ((6 * d) + ((m.2 41) d)) s16)]) c N D (by omega) (Ty_mO hT rfl rfl ⟨(q20.1 7), (q20.1 8), (q20.1 9), (q20.1 10), (q20.1 11), (q20.1 12), trivial⟩ ⟨(hT.2.1 41), G28, trivial⟩) 59 ⟨by decide, by decide⟩ (show 1 ≤ (59 : Int) by omega) (show LxP (m17.1 7) (m17.1 8) (m17.1 9) (m.1 6) (m17.1 10) by first | exact hLx | (intro h9; exfalso; omega) | (intro h9; have h8 := hLx (by omega); omega))) (fun rr29 k30 => ?_)
      obtain ⟨y31, y33, y35, y37, y39, y41, g32, g34, g36, g38, g40, g42, h43, h44, h45, h46, rfl⟩ := k30
      refine ⟨_, _, rfl, ?_⟩
      refine T_nf2 (st' := []) (l' := [(7, y31), (8, y33), (9, y35), (10, y37), (11, y39), (12, y41)]) (a' := [(41, (m.2 41)), (94, upI (m.2 94) ((6 * d) + ((m.2 41) d)) s16)]) [7, 8, 9, 10, 11, 12] [] rfl ⟨rfl, rfl, rfl, rfl, rfl, rfl, rfl, rfl, rfl, rfl, rfl, rfl, trivial⟩ ⟨rfl, rfl, rfl, rfl, trivial⟩ rfl rfl (by decide) (by decide) ?_
      replace h43 : LxP y31 y33 y35 (m.1 6) y37 := h43
      replace h44 : y37 = 0 → (m17.1 10) = 0 ∧ (m17.1 7) = (59 : Int) := h44
      replace h45 : (m17.1 8) ≤ y33 := h45
      replace h46 : y37 = 0 → (m17.1 8) + (m17.1 9) ≤ y33 := h46
      have hf47 : 1 ≤ y37 := by omega
      clear h44
      clear h46
      have hLx := h43
      clear q20_7 q20_8 q20_9 q20_10 q20_11 q20_12 ic23 ic24 h45
      exact J59_8 (mO m [(7, y31), (8, y33), (9, y35), (10, y37), (11, y39), (12, y41)] [(41, (m.2 41)), (94, upI (m.2 94) ((6 * d) + ((m.2 41) d)) s16)]) (Ty_mO hT rfl rfl ⟨g32, g34, g36, g38, g40, g42, trivial⟩ ⟨(hT.2.1 41), G28, trivial⟩) (show 1 ≤ y37 by omega) (show y37 ≤ 8 by omega) (show (m.2 41) d ≤ 5 by omega)
    refine T_gf 4 (.ref 211) rfl rfl rfl rfl rfl rfl ?_
    refine T_ld 5 (.int (i32 d)) rfl (fun _ => rfl) ?_
    refine T_iald 6 41 (m.2 41) rfl rfl rfl (by omega) (show d < (16 : Int) by omega) rfl ?_
    have e48 : 0 ≤ (m.2 41) d ∧ (m.2 41) d ≤ 6 := (hT.2.1 41) d
    refine T_ld 8 (.int (i32 6)) rfl (fun _ => rfl) ?_
    refine T_icmp 20 11 rfl rfl rfl (r32 (by omega) (by omega)) ⟨by decide, by decide⟩ (fun (h49 : (m.2 41) d ≠ 6) => ?_) (fun (h49 : ¬ ((m.2 41) d ≠ 6)) => ?_)
    · skip
      refine T_gf 24 (.int (i32 (m.1 10))) rfl rfl rfl rfl rfl rfl ?_
      refine T_if 28 27 rfl rfl rfl (r32 (by omega) (by omega)) (fun (h50 : (m.1 10) ≤ 0) => ?_) (fun (h50 : ¬ ((m.1 10) ≤ 0)) => by exfalso; omega)
      refine T_ld 29 (.ref 189) rfl (fun _ => rfl) ?_
      refine T_call 32 212 [.ref 189] [] rfl (fun _ => rfl) rfl (c_next w (mO m [(7, (m.1 7)), (8, (m.1 8)), (9, (m.1 9)), (10, (m.1 10)), (11, (m.1 11)), (12, (m.1 12))] [(41, (m.2 41)), (94, (m.2 94))]) c N D (by omega) (Ty_mO hT rfl rfl ⟨f7, f8, f9, f10, f11, f12, trivial⟩ ⟨(hT.2.1 41), (hT.2.1 94), trivial⟩) (show (m.1 10) = 0 → (m.1 8) + (m.1 9) ≤ (m.1 6) by first | omega | (intro h9; have h8 := hLx h9; omega))) (fun rr51 k52 => ?_)
      obtain ⟨y53, y55, y57, y59, y61, y63, g54, g56, g58, g60, g62, g64, h65, h66, h67, h68, rfl⟩ := k52
      refine ⟨_, _, rfl, ?_⟩
      refine T_nf2 (st' := []) (l' := [(7, y53), (8, y55), (9, y57), (10, y59), (11, y61), (12, y63)]) (a' := [(41, (m.2 41)), (94, (m.2 94))]) [7, 8, 9, 10, 11, 12] [] rfl ⟨rfl, rfl, rfl, rfl, rfl, rfl, rfl, rfl, rfl, rfl, rfl, rfl, trivial⟩ ⟨rfl, rfl, rfl, rfl, trivial⟩ rfl rfl (by decide) (by decide) ?_
      by_cases hf69 : y59 = 0
      · skip
        subst hf69
        replace h65 : LxP y53 y55 y57 (m.1 6) (0 : Int) := h65
        have hLx := h65
        replace h66 : (m.1 10) = 0 := h66 rfl
        replace h67 : (m.1 8) ≤ y55 := h67
        replace h68 : (m.1 8) + (m.1 9) ≤ y55 := h68 rfl
        have u70 : (m.1 8) + 1 ≤ y55 := by omega
        clear g60
        refine T_gf 36 (.ref 256) rfl rfl rfl rfl rfl rfl ?_
        refine T_ld 38 (.int (i32 6)) rfl (fun _ => rfl) ?_
        refine T_ld 39 (.int (i32 d)) rfl (fun _ => rfl) ?_
        refine T_imul 40 rfl rfl ?_
        refine T_gf 44 (.ref 211) rfl rfl rfl rfl rfl rfl ?_
        refine T_ld 45 (.int (i32 d)) rfl (fun _ => rfl) ?_
        refine T_iald 46 41 (m.2 41) rfl rfl rfl (by omega) (show d < (16 : Int) by omega) rfl ?_
        have e71 : 0 ≤ (m.2 41) d ∧ (m.2 41) d ≤ 6 := (hT.2.1 41) d
        refine T_iadd 47 rfl rfl ?_
        refine T_ld 48 (.ref 189) rfl (fun _ => rfl) ?_
        refine T_ld 49 (.int (i32 2)) rfl (fun _ => rfl) ?_
        have hOL : (0 : Int) = 0 → ∀ k, 0 ≤ k → k < (m.1 13) → (m.2 16) k = 2 → 0 ≤ (m.2 17) k ∧ (m.2 17) k < 12 := fun _ k h1 h2 h3 => by
          have h4 := PNl_2 pPN k h1 h2 h3
          omega
        refine T_call 52 236 [.ref 189, .int (i32 2)] [.int (i32 ((6 * d) + ((m.2 41) d))), .ref 256] rfl (fun _ => rfl) rfl (c_oldName w (mO m [(7, y53), (8, y55), (9, y57), (10, 0), (11, y61), (12, y63)] [(41, (m.2 41)), (94, (m.2 94))]) c N D (by omega) (Ty_mO hT rfl rfl ⟨g54, g56, g58, ⟨(by omega : (0 : Int) ≤ 0), (by omega : (0 : Int) ≤ 8)⟩, g62, g64, trivial⟩ ⟨(hT.2.1 41), (hT.2.1 94), trivial⟩) 2 12 ⟨by decide, by decide⟩ (show LxP y53 y55 y57 (m.1 6) (0 : Int) by first | exact hLx | (intro h9; exfalso; omega) | (intro h9; have h8 := hLx (by omega); omega)) (show ∀ k, (m.2 14) k + (m.2 15) k ≤ 4000 by first | exact p1 | exact hNM) (show 1 ≤ (2 : Int) ∧ (2 : Int) ≤ 7 ∧ (2 : Int) ≠ 5 by omega) (show 12 ≤ 16 by omega) (show (0 : Int) = 0 → ∀ k, 0 ≤ k → k < (m.1 13) → (m.2 16) k = (2 : Int) → 0 ≤ (m.2 17) k ∧ (m.2 17) k < 12 by first | exact hOL | (intro h; exfalso; omega)) (show (2 : Int) = 3 → 3 ≤ 12 by omega)) (fun rr72 k73 => ?_)
        obtain ⟨y74, y76, y78, y80, y82, y84, oo, g75, g77, g79, g81, g83, g85, g86, h87, h88, h89, h90, h91, h92, rfl⟩ := k73
        refine ⟨_, _, rfl, ?_⟩
        refine T_nf2 (st' := [.int (i32 oo), .int (i32 ((6 * d) + ((m.2 41) d))), .ref 256]) (l' := [(7, y74), (8, y76), (9, y78), (10, y80), (11, y82), (12, y84)]) (a' := [(41, (m.2 41)), (94, (m.2 94))]) [7, 8, 9, 10, 11, 12] [] rfl ⟨rfl, rfl, rfl, rfl, rfl, rfl, rfl, rfl, rfl, rfl, rfl, rfl, trivial⟩ ⟨rfl, rfl, rfl, rfl, trivial⟩ rfl rfl (by decide) (by decide) ?_
        obtain ⟨g86a, g86b⟩ := g86
        by_cases hf93 : y80 = 0
        · skip
          subst hf93
          replace h87 : LxP y74 y76 y78 (m.1 6) (0 : Int) := h87
          have hLx := h87
          replace h88 : y55 ≤ y76 := h88
          replace h89 : (0 : Int) = 0 ∧ y55 + y57 ≤ y76 := h89 rfl
          replace h90 : y53 = 1 := h90 rfl
          replace h91 : 0 ≤ oo ∧ (oo < 12 ∨ oo = 0) := h91
          replace h92 : oo < 12 := h92 rfl
          have u94 : (m.1 8) + 1 ≤ y76 := by omega
          clear g54 g56 g58 g62 g64 h65 h67 h68 u70 g81 h88 h89 h90
          have G95 : ∀ j, 0 ≤ (upI (m.2 94) ((6 * d) + ((m.2 41) d)) oo) j ∧ (upI (m.2 94) ((6 * d) + ((m.2 41) d)) oo) j ≤ 11 := upI_rg (hT.2.1 94) ⟨by omega, by omega⟩
          refine T_iast (a' := [(41, (m.2 41)), (94, upI (m.2 94) ((6 * d) + ((m.2 41) d)) oo)]) 53 94 (m.2 94) rfl rfl rfl (by omega) (show ((6 * d) + ((m.2 41) d)) < (96 : Int) by omega) rfl rfl ?_
          refine T_ld 54 (.ref 189) rfl (fun _ => rfl) ?_
          refine T_ld 56 (.int (i32 59)) rfl (fun _ => rfl) ?_
          refine T_call 59 232 [.ref 189, .int (i32 59)] [] rfl (fun _ => rfl) rfl (c_need w (mO m [(7, y74), (8, y76), (9, y78), (10, 0), (11, y82), (12, y84)] [(41, (m.2 41)), (94, upI (m.2 94) ((6 * d) + ((m.2 41) d)) oo)]) c N D (by omega) (Ty_mO hT rfl rfl ⟨g75, g77, g79, ⟨(by omega : (0 : Int) ≤ 0), (by omega : (0 : Int) ≤ 8)⟩, g83, g85, trivial⟩ ⟨(hT.2.1 41), G95, trivial⟩) 59 ⟨by decide, by decide⟩ (show 1 ≤ (59 : Int) by omega) (show LxP y74 y76 y78 (m.1 6) (0 : Int) by first | exact hLx | (intro h9; exfalso; omega) | (intro h9; have h8 := hLx (by omega); omega))) (fun rr96 k97 => ?_)
          obtain ⟨y98, y100, y102, y104, y106, y108, g99, g101, g103, g105, g107, g109, h110, h111, h112, h113, rfl⟩ := k97
          refine ⟨_, _, rfl, ?_⟩
          refine T_nf2 (st' := []) (l' := [(7, y98), (8, y100), (9, y102), (10, y104), (11, y106), (12, y108)]) (a' := [(41, (m.2 41)), (94, upI (m.2 94) ((6 * d) + ((m.2 41) d)) oo)]) [7, 8, 9, 10, 11, 12] [] rfl ⟨rfl, rfl, rfl, rfl, rfl, rfl, rfl, rfl, rfl, rfl, rfl, rfl, trivial⟩ ⟨rfl, rfl, rfl, rfl, trivial⟩ rfl rfl (by decide) (by decide) ?_
          by_cases hf114 : y104 = 0
          · skip
            subst hf114
            replace h110 : LxP y98 y100 y102 (m.1 6) (0 : Int) := h110
            have hLx := h110
            replace h111 : (0 : Int) = 0 ∧ y74 = (59 : Int) := h111 rfl
            replace h112 : y76 ≤ y100 := h112
            replace h113 : y76 + y78 ≤ y100 := h113 rfl
            have u115 : (m.1 8) + 1 ≤ y100 := by omega
            clear g75 g77 g79 g83 g85 h87 u94 g105 h111 h112 h113
            refine T_gf 63 (.ref 211) rfl rfl rfl rfl rfl rfl ?_
            refine T_ld 64 (.int (i32 d)) rfl (fun _ => rfl) ?_
            refine T_dup2 65 rfl (fun _ => rfl) ?_
            refine T_iald 66 41 (m.2 41) rfl rfl rfl (by omega) (show d < (16 : Int) by omega) rfl ?_
            have e116 : 0 ≤ (m.2 41) d ∧ (m.2 41) d ≤ 6 := (hT.2.1 41) d
            refine T_ld 67 (.int (i32 1)) rfl (fun _ => rfl) ?_
            refine T_iadd 68 rfl rfl ?_
            have G117 : ∀ j, 0 ≤ (upI (m.2 41) d (((m.2 41) d) + 1)) j ∧ (upI (m.2 41) d (((m.2 41) d) + 1)) j ≤ 6 := upI_rg (hT.2.1 41) ⟨by omega, by omega⟩
            refine T_iast (a' := [(41, upI (m.2 41) d (((m.2 41) d) + 1)), (94, upI (m.2 94) ((6 * d) + ((m.2 41) d)) oo)]) 69 41 (m.2 41) rfl rfl rfl (by omega) (show d < (16 : Int) by omega) rfl rfl ?_
            refine T_ret rfl (fun _ => rfl) ?_
            exact ⟨(mO m [(7, y98), (8, y100), (9, y102), (10, 0), (11, y106), (12, y108)] [(41, upI (m.2 41) d (((m.2 41) d) + 1)), (94, upI (m.2 94) ((6 * d) + ((m.2 41) d)) oo)]), (Ty_mO hT rfl rfl ⟨g99, g101, g103, ⟨(by omega : (0 : Int) ≤ 0), (by omega : (0 : Int) ≤ 8)⟩, g107, g109, trivial⟩ ⟨G117, G95, trivial⟩), (show (0 : Int) = 0 → (m.1 10) = 0 by omega), (show LxP y98 y100 y102 (m.1 6) (0 : Int) by first | (first | exact hLx | exact (fun _ => hLx (by omega)) | (intro h9; exfalso; omega)) | (exfalso; omega)), (fun _ => (show (m.1 8) + 1 ≤ y100 by omega)), rfl⟩
          · skip
            replace h110 : LxP y98 y100 y102 (m.1 6) y104 := h110
            have hLx := h110
            clear h111
            replace h112 : y76 ≤ y100 := h112
            clear h113
            have hf118 : 1 ≤ y104 := by omega
            clear g75 g77 g79 g83 g85 h87 u94 h112
            exact J59_8 (mO m [(7, y98), (8, y100), (9, y102), (10, y104), (11, y106), (12, y108)] [(41, (m.2 41)), (94, upI (m.2 94) ((6 * d) + ((m.2 41) d)) oo)]) (Ty_mO hT rfl rfl ⟨g99, g101, g103, g105, g107, g109, trivial⟩ ⟨(hT.2.1 41), G95, trivial⟩) (show 1 ≤ y104 by omega) (show y104 ≤ 8 by omega) (show (m.2 41) d ≤ 5 by omega)
        · skip
          replace h87 : LxP y74 y76 y78 (m.1 6) y80 := h87
          have hLx := h87
          replace h88 : y55 ≤ y76 := h88
          clear h89
          clear h90
          replace h91 : 0 ≤ oo ∧ (oo < 12 ∨ oo = 0) := h91
          clear h92
          have hf119 : 1 ≤ y80 := by omega
          clear g54 g56 g58 g62 g64 h65 h67 h68 u70 h88
          exact J52_18 oo (mO m [(7, y74), (8, y76), (9, y78), (10, y80), (11, y82), (12, y84)] [(41, (m.2 41)), (94, (m.2 94))]) (r32 (by omega) (by omega)) (Ty_mO hT rfl rfl ⟨g75, g77, g79, g81, g83, g85, trivial⟩ ⟨(hT.2.1 41), (hT.2.1 94), trivial⟩) (show 0 ≤ oo by omega) (show oo ≤ 11 by omega) (show 1 ≤ y80 by omega) (show y80 ≤ 8 by omega) (show (m.2 41) d ≤ 5 by omega) (show 0 ≤ (6 * d) + ((m.2 41) d) ∧ (6 * d) + ((m.2 41) d) ≤ 96 by omega)
      · skip
        replace h65 : LxP y53 y55 y57 (m.1 6) y59 := h65
        have hLx := h65
        clear h66
        replace h67 : (m.1 8) ≤ y55 := h67
        clear h68
        have hf120 : 1 ≤ y59 := by omega
        refine T_gf 36 (.ref 256) rfl rfl rfl rfl rfl rfl ?_
        refine T_ld 38 (.int (i32 6)) rfl (fun _ => rfl) ?_
        refine T_ld 39 (.int (i32 d)) rfl (fun _ => rfl) ?_
        refine T_imul 40 rfl rfl ?_
        refine T_gf 44 (.ref 211) rfl rfl rfl rfl rfl rfl ?_
        refine T_ld 45 (.int (i32 d)) rfl (fun _ => rfl) ?_
        refine T_iald 46 41 (m.2 41) rfl rfl rfl (by omega) (show d < (16 : Int) by omega) rfl ?_
        have e121 : 0 ≤ (m.2 41) d ∧ (m.2 41) d ≤ 6 := (hT.2.1 41) d
        refine T_iadd 47 rfl rfl ?_
        refine T_ld 48 (.ref 189) rfl (fun _ => rfl) ?_
        refine T_ld 49 (.int (i32 2)) rfl (fun _ => rfl) ?_
        refine T_call 52 236 [.ref 189, .int (i32 2)] [.int (i32 ((6 * d) + ((m.2 41) d))), .ref 256] rfl (fun _ => rfl) rfl (c_oldName w (mO m [(7, y53), (8, y55), (9, y57), (10, y59), (11, y61), (12, y63)] [(41, (m.2 41)), (94, (m.2 94))]) c N D (by omega) (Ty_mO hT rfl rfl ⟨g54, g56, g58, g60, g62, g64, trivial⟩ ⟨(hT.2.1 41), (hT.2.1 94), trivial⟩) 2 12 ⟨by decide, by decide⟩ (show LxP y53 y55 y57 (m.1 6) y59 by first | exact hLx | (intro h9; exfalso; omega) | (intro h9; have h8 := hLx (by omega); omega)) (show ∀ k, (m.2 14) k + (m.2 15) k ≤ 4000 by first | exact p1 | exact hNM) (show 1 ≤ (2 : Int) ∧ (2 : Int) ≤ 7 ∧ (2 : Int) ≠ 5 by omega) (show 12 ≤ 16 by omega) (show y59 = 0 → ∀ k, 0 ≤ k → k < (m.1 13) → (m.2 16) k = (2 : Int) → 0 ≤ (m.2 17) k ∧ (m.2 17) k < 12 by first | exact hOL | (intro h; exfalso; omega)) (show (2 : Int) = 3 → 3 ≤ 12 by omega)) (fun rr122 k123 => ?_)
        obtain ⟨y124, y126, y128, y130, y132, y134, oo, g125, g127, g129, g131, g133, g135, g136, h137, h138, h139, h140, h141, h142, rfl⟩ := k123
        refine ⟨_, _, rfl, ?_⟩
        refine T_nf2 (st' := [.int (i32 oo), .int (i32 ((6 * d) + ((m.2 41) d))), .ref 256]) (l' := [(7, y124), (8, y126), (9, y128), (10, y130), (11, y132), (12, y134)]) (a' := [(41, (m.2 41)), (94, (m.2 94))]) [7, 8, 9, 10, 11, 12] [] rfl ⟨rfl, rfl, rfl, rfl, rfl, rfl, rfl, rfl, rfl, rfl, rfl, rfl, trivial⟩ ⟨rfl, rfl, rfl, rfl, trivial⟩ rfl rfl (by decide) (by decide) ?_
        obtain ⟨g136a, g136b⟩ := g136
        replace h137 : LxP y124 y126 y128 (m.1 6) y130 := h137
        replace h138 : y55 ≤ y126 := h138
        replace h139 : y130 = 0 → y59 = 0 ∧ y55 + y57 ≤ y126 := h139
        replace h140 : y130 = 0 → y53 = 1 := h140
        replace h141 : 0 ≤ oo ∧ (oo < 12 ∨ oo = 0) := h141
        replace h142 : y130 = 0 → oo < 12 := h142
        have hf143 : 1 ≤ y130 := by omega
        clear h139
        clear h140
        clear h142
        have hLx := h137
        clear g54 g56 g58 g60 g62 g64 h65 h67 hf120 h138
        exact J52_18 oo (mO m [(7, y124), (8, y126), (9, y128), (10, y130), (11, y132), (12, y134)] [(41, (m.2 41)), (94, (m.2 94))]) (r32 (by omega) (by omega)) (Ty_mO hT rfl rfl ⟨g125, g127, g129, g131, g133, g135, trivial⟩ ⟨(hT.2.1 41), (hT.2.1 94), trivial⟩) (show 0 ≤ oo by omega) (show oo ≤ 11 by omega) (show 1 ≤ y130 by omega) (show y130 ≤ 8 by omega) (show (m.2 41) d ≤ 5 by omega) (show 0 ≤ (6 * d) + ((m.2 41) d) ∧ (6 * d) + ((m.2 41) d) ≤ 96 by omega)
    · skip
      refine T_ld 12 (.ref 189) rfl (fun _ => rfl) ?_
      refine T_ld 13 (.int (i32 4)) rfl (fun _ => rfl) ?_
      refine T_gf 17 (.int (i32 (m.1 8))) rfl rfl rfl rfl rfl rfl ?_
      refine T_call 20 222 [.ref 189, .int (i32 4), .int (i32 (m.1 8))] [] rfl (fun _ => rfl) rfl (c_wrong w (mO m [(7, (m.1 7)), (8, (m.1 8)), (9, (m.1 9)), (10, (m.1 10)), (11, (m.1 11)), (12, (m.1 12))] [(41, (m.2 41)), (94, (m.2 94))]) c N D (by omega) (Ty_mO hT rfl rfl ⟨f7, f8, f9, f10, f11, f12, trivial⟩ ⟨(hT.2.1 41), (hT.2.1 94), trivial⟩) 4 (m.1 8) ⟨by decide, by decide⟩ (r32 (by omega) (by omega)) (show 1 ≤ (4 : Int) ∧ (4 : Int) ≤ 8 by omega) (show 0 ≤ (m.1 8) ∧ (m.1 8) ≤ 4000 by omega)) (fun rr144 k145 => ?_)
      obtain ⟨y146, y148, g147, g149, h150, rfl⟩ := k145
      refine ⟨_, _, rfl, ?_⟩
      refine T_nf2 (st' := []) (l' := [(7, (m.1 7)), (8, (m.1 8)), (9, (m.1 9)), (10, y146), (11, y148), (12, (m.1 12))]) (a' := [(41, (m.2 41)), (94, (m.2 94))]) [10, 11] [] rfl ⟨rfl, rfl, rfl, rfl, rfl, rfl, rfl, rfl, rfl, rfl, rfl, rfl, rfl, rfl, rfl, trivial⟩ ⟨rfl, rfl, rfl, rfl, trivial⟩ rfl rfl (by decide) (by decide) ?_
      replace h150 : (0 < (m.1 10) → y146 = (m.1 10) ∧ y148 = (m.1 11)) ∧ ((m.1 10) ≤ 0 → y146 = (4 : Int) ∧ y148 = (m.1 8)) := h150
      have hf151 : 1 ≤ y146 := by omega
      refine T_gf 24 (.int (i32 y146)) rfl rfl rfl rfl rfl rfl ?_
      refine T_if 28 27 rfl rfl rfl (r32 (by omega) (by omega)) (fun (h152 : y146 ≤ 0) => by exfalso; omega) (fun (h152 : ¬ (y146 ≤ 0)) => ?_)
      refine T_ret rfl (fun _ => rfl) ?_
      exact ⟨(mO m [(7, (m.1 7)), (8, (m.1 8)), (9, (m.1 9)), (10, y146), (11, y148), (12, (m.1 12))] [(41, (m.2 41)), (94, (m.2 94))]), (Ty_mO hT rfl rfl ⟨f7, f8, f9, g147, g149, f12, trivial⟩ ⟨(hT.2.1 41), (hT.2.1 94), trivial⟩), (show y146 = 0 → (m.1 10) = 0 by omega), (show LxP (m.1 7) (m.1 8) (m.1 9) (m.1 6) y146 by first | (first | exact hLx | exact (fun _ => hLx (by omega)) | (intro h9; exfalso; omega)) | (exfalso; omega)), (fun (h : y146 = 0) => absurd h (by omega)), rfl⟩
  · skip
    clear hC
    refine T_gf 4 (.ref 211) rfl rfl rfl rfl rfl rfl ?_
    refine T_ld 5 (.int (i32 d)) rfl (fun _ => rfl) ?_
    refine T_iald 6 41 (m.2 41) rfl rfl rfl (by omega) (show d < (16 : Int) by omega) rfl ?_
    have e153 : 0 ≤ (m.2 41) d ∧ (m.2 41) d ≤ 6 := (hT.2.1 41) d
    refine T_ld 8 (.int (i32 6)) rfl (fun _ => rfl) ?_
    refine T_icmp 20 11 rfl rfl rfl (r32 (by omega) (by omega)) ⟨by decide, by decide⟩ (fun (h154 : (m.2 41) d ≠ 6) => ?_) (fun (h154 : ¬ ((m.2 41) d ≠ 6)) => ?_)
    · skip
      refine T_gf 24 (.int (i32 (m.1 10))) rfl rfl rfl rfl rfl rfl ?_
      refine T_if 28 27 rfl rfl rfl (r32 (by omega) (by omega)) (fun (h155 : (m.1 10) ≤ 0) => by exfalso; omega) (fun (h155 : ¬ ((m.1 10) ≤ 0)) => ?_)
      refine T_ret rfl (fun _ => rfl) ?_
      exact ⟨(mO m [(7, (m.1 7)), (8, (m.1 8)), (9, (m.1 9)), (10, (m.1 10)), (11, (m.1 11)), (12, (m.1 12))] [(41, (m.2 41)), (94, (m.2 94))]), (Ty_mO hT rfl rfl ⟨f7, f8, f9, f10, f11, f12, trivial⟩ ⟨(hT.2.1 41), (hT.2.1 94), trivial⟩), (show (m.1 10) = 0 → (m.1 10) = 0 by omega), (show LxP (m.1 7) (m.1 8) (m.1 9) (m.1 6) (m.1 10) by first | (first | exact hLx | exact (fun _ => hLx (by omega)) | (intro h9; exfalso; omega)) | (exfalso; omega)), (fun (h : (m.1 10) = 0) => absurd h (by omega)), rfl⟩
    · skip
      refine T_ld 12 (.ref 189) rfl (fun _ => rfl) ?_
      refine T_ld 13 (.int (i32 4)) rfl (fun _ => rfl) ?_
      refine T_gf 17 (.int (i32 (m.1 8))) rfl rfl rfl rfl rfl rfl ?_
      refine T_call 20 222 [.ref 189, .int (i32 4), .int (i32 (m.1 8))] [] rfl (fun _ => rfl) rfl (c_wrong w (mO m [(7, (m.1 7)), (8, (m.1 8)), (9, (m.1 9)), (10, (m.1 10)), (11, (m.1 11)), (12, (m.1 12))] [(41, (m.2 41)), (94, (m.2 94))]) c N D (by omega) (Ty_mO hT rfl rfl ⟨f7, f8, f9, f10, f11, f12, trivial⟩ ⟨(hT.2.1 41), (hT.2.1 94), trivial⟩) 4 (m.1 8) ⟨by decide, by decide⟩ (r32 (by omega) (by omega)) (show 1 ≤ (4 : Int) ∧ (4 : Int) ≤ 8 by omega) (show 0 ≤ (m.1 8) ∧ (m.1 8) ≤ 4000 by omega)) (fun rr156 k157 => ?_)
      obtain ⟨y158, y160, g159, g161, h162, rfl⟩ := k157
      refine ⟨_, _, rfl, ?_⟩
      refine T_nf2 (st' := []) (l' := [(7, (m.1 7)), (8, (m.1 8)), (9, (m.1 9)), (10, y158), (11, y160), (12, (m.1 12))]) (a' := [(41, (m.2 41)), (94, (m.2 94))]) [10, 11] [] rfl ⟨rfl, rfl, rfl, rfl, rfl, rfl, rfl, rfl, rfl, rfl, rfl, rfl, rfl, rfl, rfl, trivial⟩ ⟨rfl, rfl, rfl, rfl, trivial⟩ rfl rfl (by decide) (by decide) ?_
      replace h162 : (0 < (m.1 10) → y158 = (m.1 10) ∧ y160 = (m.1 11)) ∧ ((m.1 10) ≤ 0 → y158 = (4 : Int) ∧ y160 = (m.1 8)) := h162
      have hf163 : 1 ≤ y158 := by omega
      refine T_gf 24 (.int (i32 y158)) rfl rfl rfl rfl rfl rfl ?_
      refine T_if 28 27 rfl rfl rfl (r32 (by omega) (by omega)) (fun (h164 : y158 ≤ 0) => by exfalso; omega) (fun (h164 : ¬ (y158 ≤ 0)) => ?_)
      refine T_ret rfl (fun _ => rfl) ?_
      exact ⟨(mO m [(7, (m.1 7)), (8, (m.1 8)), (9, (m.1 9)), (10, y158), (11, y160), (12, (m.1 12))] [(41, (m.2 41)), (94, (m.2 94))]), (Ty_mO hT rfl rfl ⟨f7, f8, f9, g159, g161, f12, trivial⟩ ⟨(hT.2.1 41), (hT.2.1 94), trivial⟩), (show y158 = 0 → (m.1 10) = 0 by omega), (show LxP (m.1 7) (m.1 8) (m.1 9) (m.1 6) y158 by first | (first | exact hLx | exact (fun _ => hLx (by omega)) | (intro h9; exfalso; omega)) | (exfalso; omega)), (fun (h : y158 = 0) => absurd h (by omega)), rfl⟩
def Q_caseNumber (m : mR) (c : Nat → Option am_C) (N : Nat) (b : Int) : ag_Re af_T → Prop := fun R => ∃ (M : mR) (r : Int), Ty M ∧ ((-9223372036854775808) ≤ r ∧ r ≤ 9223372036854775807) ∧ ((M.1 10) = 0 → (m.1 10) = 0) ∧ (LxP (M.1 7) (M.1 8) (M.1 9) (m.1 6) (M.1 10)) ∧ (M.1 10 = 0 → ((m.1 8) + 1 ≤ (M.1 8)) ∧ ((m.1 7) = 2)) ∧ R = (.inl (some (.long (i64 r))), (mhp (mO m [(7, (M.1 7)), (8, (M.1 8)), (9, (M.1 9)), (10, (M.1 10)), (11, (M.1 11)), (12, (M.1 12))] []) c, N), 0, 0)
set_option maxHeartbeats 8000000 in
theorem c_caseNumber (w : wX) (m : mR) (c : Nat → Option am_C) (N D : Nat) (hD : 6 ≤ D) (hT : Ty m) (b : Int) (qb : R32 b) (hLx0 : LxP (m.1 7) (m.1 8) (m.1 9) (m.1 6) (m.1 10)) (hC : m.1 10 = 0 → True) : TC w D 266 [.ref 189, .int (i32 b)] (mhp m c, N) (Q_caseNumber m c N b) := by
  obtain ⟨D, rfl⟩ : ∃ k, D = k + 1 := ⟨D - 1, by omega⟩
  obtain ⟨qba, qbb⟩ := id qb
  have hLx := hLx0
  have f7 : 0 ≤ m.1 7 ∧ m.1 7 ≤ 330 := hT.1 7
  have f8 : 0 ≤ m.1 8 ∧ m.1 8 ≤ 4000 := hT.1 8
  have f9 : 0 ≤ m.1 9 ∧ m.1 9 ≤ 4000 := hT.1 9
  have f10 : 0 ≤ m.1 10 ∧ m.1 10 ≤ 8 := hT.1 10
  have f11 : (-1) ≤ m.1 11 ∧ m.1 11 ≤ 4000 := hT.1 11
  have f12 : (-9223372036854775808) ≤ m.1 12 ∧ m.1 12 ≤ 9223372036854775807 := hT.1 12
  have f6 : 0 ≤ m.1 6 ∧ m.1 6 ≤ 4000 := hT.1 6
  refine Tc_of rfl ?_
  show TT w D pm_266 (0, [(0, .ref 189), (1, .int (i32 b))], [], (mhp m c, N), 0, 0) (Q_caseNumber m c N b)
  rw [show (mhp m c, N) = (mhp (mO m [(7, (m.1 7)), (8, (m.1 8)), (9, (m.1 9)), (10, (m.1 10)), (11, (m.1 11)), (12, (m.1 12))] []) c, N) from congrArg (fun M => (mhp M c, N)) (mO_pad m [7, 8, 9, 10, 11, 12] [])]
  by_cases hf0 : m.1 10 = 0
  · skip
    have h7 := hLx (by omega)
    refine T_gf 4 (.int (i32 (m.1 10))) rfl rfl rfl rfl rfl rfl ?_
    refine T_if 9 7 rfl rfl rfl (r32 (by omega) (by omega)) (fun (h4 : (m.1 10) ≤ 0) => ?_) (fun (h4 : ¬ ((m.1 10) ≤ 0)) => by exfalso; omega)
    refine T_gf 13 (.int (i32 (m.1 7))) rfl rfl rfl rfl rfl rfl ?_
    refine T_ld 14 (.int (i32 2)) rfl (fun _ => rfl) ?_
    refine T_icmp 23 17 rfl rfl rfl (r32 (by omega) (by omega)) ⟨by decide, by decide⟩ (fun (h5 : (m.1 7) = 2) => ?_) (fun (h5 : ¬ ((m.1 7) = 2)) => ?_)
    · skip
      refine T_gf 27 (.int (i32 (m.1 8))) rfl rfl rfl rfl rfl rfl ?_
      refine T_sto 28 [(2, .int (i32 (m.1 8))), (0, .ref 189), (1, .int (i32 b))] rfl (fun _ => rfl) ?_
      refine T_gf 32 (.long (i64 (m.1 12))) rfl rfl rfl rfl rfl rfl ?_
      refine T_sto 33 [(3, .long (i64 (m.1 12))), (2, .int (i32 (m.1 8))), (0, .ref 189), (1, .int (i32 b))] rfl (fun _ => rfl) ?_
      refine T_ld 34 (.ref 189) rfl (fun _ => rfl) ?_
      refine T_call 37 212 [.ref 189] [] rfl (fun _ => rfl) rfl (c_next w (mO m [(7, (m.1 7)), (8, (m.1 8)), (9, (m.1 9)), (10, (m.1 10)), (11, (m.1 11)), (12, (m.1 12))] []) c N D (by omega) (Ty_mO hT rfl rfl ⟨f7, f8, f9, f10, f11, f12, trivial⟩ trivial) (show (m.1 10) = 0 → (m.1 8) + (m.1 9) ≤ (m.1 6) by first | omega | (intro h9; have h8 := hLx h9; omega))) (fun rr6 k7 => ?_)
      obtain ⟨y8, y10, y12, y14, y16, y18, g9, g11, g13, g15, g17, g19, h20, h21, h22, h23, rfl⟩ := k7
      refine ⟨_, _, rfl, ?_⟩
      refine T_nf2 (st' := []) (l' := [(7, y8), (8, y10), (9, y12), (10, y14), (11, y16), (12, y18)]) (a' := []) [7, 8, 9, 10, 11, 12] [] rfl ⟨rfl, rfl, rfl, rfl, rfl, rfl, rfl, rfl, rfl, rfl, rfl, rfl, trivial⟩ trivial rfl rfl (by decide) (by decide) ?_
      by_cases hf24 : y14 = 0
      · skip
        subst hf24
        replace h20 : LxP y8 y10 y12 (m.1 6) (0 : Int) := h20
        have hLx := h20
        replace h21 : (m.1 10) = 0 := h21 rfl
        replace h22 : (m.1 8) ≤ y10 := h22
        replace h23 : (m.1 8) + (m.1 9) ≤ y10 := h23 rfl
        have u25 : (m.1 8) + 1 ≤ y10 := by omega
        clear g15
        refine T_gf 41 (.int (i32 0)) rfl rfl rfl rfl rfl rfl ?_
        refine T_if 54 44 rfl rfl rfl ⟨by decide, by decide⟩ (fun h26 => absurd (show (0 : Int) ≠ 0 from h26) (by decide)) (fun _ => ?_)
        refine T_ld 45 (.ref 189) rfl (fun _ => rfl) ?_
        refine T_ld 46 (.long (i64 (m.1 12))) rfl (fun _ => rfl) ?_
        refine T_ld 47 (.int (i32 b)) rfl (fun _ => rfl) ?_
        refine T_call 50 262 [.long (i64 (m.1 12)), .int (i32 b)] [.ref 189] rfl (fun _ => rfl) rfl (c_fits w (mO m [(7, y8), (8, y10), (9, y12), (10, 0), (11, y16), (12, y18)] []) c N D (by omega) (Ty_mO hT rfl rfl ⟨g9, g11, g13, ⟨(by omega : (0 : Int) ≤ 0), (by omega : (0 : Int) ≤ 8)⟩, g17, g19, trivial⟩ trivial) (m.1 12) b (r64 (by omega) (by omega)) (r32 (by omega) (by omega))) (fun rr27 k28 => ?_)
        obtain ⟨x29, g30, rfl⟩ := k28
        refine ⟨_, _, rfl, ?_⟩
        refine T_nf2 (st' := [.int (i32 x29), .ref 189]) (l' := [(7, y8), (8, y10), (9, y12), (10, 0), (11, y16), (12, y18)]) (a' := []) [] [] rfl ⟨rfl, rfl, rfl, rfl, rfl, rfl, rfl, rfl, rfl, rfl, rfl, rfl, trivial⟩ trivial rfl rfl (by decide) (by decide) ?_
        obtain ⟨g30a, g30b⟩ := g30
        have u31 : (m.1 8) + 1 ≤ y10 := by omega
        refine T_ld 51 (.int (i32 (m.1 8))) rfl (fun _ => rfl) ?_
        refine T_call 54 256 [.ref 189, .int (i32 x29), .int (i32 (m.1 8))] [] rfl (fun _ => rfl) rfl (c_want w (mO m [(7, y8), (8, y10), (9, y12), (10, 0), (11, y16), (12, y18)] []) c N D (by omega) (Ty_mO hT rfl rfl ⟨g9, g11, g13, ⟨(by omega : (0 : Int) ≤ 0), (by omega : (0 : Int) ≤ 8)⟩, g17, g19, trivial⟩ trivial) x29 (m.1 8) (r32 (by omega) (by omega)) (r32 (by omega) (by omega)) (show 0 ≤ (m.1 8) ∧ (m.1 8) ≤ 4000 by omega) (fun _ => trivial)) (fun rr32 k33 => ?_)
        obtain ⟨m34, hT35, h36, c37, rfl⟩ := k33
        refine ⟨_, _, rfl, ?_⟩
        refine T_nf2 (st' := []) (l' := [(7, y8), (8, y10), (9, y12), (10, (m34.1 10)), (11, (m34.1 11)), (12, y18)]) (a' := []) [10, 11] [] rfl ⟨rfl, rfl, rfl, rfl, rfl, rfl, rfl, rfl, rfl, rfl, rfl, rfl, rfl, rfl, rfl, trivial⟩ trivial rfl rfl (by decide) (by decide) ?_
        have g38 : 0 ≤ m34.1 10 ∧ m34.1 10 ≤ 8 := hT35.1 10
        have g39 : (-1) ≤ m34.1 11 ∧ m34.1 11 ≤ 4000 := hT35.1 11
        by_cases hf40 : (m34.1 10) = 0
        · skip
          replace h36 : (0 : Int) = 0 := h36 hf40
          have c41 := c37 hf40
          replace c41 : x29 ≠ 0 := c41
          clear c37
          have u42 : (m.1 8) + 1 ≤ y10 := by omega
          clear g17 g30a g30b c41
          refine T_ld 55 (.long (i64 (m.1 12))) rfl (fun _ => rfl) ?_
          refine T_ret rfl (fun _ => rfl) ?_
          exact ⟨(mO m [(7, y8), (8, y10), (9, y12), (10, (m34.1 10)), (11, (m34.1 11)), (12, y18)] []), (m.1 12), (Ty_mO hT rfl rfl ⟨g9, g11, g13, (hT35.1 10), (hT35.1 11), g19, trivial⟩ trivial), ⟨by omega, by omega⟩, (show (m34.1 10) = 0 → (m.1 10) = 0 by omega), (show LxP y8 y10 y12 (m.1 6) (m34.1 10) by first | (first | exact hLx | exact (fun _ => hLx (by omega)) | (intro h9; exfalso; omega)) | (exfalso; omega)), (fun _ => ⟨(show (m.1 8) + 1 ≤ y10 by omega), (show (m.1 7) = 2 by omega)⟩), rfl⟩
        · skip
          clear c37
          clear h36
          have hf43 : 1 ≤ (m34.1 10) := by omega
          clear g17 g30a g30b
          refine T_ld 55 (.long (i64 (m.1 12))) rfl (fun _ => rfl) ?_
          refine T_ret rfl (fun _ => rfl) ?_
          exact ⟨(mO m [(7, y8), (8, y10), (9, y12), (10, (m34.1 10)), (11, (m34.1 11)), (12, y18)] []), (m.1 12), (Ty_mO hT rfl rfl ⟨g9, g11, g13, (hT35.1 10), (hT35.1 11), g19, trivial⟩ trivial), ⟨by omega, by omega⟩, (show (m34.1 10) = 0 → (m.1 10) = 0 by omega), (show LxP y8 y10 y12 (m.1 6) (m34.1 10) by first | (first | exact hLx | exact (fun _ => hLx (by omega)) | (intro h9; exfalso; omega)) | (exfalso; omega)), (fun (h : (m34.1 10) = 0) => absurd h (by omega)), rfl⟩
      · skip
        replace h20 : LxP y8 y10 y12 (m.1 6) y14 := h20
        have hLx := h20
        clear h21
        replace h22 : (m.1 8) ≤ y10 := h22
        clear h23
        have hf44 : 1 ≤ y14 := by omega
        refine T_gf 41 (.int (i32 y14)) rfl rfl rfl rfl rfl rfl ?_
        refine T_if 54 44 rfl rfl rfl (r32 (by omega) (by omega)) (fun (h45 : y14 ≠ 0) => ?_) (fun (h45 : ¬ (y14 ≠ 0)) => by exfalso; omega)
        refine T_ld 55 (.long (i64 (m.1 12))) rfl (fun _ => rfl) ?_
        refine T_ret rfl (fun _ => rfl) ?_
        exact ⟨(mO m [(7, y8), (8, y10), (9, y12), (10, y14), (11, y16), (12, y18)] []), (m.1 12), (Ty_mO hT rfl rfl ⟨g9, g11, g13, g15, g17, g19, trivial⟩ trivial), ⟨by omega, by omega⟩, (show y14 = 0 → (m.1 10) = 0 by omega), (show LxP y8 y10 y12 (m.1 6) y14 by first | (first | exact hLx | exact (fun _ => hLx (by omega)) | (intro h9; exfalso; omega)) | (exfalso; omega)), (fun (h : y14 = 0) => absurd h (by omega)), rfl⟩
    · skip
      refine T_ld 18 (.ref 189) rfl (fun _ => rfl) ?_
      refine T_call 21 226 [.ref 189] [] rfl (fun _ => rfl) rfl (c_bad w (mO m [(7, (m.1 7)), (8, (m.1 8)), (9, (m.1 9)), (10, (m.1 10)), (11, (m.1 11)), (12, (m.1 12))] []) c N D (by omega) (Ty_mO hT rfl rfl ⟨f7, f8, f9, f10, f11, f12, trivial⟩ trivial) ) (fun rr46 k47 => ?_)
      obtain ⟨y48, y50, g49, g51, h52, rfl⟩ := k47
      refine ⟨_, _, rfl, ?_⟩
      refine T_nf2 (st' := []) (l' := [(7, (m.1 7)), (8, (m.1 8)), (9, (m.1 9)), (10, y48), (11, y50), (12, (m.1 12))]) (a' := []) [10, 11] [] rfl ⟨rfl, rfl, rfl, rfl, rfl, rfl, rfl, rfl, rfl, rfl, rfl, rfl, rfl, rfl, rfl, trivial⟩ trivial rfl rfl (by decide) (by decide) ?_
      replace h52 : (0 < (m.1 10) → y48 = (m.1 10) ∧ y50 = (m.1 11)) ∧ ((m.1 10) ≤ 0 → y48 = 1 ∧ y50 = (m.1 8)) := h52
      have hf53 : 1 ≤ y48 := by omega
      refine T_ld 22 (.long (i64 0)) rfl (fun _ => rfl) ?_
      refine T_ret rfl (fun _ => rfl) ?_
      exact ⟨(mO m [(7, (m.1 7)), (8, (m.1 8)), (9, (m.1 9)), (10, y48), (11, y50), (12, (m.1 12))] []), 0, (Ty_mO hT rfl rfl ⟨f7, f8, f9, g49, g51, f12, trivial⟩ trivial), ⟨by omega, by omega⟩, (show y48 = 0 → (m.1 10) = 0 by omega), (show LxP (m.1 7) (m.1 8) (m.1 9) (m.1 6) y48 by first | (first | exact hLx | exact (fun _ => hLx (by omega)) | (intro h9; exfalso; omega)) | (exfalso; omega)), (fun (h : y48 = 0) => absurd h (by omega)), rfl⟩
  · skip
    clear hC
    refine T_gf 4 (.int (i32 (m.1 10))) rfl rfl rfl rfl rfl rfl ?_
    refine T_if 9 7 rfl rfl rfl (r32 (by omega) (by omega)) (fun (h54 : (m.1 10) ≤ 0) => by exfalso; omega) (fun (h54 : ¬ ((m.1 10) ≤ 0)) => ?_)
    refine T_ld 8 (.long (i64 0)) rfl (fun _ => rfl) ?_
    refine T_ret rfl (fun _ => rfl) ?_
    exact ⟨(mO m [(7, (m.1 7)), (8, (m.1 8)), (9, (m.1 9)), (10, (m.1 10)), (11, (m.1 11)), (12, (m.1 12))] []), 0, (Ty_mO hT rfl rfl ⟨f7, f8, f9, f10, f11, f12, trivial⟩ trivial), ⟨by omega, by omega⟩, (show (m.1 10) = 0 → (m.1 10) = 0 by omega), (show LxP (m.1 7) (m.1 8) (m.1 9) (m.1 6) (m.1 10) by first | (first | exact hLx | exact (fun _ => hLx (by omega)) | (intro h9; exfalso; omega)) | (exfalso; omega)), (fun (h : (m.1 10) = 0) => absurd h (by omega)), rfl⟩
def Q_takeCase (m : mR) (c : Nat → Option am_C) (N : Nat) (d : Int) : ag_Re af_T → Prop := fun R => ∃ (M : mR), Ty M ∧ ((M.1 10) = 0 → (m.1 10) = 0) ∧ (LxP (M.1 7) (M.1 8) (M.1 9) (m.1 6) (M.1 10)) ∧ (∀ k, (M.2 14) k + (M.2 15) k ≤ 4000) ∧ (M.1 10 = 0 → ((m.1 8) + 1 ≤ (M.1 8)) ∧ (PN (M.1 13) (m.1 19) (m.1 20) (m.1 21) (m.1 22) (M.1 23) (m.1 25) (m.1 26) (M.2 16) (M.2 17)) ∧ (SOp (M.2 38) (M.1 23) (m.1 24)) ∧ (∀ c, 8 * d ≤ c → c < 8 * d + (M.2 42) d → (M.2 45) c < (M.1 23)) ∧ ((m.1 23) ≤ (M.1 23)) ∧ (agr (m.2 42) (M.2 42) d) ∧ (agr (m.2 45) (M.2 45) (8 * d))) ∧ R = (.inl (none), (mhp (mO m [(7, (M.1 7)), (8, (M.1 8)), (9, (M.1 9)), (10, (M.1 10)), (11, (M.1 11)), (12, (M.1 12)), (13, (M.1 13)), (23, (M.1 23))] [(14, (M.2 14)), (15, (M.2 15)), (16, (M.2 16)), (17, (M.2 17)), (37, (M.2 37)), (38, (M.2 38)), (42, (M.2 42)), (45, (M.2 45)), (97, (M.2 97)), (98, (M.2 98))]) c, N), 0, 0)
set_option maxHeartbeats 8000000 in
theorem c_takeCase (w : wX) (m : mR) (c : Nat → Option am_C) (N D : Nat) (hD : 7 ≤ D) (hT : Ty m) (d : Int) (qd : R32 d) (hLx0 : LxP (m.1 7) (m.1 8) (m.1 9) (m.1 6) (m.1 10)) (hNM0 : ∀ k, (m.2 14) k + (m.2 15) k ≤ 4000) (p2 : 0 ≤ d ∧ d ≤ 15) (hC : m.1 10 = 0 → (PN (m.1 13) (m.1 19) (m.1 20) (m.1 21) (m.1 22) (m.1 23) (m.1 25) (m.1 26) (m.2 16) (m.2 17)) ∧ (SOp (m.2 38) (m.1 23) (m.1 24)) ∧ (∀ c, 8 * d ≤ c → c < 8 * d + (m.2 42) d → (m.2 45) c < (m.1 23))) : TC w D 265 [.ref 189, .int (i32 d)] (mhp m c, N) (Q_takeCase m c N d) := by
  obtain ⟨D, rfl⟩ : ∃ k, D = k + 1 := ⟨D - 1, by omega⟩
  obtain ⟨qda, qdb⟩ := id qd
  have hLx := hLx0
  have hNM := hNM0
  have f7 : 0 ≤ m.1 7 ∧ m.1 7 ≤ 330 := hT.1 7
  have f8 : 0 ≤ m.1 8 ∧ m.1 8 ≤ 4000 := hT.1 8
  have f9 : 0 ≤ m.1 9 ∧ m.1 9 ≤ 4000 := hT.1 9
  have f10 : 0 ≤ m.1 10 ∧ m.1 10 ≤ 8 := hT.1 10
  have f11 : (-1) ≤ m.1 11 ∧ m.1 11 ≤ 4000 := hT.1 11
  have f12 : (-9223372036854775808) ≤ m.1 12 ∧ m.1 12 ≤ 9223372036854775807 := hT.1 12
  have f13 : 0 ≤ m.1 13 ∧ m.1 13 ≤ 120 := hT.1 13
  have f23 : 0 ≤ m.1 23 ∧ m.1 23 ≤ 16 := hT.1 23
  have f25 : 0 ≤ m.1 25 ∧ m.1 25 ≤ 16 := hT.1 25
  have f22 : 0 ≤ m.1 22 ∧ m.1 22 ≤ 8 := hT.1 22
  have f24 : 0 ≤ m.1 24 ∧ m.1 24 ≤ 16 := hT.1 24
  have f19 : 0 ≤ m.1 19 ∧ m.1 19 ≤ 12 := hT.1 19
  have f20 : 0 ≤ m.1 20 ∧ m.1 20 ≤ 12 := hT.1 20
  have f21 : 0 ≤ m.1 21 ∧ m.1 21 ≤ 16 := hT.1 21
  have f6 : 0 ≤ m.1 6 ∧ m.1 6 ≤ 4000 := hT.1 6
  have f26 : 0 ≤ m.1 26 ∧ m.1 26 ≤ 8 := hT.1 26
  refine Tc_of rfl ?_
  show TT w D pm_265 (0, [(0, .ref 189), (1, .int (i32 d))], [], (mhp m c, N), 0, 0) (Q_takeCase m c N d)
  rw [show (mhp m c, N) = (mhp (mO m [(7, (m.1 7)), (8, (m.1 8)), (9, (m.1 9)), (10, (m.1 10)), (11, (m.1 11)), (12, (m.1 12)), (13, (m.1 13)), (23, (m.1 23))] [(14, (m.2 14)), (15, (m.2 15)), (16, (m.2 16)), (17, (m.2 17)), (37, (m.2 37)), (38, (m.2 38)), (42, (m.2 42)), (45, (m.2 45)), (97, (m.2 97)), (98, (m.2 98))]) c, N) from congrArg (fun M => (mhp M c, N)) (mO_pad m [7, 8, 9, 10, 11, 12, 13, 23] [14, 15, 16, 17, 37, 38, 42, 45, 97, 98])]
  by_cases hf0 : m.1 10 = 0
  · skip
    obtain ⟨pPN, pSO, hCT⟩ := hC hf0
    have h7 := hLx (by omega)
    have hNM := hNM0
    have J123_12 : ∀ (m11 : mR), (Ty m11) → (1 ≤ (m11.1 10)) → ((m11.1 10) ≤ 8) → (∀ k, (m11.2 14) k + (m11.2 15) k ≤ 4000) → ((m.2 42) d ≤ 7) → (0 ≤ ((8 * d) + ((m.2 42) d)) ∧ ((8 * d) + ((m.2 42) d)) ≤ 127) → TT w D pm_265 (123, [(0, .ref 189), (1, .int (i32 d)), (2, .int (i32 ((8 * d) + ((m.2 42) d))))], [], (mhp (mO m [(7, (m11.1 7)), (8, (m11.1 8)), (9, (m11.1 9)), (10, (m11.1 10)), (11, (m11.1 11)), (12, (m11.1 12)), (13, (m11.1 13)), (23, (m11.1 23))] [(14, (m11.2 14)), (15, (m11.2 15)), (16, (m11.2 16)), (17, (m11.2 17)), (37, (m11.2 37)), (38, (m11.2 38)), (42, (m.2 42)), (45, (m11.2 45)), (97, (m11.2 97)), (98, (m11.2 98))]) c, N), 0, 0) (Q_takeCase m c N d) := by
      intro m11 q13 ic14 ic15 ic16 ic17 ic18
      have q13_7 : 0 ≤ m11.1 7 ∧ m11.1 7 ≤ 330 := q13.1 7
      have q13_8 : 0 ≤ m11.1 8 ∧ m11.1 8 ≤ 4000 := q13.1 8
      have q13_9 : 0 ≤ m11.1 9 ∧ m11.1 9 ≤ 4000 := q13.1 9
      have q13_10 : 0 ≤ m11.1 10 ∧ m11.1 10 ≤ 8 := q13.1 10
      have q13_11 : (-1) ≤ m11.1 11 ∧ m11.1 11 ≤ 4000 := q13.1 11
      have q13_12 : (-9223372036854775808) ≤ m11.1 12 ∧ m11.1 12 ≤ 9223372036854775807 := q13.1 12
      have q13_13 : 0 ≤ m11.1 13 ∧ m11.1 13 ≤ 120 := q13.1 13
      have q13_23 : 0 ≤ m11.1 23 ∧ m11.1 23 ≤ 16 := q13.1 23
      have hNM := ic16
      refine T_gf 127 (.ref 212) rfl rfl rfl rfl rfl rfl ?_
      refine T_ld 128 (.int (i32 d)) rfl (fun _ => rfl) ?_
      refine T_dup2 129 rfl (fun _ => rfl) ?_
      refine T_iald 130 42 (m.2 42) rfl rfl rfl (by omega) (show d < (16 : Int) by omega) rfl ?_
      have e20 : 0 ≤ (m.2 42) d ∧ (m.2 42) d ≤ 8 := (hT.2.1 42) d
      refine T_ld 131 (.int (i32 1)) rfl (fun _ => rfl) ?_
      refine T_iadd 132 rfl rfl ?_
      have G21 : ∀ j, 0 ≤ (upI (m.2 42) d (((m.2 42) d) + 1)) j ∧ (upI (m.2 42) d (((m.2 42) d) + 1)) j ≤ 8 := upI_rg (hT.2.1 42) ⟨by omega, by omega⟩
      refine T_iast (a' := [(14, (m11.2 14)), (15, (m11.2 15)), (16, (m11.2 16)), (17, (m11.2 17)), (37, (m11.2 37)), (38, (m11.2 38)), (42, upI (m.2 42) d (((m.2 42) d) + 1)), (45, (m11.2 45)), (97, (m11.2 97)), (98, (m11.2 98))]) 133 42 (m.2 42) rfl rfl rfl (by omega) (show d < (16 : Int) by omega) rfl rfl ?_
      refine T_ret rfl (fun _ => rfl) ?_
      exact ⟨(mO m [(7, (m11.1 7)), (8, (m11.1 8)), (9, (m11.1 9)), (10, (m11.1 10)), (11, (m11.1 11)), (12, (m11.1 12)), (13, (m11.1 13)), (23, (m11.1 23))] [(14, (m11.2 14)), (15, (m11.2 15)), (16, (m11.2 16)), (17, (m11.2 17)), (37, (m11.2 37)), (38, (m11.2 38)), (42, upI (m.2 42) d (((m.2 42) d) + 1)), (45, (m11.2 45)), (97, (m11.2 97)), (98, (m11.2 98))]), (Ty_mO hT rfl rfl ⟨(q13.1 7), (q13.1 8), (q13.1 9), (q13.1 10), (q13.1 11), (q13.1 12), (q13.1 13), (q13.1 23), trivial⟩ ⟨(q13.2.1 14), (q13.2.1 15), (q13.2.1 16), (q13.2.1 17), (q13.2.1 37), (q13.2.1 38), G21, (q13.2.1 45), (q13.2.1 97), (q13.2.1 98), trivial⟩), (show (m11.1 10) = 0 → (m.1 10) = 0 by omega), (show LxP (m11.1 7) (m11.1 8) (m11.1 9) (m.1 6) (m11.1 10) by first | (first | exact hLx | exact (fun _ => hLx (by omega)) | (intro h9; exfalso; omega)) | (exfalso; omega)), (show ∀ k, (m11.2 14) k + (m11.2 15) k ≤ 4000 by first | (first | exact hNM | (intro k; rw [hE1, hE2]; have := hNM k; have h7 := hLx0 hf0; unfold upI; split <;> omega)) | (exfalso; omega)), (fun (h : (m11.1 10) = 0) => absurd h (by omega)), rfl⟩
    have J116_24 : ∀ (s22 : Int) (m23 : mR), (R32 s22) → (Ty m23) → ((-2) ≤ s22) → (s22 ≤ 15) → (1 ≤ (m23.1 10)) → ((m23.1 10) ≤ 8) → (∀ k, (m23.2 14) k + (m23.2 15) k ≤ 4000) → ((m.2 42) d ≤ 7) → (0 ≤ ((8 * d) + ((m.2 42) d)) ∧ ((8 * d) + ((m.2 42) d)) ≤ 127) → (0 ≤ (8 * d) + ((m.2 42) d) ∧ (8 * d) + ((m.2 42) d) ≤ 127) → TT w D pm_265 (116, [(0, .ref 189), (1, .int (i32 d)), (2, .int (i32 ((8 * d) + ((m.2 42) d))))], [.int (i32 s22), .int (i32 ((8 * d) + ((m.2 42) d))), .ref 215], (mhp (mO m [(7, (m23.1 7)), (8, (m23.1 8)), (9, (m23.1 9)), (10, (m23.1 10)), (11, (m23.1 11)), (12, (m23.1 12)), (13, (m23.1 13)), (23, (m23.1 23))] [(14, (m23.2 14)), (15, (m23.2 15)), (16, (m23.2 16)), (17, (m23.2 17)), (37, (m23.2 37)), (38, (m23.2 38)), (42, (m.2 42)), (45, (m.2 45)), (97, (m23.2 97)), (98, (m23.2 98))]) c, N), 0, 0) (Q_takeCase m c N d) := by
      intro s22 m23 q25 q26 ic27 ic28 ic29 ic30 ic31 ic32 ic33 ic34
      obtain ⟨q25a, q25b⟩ := id q25
      have q26_7 : 0 ≤ m23.1 7 ∧ m23.1 7 ≤ 330 := q26.1 7
      have q26_8 : 0 ≤ m23.1 8 ∧ m23.1 8 ≤ 4000 := q26.1 8
      have q26_9 : 0 ≤ m23.1 9 ∧ m23.1 9 ≤ 4000 := q26.1 9
      have q26_10 : 0 ≤ m23.1 10 ∧ m23.1 10 ≤ 8 := q26.1 10
      have q26_11 : (-1) ≤ m23.1 11 ∧ m23.1 11 ≤ 4000 := q26.1 11
      have q26_12 : (-9223372036854775808) ≤ m23.1 12 ∧ m23.1 12 ≤ 9223372036854775807 := q26.1 12
      have q26_13 : 0 ≤ m23.1 13 ∧ m23.1 13 ≤ 120 := q26.1 13
      have q26_23 : 0 ≤ m23.1 23 ∧ m23.1 23 ≤ 16 := q26.1 23
      have hNM := ic31
      have G36 : ∀ j, (-2) ≤ (upI (m.2 45) ((8 * d) + ((m.2 42) d)) s22) j ∧ (upI (m.2 45) ((8 * d) + ((m.2 42) d)) s22) j ≤ 15 := upI_rg (hT.2.1 45) ⟨by omega, by omega⟩
      refine T_iast (a' := [(14, (m23.2 14)), (15, (m23.2 15)), (16, (m23.2 16)), (17, (m23.2 17)), (37, (m23.2 37)), (38, (m23.2 38)), (42, (m.2 42)), (45, upI (m.2 45) ((8 * d) + ((m.2 42) d)) s22), (97, (m23.2 97)), (98, (m23.2 98))]) 117 45 (m.2 45) rfl rfl rfl (by omega) (show ((8 * d) + ((m.2 42) d)) < (128 : Int) by omega) rfl rfl ?_
      refine T_ld 118 (.ref 189) rfl (fun _ => rfl) ?_
      refine T_ld 120 (.int (i32 59)) rfl (fun _ => rfl) ?_
      refine T_call 123 232 [.ref 189, .int (i32 59)] [] rfl (fun _ => rfl) rfl (c_need w (mO m [(7, (m23.1 7)), (8, (m23.1 8)), (9, (m23.1 9)), (10, (m23.1 10)), (11, (m23.1 11)), (12, (m23.1 12)), (13, (m23.1 13)), (23, (m23.1 23))] [(14, (m23.2 14)), (15, (m23.2 15)), (16, (m23.2 16)), (17, (m23.2 17)), (37, (m23.2 37)), (38, (m23.2 38)), (42, (m.2 42)), (45, upI (m.2 45) ((8 * d) + ((m.2 42) d)) s22), (97, (m23.2 97)), (98, (m23.2 98))]) c N D (by omega) (Ty_mO hT rfl rfl ⟨(q26.1 7), (q26.1 8), (q26.1 9), (q26.1 10), (q26.1 11), (q26.1 12), (q26.1 13), (q26.1 23), trivial⟩ ⟨(q26.2.1 14), (q26.2.1 15), (q26.2.1 16), (q26.2.1 17), (q26.2.1 37), (q26.2.1 38), (hT.2.1 42), G36, (q26.2.1 97), (q26.2.1 98), trivial⟩) 59 ⟨by decide, by decide⟩ (show 1 ≤ (59 : Int) by omega) (show LxP (m23.1 7) (m23.1 8) (m23.1 9) (m.1 6) (m23.1 10) by first | exact hLx | (intro h9; exfalso; omega) | (intro h9; have h8 := hLx (by omega); omega))) (fun rr37 k38 => ?_)
      obtain ⟨y39, y41, y43, y45, y47, y49, g40, g42, g44, g46, g48, g50, h51, h52, h53, h54, rfl⟩ := k38
      refine ⟨_, _, rfl, ?_⟩
      refine T_nf2 (st' := []) (l' := [(7, y39), (8, y41), (9, y43), (10, y45), (11, y47), (12, y49), (13, (m23.1 13)), (23, (m23.1 23))]) (a' := [(14, (m23.2 14)), (15, (m23.2 15)), (16, (m23.2 16)), (17, (m23.2 17)), (37, (m23.2 37)), (38, (m23.2 38)), (42, (m.2 42)), (45, upI (m.2 45) ((8 * d) + ((m.2 42) d)) s22), (97, (m23.2 97)), (98, (m23.2 98))]) [7, 8, 9, 10, 11, 12] [] rfl ⟨rfl, rfl, rfl, rfl, rfl, rfl, rfl, rfl, rfl, rfl, rfl, rfl, rfl, rfl, rfl, rfl, trivial⟩ ⟨rfl, rfl, rfl, rfl, rfl, rfl, rfl, rfl, rfl, rfl, rfl, rfl, rfl, rfl, rfl, rfl, rfl, rfl, rfl, rfl, trivial⟩ rfl rfl (by decide) (by decide) ?_
      replace h51 : LxP y39 y41 y43 (m.1 6) y45 := h51
      replace h52 : y45 = 0 → (m23.1 10) = 0 ∧ (m23.1 7) = (59 : Int) := h52
      replace h53 : (m23.1 8) ≤ y41 := h53
      replace h54 : y45 = 0 → (m23.1 8) + (m23.1 9) ≤ y41 := h54
      have hf55 : 1 ≤ y45 := by omega
      clear h52
      clear h54
      have hLx := h51
      clear q26_7 q26_8 q26_9 q26_10 q26_11 q26_12 ic29 ic30 h53
      exact J123_12 (mO m [(7, y39), (8, y41), (9, y43), (10, y45), (11, y47), (12, y49), (13, (m23.1 13)), (23, (m23.1 23))] [(14, (m23.2 14)), (15, (m23.2 15)), (16, (m23.2 16)), (17, (m23.2 17)), (37, (m23.2 37)), (38, (m23.2 38)), (42, (m.2 42)), (45, upI (m.2 45) ((8 * d) + ((m.2 42) d)) s22), (97, (m23.2 97)), (98, (m23.2 98))]) (Ty_mO hT rfl rfl ⟨g40, g42, g44, g46, g48, g50, (q26.1 13), (q26.1 23), trivial⟩ ⟨(q26.2.1 14), (q26.2.1 15), (q26.2.1 16), (q26.2.1 17), (q26.2.1 37), (q26.2.1 38), (hT.2.1 42), G36, (q26.2.1 97), (q26.2.1 98), trivial⟩) (show 1 ≤ y45 by omega) (show y45 ≤ 8 by omega) (show ∀ k, (m23.2 14) k + (m23.2 15) k ≤ 4000 by first | exact hNM) (show (m.2 42) d ≤ 7 by omega) (show 0 ≤ ((8 * d) + ((m.2 42) d)) ∧ ((8 * d) + ((m.2 42) d)) ≤ 127 by omega)
    have J107_57 : ∀ (m56 : mR), (Ty m56) → (1 ≤ (m56.1 10)) → ((m56.1 10) ≤ 8) → (∀ k, (m.2 14) k + (m.2 15) k ≤ 4000) → ((m.2 42) d ≤ 7) → (0 ≤ ((8 * d) + ((m.2 42) d)) ∧ ((8 * d) + ((m.2 42) d)) ≤ 127) → TT w D pm_265 (107, [(0, .ref 189), (1, .int (i32 d)), (2, .int (i32 ((8 * d) + ((m.2 42) d))))], [], (mhp (mO m [(7, (m56.1 7)), (8, (m56.1 8)), (9, (m56.1 9)), (10, (m56.1 10)), (11, (m56.1 11)), (12, (m56.1 12)), (13, (m.1 13)), (23, (m.1 23))] [(14, (m.2 14)), (15, (m.2 15)), (16, (m.2 16)), (17, (m.2 17)), (37, (m.2 37)), (38, (m.2 38)), (42, (m.2 42)), (45, (m.2 45)), (97, (m56.2 97)), (98, (m56.2 98))]) c, N), 0, 0) (Q_takeCase m c N d) := by
      intro m56 q58 ic59 ic60 ic61 ic62 ic63
      have q58_7 : 0 ≤ m56.1 7 ∧ m56.1 7 ≤ 330 := q58.1 7
      have q58_8 : 0 ≤ m56.1 8 ∧ m56.1 8 ≤ 4000 := q58.1 8
      have q58_9 : 0 ≤ m56.1 9 ∧ m56.1 9 ≤ 4000 := q58.1 9
      have q58_10 : 0 ≤ m56.1 10 ∧ m56.1 10 ≤ 8 := q58.1 10
      have q58_11 : (-1) ≤ m56.1 11 ∧ m56.1 11 ≤ 4000 := q58.1 11
      have q58_12 : (-9223372036854775808) ≤ m56.1 12 ∧ m56.1 12 ≤ 9223372036854775807 := q58.1 12
      have hNM := ic61
      refine T_gf 111 (.ref 215) rfl rfl rfl rfl rfl rfl ?_
      refine T_ld 112 (.int (i32 ((8 * d) + ((m.2 42) d)))) rfl (fun _ => rfl) ?_
      refine T_ld 113 (.ref 189) rfl (fun _ => rfl) ?_
      refine T_call 116 242 [.ref 189] [.int (i32 ((8 * d) + ((m.2 42) d))), .ref 215] rfl (fun _ => rfl) rfl (c_stateHere w (mO m [(7, (m56.1 7)), (8, (m56.1 8)), (9, (m56.1 9)), (10, (m56.1 10)), (11, (m56.1 11)), (12, (m56.1 12)), (13, (m.1 13)), (23, (m.1 23))] [(14, (m.2 14)), (15, (m.2 15)), (16, (m.2 16)), (17, (m.2 17)), (37, (m.2 37)), (38, (m.2 38)), (42, (m.2 42)), (45, (m.2 45)), (97, (m56.2 97)), (98, (m56.2 98))]) c N D (by omega) (Ty_mO hT rfl rfl ⟨(q58.1 7), (q58.1 8), (q58.1 9), (q58.1 10), (q58.1 11), (q58.1 12), f13, f23, trivial⟩ ⟨(hT.2.1 14), (hT.2.1 15), (hT.2.1 16), (hT.2.1 17), (hT.2.1 37), (hT.2.1 38), (hT.2.1 42), (hT.2.1 45), (q58.2.1 97), (q58.2.1 98), trivial⟩) (show LxP (m56.1 7) (m56.1 8) (m56.1 9) (m.1 6) (m56.1 10) by first | exact hLx | exact (fun _ => hLx (by omega)) | (intro h9; exfalso; omega)) (show ∀ k, (m.2 14) k + (m.2 15) k ≤ 4000 by assumption) (fun (h : (m56.1 10) = 0) => absurd h (by omega))) (fun rr65 k66 => ?_)
      obtain ⟨m67, x69, hT68, g70, h71, h72, h73, c74, rfl⟩ := k66
      refine ⟨_, _, rfl, ?_⟩
      refine T_nf2 (st' := [.int (i32 x69), .int (i32 ((8 * d) + ((m.2 42) d))), .ref 215]) (l' := [(7, (m67.1 7)), (8, (m67.1 8)), (9, (m67.1 9)), (10, (m67.1 10)), (11, (m67.1 11)), (12, (m67.1 12)), (13, (m67.1 13)), (23, (m67.1 23))]) (a' := [(14, (m67.2 14)), (15, (m67.2 15)), (16, (m67.2 16)), (17, (m67.2 17)), (37, (m67.2 37)), (38, (m67.2 38)), (42, (m.2 42)), (45, (m.2 45)), (97, (m56.2 97)), (98, (m56.2 98))]) [7, 8, 9, 10, 11, 12, 13, 23] [14, 15, 16, 17, 37, 38] rfl ⟨rfl, rfl, rfl, rfl, rfl, rfl, rfl, rfl, rfl, rfl, rfl, rfl, rfl, rfl, rfl, rfl, trivial⟩ ⟨rfl, rfl, rfl, rfl, rfl, rfl, rfl, rfl, rfl, rfl, rfl, rfl, rfl, rfl, rfl, rfl, rfl, rfl, rfl, rfl, trivial⟩ rfl rfl (by decide) (by decide) ?_
      obtain ⟨g70a, g70b⟩ := g70
      have g75 : 0 ≤ m67.1 7 ∧ m67.1 7 ≤ 330 := hT68.1 7
      have g76 : 0 ≤ m67.1 8 ∧ m67.1 8 ≤ 4000 := hT68.1 8
      have g77 : 0 ≤ m67.1 9 ∧ m67.1 9 ≤ 4000 := hT68.1 9
      have g78 : 0 ≤ m67.1 10 ∧ m67.1 10 ≤ 8 := hT68.1 10
      have g79 : (-1) ≤ m67.1 11 ∧ m67.1 11 ≤ 4000 := hT68.1 11
      have g80 : (-9223372036854775808) ≤ m67.1 12 ∧ m67.1 12 ≤ 9223372036854775807 := hT68.1 12
      have g81 : 0 ≤ m67.1 13 ∧ m67.1 13 ≤ 120 := hT68.1 13
      have g82 : 0 ≤ m67.1 23 ∧ m67.1 23 ≤ 16 := hT68.1 23
      replace h71 : (m67.1 10) = 0 → (m56.1 10) = 0 := h71
      replace h72 : LxP (m67.1 7) (m67.1 8) (m67.1 9) (m.1 6) (m67.1 10) := h72
      replace h73 : ∀ k, (m67.2 14) k + (m67.2 15) k ≤ 4000 := h73
      have hf83 : 1 ≤ (m67.1 10) := by omega
      clear c74
      clear h71
      have hLx := h72
      have hNM := h73
      clear q58_7 q58_8 q58_9 q58_10 q58_11 q58_12 ic59 ic60
      exact J116_24 x69 (mO m [(7, (m67.1 7)), (8, (m67.1 8)), (9, (m67.1 9)), (10, (m67.1 10)), (11, (m67.1 11)), (12, (m67.1 12)), (13, (m67.1 13)), (23, (m67.1 23))] [(14, (m67.2 14)), (15, (m67.2 15)), (16, (m67.2 16)), (17, (m67.2 17)), (37, (m67.2 37)), (38, (m67.2 38)), (42, (m.2 42)), (45, (m.2 45)), (97, (m56.2 97)), (98, (m56.2 98))]) (r32 (by omega) (by omega)) (Ty_mO hT rfl rfl ⟨(hT68.1 7), (hT68.1 8), (hT68.1 9), (hT68.1 10), (hT68.1 11), (hT68.1 12), (hT68.1 13), (hT68.1 23), trivial⟩ ⟨(hT68.2.1 14), (hT68.2.1 15), (hT68.2.1 16), (hT68.2.1 17), (hT68.2.1 37), (hT68.2.1 38), (hT.2.1 42), (hT.2.1 45), (q58.2.1 97), (q58.2.1 98), trivial⟩) (show (-2) ≤ x69 by omega) (show x69 ≤ 15 by omega) (show 1 ≤ (m67.1 10) by omega) (show (m67.1 10) ≤ 8 by omega) (show ∀ k, (m67.2 14) k + (m67.2 15) k ≤ 4000 by first | exact hNM) (show (m.2 42) d ≤ 7 by omega) (show 0 ≤ ((8 * d) + ((m.2 42) d)) ∧ ((8 * d) + ((m.2 42) d)) ≤ 127 by omega) (show 0 ≤ (8 * d) + ((m.2 42) d) ∧ (8 * d) + ((m.2 42) d) ≤ 127 by omega)
    have J100_86 : ∀ (s84 : Int) (m85 : mR), (R64 s84) → (Ty m85) → (1 ≤ (m85.1 10)) → ((m85.1 10) ≤ 8) → (∀ k, (m.2 14) k + (m.2 15) k ≤ 4000) → ((m.2 42) d ≤ 7) → (0 ≤ ((8 * d) + ((m.2 42) d)) ∧ ((8 * d) + ((m.2 42) d)) ≤ 127) → (0 ≤ (8 * d) + ((m.2 42) d) ∧ (8 * d) + ((m.2 42) d) ≤ 127) → TT w D pm_265 (100, [(0, .ref 189), (1, .int (i32 d)), (2, .int (i32 ((8 * d) + ((m.2 42) d))))], [.long (i64 s84), .int (i32 ((8 * d) + ((m.2 42) d))), .ref 260], (mhp (mO m [(7, (m85.1 7)), (8, (m85.1 8)), (9, (m85.1 9)), (10, (m85.1 10)), (11, (m85.1 11)), (12, (m85.1 12)), (13, (m.1 13)), (23, (m.1 23))] [(14, (m.2 14)), (15, (m.2 15)), (16, (m.2 16)), (17, (m.2 17)), (37, (m.2 37)), (38, (m.2 38)), (42, (m.2 42)), (45, (m.2 45)), (97, (m85.2 97)), (98, (m85.2 98))]) c, N), 0, 0) (Q_takeCase m c N d) := by
      intro s84 m85 q87 q88 ic89 ic90 ic91 ic92 ic93 ic94
      obtain ⟨q87a, q87b⟩ := id q87
      have q88_7 : 0 ≤ m85.1 7 ∧ m85.1 7 ≤ 330 := q88.1 7
      have q88_8 : 0 ≤ m85.1 8 ∧ m85.1 8 ≤ 4000 := q88.1 8
      have q88_9 : 0 ≤ m85.1 9 ∧ m85.1 9 ≤ 4000 := q88.1 9
      have q88_10 : 0 ≤ m85.1 10 ∧ m85.1 10 ≤ 8 := q88.1 10
      have q88_11 : (-1) ≤ m85.1 11 ∧ m85.1 11 ≤ 4000 := q88.1 11
      have q88_12 : (-9223372036854775808) ≤ m85.1 12 ∧ m85.1 12 ≤ 9223372036854775807 := q88.1 12
      have hNM := ic91
      have G96 : ∀ j, (-9223372036854775808) ≤ (upI (m85.2 98) ((8 * d) + ((m.2 42) d)) s84) j ∧ (upI (m85.2 98) ((8 * d) + ((m.2 42) d)) s84) j ≤ 9223372036854775807 := upI_rg (q88.2.1 98) ⟨by omega, by omega⟩
      refine T_last (a' := [(14, (m.2 14)), (15, (m.2 15)), (16, (m.2 16)), (17, (m.2 17)), (37, (m.2 37)), (38, (m.2 38)), (42, (m.2 42)), (45, (m.2 45)), (97, (m85.2 97)), (98, upI (m85.2 98) ((8 * d) + ((m.2 42) d)) s84)]) 101 98 (m85.2 98) rfl rfl rfl (by omega) (show ((8 * d) + ((m.2 42) d)) < (128 : Int) by omega) rfl rfl ?_
      refine T_ld 102 (.ref 189) rfl (fun _ => rfl) ?_
      refine T_ld 104 (.int (i32 58)) rfl (fun _ => rfl) ?_
      refine T_call 107 232 [.ref 189, .int (i32 58)] [] rfl (fun _ => rfl) rfl (c_need w (mO m [(7, (m85.1 7)), (8, (m85.1 8)), (9, (m85.1 9)), (10, (m85.1 10)), (11, (m85.1 11)), (12, (m85.1 12)), (13, (m.1 13)), (23, (m.1 23))] [(14, (m.2 14)), (15, (m.2 15)), (16, (m.2 16)), (17, (m.2 17)), (37, (m.2 37)), (38, (m.2 38)), (42, (m.2 42)), (45, (m.2 45)), (97, (m85.2 97)), (98, upI (m85.2 98) ((8 * d) + ((m.2 42) d)) s84)]) c N D (by omega) (Ty_mO hT rfl rfl ⟨(q88.1 7), (q88.1 8), (q88.1 9), (q88.1 10), (q88.1 11), (q88.1 12), f13, f23, trivial⟩ ⟨(hT.2.1 14), (hT.2.1 15), (hT.2.1 16), (hT.2.1 17), (hT.2.1 37), (hT.2.1 38), (hT.2.1 42), (hT.2.1 45), (q88.2.1 97), G96, trivial⟩) 58 ⟨by decide, by decide⟩ (show 1 ≤ (58 : Int) by omega) (show LxP (m85.1 7) (m85.1 8) (m85.1 9) (m.1 6) (m85.1 10) by first | exact hLx | (intro h9; exfalso; omega) | (intro h9; have h8 := hLx (by omega); omega))) (fun rr97 k98 => ?_)
      obtain ⟨y99, y101, y103, y105, y107, y109, g100, g102, g104, g106, g108, g110, h111, h112, h113, h114, rfl⟩ := k98
      refine ⟨_, _, rfl, ?_⟩
      refine T_nf2 (st' := []) (l' := [(7, y99), (8, y101), (9, y103), (10, y105), (11, y107), (12, y109), (13, (m.1 13)), (23, (m.1 23))]) (a' := [(14, (m.2 14)), (15, (m.2 15)), (16, (m.2 16)), (17, (m.2 17)), (37, (m.2 37)), (38, (m.2 38)), (42, (m.2 42)), (45, (m.2 45)), (97, (m85.2 97)), (98, upI (m85.2 98) ((8 * d) + ((m.2 42) d)) s84)]) [7, 8, 9, 10, 11, 12] [] rfl ⟨rfl, rfl, rfl, rfl, rfl, rfl, rfl, rfl, rfl, rfl, rfl, rfl, rfl, rfl, rfl, rfl, trivial⟩ ⟨rfl, rfl, rfl, rfl, rfl, rfl, rfl, rfl, rfl, rfl, rfl, rfl, rfl, rfl, rfl, rfl, rfl, rfl, rfl, rfl, trivial⟩ rfl rfl (by decide) (by decide) ?_
      replace h111 : LxP y99 y101 y103 (m.1 6) y105 := h111
      replace h112 : y105 = 0 → (m85.1 10) = 0 ∧ (m85.1 7) = (58 : Int) := h112
      replace h113 : (m85.1 8) ≤ y101 := h113
      replace h114 : y105 = 0 → (m85.1 8) + (m85.1 9) ≤ y101 := h114
      have hf115 : 1 ≤ y105 := by omega
      clear h112
      clear h114
      have hLx := h111
      clear q88_7 q88_8 q88_9 q88_10 q88_11 q88_12 ic89 ic90 h113
      exact J107_57 (mO m [(7, y99), (8, y101), (9, y103), (10, y105), (11, y107), (12, y109), (13, (m.1 13)), (23, (m.1 23))] [(14, (m.2 14)), (15, (m.2 15)), (16, (m.2 16)), (17, (m.2 17)), (37, (m.2 37)), (38, (m.2 38)), (42, (m.2 42)), (45, (m.2 45)), (97, (m85.2 97)), (98, upI (m85.2 98) ((8 * d) + ((m.2 42) d)) s84)]) (Ty_mO hT rfl rfl ⟨g100, g102, g104, g106, g108, g110, f13, f23, trivial⟩ ⟨(hT.2.1 14), (hT.2.1 15), (hT.2.1 16), (hT.2.1 17), (hT.2.1 37), (hT.2.1 38), (hT.2.1 42), (hT.2.1 45), (q88.2.1 97), G96, trivial⟩) (show 1 ≤ y105 by omega) (show y105 ≤ 8 by omega) (show ∀ k, (m.2 14) k + (m.2 15) k ≤ 4000 by first | exact hNM) (show (m.2 42) d ≤ 7 by omega) (show 0 ≤ ((8 * d) + ((m.2 42) d)) ∧ ((8 * d) + ((m.2 42) d)) ≤ 127 by omega)
    refine T_gf 4 (.ref 212) rfl rfl rfl rfl rfl rfl ?_
    refine T_ld 5 (.int (i32 d)) rfl (fun _ => rfl) ?_
    refine T_iald 6 42 (m.2 42) rfl rfl rfl (by omega) (show d < (16 : Int) by omega) rfl ?_
    have e116 : 0 ≤ (m.2 42) d ∧ (m.2 42) d ≤ 8 := (hT.2.1 42) d
    refine T_ld 8 (.int (i32 8)) rfl (fun _ => rfl) ?_
    refine T_icmp 20 11 rfl rfl rfl (r32 (by omega) (by omega)) ⟨by decide, by decide⟩ (fun (h117 : (m.2 42) d ≠ 8) => ?_) (fun (h117 : ¬ ((m.2 42) d ≠ 8)) => ?_)
    · skip
      refine T_gf 24 (.int (i32 (m.1 10))) rfl rfl rfl rfl rfl rfl ?_
      refine T_if 28 27 rfl rfl rfl (r32 (by omega) (by omega)) (fun (h118 : (m.1 10) ≤ 0) => ?_) (fun (h118 : ¬ ((m.1 10) ≤ 0)) => by exfalso; omega)
      refine T_ld 30 (.int (i32 8)) rfl (fun _ => rfl) ?_
      refine T_ld 31 (.int (i32 d)) rfl (fun _ => rfl) ?_
      refine T_imul 32 rfl rfl ?_
      refine T_gf 36 (.ref 212) rfl rfl rfl rfl rfl rfl ?_
      refine T_ld 37 (.int (i32 d)) rfl (fun _ => rfl) ?_
      refine T_iald 38 42 (m.2 42) rfl rfl rfl (by omega) (show d < (16 : Int) by omega) rfl ?_
      have e119 : 0 ≤ (m.2 42) d ∧ (m.2 42) d ≤ 8 := (hT.2.1 42) d
      refine T_iadd 39 rfl rfl ?_
      refine T_sto 40 [(2, .int (i32 ((8 * d) + ((m.2 42) d)))), (0, .ref 189), (1, .int (i32 d))] rfl (fun _ => rfl) ?_
      refine T_gf 44 (.ref 259) rfl rfl rfl rfl rfl rfl ?_
      refine T_ld 45 (.int (i32 ((8 * d) + ((m.2 42) d)))) rfl (fun _ => rfl) ?_
      refine T_ld 46 (.ref 189) rfl (fun _ => rfl) ?_
      refine T_gf 50 (.ref 213) rfl rfl rfl rfl rfl rfl ?_
      refine T_ld 51 (.int (i32 d)) rfl (fun _ => rfl) ?_
      refine T_iald 52 43 (m.2 43) rfl rfl rfl (by omega) (show d < (16 : Int) by omega) rfl ?_
      have e120 : 0 ≤ m.2 43 d ∧ m.2 43 d ≤ 1024 := hT.2.1 43 d
      refine T_call 55 266 [.ref 189, .int (i32 ((m.2 43) d))] [.int (i32 ((8 * d) + ((m.2 42) d))), .ref 259] rfl (fun _ => rfl) rfl (c_caseNumber w (mO m [(7, (m.1 7)), (8, (m.1 8)), (9, (m.1 9)), (10, (m.1 10)), (11, (m.1 11)), (12, (m.1 12)), (13, (m.1 13)), (23, (m.1 23))] [(14, (m.2 14)), (15, (m.2 15)), (16, (m.2 16)), (17, (m.2 17)), (37, (m.2 37)), (38, (m.2 38)), (42, (m.2 42)), (45, (m.2 45)), (97, (m.2 97)), (98, (m.2 98))]) c N D (by omega) (Ty_mO hT rfl rfl ⟨f7, f8, f9, f10, f11, f12, f13, f23, trivial⟩ ⟨(hT.2.1 14), (hT.2.1 15), (hT.2.1 16), (hT.2.1 17), (hT.2.1 37), (hT.2.1 38), (hT.2.1 42), (hT.2.1 45), (hT.2.1 97), (hT.2.1 98), trivial⟩) ((m.2 43) d) (r32 (by omega) (by omega)) (show LxP (m.1 7) (m.1 8) (m.1 9) (m.1 6) (m.1 10) by first | exact hLx | exact (fun _ => hLx (by omega)) | (intro h9; exfalso; omega)) (fun _ => trivial)) (fun rr121 k122 => ?_)
      obtain ⟨m123, x125, hT124, g126, h127, h128, c129, rfl⟩ := k122
      refine ⟨_, _, rfl, ?_⟩
      refine T_nf2 (st' := [.long (i64 x125), .int (i32 ((8 * d) + ((m.2 42) d))), .ref 259]) (l' := [(7, (m123.1 7)), (8, (m123.1 8)), (9, (m123.1 9)), (10, (m123.1 10)), (11, (m123.1 11)), (12, (m123.1 12)), (13, (m.1 13)), (23, (m.1 23))]) (a' := [(14, (m.2 14)), (15, (m.2 15)), (16, (m.2 16)), (17, (m.2 17)), (37, (m.2 37)), (38, (m.2 38)), (42, (m.2 42)), (45, (m.2 45)), (97, (m.2 97)), (98, (m.2 98))]) [7, 8, 9, 10, 11, 12] [] rfl ⟨rfl, rfl, rfl, rfl, rfl, rfl, rfl, rfl, rfl, rfl, rfl, rfl, rfl, rfl, rfl, rfl, trivial⟩ ⟨rfl, rfl, rfl, rfl, rfl, rfl, rfl, rfl, rfl, rfl, rfl, rfl, rfl, rfl, rfl, rfl, rfl, rfl, rfl, rfl, trivial⟩ rfl rfl (by decide) (by decide) ?_
      obtain ⟨g126a, g126b⟩ := g126
      have g130 : 0 ≤ m123.1 7 ∧ m123.1 7 ≤ 330 := hT124.1 7
      have g131 : 0 ≤ m123.1 8 ∧ m123.1 8 ≤ 4000 := hT124.1 8
      have g132 : 0 ≤ m123.1 9 ∧ m123.1 9 ≤ 4000 := hT124.1 9
      have g133 : 0 ≤ m123.1 10 ∧ m123.1 10 ≤ 8 := hT124.1 10
      have g134 : (-1) ≤ m123.1 11 ∧ m123.1 11 ≤ 4000 := hT124.1 11
      have g135 : (-9223372036854775808) ≤ m123.1 12 ∧ m123.1 12 ≤ 9223372036854775807 := hT124.1 12
      by_cases hf136 : (m123.1 10) = 0
      · skip
        replace h127 : (m.1 10) = 0 := h127 hf136
        replace h128 : LxP (m123.1 7) (m123.1 8) (m123.1 9) (m.1 6) (m123.1 10) := h128
        have hLx := h128
        obtain ⟨c137, c138⟩ := c129 hf136
        replace c137 : (m.1 8) + 1 ≤ (m123.1 8) := c137
        replace c138 : (m.1 7) = 2 := c138
        clear c129
        have u139 : (m.1 8) + 1 ≤ (m123.1 8) := by omega
        have G140 : ∀ j, (-9223372036854775808) ≤ (upI (m.2 97) ((8 * d) + ((m.2 42) d)) x125) j ∧ (upI (m.2 97) ((8 * d) + ((m.2 42) d)) x125) j ≤ 9223372036854775807 := upI_rg (hT.2.1 97) ⟨by omega, by omega⟩
        refine T_last (a' := [(14, (m.2 14)), (15, (m.2 15)), (16, (m.2 16)), (17, (m.2 17)), (37, (m.2 37)), (38, (m.2 38)), (42, (m.2 42)), (45, (m.2 45)), (97, upI (m.2 97) ((8 * d) + ((m.2 42) d)) x125), (98, (m.2 98))]) 56 97 (m.2 97) rfl rfl rfl (by omega) (show ((8 * d) + ((m.2 42) d)) < (128 : Int) by omega) rfl rfl ?_
        refine T_gf 60 (.ref 260) rfl rfl rfl rfl rfl rfl ?_
        refine T_ld 61 (.int (i32 ((8 * d) + ((m.2 42) d)))) rfl (fun _ => rfl) ?_
        refine T_ld 64 (.long (i64 (-1))) rfl (fun _ => rfl) ?_
        have G141 : ∀ j, (-9223372036854775808) ≤ (upI (m.2 98) ((8 * d) + ((m.2 42) d)) (-1)) j ∧ (upI (m.2 98) ((8 * d) + ((m.2 42) d)) (-1)) j ≤ 9223372036854775807 := upI_rg (hT.2.1 98) ⟨by omega, by omega⟩
        refine T_last (a' := [(14, (m.2 14)), (15, (m.2 15)), (16, (m.2 16)), (17, (m.2 17)), (37, (m.2 37)), (38, (m.2 38)), (42, (m.2 42)), (45, (m.2 45)), (97, upI (m.2 97) ((8 * d) + ((m.2 42) d)) x125), (98, upI (m.2 98) ((8 * d) + ((m.2 42) d)) (-1))]) 65 98 (m.2 98) rfl rfl rfl (by omega) (show ((8 * d) + ((m.2 42) d)) < (128 : Int) by omega) rfl rfl ?_
        refine T_gf 69 (.int (i32 (m123.1 10))) rfl rfl rfl rfl rfl rfl ?_
        refine T_if 101 72 rfl rfl rfl (r32 (by omega) (by omega)) (fun (h142 : (m123.1 10) ≠ 0) => by exfalso; omega) (fun (h142 : ¬ ((m123.1 10) ≠ 0)) => ?_)
        refine T_gf 76 (.int (i32 (m123.1 7))) rfl rfl rfl rfl rfl rfl ?_
        refine T_ld 78 (.int (i32 38)) rfl (fun _ => rfl) ?_
        refine T_icmp 101 81 rfl rfl rfl (r32 (by omega) (by omega)) ⟨by decide, by decide⟩ (fun (h143 : (m123.1 7) ≠ 38) => ?_) (fun (h143 : ¬ ((m123.1 7) ≠ 38)) => ?_)
        · skip
          refine T_ld 102 (.ref 189) rfl (fun _ => rfl) ?_
          refine T_ld 104 (.int (i32 58)) rfl (fun _ => rfl) ?_
          refine T_call 107 232 [.ref 189, .int (i32 58)] [] rfl (fun _ => rfl) rfl (c_need w (mO m [(7, (m123.1 7)), (8, (m123.1 8)), (9, (m123.1 9)), (10, (m123.1 10)), (11, (m123.1 11)), (12, (m123.1 12)), (13, (m.1 13)), (23, (m.1 23))] [(14, (m.2 14)), (15, (m.2 15)), (16, (m.2 16)), (17, (m.2 17)), (37, (m.2 37)), (38, (m.2 38)), (42, (m.2 42)), (45, (m.2 45)), (97, upI (m.2 97) ((8 * d) + ((m.2 42) d)) x125), (98, upI (m.2 98) ((8 * d) + ((m.2 42) d)) (-1))]) c N D (by omega) (Ty_mO hT rfl rfl ⟨(hT124.1 7), (hT124.1 8), (hT124.1 9), (hT124.1 10), (hT124.1 11), (hT124.1 12), f13, f23, trivial⟩ ⟨(hT.2.1 14), (hT.2.1 15), (hT.2.1 16), (hT.2.1 17), (hT.2.1 37), (hT.2.1 38), (hT.2.1 42), (hT.2.1 45), G140, G141, trivial⟩) 58 ⟨by decide, by decide⟩ (show 1 ≤ (58 : Int) by omega) (show LxP (m123.1 7) (m123.1 8) (m123.1 9) (m.1 6) (m123.1 10) by first | exact hLx | (intro h9; exfalso; omega) | (intro h9; have h8 := hLx (by omega); omega))) (fun rr144 k145 => ?_)
          obtain ⟨y146, y148, y150, y152, y154, y156, g147, g149, g151, g153, g155, g157, h158, h159, h160, h161, rfl⟩ := k145
          refine ⟨_, _, rfl, ?_⟩
          refine T_nf2 (st' := []) (l' := [(7, y146), (8, y148), (9, y150), (10, y152), (11, y154), (12, y156), (13, (m.1 13)), (23, (m.1 23))]) (a' := [(14, (m.2 14)), (15, (m.2 15)), (16, (m.2 16)), (17, (m.2 17)), (37, (m.2 37)), (38, (m.2 38)), (42, (m.2 42)), (45, (m.2 45)), (97, upI (m.2 97) ((8 * d) + ((m.2 42) d)) x125), (98, upI (m.2 98) ((8 * d) + ((m.2 42) d)) (-1))]) [7, 8, 9, 10, 11, 12] [] rfl ⟨rfl, rfl, rfl, rfl, rfl, rfl, rfl, rfl, rfl, rfl, rfl, rfl, rfl, rfl, rfl, rfl, trivial⟩ ⟨rfl, rfl, rfl, rfl, rfl, rfl, rfl, rfl, rfl, rfl, rfl, rfl, rfl, rfl, rfl, rfl, rfl, rfl, rfl, rfl, trivial⟩ rfl rfl (by decide) (by decide) ?_
          by_cases hf162 : y152 = 0
          · skip
            subst hf162
            replace h158 : LxP y146 y148 y150 (m.1 6) (0 : Int) := h158
            have hLx := h158
            replace h159 : (m123.1 10) = 0 ∧ (m123.1 7) = (58 : Int) := h159 rfl
            replace h160 : (m123.1 8) ≤ y148 := h160
            replace h161 : (m123.1 8) + (m123.1 9) ≤ y148 := h161 rfl
            have u163 : (m.1 8) + 1 ≤ y148 := by omega
            clear g130 g131 g132 g133 g134 g135 h128 c137 u139 h142 h143 g153 h159 h160 h161
            refine T_gf 111 (.ref 215) rfl rfl rfl rfl rfl rfl ?_
            refine T_ld 112 (.int (i32 ((8 * d) + ((m.2 42) d)))) rfl (fun _ => rfl) ?_
            refine T_ld 113 (.ref 189) rfl (fun _ => rfl) ?_
            refine T_call 116 242 [.ref 189] [.int (i32 ((8 * d) + ((m.2 42) d))), .ref 215] rfl (fun _ => rfl) rfl (c_stateHere w (mO m [(7, y146), (8, y148), (9, y150), (10, 0), (11, y154), (12, y156), (13, (m.1 13)), (23, (m.1 23))] [(14, (m.2 14)), (15, (m.2 15)), (16, (m.2 16)), (17, (m.2 17)), (37, (m.2 37)), (38, (m.2 38)), (42, (m.2 42)), (45, (m.2 45)), (97, upI (m.2 97) ((8 * d) + ((m.2 42) d)) x125), (98, upI (m.2 98) ((8 * d) + ((m.2 42) d)) (-1))]) c N D (by omega) (Ty_mO hT rfl rfl ⟨g147, g149, g151, ⟨(by omega : (0 : Int) ≤ 0), (by omega : (0 : Int) ≤ 8)⟩, g155, g157, f13, f23, trivial⟩ ⟨(hT.2.1 14), (hT.2.1 15), (hT.2.1 16), (hT.2.1 17), (hT.2.1 37), (hT.2.1 38), (hT.2.1 42), (hT.2.1 45), G140, G141, trivial⟩) (show LxP y146 y148 y150 (m.1 6) (0 : Int) by first | exact hLx | exact (fun _ => hLx (by omega)) | (intro h9; exfalso; omega)) (show ∀ k, (m.2 14) k + (m.2 15) k ≤ 4000 by assumption) (fun _ => ⟨(show PN (m.1 13) (m.1 19) (m.1 20) (m.1 21) (m.1 22) (m.1 23) (m.1 25) (m.1 26) (m.2 16) (m.2 17) by assumption), (show SOp (m.2 38) (m.1 23) (m.1 24) by first | exact pSO | assumption)⟩)) (fun rr164 k165 => ?_)
            obtain ⟨m166, x168, hT167, g169, h170, h171, h172, c173, rfl⟩ := k165
            refine ⟨_, _, rfl, ?_⟩
            refine T_nf2 (st' := [.int (i32 x168), .int (i32 ((8 * d) + ((m.2 42) d))), .ref 215]) (l' := [(7, (m166.1 7)), (8, (m166.1 8)), (9, (m166.1 9)), (10, (m166.1 10)), (11, (m166.1 11)), (12, (m166.1 12)), (13, (m166.1 13)), (23, (m166.1 23))]) (a' := [(14, (m166.2 14)), (15, (m166.2 15)), (16, (m166.2 16)), (17, (m166.2 17)), (37, (m166.2 37)), (38, (m166.2 38)), (42, (m.2 42)), (45, (m.2 45)), (97, upI (m.2 97) ((8 * d) + ((m.2 42) d)) x125), (98, upI (m.2 98) ((8 * d) + ((m.2 42) d)) (-1))]) [7, 8, 9, 10, 11, 12, 13, 23] [14, 15, 16, 17, 37, 38] rfl ⟨rfl, rfl, rfl, rfl, rfl, rfl, rfl, rfl, rfl, rfl, rfl, rfl, rfl, rfl, rfl, rfl, trivial⟩ ⟨rfl, rfl, rfl, rfl, rfl, rfl, rfl, rfl, rfl, rfl, rfl, rfl, rfl, rfl, rfl, rfl, rfl, rfl, rfl, rfl, trivial⟩ rfl rfl (by decide) (by decide) ?_
            obtain ⟨g169a, g169b⟩ := g169
            have g174 : 0 ≤ m166.1 7 ∧ m166.1 7 ≤ 330 := hT167.1 7
            have g175 : 0 ≤ m166.1 8 ∧ m166.1 8 ≤ 4000 := hT167.1 8
            have g176 : 0 ≤ m166.1 9 ∧ m166.1 9 ≤ 4000 := hT167.1 9
            have g177 : 0 ≤ m166.1 10 ∧ m166.1 10 ≤ 8 := hT167.1 10
            have g178 : (-1) ≤ m166.1 11 ∧ m166.1 11 ≤ 4000 := hT167.1 11
            have g179 : (-9223372036854775808) ≤ m166.1 12 ∧ m166.1 12 ≤ 9223372036854775807 := hT167.1 12
            have g180 : 0 ≤ m166.1 13 ∧ m166.1 13 ≤ 120 := hT167.1 13
            have g181 : 0 ≤ m166.1 23 ∧ m166.1 23 ≤ 16 := hT167.1 23
            by_cases hf182 : (m166.1 10) = 0
            · skip
              replace h170 : (0 : Int) = 0 := h170 hf182
              replace h171 : LxP (m166.1 7) (m166.1 8) (m166.1 9) (m.1 6) (m166.1 10) := h171
              have hLx := h171
              replace h172 : ∀ k, (m166.2 14) k + (m166.2 15) k ≤ 4000 := h172
              have hNM := h172
              obtain ⟨c183, c184, c185, c186, c187⟩ := c173 hf182
              replace c183 : y148 + 1 ≤ (m166.1 8) := c183
              replace c184 : PN (m166.1 13) (m.1 19) (m.1 20) (m.1 21) (m.1 22) (m166.1 23) (m.1 25) (m.1 26) (m166.2 16) (m166.2 17) := c184
              have pPN := c184
              replace c185 : SOp (m166.2 38) (m166.1 23) (m.1 24) := c185
              have pSO := c185
              replace c186 : x168 < (m166.1 23) := c186
              have hRS := c186
              replace c187 : (m.1 23) ≤ (m166.1 23) := c187
              clear c173
              have u188 : (m.1 8) + 1 ≤ (m166.1 8) := by omega
              clear g147 g149 g151 g155 g157 h158 u163 c183
              have G189 : ∀ j, (-2) ≤ (upI (m.2 45) ((8 * d) + ((m.2 42) d)) x168) j ∧ (upI (m.2 45) ((8 * d) + ((m.2 42) d)) x168) j ≤ 15 := upI_rg (hT.2.1 45) ⟨by omega, by omega⟩
              refine T_iast (a' := [(14, (m166.2 14)), (15, (m166.2 15)), (16, (m166.2 16)), (17, (m166.2 17)), (37, (m166.2 37)), (38, (m166.2 38)), (42, (m.2 42)), (45, upI (m.2 45) ((8 * d) + ((m.2 42) d)) x168), (97, upI (m.2 97) ((8 * d) + ((m.2 42) d)) x125), (98, upI (m.2 98) ((8 * d) + ((m.2 42) d)) (-1))]) 117 45 (m.2 45) rfl rfl rfl (by omega) (show ((8 * d) + ((m.2 42) d)) < (128 : Int) by omega) rfl rfl ?_
              refine T_ld 118 (.ref 189) rfl (fun _ => rfl) ?_
              refine T_ld 120 (.int (i32 59)) rfl (fun _ => rfl) ?_
              refine T_call 123 232 [.ref 189, .int (i32 59)] [] rfl (fun _ => rfl) rfl (c_need w (mO m [(7, (m166.1 7)), (8, (m166.1 8)), (9, (m166.1 9)), (10, (m166.1 10)), (11, (m166.1 11)), (12, (m166.1 12)), (13, (m166.1 13)), (23, (m166.1 23))] [(14, (m166.2 14)), (15, (m166.2 15)), (16, (m166.2 16)), (17, (m166.2 17)), (37, (m166.2 37)), (38, (m166.2 38)), (42, (m.2 42)), (45, upI (m.2 45) ((8 * d) + ((m.2 42) d)) x168), (97, upI (m.2 97) ((8 * d) + ((m.2 42) d)) x125), (98, upI (m.2 98) ((8 * d) + ((m.2 42) d)) (-1))]) c N D (by omega) (Ty_mO hT rfl rfl ⟨(hT167.1 7), (hT167.1 8), (hT167.1 9), (hT167.1 10), (hT167.1 11), (hT167.1 12), (hT167.1 13), (hT167.1 23), trivial⟩ ⟨(hT167.2.1 14), (hT167.2.1 15), (hT167.2.1 16), (hT167.2.1 17), (hT167.2.1 37), (hT167.2.1 38), (hT.2.1 42), G189, G140, G141, trivial⟩) 59 ⟨by decide, by decide⟩ (show 1 ≤ (59 : Int) by omega) (show LxP (m166.1 7) (m166.1 8) (m166.1 9) (m.1 6) (m166.1 10) by first | exact hLx | (intro h9; exfalso; omega) | (intro h9; have h8 := hLx (by omega); omega))) (fun rr190 k191 => ?_)
              obtain ⟨y192, y194, y196, y198, y200, y202, g193, g195, g197, g199, g201, g203, h204, h205, h206, h207, rfl⟩ := k191
              refine ⟨_, _, rfl, ?_⟩
              refine T_nf2 (st' := []) (l' := [(7, y192), (8, y194), (9, y196), (10, y198), (11, y200), (12, y202), (13, (m166.1 13)), (23, (m166.1 23))]) (a' := [(14, (m166.2 14)), (15, (m166.2 15)), (16, (m166.2 16)), (17, (m166.2 17)), (37, (m166.2 37)), (38, (m166.2 38)), (42, (m.2 42)), (45, upI (m.2 45) ((8 * d) + ((m.2 42) d)) x168), (97, upI (m.2 97) ((8 * d) + ((m.2 42) d)) x125), (98, upI (m.2 98) ((8 * d) + ((m.2 42) d)) (-1))]) [7, 8, 9, 10, 11, 12] [] rfl ⟨rfl, rfl, rfl, rfl, rfl, rfl, rfl, rfl, rfl, rfl, rfl, rfl, rfl, rfl, rfl, rfl, trivial⟩ ⟨rfl, rfl, rfl, rfl, rfl, rfl, rfl, rfl, rfl, rfl, rfl, rfl, rfl, rfl, rfl, rfl, rfl, rfl, rfl, rfl, trivial⟩ rfl rfl (by decide) (by decide) ?_
              by_cases hf208 : y198 = 0
              · skip
                subst hf208
                replace h204 : LxP y192 y194 y196 (m.1 6) (0 : Int) := h204
                have hLx := h204
                replace h205 : (m166.1 10) = 0 ∧ (m166.1 7) = (59 : Int) := h205 rfl
                replace h206 : (m166.1 8) ≤ y194 := h206
                replace h207 : (m166.1 8) + (m166.1 9) ≤ y194 := h207 rfl
                have u209 : (m.1 8) + 1 ≤ y194 := by omega
                clear g174 g175 g176 g177 g178 g179 h171 u188 g199 h205 h206 h207
                have hlt : (m.2 42) d < 8 := by omega
                refine T_gf 127 (.ref 212) rfl rfl rfl rfl rfl rfl ?_
                refine T_ld 128 (.int (i32 d)) rfl (fun _ => rfl) ?_
                refine T_dup2 129 rfl (fun _ => rfl) ?_
                refine T_iald 130 42 (m.2 42) rfl rfl rfl (by omega) (show d < (16 : Int) by omega) rfl ?_
                have e210 : 0 ≤ (m.2 42) d ∧ (m.2 42) d ≤ 8 := (hT.2.1 42) d
                refine T_ld 131 (.int (i32 1)) rfl (fun _ => rfl) ?_
                refine T_iadd 132 rfl rfl ?_
                have G211 : ∀ j, 0 ≤ (upI (m.2 42) d (((m.2 42) d) + 1)) j ∧ (upI (m.2 42) d (((m.2 42) d) + 1)) j ≤ 8 := upI_rg (hT.2.1 42) ⟨by omega, by omega⟩
                refine T_iast (a' := [(14, (m166.2 14)), (15, (m166.2 15)), (16, (m166.2 16)), (17, (m166.2 17)), (37, (m166.2 37)), (38, (m166.2 38)), (42, upI (m.2 42) d (((m.2 42) d) + 1)), (45, upI (m.2 45) ((8 * d) + ((m.2 42) d)) x168), (97, upI (m.2 97) ((8 * d) + ((m.2 42) d)) x125), (98, upI (m.2 98) ((8 * d) + ((m.2 42) d)) (-1))]) 133 42 (m.2 42) rfl rfl rfl (by omega) (show d < (16 : Int) by omega) rfl rfl ?_
                have hCT2 : ∀ c, 8 * d ≤ c → c < 8 * d + (upI (m.2 42) d (((m.2 42) d) + 1)) d → (upI (m.2 45) ((8 * d) + ((m.2 42) d)) x168) c < (m166.1 23) := by
                  intro c c0 c1
                  rw [upI_s] at c1
                  by_cases e : c = 8 * d + (m.2 42) d
                  · subst e
                    rw [upI_s]
                    exact hRS
                  · rw [upI_n e]
                    have := hCT c c0 (by omega)
                    omega
                refine T_ret rfl (fun _ => rfl) ?_
                exact ⟨(mO m [(7, y192), (8, y194), (9, y196), (10, 0), (11, y200), (12, y202), (13, (m166.1 13)), (23, (m166.1 23))] [(14, (m166.2 14)), (15, (m166.2 15)), (16, (m166.2 16)), (17, (m166.2 17)), (37, (m166.2 37)), (38, (m166.2 38)), (42, upI (m.2 42) d (((m.2 42) d) + 1)), (45, upI (m.2 45) ((8 * d) + ((m.2 42) d)) x168), (97, upI (m.2 97) ((8 * d) + ((m.2 42) d)) x125), (98, upI (m.2 98) ((8 * d) + ((m.2 42) d)) (-1))]), (Ty_mO hT rfl rfl ⟨g193, g195, g197, ⟨(by omega : (0 : Int) ≤ 0), (by omega : (0 : Int) ≤ 8)⟩, g201, g203, (hT167.1 13), (hT167.1 23), trivial⟩ ⟨(hT167.2.1 14), (hT167.2.1 15), (hT167.2.1 16), (hT167.2.1 17), (hT167.2.1 37), (hT167.2.1 38), G211, G189, G140, G141, trivial⟩), (show (0 : Int) = 0 → (m.1 10) = 0 by omega), (show LxP y192 y194 y196 (m.1 6) (0 : Int) by first | (first | exact hLx | exact (fun _ => hLx (by omega)) | (intro h9; exfalso; omega)) | (exfalso; omega)), (show ∀ k, (m166.2 14) k + (m166.2 15) k ≤ 4000 by first | (first | exact hNM | (intro k; rw [hE1, hE2]; have := hNM k; have h7 := hLx0 hf0; unfold upI; split <;> omega)) | (exfalso; omega)), (fun _ => ⟨(show (m.1 8) + 1 ≤ y194 by omega), (show PN (m166.1 13) (m.1 19) (m.1 20) (m.1 21) (m.1 22) (m166.1 23) (m.1 25) (m.1 26) (m166.2 16) (m166.2 17) by first | (exact pPN) | (exfalso; omega)), (show SOp (m166.2 38) (m166.1 23) (m.1 24) by first | (exact pSO) | (exfalso; omega)), (show ∀ c, 8 * d ≤ c → c < 8 * d + (upI (m.2 42) d (((m.2 42) d) + 1)) d → (upI (m.2 45) ((8 * d) + ((m.2 42) d)) x168) c < (m166.1 23) by first | (exact hCT2) | (exfalso; omega)), (show (m.1 23) ≤ (m166.1 23) by omega), (show agr (m.2 42) (upI (m.2 42) d (((m.2 42) d) + 1)) d by first | (exact agr_u (Int.le_refl _)) | (exfalso; omega)), (show agr (m.2 45) (upI (m.2 45) ((8 * d) + ((m.2 42) d)) x168) (8 * d) by first | (exact agr_u (by omega)) | (exfalso; omega))⟩), rfl⟩
              · skip
                replace h204 : LxP y192 y194 y196 (m.1 6) y198 := h204
                have hLx := h204
                clear h205
                replace h206 : (m166.1 8) ≤ y194 := h206
                clear h207
                have hf212 : 1 ≤ y198 := by omega
                clear g174 g175 g176 g177 g178 g179 h171 u188 h206
                refine Tm_lv (a := [(0, .ref 189), (1, .int (i32 d)), (2, .int (i32 ((8 * d) + ((m.2 42) d))))]) rfl rfl ⟨rfl, rfl, rfl, trivial⟩ ?_
                exact J123_12 (mO m [(7, y192), (8, y194), (9, y196), (10, y198), (11, y200), (12, y202), (13, (m166.1 13)), (23, (m166.1 23))] [(14, (m166.2 14)), (15, (m166.2 15)), (16, (m166.2 16)), (17, (m166.2 17)), (37, (m166.2 37)), (38, (m166.2 38)), (42, (m.2 42)), (45, upI (m.2 45) ((8 * d) + ((m.2 42) d)) x168), (97, upI (m.2 97) ((8 * d) + ((m.2 42) d)) x125), (98, upI (m.2 98) ((8 * d) + ((m.2 42) d)) (-1))]) (Ty_mO hT rfl rfl ⟨g193, g195, g197, g199, g201, g203, (hT167.1 13), (hT167.1 23), trivial⟩ ⟨(hT167.2.1 14), (hT167.2.1 15), (hT167.2.1 16), (hT167.2.1 17), (hT167.2.1 37), (hT167.2.1 38), (hT.2.1 42), G189, G140, G141, trivial⟩) (show 1 ≤ y198 by omega) (show y198 ≤ 8 by omega) (show ∀ k, (m166.2 14) k + (m166.2 15) k ≤ 4000 by first | exact hNM) (show (m.2 42) d ≤ 7 by omega) (show 0 ≤ ((8 * d) + ((m.2 42) d)) ∧ ((8 * d) + ((m.2 42) d)) ≤ 127 by omega)
            · skip
              clear c173
              clear h170
              replace h171 : LxP (m166.1 7) (m166.1 8) (m166.1 9) (m.1 6) (m166.1 10) := h171
              have hLx := h171
              replace h172 : ∀ k, (m166.2 14) k + (m166.2 15) k ≤ 4000 := h172
              have hNM := h172
              have hf213 : 1 ≤ (m166.1 10) := by omega
              clear g147 g149 g151 g155 g157 h158 u163
              refine Tm_lv (a := [(0, .ref 189), (1, .int (i32 d)), (2, .int (i32 ((8 * d) + ((m.2 42) d))))]) rfl rfl ⟨rfl, rfl, rfl, trivial⟩ ?_
              exact J116_24 x168 (mO m [(7, (m166.1 7)), (8, (m166.1 8)), (9, (m166.1 9)), (10, (m166.1 10)), (11, (m166.1 11)), (12, (m166.1 12)), (13, (m166.1 13)), (23, (m166.1 23))] [(14, (m166.2 14)), (15, (m166.2 15)), (16, (m166.2 16)), (17, (m166.2 17)), (37, (m166.2 37)), (38, (m166.2 38)), (42, (m.2 42)), (45, (m.2 45)), (97, upI (m.2 97) ((8 * d) + ((m.2 42) d)) x125), (98, upI (m.2 98) ((8 * d) + ((m.2 42) d)) (-1))]) (r32 (by omega) (by omega)) (Ty_mO hT rfl rfl ⟨(hT167.1 7), (hT167.1 8), (hT167.1 9), (hT167.1 10), (hT167.1 11), (hT167.1 12), (hT167.1 13), (hT167.1 23), trivial⟩ ⟨(hT167.2.1 14), (hT167.2.1 15), (hT167.2.1 16), (hT167.2.1 17), (hT167.2.1 37), (hT167.2.1 38), (hT.2.1 42), (hT.2.1 45), G140, G141, trivial⟩) (show (-2) ≤ x168 by omega) (show x168 ≤ 15 by omega) (show 1 ≤ (m166.1 10) by omega) (show (m166.1 10) ≤ 8 by omega) (show ∀ k, (m166.2 14) k + (m166.2 15) k ≤ 4000 by first | exact hNM) (show (m.2 42) d ≤ 7 by omega) (show 0 ≤ ((8 * d) + ((m.2 42) d)) ∧ ((8 * d) + ((m.2 42) d)) ≤ 127 by omega) (show 0 ≤ (8 * d) + ((m.2 42) d) ∧ (8 * d) + ((m.2 42) d) ≤ 127 by omega)
          · skip
            replace h158 : LxP y146 y148 y150 (m.1 6) y152 := h158
            have hLx := h158
            clear h159
            replace h160 : (m123.1 8) ≤ y148 := h160
            clear h161
            have hf214 : 1 ≤ y152 := by omega
            clear g130 g131 g132 g133 g134 g135 h128 c137 u139 h142 h143 h160
            refine Tm_lv (a := [(0, .ref 189), (1, .int (i32 d)), (2, .int (i32 ((8 * d) + ((m.2 42) d))))]) rfl rfl ⟨rfl, rfl, rfl, trivial⟩ ?_
            exact J107_57 (mO m [(7, y146), (8, y148), (9, y150), (10, y152), (11, y154), (12, y156), (13, (m.1 13)), (23, (m.1 23))] [(14, (m.2 14)), (15, (m.2 15)), (16, (m.2 16)), (17, (m.2 17)), (37, (m.2 37)), (38, (m.2 38)), (42, (m.2 42)), (45, (m.2 45)), (97, upI (m.2 97) ((8 * d) + ((m.2 42) d)) x125), (98, upI (m.2 98) ((8 * d) + ((m.2 42) d)) (-1))]) (Ty_mO hT rfl rfl ⟨g147, g149, g151, g153, g155, g157, f13, f23, trivial⟩ ⟨(hT.2.1 14), (hT.2.1 15), (hT.2.1 16), (hT.2.1 17), (hT.2.1 37), (hT.2.1 38), (hT.2.1 42), (hT.2.1 45), G140, G141, trivial⟩) (show 1 ≤ y152 by omega) (show y152 ≤ 8 by omega) (show ∀ k, (m.2 14) k + (m.2 15) k ≤ 4000 by first | exact hNM) (show (m.2 42) d ≤ 7 by omega) (show 0 ≤ ((8 * d) + ((m.2 42) d)) ∧ ((8 * d) + ((m.2 42) d)) ≤ 127 by omega)
        · skip
          refine T_ld 82 (.ref 189) rfl (fun _ => rfl) ?_
          refine T_call 85 212 [.ref 189] [] rfl (fun _ => rfl) rfl (c_next w (mO m [(7, (m123.1 7)), (8, (m123.1 8)), (9, (m123.1 9)), (10, (m123.1 10)), (11, (m123.1 11)), (12, (m123.1 12)), (13, (m.1 13)), (23, (m.1 23))] [(14, (m.2 14)), (15, (m.2 15)), (16, (m.2 16)), (17, (m.2 17)), (37, (m.2 37)), (38, (m.2 38)), (42, (m.2 42)), (45, (m.2 45)), (97, upI (m.2 97) ((8 * d) + ((m.2 42) d)) x125), (98, upI (m.2 98) ((8 * d) + ((m.2 42) d)) (-1))]) c N D (by omega) (Ty_mO hT rfl rfl ⟨(hT124.1 7), (hT124.1 8), (hT124.1 9), (hT124.1 10), (hT124.1 11), (hT124.1 12), f13, f23, trivial⟩ ⟨(hT.2.1 14), (hT.2.1 15), (hT.2.1 16), (hT.2.1 17), (hT.2.1 37), (hT.2.1 38), (hT.2.1 42), (hT.2.1 45), G140, G141, trivial⟩) (show (m123.1 10) = 0 → (m123.1 8) + (m123.1 9) ≤ (m.1 6) by first | omega | (intro h9; have h8 := hLx h9; omega))) (fun rr215 k216 => ?_)
          obtain ⟨y217, y219, y221, y223, y225, y227, g218, g220, g222, g224, g226, g228, h229, h230, h231, h232, rfl⟩ := k216
          refine ⟨_, _, rfl, ?_⟩
          refine T_nf2 (st' := []) (l' := [(7, y217), (8, y219), (9, y221), (10, y223), (11, y225), (12, y227), (13, (m.1 13)), (23, (m.1 23))]) (a' := [(14, (m.2 14)), (15, (m.2 15)), (16, (m.2 16)), (17, (m.2 17)), (37, (m.2 37)), (38, (m.2 38)), (42, (m.2 42)), (45, (m.2 45)), (97, upI (m.2 97) ((8 * d) + ((m.2 42) d)) x125), (98, upI (m.2 98) ((8 * d) + ((m.2 42) d)) (-1))]) [7, 8, 9, 10, 11, 12] [] rfl ⟨rfl, rfl, rfl, rfl, rfl, rfl, rfl, rfl, rfl, rfl, rfl, rfl, rfl, rfl, rfl, rfl, trivial⟩ ⟨rfl, rfl, rfl, rfl, rfl, rfl, rfl, rfl, rfl, rfl, rfl, rfl, rfl, rfl, rfl, rfl, rfl, rfl, rfl, rfl, trivial⟩ rfl rfl (by decide) (by decide) ?_
          by_cases hf233 : y223 = 0
          · skip
            subst hf233
            replace h229 : LxP y217 y219 y221 (m.1 6) (0 : Int) := h229
            have hLx := h229
            replace h230 : (m123.1 10) = 0 := h230 rfl
            replace h231 : (m123.1 8) ≤ y219 := h231
            replace h232 : (m123.1 8) + (m123.1 9) ≤ y219 := h232 rfl
            have u234 : (m.1 8) + 1 ≤ y219 := by omega
            clear g130 g131 g132 g133 g134 g135 h128 c137 u139 h142 h143 g224 h230 h231 h232
            refine T_gf 89 (.ref 260) rfl rfl rfl rfl rfl rfl ?_
            refine T_ld 90 (.int (i32 ((8 * d) + ((m.2 42) d)))) rfl (fun _ => rfl) ?_
            refine T_ld 91 (.ref 189) rfl (fun _ => rfl) ?_
            refine T_gf 95 (.ref 213) rfl rfl rfl rfl rfl rfl ?_
            refine T_ld 96 (.int (i32 d)) rfl (fun _ => rfl) ?_
            refine T_iald 97 43 (m.2 43) rfl rfl rfl (by omega) (show d < (16 : Int) by omega) rfl ?_
            have e235 : 0 ≤ m.2 43 d ∧ m.2 43 d ≤ 1024 := hT.2.1 43 d
            refine T_call 100 266 [.ref 189, .int (i32 ((m.2 43) d))] [.int (i32 ((8 * d) + ((m.2 42) d))), .ref 260] rfl (fun _ => rfl) rfl (c_caseNumber w (mO m [(7, y217), (8, y219), (9, y221), (10, 0), (11, y225), (12, y227), (13, (m.1 13)), (23, (m.1 23))] [(14, (m.2 14)), (15, (m.2 15)), (16, (m.2 16)), (17, (m.2 17)), (37, (m.2 37)), (38, (m.2 38)), (42, (m.2 42)), (45, (m.2 45)), (97, upI (m.2 97) ((8 * d) + ((m.2 42) d)) x125), (98, upI (m.2 98) ((8 * d) + ((m.2 42) d)) (-1))]) c N D (by omega) (Ty_mO hT rfl rfl ⟨g218, g220, g222, ⟨(by omega : (0 : Int) ≤ 0), (by omega : (0 : Int) ≤ 8)⟩, g226, g228, f13, f23, trivial⟩ ⟨(hT.2.1 14), (hT.2.1 15), (hT.2.1 16), (hT.2.1 17), (hT.2.1 37), (hT.2.1 38), (hT.2.1 42), (hT.2.1 45), G140, G141, trivial⟩) ((m.2 43) d) (r32 (by omega) (by omega)) (show LxP y217 y219 y221 (m.1 6) (0 : Int) by first | exact hLx | exact (fun _ => hLx (by omega)) | (intro h9; exfalso; omega)) (fun _ => trivial)) (fun rr236 k237 => ?_)
            obtain ⟨m238, x240, hT239, g241, h242, h243, c244, rfl⟩ := k237
            refine ⟨_, _, rfl, ?_⟩
            refine T_nf2 (st' := [.long (i64 x240), .int (i32 ((8 * d) + ((m.2 42) d))), .ref 260]) (l' := [(7, (m238.1 7)), (8, (m238.1 8)), (9, (m238.1 9)), (10, (m238.1 10)), (11, (m238.1 11)), (12, (m238.1 12)), (13, (m.1 13)), (23, (m.1 23))]) (a' := [(14, (m.2 14)), (15, (m.2 15)), (16, (m.2 16)), (17, (m.2 17)), (37, (m.2 37)), (38, (m.2 38)), (42, (m.2 42)), (45, (m.2 45)), (97, upI (m.2 97) ((8 * d) + ((m.2 42) d)) x125), (98, upI (m.2 98) ((8 * d) + ((m.2 42) d)) (-1))]) [7, 8, 9, 10, 11, 12] [] rfl ⟨rfl, rfl, rfl, rfl, rfl, rfl, rfl, rfl, rfl, rfl, rfl, rfl, rfl, rfl, rfl, rfl, trivial⟩ ⟨rfl, rfl, rfl, rfl, rfl, rfl, rfl, rfl, rfl, rfl, rfl, rfl, rfl, rfl, rfl, rfl, rfl, rfl, rfl, rfl, trivial⟩ rfl rfl (by decide) (by decide) ?_
            obtain ⟨g241a, g241b⟩ := g241
            have g245 : 0 ≤ m238.1 7 ∧ m238.1 7 ≤ 330 := hT239.1 7
            have g246 : 0 ≤ m238.1 8 ∧ m238.1 8 ≤ 4000 := hT239.1 8
            have g247 : 0 ≤ m238.1 9 ∧ m238.1 9 ≤ 4000 := hT239.1 9
            have g248 : 0 ≤ m238.1 10 ∧ m238.1 10 ≤ 8 := hT239.1 10
            have g249 : (-1) ≤ m238.1 11 ∧ m238.1 11 ≤ 4000 := hT239.1 11
            have g250 : (-9223372036854775808) ≤ m238.1 12 ∧ m238.1 12 ≤ 9223372036854775807 := hT239.1 12
            by_cases hf251 : (m238.1 10) = 0
            · skip
              replace h242 : (0 : Int) = 0 := h242 hf251
              replace h243 : LxP (m238.1 7) (m238.1 8) (m238.1 9) (m.1 6) (m238.1 10) := h243
              have hLx := h243
              obtain ⟨c252, c253⟩ := c244 hf251
              replace c252 : y219 + 1 ≤ (m238.1 8) := c252
              replace c253 : y217 = 2 := c253
              clear c244
              have u254 : (m.1 8) + 1 ≤ (m238.1 8) := by omega
              clear g218 g220 g222 g226 g228 h229 u234 c252 c253
              have G255 : ∀ j, (-9223372036854775808) ≤ (upI (upI (m.2 98) ((8 * d) + ((m.2 42) d)) (-1)) ((8 * d) + ((m.2 42) d)) x240) j ∧ (upI (upI (m.2 98) ((8 * d) + ((m.2 42) d)) (-1)) ((8 * d) + ((m.2 42) d)) x240) j ≤ 9223372036854775807 := upI_rg G141 ⟨by omega, by omega⟩
              refine T_last (a' := [(14, (m.2 14)), (15, (m.2 15)), (16, (m.2 16)), (17, (m.2 17)), (37, (m.2 37)), (38, (m.2 38)), (42, (m.2 42)), (45, (m.2 45)), (97, upI (m.2 97) ((8 * d) + ((m.2 42) d)) x125), (98, upI (upI (m.2 98) ((8 * d) + ((m.2 42) d)) (-1)) ((8 * d) + ((m.2 42) d)) x240)]) 101 98 (upI (m.2 98) ((8 * d) + ((m.2 42) d)) (-1)) rfl rfl rfl (by omega) (show ((8 * d) + ((m.2 42) d)) < (128 : Int) by omega) rfl rfl ?_
              refine T_ld 102 (.ref 189) rfl (fun _ => rfl) ?_
              refine T_ld 104 (.int (i32 58)) rfl (fun _ => rfl) ?_
              refine T_call 107 232 [.ref 189, .int (i32 58)] [] rfl (fun _ => rfl) rfl (c_need w (mO m [(7, (m238.1 7)), (8, (m238.1 8)), (9, (m238.1 9)), (10, (m238.1 10)), (11, (m238.1 11)), (12, (m238.1 12)), (13, (m.1 13)), (23, (m.1 23))] [(14, (m.2 14)), (15, (m.2 15)), (16, (m.2 16)), (17, (m.2 17)), (37, (m.2 37)), (38, (m.2 38)), (42, (m.2 42)), (45, (m.2 45)), (97, upI (m.2 97) ((8 * d) + ((m.2 42) d)) x125), (98, upI (upI (m.2 98) ((8 * d) + ((m.2 42) d)) (-1)) ((8 * d) + ((m.2 42) d)) x240)]) c N D (by omega) (Ty_mO hT rfl rfl ⟨(hT239.1 7), (hT239.1 8), (hT239.1 9), (hT239.1 10), (hT239.1 11), (hT239.1 12), f13, f23, trivial⟩ ⟨(hT.2.1 14), (hT.2.1 15), (hT.2.1 16), (hT.2.1 17), (hT.2.1 37), (hT.2.1 38), (hT.2.1 42), (hT.2.1 45), G140, G255, trivial⟩) 58 ⟨by decide, by decide⟩ (show 1 ≤ (58 : Int) by omega) (show LxP (m238.1 7) (m238.1 8) (m238.1 9) (m.1 6) (m238.1 10) by first | exact hLx | (intro h9; exfalso; omega) | (intro h9; have h8 := hLx (by omega); omega))) (fun rr256 k257 => ?_)
              obtain ⟨y258, y260, y262, y264, y266, y268, g259, g261, g263, g265, g267, g269, h270, h271, h272, h273, rfl⟩ := k257
              refine ⟨_, _, rfl, ?_⟩
              refine T_nf2 (st' := []) (l' := [(7, y258), (8, y260), (9, y262), (10, y264), (11, y266), (12, y268), (13, (m.1 13)), (23, (m.1 23))]) (a' := [(14, (m.2 14)), (15, (m.2 15)), (16, (m.2 16)), (17, (m.2 17)), (37, (m.2 37)), (38, (m.2 38)), (42, (m.2 42)), (45, (m.2 45)), (97, upI (m.2 97) ((8 * d) + ((m.2 42) d)) x125), (98, upI (upI (m.2 98) ((8 * d) + ((m.2 42) d)) (-1)) ((8 * d) + ((m.2 42) d)) x240)]) [7, 8, 9, 10, 11, 12] [] rfl ⟨rfl, rfl, rfl, rfl, rfl, rfl, rfl, rfl, rfl, rfl, rfl, rfl, rfl, rfl, rfl, rfl, trivial⟩ ⟨rfl, rfl, rfl, rfl, rfl, rfl, rfl, rfl, rfl, rfl, rfl, rfl, rfl, rfl, rfl, rfl, rfl, rfl, rfl, rfl, trivial⟩ rfl rfl (by decide) (by decide) ?_
              by_cases hf274 : y264 = 0
              · skip
                subst hf274
                replace h270 : LxP y258 y260 y262 (m.1 6) (0 : Int) := h270
                have hLx := h270
                replace h271 : (m238.1 10) = 0 ∧ (m238.1 7) = (58 : Int) := h271 rfl
                replace h272 : (m238.1 8) ≤ y260 := h272
                replace h273 : (m238.1 8) + (m238.1 9) ≤ y260 := h273 rfl
                have u275 : (m.1 8) + 1 ≤ y260 := by omega
                clear g245 g246 g247 g248 g249 g250 h243 u254 g265 h271 h272 h273
                refine T_gf 111 (.ref 215) rfl rfl rfl rfl rfl rfl ?_
                refine T_ld 112 (.int (i32 ((8 * d) + ((m.2 42) d)))) rfl (fun _ => rfl) ?_
                refine T_ld 113 (.ref 189) rfl (fun _ => rfl) ?_
                refine T_call 116 242 [.ref 189] [.int (i32 ((8 * d) + ((m.2 42) d))), .ref 215] rfl (fun _ => rfl) rfl (c_stateHere w (mO m [(7, y258), (8, y260), (9, y262), (10, 0), (11, y266), (12, y268), (13, (m.1 13)), (23, (m.1 23))] [(14, (m.2 14)), (15, (m.2 15)), (16, (m.2 16)), (17, (m.2 17)), (37, (m.2 37)), (38, (m.2 38)), (42, (m.2 42)), (45, (m.2 45)), (97, upI (m.2 97) ((8 * d) + ((m.2 42) d)) x125), (98, upI (upI (m.2 98) ((8 * d) + ((m.2 42) d)) (-1)) ((8 * d) + ((m.2 42) d)) x240)]) c N D (by omega) (Ty_mO hT rfl rfl ⟨g259, g261, g263, ⟨(by omega : (0 : Int) ≤ 0), (by omega : (0 : Int) ≤ 8)⟩, g267, g269, f13, f23, trivial⟩ ⟨(hT.2.1 14), (hT.2.1 15), (hT.2.1 16), (hT.2.1 17), (hT.2.1 37), (hT.2.1 38), (hT.2.1 42), (hT.2.1 45), G140, G255, trivial⟩) (show LxP y258 y260 y262 (m.1 6) (0 : Int) by first | exact hLx | exact (fun _ => hLx (by omega)) | (intro h9; exfalso; omega)) (show ∀ k, (m.2 14) k + (m.2 15) k ≤ 4000 by assumption) (fun _ => ⟨(show PN (m.1 13) (m.1 19) (m.1 20) (m.1 21) (m.1 22) (m.1 23) (m.1 25) (m.1 26) (m.2 16) (m.2 17) by assumption), (show SOp (m.2 38) (m.1 23) (m.1 24) by first | exact pSO | assumption)⟩)) (fun rr276 k277 => ?_)
                obtain ⟨m278, x280, hT279, g281, h282, h283, h284, c285, rfl⟩ := k277
                refine ⟨_, _, rfl, ?_⟩
                refine T_nf2 (st' := [.int (i32 x280), .int (i32 ((8 * d) + ((m.2 42) d))), .ref 215]) (l' := [(7, (m278.1 7)), (8, (m278.1 8)), (9, (m278.1 9)), (10, (m278.1 10)), (11, (m278.1 11)), (12, (m278.1 12)), (13, (m278.1 13)), (23, (m278.1 23))]) (a' := [(14, (m278.2 14)), (15, (m278.2 15)), (16, (m278.2 16)), (17, (m278.2 17)), (37, (m278.2 37)), (38, (m278.2 38)), (42, (m.2 42)), (45, (m.2 45)), (97, upI (m.2 97) ((8 * d) + ((m.2 42) d)) x125), (98, upI (upI (m.2 98) ((8 * d) + ((m.2 42) d)) (-1)) ((8 * d) + ((m.2 42) d)) x240)]) [7, 8, 9, 10, 11, 12, 13, 23] [14, 15, 16, 17, 37, 38] rfl ⟨rfl, rfl, rfl, rfl, rfl, rfl, rfl, rfl, rfl, rfl, rfl, rfl, rfl, rfl, rfl, rfl, trivial⟩ ⟨rfl, rfl, rfl, rfl, rfl, rfl, rfl, rfl, rfl, rfl, rfl, rfl, rfl, rfl, rfl, rfl, rfl, rfl, rfl, rfl, trivial⟩ rfl rfl (by decide) (by decide) ?_
                obtain ⟨g281a, g281b⟩ := g281
                have g286 : 0 ≤ m278.1 7 ∧ m278.1 7 ≤ 330 := hT279.1 7
                have g287 : 0 ≤ m278.1 8 ∧ m278.1 8 ≤ 4000 := hT279.1 8
                have g288 : 0 ≤ m278.1 9 ∧ m278.1 9 ≤ 4000 := hT279.1 9
                have g289 : 0 ≤ m278.1 10 ∧ m278.1 10 ≤ 8 := hT279.1 10
                have g290 : (-1) ≤ m278.1 11 ∧ m278.1 11 ≤ 4000 := hT279.1 11
                have g291 : (-9223372036854775808) ≤ m278.1 12 ∧ m278.1 12 ≤ 9223372036854775807 := hT279.1 12
                have g292 : 0 ≤ m278.1 13 ∧ m278.1 13 ≤ 120 := hT279.1 13
                have g293 : 0 ≤ m278.1 23 ∧ m278.1 23 ≤ 16 := hT279.1 23
                by_cases hf294 : (m278.1 10) = 0
                · skip
                  replace h282 : (0 : Int) = 0 := h282 hf294
                  replace h283 : LxP (m278.1 7) (m278.1 8) (m278.1 9) (m.1 6) (m278.1 10) := h283
                  have hLx := h283
                  replace h284 : ∀ k, (m278.2 14) k + (m278.2 15) k ≤ 4000 := h284
                  have hNM := h284
                  obtain ⟨c295, c296, c297, c298, c299⟩ := c285 hf294
                  replace c295 : y260 + 1 ≤ (m278.1 8) := c295
                  replace c296 : PN (m278.1 13) (m.1 19) (m.1 20) (m.1 21) (m.1 22) (m278.1 23) (m.1 25) (m.1 26) (m278.2 16) (m278.2 17) := c296
                  have pPN := c296
                  replace c297 : SOp (m278.2 38) (m278.1 23) (m.1 24) := c297
                  have pSO := c297
                  replace c298 : x280 < (m278.1 23) := c298
                  have hRS := c298
                  replace c299 : (m.1 23) ≤ (m278.1 23) := c299
                  clear c285
                  have u300 : (m.1 8) + 1 ≤ (m278.1 8) := by omega
                  clear g259 g261 g263 g267 g269 h270 u275 c295
                  have G301 : ∀ j, (-2) ≤ (upI (m.2 45) ((8 * d) + ((m.2 42) d)) x280) j ∧ (upI (m.2 45) ((8 * d) + ((m.2 42) d)) x280) j ≤ 15 := upI_rg (hT.2.1 45) ⟨by omega, by omega⟩
                  refine T_iast (a' := [(14, (m278.2 14)), (15, (m278.2 15)), (16, (m278.2 16)), (17, (m278.2 17)), (37, (m278.2 37)), (38, (m278.2 38)), (42, (m.2 42)), (45, upI (m.2 45) ((8 * d) + ((m.2 42) d)) x280), (97, upI (m.2 97) ((8 * d) + ((m.2 42) d)) x125), (98, upI (upI (m.2 98) ((8 * d) + ((m.2 42) d)) (-1)) ((8 * d) + ((m.2 42) d)) x240)]) 117 45 (m.2 45) rfl rfl rfl (by omega) (show ((8 * d) + ((m.2 42) d)) < (128 : Int) by omega) rfl rfl ?_
                  refine T_ld 118 (.ref 189) rfl (fun _ => rfl) ?_
                  refine T_ld 120 (.int (i32 59)) rfl (fun _ => rfl) ?_
                  refine T_call 123 232 [.ref 189, .int (i32 59)] [] rfl (fun _ => rfl) rfl (c_need w (mO m [(7, (m278.1 7)), (8, (m278.1 8)), (9, (m278.1 9)), (10, (m278.1 10)), (11, (m278.1 11)), (12, (m278.1 12)), (13, (m278.1 13)), (23, (m278.1 23))] [(14, (m278.2 14)), (15, (m278.2 15)), (16, (m278.2 16)), (17, (m278.2 17)), (37, (m278.2 37)), (38, (m278.2 38)), (42, (m.2 42)), (45, upI (m.2 45) ((8 * d) + ((m.2 42) d)) x280), (97, upI (m.2 97) ((8 * d) + ((m.2 42) d)) x125), (98, upI (upI (m.2 98) ((8 * d) + ((m.2 42) d)) (-1)) ((8 * d) + ((m.2 42) d)) x240)]) c N D (by omega) (Ty_mO hT rfl rfl ⟨(hT279.1 7), (hT279.1 8), (hT279.1 9), (hT279.1 10), (hT279.1 11), (hT279.1 12), (hT279.1 13), (hT279.1 23), trivial⟩ ⟨(hT279.2.1 14), (hT279.2.1 15), (hT279.2.1 16), (hT279.2.1 17), (hT279.2.1 37), (hT279.2.1 38), (hT.2.1 42), G301, G140, G255, trivial⟩) 59 ⟨by decide, by decide⟩ (show 1 ≤ (59 : Int) by omega) (show LxP (m278.1 7) (m278.1 8) (m278.1 9) (m.1 6) (m278.1 10) by first | exact hLx | (intro h9; exfalso; omega) | (intro h9; have h8 := hLx (by omega); omega))) (fun rr302 k303 => ?_)
                  obtain ⟨y304, y306, y308, y310, y312, y314, g305, g307, g309, g311, g313, g315, h316, h317, h318, h319, rfl⟩ := k303
                  refine ⟨_, _, rfl, ?_⟩
                  refine T_nf2 (st' := []) (l' := [(7, y304), (8, y306), (9, y308), (10, y310), (11, y312), (12, y314), (13, (m278.1 13)), (23, (m278.1 23))]) (a' := [(14, (m278.2 14)), (15, (m278.2 15)), (16, (m278.2 16)), (17, (m278.2 17)), (37, (m278.2 37)), (38, (m278.2 38)), (42, (m.2 42)), (45, upI (m.2 45) ((8 * d) + ((m.2 42) d)) x280), (97, upI (m.2 97) ((8 * d) + ((m.2 42) d)) x125), (98, upI (upI (m.2 98) ((8 * d) + ((m.2 42) d)) (-1)) ((8 * d) + ((m.2 42) d)) x240)]) [7, 8, 9, 10, 11, 12] [] rfl ⟨rfl, rfl, rfl, rfl, rfl, rfl, rfl, rfl, rfl, rfl, rfl, rfl, rfl, rfl, rfl, rfl, trivial⟩ ⟨rfl, rfl, rfl, rfl, rfl, rfl, rfl, rfl, rfl, rfl, rfl, rfl, rfl, rfl, rfl, rfl, rfl, rfl, rfl, rfl, trivial⟩ rfl rfl (by decide) (by decide) ?_
                  by_cases hf320 : y310 = 0
                  · skip
                    subst hf320
                    replace h316 : LxP y304 y306 y308 (m.1 6) (0 : Int) := h316
                    have hLx := h316
                    replace h317 : (m278.1 10) = 0 ∧ (m278.1 7) = (59 : Int) := h317 rfl
                    replace h318 : (m278.1 8) ≤ y306 := h318
                    replace h319 : (m278.1 8) + (m278.1 9) ≤ y306 := h319 rfl
                    have u321 : (m.1 8) + 1 ≤ y306 := by omega
                    clear g286 g287 g288 g289 g290 g291 h283 u300 g311 h317 h318 h319
                    have hlt : (m.2 42) d < 8 := by omega
                    refine T_gf 127 (.ref 212) rfl rfl rfl rfl rfl rfl ?_
                    refine T_ld 128 (.int (i32 d)) rfl (fun _ => rfl) ?_
                    refine T_dup2 129 rfl (fun _ => rfl) ?_
                    refine T_iald 130 42 (m.2 42) rfl rfl rfl (by omega) (show d < (16 : Int) by omega) rfl ?_
                    have e322 : 0 ≤ (m.2 42) d ∧ (m.2 42) d ≤ 8 := (hT.2.1 42) d
                    refine T_ld 131 (.int (i32 1)) rfl (fun _ => rfl) ?_
                    refine T_iadd 132 rfl rfl ?_
                    have G323 : ∀ j, 0 ≤ (upI (m.2 42) d (((m.2 42) d) + 1)) j ∧ (upI (m.2 42) d (((m.2 42) d) + 1)) j ≤ 8 := upI_rg (hT.2.1 42) ⟨by omega, by omega⟩
                    refine T_iast (a' := [(14, (m278.2 14)), (15, (m278.2 15)), (16, (m278.2 16)), (17, (m278.2 17)), (37, (m278.2 37)), (38, (m278.2 38)), (42, upI (m.2 42) d (((m.2 42) d) + 1)), (45, upI (m.2 45) ((8 * d) + ((m.2 42) d)) x280), (97, upI (m.2 97) ((8 * d) + ((m.2 42) d)) x125), (98, upI (upI (m.2 98) ((8 * d) + ((m.2 42) d)) (-1)) ((8 * d) + ((m.2 42) d)) x240)]) 133 42 (m.2 42) rfl rfl rfl (by omega) (show d < (16 : Int) by omega) rfl rfl ?_
                    have hCT2 : ∀ c, 8 * d ≤ c → c < 8 * d + (upI (m.2 42) d (((m.2 42) d) + 1)) d → (upI (m.2 45) ((8 * d) + ((m.2 42) d)) x280) c < (m278.1 23) := by
                      intro c c0 c1
                      rw [upI_s] at c1
                      by_cases e : c = 8 * d + (m.2 42) d
                      · subst e
                        rw [upI_s]
                        exact hRS
                      · rw [upI_n e]
                        have := hCT c c0 (by omega)
                        omega
                    refine T_ret rfl (fun _ => rfl) ?_
                    exact ⟨(mO m [(7, y304), (8, y306), (9, y308), (10, 0), (11, y312), (12, y314), (13, (m278.1 13)), (23, (m278.1 23))] [(14, (m278.2 14)), (15, (m278.2 15)), (16, (m278.2 16)), (17, (m278.2 17)), (37, (m278.2 37)), (38, (m278.2 38)), (42, upI (m.2 42) d (((m.2 42) d) + 1)), (45, upI (m.2 45) ((8 * d) + ((m.2 42) d)) x280), (97, upI (m.2 97) ((8 * d) + ((m.2 42) d)) x125), (98, upI (upI (m.2 98) ((8 * d) + ((m.2 42) d)) (-1)) ((8 * d) + ((m.2 42) d)) x240)]), (Ty_mO hT rfl rfl ⟨g305, g307, g309, ⟨(by omega : (0 : Int) ≤ 0), (by omega : (0 : Int) ≤ 8)⟩, g313, g315, (hT279.1 13), (hT279.1 23), trivial⟩ ⟨(hT279.2.1 14), (hT279.2.1 15), (hT279.2.1 16), (hT279.2.1 17), (hT279.2.1 37), (hT279.2.1 38), G323, G301, G140, G255, trivial⟩), (show (0 : Int) = 0 → (m.1 10) = 0 by omega), (show LxP y304 y306 y308 (m.1 6) (0 : Int) by first | (first | exact hLx | exact (fun _ => hLx (by omega)) | (intro h9; exfalso; omega)) | (exfalso; omega)), (show ∀ k, (m278.2 14) k + (m278.2 15) k ≤ 4000 by first | (first | exact hNM | (intro k; rw [hE1, hE2]; have := hNM k; have h7 := hLx0 hf0; unfold upI; split <;> omega)) | (exfalso; omega)), (fun _ => ⟨(show (m.1 8) + 1 ≤ y306 by omega), (show PN (m278.1 13) (m.1 19) (m.1 20) (m.1 21) (m.1 22) (m278.1 23) (m.1 25) (m.1 26) (m278.2 16) (m278.2 17) by first | (exact pPN) | (exfalso; omega)), (show SOp (m278.2 38) (m278.1 23) (m.1 24) by first | (exact pSO) | (exfalso; omega)), (show ∀ c, 8 * d ≤ c → c < 8 * d + (upI (m.2 42) d (((m.2 42) d) + 1)) d → (upI (m.2 45) ((8 * d) + ((m.2 42) d)) x280) c < (m278.1 23) by first | (exact hCT2) | (exfalso; omega)), (show (m.1 23) ≤ (m278.1 23) by omega), (show agr (m.2 42) (upI (m.2 42) d (((m.2 42) d) + 1)) d by first | (exact agr_u (Int.le_refl _)) | (exfalso; omega)), (show agr (m.2 45) (upI (m.2 45) ((8 * d) + ((m.2 42) d)) x280) (8 * d) by first | (exact agr_u (by omega)) | (exfalso; omega))⟩), rfl⟩
                  · skip
                    replace h316 : LxP y304 y306 y308 (m.1 6) y310 := h316
                    have hLx := h316
                    clear h317
                    replace h318 : (m278.1 8) ≤ y306 := h318
                    clear h319
                    have hf324 : 1 ≤ y310 := by omega
                    clear g286 g287 g288 g289 g290 g291 h283 u300 h318
                    refine Tm_lv (a := [(0, .ref 189), (1, .int (i32 d)), (2, .int (i32 ((8 * d) + ((m.2 42) d))))]) rfl rfl ⟨rfl, rfl, rfl, trivial⟩ ?_
                    exact J123_12 (mO m [(7, y304), (8, y306), (9, y308), (10, y310), (11, y312), (12, y314), (13, (m278.1 13)), (23, (m278.1 23))] [(14, (m278.2 14)), (15, (m278.2 15)), (16, (m278.2 16)), (17, (m278.2 17)), (37, (m278.2 37)), (38, (m278.2 38)), (42, (m.2 42)), (45, upI (m.2 45) ((8 * d) + ((m.2 42) d)) x280), (97, upI (m.2 97) ((8 * d) + ((m.2 42) d)) x125), (98, upI (upI (m.2 98) ((8 * d) + ((m.2 42) d)) (-1)) ((8 * d) + ((m.2 42) d)) x240)]) (Ty_mO hT rfl rfl ⟨g305, g307, g309, g311, g313, g315, (hT279.1 13), (hT279.1 23), trivial⟩ ⟨(hT279.2.1 14), (hT279.2.1 15), (hT279.2.1 16), (hT279.2.1 17), (hT279.2.1 37), (hT279.2.1 38), (hT.2.1 42), G301, G140, G255, trivial⟩) (show 1 ≤ y310 by omega) (show y310 ≤ 8 by omega) (show ∀ k, (m278.2 14) k + (m278.2 15) k ≤ 4000 by first | exact hNM) (show (m.2 42) d ≤ 7 by omega) (show 0 ≤ ((8 * d) + ((m.2 42) d)) ∧ ((8 * d) + ((m.2 42) d)) ≤ 127 by omega)
                · skip
                  clear c285
                  clear h282
                  replace h283 : LxP (m278.1 7) (m278.1 8) (m278.1 9) (m.1 6) (m278.1 10) := h283
                  have hLx := h283
                  replace h284 : ∀ k, (m278.2 14) k + (m278.2 15) k ≤ 4000 := h284
                  have hNM := h284
                  have hf325 : 1 ≤ (m278.1 10) := by omega
                  clear g259 g261 g263 g267 g269 h270 u275
                  refine Tm_lv (a := [(0, .ref 189), (1, .int (i32 d)), (2, .int (i32 ((8 * d) + ((m.2 42) d))))]) rfl rfl ⟨rfl, rfl, rfl, trivial⟩ ?_
                  exact J116_24 x280 (mO m [(7, (m278.1 7)), (8, (m278.1 8)), (9, (m278.1 9)), (10, (m278.1 10)), (11, (m278.1 11)), (12, (m278.1 12)), (13, (m278.1 13)), (23, (m278.1 23))] [(14, (m278.2 14)), (15, (m278.2 15)), (16, (m278.2 16)), (17, (m278.2 17)), (37, (m278.2 37)), (38, (m278.2 38)), (42, (m.2 42)), (45, (m.2 45)), (97, upI (m.2 97) ((8 * d) + ((m.2 42) d)) x125), (98, upI (upI (m.2 98) ((8 * d) + ((m.2 42) d)) (-1)) ((8 * d) + ((m.2 42) d)) x240)]) (r32 (by omega) (by omega)) (Ty_mO hT rfl rfl ⟨(hT279.1 7), (hT279.1 8), (hT279.1 9), (hT279.1 10), (hT279.1 11), (hT279.1 12), (hT279.1 13), (hT279.1 23), trivial⟩ ⟨(hT279.2.1 14), (hT279.2.1 15), (hT279.2.1 16), (hT279.2.1 17), (hT279.2.1 37), (hT279.2.1 38), (hT.2.1 42), (hT.2.1 45), G140, G255, trivial⟩) (show (-2) ≤ x280 by omega) (show x280 ≤ 15 by omega) (show 1 ≤ (m278.1 10) by omega) (show (m278.1 10) ≤ 8 by omega) (show ∀ k, (m278.2 14) k + (m278.2 15) k ≤ 4000 by first | exact hNM) (show (m.2 42) d ≤ 7 by omega) (show 0 ≤ ((8 * d) + ((m.2 42) d)) ∧ ((8 * d) + ((m.2 42) d)) ≤ 127 by omega) (show 0 ≤ (8 * d) + ((m.2 42) d) ∧ (8 * d) + ((m.2 42) d) ≤ 127 by omega)
              · skip
                replace h270 : LxP y258 y260 y262 (m.1 6) y264 := h270
                have hLx := h270
                clear h271
                replace h272 : (m238.1 8) ≤ y260 := h272
                clear h273
                have hf326 : 1 ≤ y264 := by omega
                clear g245 g246 g247 g248 g249 g250 h243 u254 h272
                refine Tm_lv (a := [(0, .ref 189), (1, .int (i32 d)), (2, .int (i32 ((8 * d) + ((m.2 42) d))))]) rfl rfl ⟨rfl, rfl, rfl, trivial⟩ ?_
                exact J107_57 (mO m [(7, y258), (8, y260), (9, y262), (10, y264), (11, y266), (12, y268), (13, (m.1 13)), (23, (m.1 23))] [(14, (m.2 14)), (15, (m.2 15)), (16, (m.2 16)), (17, (m.2 17)), (37, (m.2 37)), (38, (m.2 38)), (42, (m.2 42)), (45, (m.2 45)), (97, upI (m.2 97) ((8 * d) + ((m.2 42) d)) x125), (98, upI (upI (m.2 98) ((8 * d) + ((m.2 42) d)) (-1)) ((8 * d) + ((m.2 42) d)) x240)]) (Ty_mO hT rfl rfl ⟨g259, g261, g263, g265, g267, g269, f13, f23, trivial⟩ ⟨(hT.2.1 14), (hT.2.1 15), (hT.2.1 16), (hT.2.1 17), (hT.2.1 37), (hT.2.1 38), (hT.2.1 42), (hT.2.1 45), G140, G255, trivial⟩) (show 1 ≤ y264 by omega) (show y264 ≤ 8 by omega) (show ∀ k, (m.2 14) k + (m.2 15) k ≤ 4000 by first | exact hNM) (show (m.2 42) d ≤ 7 by omega) (show 0 ≤ ((8 * d) + ((m.2 42) d)) ∧ ((8 * d) + ((m.2 42) d)) ≤ 127 by omega)
            · skip
              clear c244
              clear h242
              replace h243 : LxP (m238.1 7) (m238.1 8) (m238.1 9) (m.1 6) (m238.1 10) := h243
              have hLx := h243
              have hf327 : 1 ≤ (m238.1 10) := by omega
              clear g218 g220 g222 g226 g228 h229 u234
              refine Tm_lv (a := [(0, .ref 189), (1, .int (i32 d)), (2, .int (i32 ((8 * d) + ((m.2 42) d))))]) rfl rfl ⟨rfl, rfl, rfl, trivial⟩ ?_
              exact J100_86 x240 (mO m [(7, (m238.1 7)), (8, (m238.1 8)), (9, (m238.1 9)), (10, (m238.1 10)), (11, (m238.1 11)), (12, (m238.1 12)), (13, (m.1 13)), (23, (m.1 23))] [(14, (m.2 14)), (15, (m.2 15)), (16, (m.2 16)), (17, (m.2 17)), (37, (m.2 37)), (38, (m.2 38)), (42, (m.2 42)), (45, (m.2 45)), (97, upI (m.2 97) ((8 * d) + ((m.2 42) d)) x125), (98, upI (m.2 98) ((8 * d) + ((m.2 42) d)) (-1))]) (r64 (by omega) (by omega)) (Ty_mO hT rfl rfl ⟨(hT239.1 7), (hT239.1 8), (hT239.1 9), (hT239.1 10), (hT239.1 11), (hT239.1 12), f13, f23, trivial⟩ ⟨(hT.2.1 14), (hT.2.1 15), (hT.2.1 16), (hT.2.1 17), (hT.2.1 37), (hT.2.1 38), (hT.2.1 42), (hT.2.1 45), G140, G141, trivial⟩) (show 1 ≤ (m238.1 10) by omega) (show (m238.1 10) ≤ 8 by omega) (show ∀ k, (m.2 14) k + (m.2 15) k ≤ 4000 by first | exact hNM) (show (m.2 42) d ≤ 7 by omega) (show 0 ≤ ((8 * d) + ((m.2 42) d)) ∧ ((8 * d) + ((m.2 42) d)) ≤ 127 by omega) (show 0 ≤ (8 * d) + ((m.2 42) d) ∧ (8 * d) + ((m.2 42) d) ≤ 127 by omega)
          · skip
            replace h229 : LxP y217 y219 y221 (m.1 6) y223 := h229
            have hLx := h229
            clear h230
            replace h231 : (m123.1 8) ≤ y219 := h231
            clear h232
            have hf328 : 1 ≤ y223 := by omega
            clear g130 g131 g132 g133 g134 g135 h128 c137 u139 h142 h143 h231
            refine T_gf 89 (.ref 260) rfl rfl rfl rfl rfl rfl ?_
            refine T_ld 90 (.int (i32 ((8 * d) + ((m.2 42) d)))) rfl (fun _ => rfl) ?_
            refine T_ld 91 (.ref 189) rfl (fun _ => rfl) ?_
            refine T_gf 95 (.ref 213) rfl rfl rfl rfl rfl rfl ?_
            refine T_ld 96 (.int (i32 d)) rfl (fun _ => rfl) ?_
            refine T_iald 97 43 (m.2 43) rfl rfl rfl (by omega) (show d < (16 : Int) by omega) rfl ?_
            have e329 : 0 ≤ m.2 43 d ∧ m.2 43 d ≤ 1024 := hT.2.1 43 d
            refine T_call 100 266 [.ref 189, .int (i32 ((m.2 43) d))] [.int (i32 ((8 * d) + ((m.2 42) d))), .ref 260] rfl (fun _ => rfl) rfl (c_caseNumber w (mO m [(7, y217), (8, y219), (9, y221), (10, y223), (11, y225), (12, y227), (13, (m.1 13)), (23, (m.1 23))] [(14, (m.2 14)), (15, (m.2 15)), (16, (m.2 16)), (17, (m.2 17)), (37, (m.2 37)), (38, (m.2 38)), (42, (m.2 42)), (45, (m.2 45)), (97, upI (m.2 97) ((8 * d) + ((m.2 42) d)) x125), (98, upI (m.2 98) ((8 * d) + ((m.2 42) d)) (-1))]) c N D (by omega) (Ty_mO hT rfl rfl ⟨g218, g220, g222, g224, g226, g228, f13, f23, trivial⟩ ⟨(hT.2.1 14), (hT.2.1 15), (hT.2.1 16), (hT.2.1 17), (hT.2.1 37), (hT.2.1 38), (hT.2.1 42), (hT.2.1 45), G140, G141, trivial⟩) ((m.2 43) d) (r32 (by omega) (by omega)) (show LxP y217 y219 y221 (m.1 6) y223 by first | exact hLx | exact (fun _ => hLx (by omega)) | (intro h9; exfalso; omega)) (fun (h : y223 = 0) => absurd h (by omega))) (fun rr330 k331 => ?_)
            obtain ⟨m332, x334, hT333, g335, h336, h337, c338, rfl⟩ := k331
            refine ⟨_, _, rfl, ?_⟩
            refine T_nf2 (st' := [.long (i64 x334), .int (i32 ((8 * d) + ((m.2 42) d))), .ref 260]) (l' := [(7, (m332.1 7)), (8, (m332.1 8)), (9, (m332.1 9)), (10, (m332.1 10)), (11, (m332.1 11)), (12, (m332.1 12)), (13, (m.1 13)), (23, (m.1 23))]) (a' := [(14, (m.2 14)), (15, (m.2 15)), (16, (m.2 16)), (17, (m.2 17)), (37, (m.2 37)), (38, (m.2 38)), (42, (m.2 42)), (45, (m.2 45)), (97, upI (m.2 97) ((8 * d) + ((m.2 42) d)) x125), (98, upI (m.2 98) ((8 * d) + ((m.2 42) d)) (-1))]) [7, 8, 9, 10, 11, 12] [] rfl ⟨rfl, rfl, rfl, rfl, rfl, rfl, rfl, rfl, rfl, rfl, rfl, rfl, rfl, rfl, rfl, rfl, trivial⟩ ⟨rfl, rfl, rfl, rfl, rfl, rfl, rfl, rfl, rfl, rfl, rfl, rfl, rfl, rfl, rfl, rfl, rfl, rfl, rfl, rfl, trivial⟩ rfl rfl (by decide) (by decide) ?_
            obtain ⟨g335a, g335b⟩ := g335
            have g339 : 0 ≤ m332.1 7 ∧ m332.1 7 ≤ 330 := hT333.1 7
            have g340 : 0 ≤ m332.1 8 ∧ m332.1 8 ≤ 4000 := hT333.1 8
            have g341 : 0 ≤ m332.1 9 ∧ m332.1 9 ≤ 4000 := hT333.1 9
            have g342 : 0 ≤ m332.1 10 ∧ m332.1 10 ≤ 8 := hT333.1 10
            have g343 : (-1) ≤ m332.1 11 ∧ m332.1 11 ≤ 4000 := hT333.1 11
            have g344 : (-9223372036854775808) ≤ m332.1 12 ∧ m332.1 12 ≤ 9223372036854775807 := hT333.1 12
            replace h336 : (m332.1 10) = 0 → y223 = 0 := h336
            replace h337 : LxP (m332.1 7) (m332.1 8) (m332.1 9) (m.1 6) (m332.1 10) := h337
            have hf345 : 1 ≤ (m332.1 10) := by omega
            clear c338
            clear h336
            have hLx := h337
            clear g218 g220 g222 g224 g226 g228 h229 hf328
            refine Tm_lv (a := [(0, .ref 189), (1, .int (i32 d)), (2, .int (i32 ((8 * d) + ((m.2 42) d))))]) rfl rfl ⟨rfl, rfl, rfl, trivial⟩ ?_
            exact J100_86 x334 (mO m [(7, (m332.1 7)), (8, (m332.1 8)), (9, (m332.1 9)), (10, (m332.1 10)), (11, (m332.1 11)), (12, (m332.1 12)), (13, (m.1 13)), (23, (m.1 23))] [(14, (m.2 14)), (15, (m.2 15)), (16, (m.2 16)), (17, (m.2 17)), (37, (m.2 37)), (38, (m.2 38)), (42, (m.2 42)), (45, (m.2 45)), (97, upI (m.2 97) ((8 * d) + ((m.2 42) d)) x125), (98, upI (m.2 98) ((8 * d) + ((m.2 42) d)) (-1))]) (r64 (by omega) (by omega)) (Ty_mO hT rfl rfl ⟨(hT333.1 7), (hT333.1 8), (hT333.1 9), (hT333.1 10), (hT333.1 11), (hT333.1 12), f13, f23, trivial⟩ ⟨(hT.2.1 14), (hT.2.1 15), (hT.2.1 16), (hT.2.1 17), (hT.2.1 37), (hT.2.1 38), (hT.2.1 42), (hT.2.1 45), G140, G141, trivial⟩) (show 1 ≤ (m332.1 10) by omega) (show (m332.1 10) ≤ 8 by omega) (show ∀ k, (m.2 14) k + (m.2 15) k ≤ 4000 by first | exact hNM) (show (m.2 42) d ≤ 7 by omega) (show 0 ≤ ((8 * d) + ((m.2 42) d)) ∧ ((8 * d) + ((m.2 42) d)) ≤ 127 by omega) (show 0 ≤ (8 * d) + ((m.2 42) d) ∧ (8 * d) + ((m.2 42) d) ≤ 127 by omega)
      · skip
        clear c129
        clear h127
        replace h128 : LxP (m123.1 7) (m123.1 8) (m123.1 9) (m.1 6) (m123.1 10) := h128
        have hLx := h128
        have hf346 : 1 ≤ (m123.1 10) := by omega
        have G347 : ∀ j, (-9223372036854775808) ≤ (upI (m.2 97) ((8 * d) + ((m.2 42) d)) x125) j ∧ (upI (m.2 97) ((8 * d) + ((m.2 42) d)) x125) j ≤ 9223372036854775807 := upI_rg (hT.2.1 97) ⟨by omega, by omega⟩
        refine T_last (a' := [(14, (m.2 14)), (15, (m.2 15)), (16, (m.2 16)), (17, (m.2 17)), (37, (m.2 37)), (38, (m.2 38)), (42, (m.2 42)), (45, (m.2 45)), (97, upI (m.2 97) ((8 * d) + ((m.2 42) d)) x125), (98, (m.2 98))]) 56 97 (m.2 97) rfl rfl rfl (by omega) (show ((8 * d) + ((m.2 42) d)) < (128 : Int) by omega) rfl rfl ?_
        refine T_gf 60 (.ref 260) rfl rfl rfl rfl rfl rfl ?_
        refine T_ld 61 (.int (i32 ((8 * d) + ((m.2 42) d)))) rfl (fun _ => rfl) ?_
        refine T_ld 64 (.long (i64 (-1))) rfl (fun _ => rfl) ?_
        have G348 : ∀ j, (-9223372036854775808) ≤ (upI (m.2 98) ((8 * d) + ((m.2 42) d)) (-1)) j ∧ (upI (m.2 98) ((8 * d) + ((m.2 42) d)) (-1)) j ≤ 9223372036854775807 := upI_rg (hT.2.1 98) ⟨by omega, by omega⟩
        refine T_last (a' := [(14, (m.2 14)), (15, (m.2 15)), (16, (m.2 16)), (17, (m.2 17)), (37, (m.2 37)), (38, (m.2 38)), (42, (m.2 42)), (45, (m.2 45)), (97, upI (m.2 97) ((8 * d) + ((m.2 42) d)) x125), (98, upI (m.2 98) ((8 * d) + ((m.2 42) d)) (-1))]) 65 98 (m.2 98) rfl rfl rfl (by omega) (show ((8 * d) + ((m.2 42) d)) < (128 : Int) by omega) rfl rfl ?_
        refine T_gf 69 (.int (i32 (m123.1 10))) rfl rfl rfl rfl rfl rfl ?_
        refine T_if 101 72 rfl rfl rfl (r32 (by omega) (by omega)) (fun (h349 : (m123.1 10) ≠ 0) => ?_) (fun (h349 : ¬ ((m123.1 10) ≠ 0)) => by exfalso; omega)
        refine T_ld 102 (.ref 189) rfl (fun _ => rfl) ?_
        refine T_ld 104 (.int (i32 58)) rfl (fun _ => rfl) ?_
        refine T_call 107 232 [.ref 189, .int (i32 58)] [] rfl (fun _ => rfl) rfl (c_need w (mO m [(7, (m123.1 7)), (8, (m123.1 8)), (9, (m123.1 9)), (10, (m123.1 10)), (11, (m123.1 11)), (12, (m123.1 12)), (13, (m.1 13)), (23, (m.1 23))] [(14, (m.2 14)), (15, (m.2 15)), (16, (m.2 16)), (17, (m.2 17)), (37, (m.2 37)), (38, (m.2 38)), (42, (m.2 42)), (45, (m.2 45)), (97, upI (m.2 97) ((8 * d) + ((m.2 42) d)) x125), (98, upI (m.2 98) ((8 * d) + ((m.2 42) d)) (-1))]) c N D (by omega) (Ty_mO hT rfl rfl ⟨(hT124.1 7), (hT124.1 8), (hT124.1 9), (hT124.1 10), (hT124.1 11), (hT124.1 12), f13, f23, trivial⟩ ⟨(hT.2.1 14), (hT.2.1 15), (hT.2.1 16), (hT.2.1 17), (hT.2.1 37), (hT.2.1 38), (hT.2.1 42), (hT.2.1 45), G347, G348, trivial⟩) 58 ⟨by decide, by decide⟩ (show 1 ≤ (58 : Int) by omega) (show LxP (m123.1 7) (m123.1 8) (m123.1 9) (m.1 6) (m123.1 10) by first | exact hLx | (intro h9; exfalso; omega) | (intro h9; have h8 := hLx (by omega); omega))) (fun rr350 k351 => ?_)
        obtain ⟨y352, y354, y356, y358, y360, y362, g353, g355, g357, g359, g361, g363, h364, h365, h366, h367, rfl⟩ := k351
        refine ⟨_, _, rfl, ?_⟩
        refine T_nf2 (st' := []) (l' := [(7, y352), (8, y354), (9, y356), (10, y358), (11, y360), (12, y362), (13, (m.1 13)), (23, (m.1 23))]) (a' := [(14, (m.2 14)), (15, (m.2 15)), (16, (m.2 16)), (17, (m.2 17)), (37, (m.2 37)), (38, (m.2 38)), (42, (m.2 42)), (45, (m.2 45)), (97, upI (m.2 97) ((8 * d) + ((m.2 42) d)) x125), (98, upI (m.2 98) ((8 * d) + ((m.2 42) d)) (-1))]) [7, 8, 9, 10, 11, 12] [] rfl ⟨rfl, rfl, rfl, rfl, rfl, rfl, rfl, rfl, rfl, rfl, rfl, rfl, rfl, rfl, rfl, rfl, trivial⟩ ⟨rfl, rfl, rfl, rfl, rfl, rfl, rfl, rfl, rfl, rfl, rfl, rfl, rfl, rfl, rfl, rfl, rfl, rfl, rfl, rfl, trivial⟩ rfl rfl (by decide) (by decide) ?_
        replace h364 : LxP y352 y354 y356 (m.1 6) y358 := h364
        replace h365 : y358 = 0 → (m123.1 10) = 0 ∧ (m123.1 7) = (58 : Int) := h365
        replace h366 : (m123.1 8) ≤ y354 := h366
        replace h367 : y358 = 0 → (m123.1 8) + (m123.1 9) ≤ y354 := h367
        have hf368 : 1 ≤ y358 := by omega
        clear h365
        clear h367
        have hLx := h364
        clear g130 g131 g132 g133 g134 g135 h128 hf346 h349 h366
        refine Tm_lv (a := [(0, .ref 189), (1, .int (i32 d)), (2, .int (i32 ((8 * d) + ((m.2 42) d))))]) rfl rfl ⟨rfl, rfl, rfl, trivial⟩ ?_
        exact J107_57 (mO m [(7, y352), (8, y354), (9, y356), (10, y358), (11, y360), (12, y362), (13, (m.1 13)), (23, (m.1 23))] [(14, (m.2 14)), (15, (m.2 15)), (16, (m.2 16)), (17, (m.2 17)), (37, (m.2 37)), (38, (m.2 38)), (42, (m.2 42)), (45, (m.2 45)), (97, upI (m.2 97) ((8 * d) + ((m.2 42) d)) x125), (98, upI (m.2 98) ((8 * d) + ((m.2 42) d)) (-1))]) (Ty_mO hT rfl rfl ⟨g353, g355, g357, g359, g361, g363, f13, f23, trivial⟩ ⟨(hT.2.1 14), (hT.2.1 15), (hT.2.1 16), (hT.2.1 17), (hT.2.1 37), (hT.2.1 38), (hT.2.1 42), (hT.2.1 45), G347, G348, trivial⟩) (show 1 ≤ y358 by omega) (show y358 ≤ 8 by omega) (show ∀ k, (m.2 14) k + (m.2 15) k ≤ 4000 by first | exact hNM) (show (m.2 42) d ≤ 7 by omega) (show 0 ≤ ((8 * d) + ((m.2 42) d)) ∧ ((8 * d) + ((m.2 42) d)) ≤ 127 by omega)
    · skip
      refine T_ld 12 (.ref 189) rfl (fun _ => rfl) ?_
      refine T_ld 13 (.int (i32 4)) rfl (fun _ => rfl) ?_
      refine T_gf 17 (.int (i32 (m.1 8))) rfl rfl rfl rfl rfl rfl ?_
      refine T_call 20 222 [.ref 189, .int (i32 4), .int (i32 (m.1 8))] [] rfl (fun _ => rfl) rfl (c_wrong w (mO m [(7, (m.1 7)), (8, (m.1 8)), (9, (m.1 9)), (10, (m.1 10)), (11, (m.1 11)), (12, (m.1 12)), (13, (m.1 13)), (23, (m.1 23))] [(14, (m.2 14)), (15, (m.2 15)), (16, (m.2 16)), (17, (m.2 17)), (37, (m.2 37)), (38, (m.2 38)), (42, (m.2 42)), (45, (m.2 45)), (97, (m.2 97)), (98, (m.2 98))]) c N D (by omega) (Ty_mO hT rfl rfl ⟨f7, f8, f9, f10, f11, f12, f13, f23, trivial⟩ ⟨(hT.2.1 14), (hT.2.1 15), (hT.2.1 16), (hT.2.1 17), (hT.2.1 37), (hT.2.1 38), (hT.2.1 42), (hT.2.1 45), (hT.2.1 97), (hT.2.1 98), trivial⟩) 4 (m.1 8) ⟨by decide, by decide⟩ (r32 (by omega) (by omega)) (show 1 ≤ (4 : Int) ∧ (4 : Int) ≤ 8 by omega) (show 0 ≤ (m.1 8) ∧ (m.1 8) ≤ 4000 by omega)) (fun rr369 k370 => ?_)
      obtain ⟨y371, y373, g372, g374, h375, rfl⟩ := k370
      refine ⟨_, _, rfl, ?_⟩
      refine T_nf2 (st' := []) (l' := [(7, (m.1 7)), (8, (m.1 8)), (9, (m.1 9)), (10, y371), (11, y373), (12, (m.1 12)), (13, (m.1 13)), (23, (m.1 23))]) (a' := [(14, (m.2 14)), (15, (m.2 15)), (16, (m.2 16)), (17, (m.2 17)), (37, (m.2 37)), (38, (m.2 38)), (42, (m.2 42)), (45, (m.2 45)), (97, (m.2 97)), (98, (m.2 98))]) [10, 11] [] rfl ⟨rfl, rfl, rfl, rfl, rfl, rfl, rfl, rfl, rfl, rfl, rfl, rfl, rfl, rfl, rfl, rfl, rfl, rfl, rfl, trivial⟩ ⟨rfl, rfl, rfl, rfl, rfl, rfl, rfl, rfl, rfl, rfl, rfl, rfl, rfl, rfl, rfl, rfl, rfl, rfl, rfl, rfl, trivial⟩ rfl rfl (by decide) (by decide) ?_
      replace h375 : (0 < (m.1 10) → y371 = (m.1 10) ∧ y373 = (m.1 11)) ∧ ((m.1 10) ≤ 0 → y371 = (4 : Int) ∧ y373 = (m.1 8)) := h375
      have hf376 : 1 ≤ y371 := by omega
      refine T_gf 24 (.int (i32 y371)) rfl rfl rfl rfl rfl rfl ?_
      refine T_if 28 27 rfl rfl rfl (r32 (by omega) (by omega)) (fun (h377 : y371 ≤ 0) => by exfalso; omega) (fun (h377 : ¬ (y371 ≤ 0)) => ?_)
      refine T_ret rfl (fun _ => rfl) ?_
      exact ⟨(mO m [(7, (m.1 7)), (8, (m.1 8)), (9, (m.1 9)), (10, y371), (11, y373), (12, (m.1 12)), (13, (m.1 13)), (23, (m.1 23))] [(14, (m.2 14)), (15, (m.2 15)), (16, (m.2 16)), (17, (m.2 17)), (37, (m.2 37)), (38, (m.2 38)), (42, (m.2 42)), (45, (m.2 45)), (97, (m.2 97)), (98, (m.2 98))]), (Ty_mO hT rfl rfl ⟨f7, f8, f9, g372, g374, f12, f13, f23, trivial⟩ ⟨(hT.2.1 14), (hT.2.1 15), (hT.2.1 16), (hT.2.1 17), (hT.2.1 37), (hT.2.1 38), (hT.2.1 42), (hT.2.1 45), (hT.2.1 97), (hT.2.1 98), trivial⟩), (show y371 = 0 → (m.1 10) = 0 by omega), (show LxP (m.1 7) (m.1 8) (m.1 9) (m.1 6) y371 by first | (first | exact hLx | exact (fun _ => hLx (by omega)) | (intro h9; exfalso; omega)) | (exfalso; omega)), (show ∀ k, (m.2 14) k + (m.2 15) k ≤ 4000 by first | (first | exact hNM | (intro k; rw [hE1, hE2]; have := hNM k; have h7 := hLx0 hf0; unfold upI; split <;> omega)) | (exfalso; omega)), (fun (h : y371 = 0) => absurd h (by omega)), rfl⟩
  · skip
    clear hC
    refine T_gf 4 (.ref 212) rfl rfl rfl rfl rfl rfl ?_
    refine T_ld 5 (.int (i32 d)) rfl (fun _ => rfl) ?_
    refine T_iald 6 42 (m.2 42) rfl rfl rfl (by omega) (show d < (16 : Int) by omega) rfl ?_
    have e378 : 0 ≤ (m.2 42) d ∧ (m.2 42) d ≤ 8 := (hT.2.1 42) d
    refine T_ld 8 (.int (i32 8)) rfl (fun _ => rfl) ?_
    refine T_icmp 20 11 rfl rfl rfl (r32 (by omega) (by omega)) ⟨by decide, by decide⟩ (fun (h379 : (m.2 42) d ≠ 8) => ?_) (fun (h379 : ¬ ((m.2 42) d ≠ 8)) => ?_)
    · skip
      refine T_gf 24 (.int (i32 (m.1 10))) rfl rfl rfl rfl rfl rfl ?_
      refine T_if 28 27 rfl rfl rfl (r32 (by omega) (by omega)) (fun (h380 : (m.1 10) ≤ 0) => by exfalso; omega) (fun (h380 : ¬ ((m.1 10) ≤ 0)) => ?_)
      refine T_ret rfl (fun _ => rfl) ?_
      exact ⟨(mO m [(7, (m.1 7)), (8, (m.1 8)), (9, (m.1 9)), (10, (m.1 10)), (11, (m.1 11)), (12, (m.1 12)), (13, (m.1 13)), (23, (m.1 23))] [(14, (m.2 14)), (15, (m.2 15)), (16, (m.2 16)), (17, (m.2 17)), (37, (m.2 37)), (38, (m.2 38)), (42, (m.2 42)), (45, (m.2 45)), (97, (m.2 97)), (98, (m.2 98))]), (Ty_mO hT rfl rfl ⟨f7, f8, f9, f10, f11, f12, f13, f23, trivial⟩ ⟨(hT.2.1 14), (hT.2.1 15), (hT.2.1 16), (hT.2.1 17), (hT.2.1 37), (hT.2.1 38), (hT.2.1 42), (hT.2.1 45), (hT.2.1 97), (hT.2.1 98), trivial⟩), (show (m.1 10) = 0 → (m.1 10) = 0 by omega), (show LxP (m.1 7) (m.1 8) (m.1 9) (m.1 6) (m.1 10) by first | (first | exact hLx | exact (fun _ => hLx (by omega)) | (intro h9; exfalso; omega)) | (exfalso; omega)), (show ∀ k, (m.2 14) k + (m.2 15) k ≤ 4000 by first | (first | exact hNM | (intro k; rw [hE1, hE2]; have := hNM k; have h7 := hLx0 hf0; unfold upI; split <;> omega)) | (exfalso; omega)), (fun (h : (m.1 10) = 0) => absurd h (by omega)), rfl⟩
    · skip
      refine T_ld 12 (.ref 189) rfl (fun _ => rfl) ?_
      refine T_ld 13 (.int (i32 4)) rfl (fun _ => rfl) ?_
      refine T_gf 17 (.int (i32 (m.1 8))) rfl rfl rfl rfl rfl rfl ?_
      refine T_call 20 222 [.ref 189, .int (i32 4), .int (i32 (m.1 8))] [] rfl (fun _ => rfl) rfl (c_wrong w (mO m [(7, (m.1 7)), (8, (m.1 8)), (9, (m.1 9)), (10, (m.1 10)), (11, (m.1 11)), (12, (m.1 12)), (13, (m.1 13)), (23, (m.1 23))] [(14, (m.2 14)), (15, (m.2 15)), (16, (m.2 16)), (17, (m.2 17)), (37, (m.2 37)), (38, (m.2 38)), (42, (m.2 42)), (45, (m.2 45)), (97, (m.2 97)), (98, (m.2 98))]) c N D (by omega) (Ty_mO hT rfl rfl ⟨f7, f8, f9, f10, f11, f12, f13, f23, trivial⟩ ⟨(hT.2.1 14), (hT.2.1 15), (hT.2.1 16), (hT.2.1 17), (hT.2.1 37), (hT.2.1 38), (hT.2.1 42), (hT.2.1 45), (hT.2.1 97), (hT.2.1 98), trivial⟩) 4 (m.1 8) ⟨by decide, by decide⟩ (r32 (by omega) (by omega)) (show 1 ≤ (4 : Int) ∧ (4 : Int) ≤ 8 by omega) (show 0 ≤ (m.1 8) ∧ (m.1 8) ≤ 4000 by omega)) (fun rr381 k382 => ?_)
      obtain ⟨y383, y385, g384, g386, h387, rfl⟩ := k382
      refine ⟨_, _, rfl, ?_⟩
      refine T_nf2 (st' := []) (l' := [(7, (m.1 7)), (8, (m.1 8)), (9, (m.1 9)), (10, y383), (11, y385), (12, (m.1 12)), (13, (m.1 13)), (23, (m.1 23))]) (a' := [(14, (m.2 14)), (15, (m.2 15)), (16, (m.2 16)), (17, (m.2 17)), (37, (m.2 37)), (38, (m.2 38)), (42, (m.2 42)), (45, (m.2 45)), (97, (m.2 97)), (98, (m.2 98))]) [10, 11] [] rfl ⟨rfl, rfl, rfl, rfl, rfl, rfl, rfl, rfl, rfl, rfl, rfl, rfl, rfl, rfl, rfl, rfl, rfl, rfl, rfl, trivial⟩ ⟨rfl, rfl, rfl, rfl, rfl, rfl, rfl, rfl, rfl, rfl, rfl, rfl, rfl, rfl, rfl, rfl, rfl, rfl, rfl, rfl, trivial⟩ rfl rfl (by decide) (by decide) ?_
      replace h387 : (0 < (m.1 10) → y383 = (m.1 10) ∧ y385 = (m.1 11)) ∧ ((m.1 10) ≤ 0 → y383 = (4 : Int) ∧ y385 = (m.1 8)) := h387
      have hf388 : 1 ≤ y383 := by omega
      refine T_gf 24 (.int (i32 y383)) rfl rfl rfl rfl rfl rfl ?_
      refine T_if 28 27 rfl rfl rfl (r32 (by omega) (by omega)) (fun (h389 : y383 ≤ 0) => by exfalso; omega) (fun (h389 : ¬ (y383 ≤ 0)) => ?_)
      refine T_ret rfl (fun _ => rfl) ?_
      exact ⟨(mO m [(7, (m.1 7)), (8, (m.1 8)), (9, (m.1 9)), (10, y383), (11, y385), (12, (m.1 12)), (13, (m.1 13)), (23, (m.1 23))] [(14, (m.2 14)), (15, (m.2 15)), (16, (m.2 16)), (17, (m.2 17)), (37, (m.2 37)), (38, (m.2 38)), (42, (m.2 42)), (45, (m.2 45)), (97, (m.2 97)), (98, (m.2 98))]), (Ty_mO hT rfl rfl ⟨f7, f8, f9, g384, g386, f12, f13, f23, trivial⟩ ⟨(hT.2.1 14), (hT.2.1 15), (hT.2.1 16), (hT.2.1 17), (hT.2.1 37), (hT.2.1 38), (hT.2.1 42), (hT.2.1 45), (hT.2.1 97), (hT.2.1 98), trivial⟩), (show y383 = 0 → (m.1 10) = 0 by omega), (show LxP (m.1 7) (m.1 8) (m.1 9) (m.1 6) y383 by first | (first | exact hLx | exact (fun _ => hLx (by omega)) | (intro h9; exfalso; omega)) | (exfalso; omega)), (show ∀ k, (m.2 14) k + (m.2 15) k ≤ 4000 by first | (first | exact hNM | (intro k; rw [hE1, hE2]; have := hNM k; have h7 := hLx0 hf0; unfold upI; split <;> omega)) | (exfalso; omega)), (fun (h : y383 = 0) => absurd h (by omega)), rfl⟩
