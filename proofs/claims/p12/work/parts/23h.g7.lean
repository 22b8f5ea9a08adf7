def Q_stateHere (m : mR) (c : Nat → Option am_C) (N : Nat) : ag_Re af_T → Prop := fun R => ∃ (M : mR) (r : Int), Ty M ∧ ((-2) ≤ r ∧ r ≤ 15) ∧ ((M.1 10) = 0 → (m.1 10) = 0) ∧ (LxP (M.1 7) (M.1 8) (M.1 9) (m.1 6) (M.1 10)) ∧ (∀ k, (M.2 14) k + (M.2 15) k ≤ 4000) ∧ (M.1 10 = 0 → ((m.1 8) + 1 ≤ (M.1 8)) ∧ (PN (M.1 13) (m.1 19) (m.1 20) (m.1 21) (m.1 22) (M.1 23) (m.1 25) (m.1 26) (M.2 16) (M.2 17)) ∧ (SOp (M.2 38) (M.1 23) (m.1 24)) ∧ (r < (M.1 23)) ∧ ((m.1 23) ≤ (M.1 23))) ∧ R = (.inl (some (.int (i32 r))), (mhp (mO m [(7, (M.1 7)), (8, (M.1 8)), (9, (M.1 9)), (10, (M.1 10)), (11, (M.1 11)), (12, (M.1 12)), (13, (M.1 13)), (23, (M.1 23))] [(14, (M.2 14)), (15, (M.2 15)), (16, (M.2 16)), (17, (M.2 17)), (37, (M.2 37)), (38, (M.2 38))]) c, N), 0, 0)
set_option maxHeartbeats 8000000 in
theorem c_stateHere (w : wX) (m : mR) (c : Nat → Option am_C) (N D : Nat) (hD : 6 ≤ D) (hT : Ty m) (hLx0 : LxP (m.1 7) (m.1 8) (m.1 9) (m.1 6) (m.1 10)) (hNM0 : ∀ k, (m.2 14) k + (m.2 15) k ≤ 4000) (hC : m.1 10 = 0 → (PN (m.1 13) (m.1 19) (m.1 20) (m.1 21) (m.1 22) (m.1 23) (m.1 25) (m.1 26) (m.2 16) (m.2 17)) ∧ (SOp (m.2 38) (m.1 23) (m.1 24))) : TC w D 242 [.ref 189] (mhp m c, N) (Q_stateHere m c N) := by
  obtain ⟨D, rfl⟩ : ∃ k, D = k + 1 := ⟨D - 1, by omega⟩
  have hLx := hLx0
  have hNM := hNM0
  have f7 : 0 ≤ m.1 7 ∧ m.1 7 ≤ 330 := hT.1 7
  have f8 : 0 ≤ m.1 8 ∧ m.1 8 ≤ 4000 := hT.1 8
  have f9 : 0 ≤ m.1 9 ∧ m.1 9 ≤ 4000 := hT.1 9
  have f10 : 0 ≤ m.1 10 ∧ m.1 10 ≤ 8 := hT.1 10
  have f11 : (-1) ≤ m.1 11 ∧ m.1 11 ≤ 4000 := hT.1 11
  have f12 : (-9223372036854775808) ≤ m.1 12 ∧ m.1 12 ≤ 9223372036854775807 := hT.1 12
  have f13 : 0 ≤ m.1 13 ∧ m.1 13 ≤ 120 := hT.1 13
  have f23 : 0 ≤ m.1 23 ∧ m.1 23 ≤ 16 := hT.1 23
  have f25 : 0 ≤ m.1 25 ∧ m.1 25 ≤ 16 := hT.1 25
  have f22 : 0 ≤ m.1 22 ∧ m.1 22 ≤ 8 := hT.1 22
  have f24 : 0 ≤ m.1 24 ∧ m.1 24 ≤ 16 := hT.1 24
  have f19 : 0 ≤ m.1 19 ∧ m.1 19 ≤ 12 := hT.1 19
  have f20 : 0 ≤ m.1 20 ∧ m.1 20 ≤ 12 := hT.1 20
  have f21 : 0 ≤ m.1 21 ∧ m.1 21 ≤ 16 := hT.1 21
  have f6 : 0 ≤ m.1 6 ∧ m.1 6 ≤ 4000 := hT.1 6
  have f26 : 0 ≤ m.1 26 ∧ m.1 26 ≤ 8 := hT.1 26
  refine Tc_of rfl ?_
  show TT w D pm_242 (0, [(0, .ref 189)], [], (mhp m c, N), 0, 0) (Q_stateHere m c N)
  rw [show (mhp m c, N) = (mhp (mO m [(7, (m.1 7)), (8, (m.1 8)), (9, (m.1 9)), (10, (m.1 10)), (11, (m.1 11)), (12, (m.1 12)), (13, (m.1 13)), (23, (m.1 23))] [(14, (m.2 14)), (15, (m.2 15)), (16, (m.2 16)), (17, (m.2 17)), (37, (m.2 37)), (38, (m.2 38))]) c, N) from congrArg (fun M => (mhp M c, N)) (mO_pad m [7, 8, 9, 10, 11, 12, 13, 23] [14, 15, 16, 17, 37, 38])]
  by_cases hf0 : m.1 10 = 0
  · skip
    obtain ⟨pPN, pSO⟩ := hC hf0
    have hn := pPN.1
    have hNM := hNM0
    refine T_gf 4 (.int (i32 (m.1 10))) rfl rfl rfl rfl rfl rfl ?_
    refine T_if 9 7 rfl rfl rfl (r32 (by omega) (by omega)) (fun (h11 : (m.1 10) ≤ 0) => ?_) (fun (h11 : ¬ ((m.1 10) ≤ 0)) => by exfalso; omega)
    refine T_gf 13 (.int (i32 (m.1 7))) rfl rfl rfl rfl rfl rfl ?_
    refine T_ld 14 (.int (i32 1)) rfl (fun _ => rfl) ?_
    refine T_icmp 23 17 rfl rfl rfl (r32 (by omega) (by omega)) ⟨by decide, by decide⟩ (fun (h12 : (m.1 7) = 1) => ?_) (fun (h12 : ¬ ((m.1 7) = 1)) => ?_)
    · skip
      have h7 := hLx (by omega)
      refine T_ld 24 (.ref 189) rfl (fun _ => rfl) ?_
      refine T_call 27 227 [.ref 189] [] rfl (fun _ => rfl) rfl (c_sortHere w (mO m [(7, (m.1 7)), (8, (m.1 8)), (9, (m.1 9)), (10, (m.1 10)), (11, (m.1 11)), (12, (m.1 12)), (13, (m.1 13)), (23, (m.1 23))] [(14, (m.2 14)), (15, (m.2 15)), (16, (m.2 16)), (17, (m.2 17)), (37, (m.2 37)), (38, (m.2 38))]) c N D (by omega) (Ty_mO hT rfl rfl ⟨f7, f8, f9, f10, f11, f12, f13, f23, trivial⟩ ⟨(hT.2.1 14), (hT.2.1 15), (hT.2.1 16), (hT.2.1 17), (hT.2.1 37), (hT.2.1 38), trivial⟩) (show 1 ≤ (m.1 9) ∧ (m.1 8) + (m.1 9) ≤ (m.1 6) by first | omega | (have h8 := hLx (by omega); omega)) (show ∀ k, (m.2 14) k + (m.2 15) k ≤ 4000 by first | exact hNM | exact p1)) (fun rr13 k14 => ?_)
      obtain ⟨so, g15, h16, h17, rfl⟩ := k14
      refine ⟨_, _, rfl, ?_⟩
      refine T_nf2 (st' := [.int (i32 so)]) (l' := [(7, (m.1 7)), (8, (m.1 8)), (9, (m.1 9)), (10, (m.1 10)), (11, (m.1 11)), (12, (m.1 12)), (13, (m.1 13)), (23, (m.1 23))]) (a' := [(14, (m.2 14)), (15, (m.2 15)), (16, (m.2 16)), (17, (m.2 17)), (37, (m.2 37)), (38, (m.2 38))]) [] [] rfl ⟨rfl, rfl, rfl, rfl, rfl, rfl, rfl, rfl, rfl, rfl, rfl, rfl, rfl, rfl, rfl, rfl, trivial⟩ ⟨rfl, rfl, rfl, rfl, rfl, rfl, rfl, rfl, rfl, rfl, rfl, rfl, trivial⟩ rfl rfl (by decide) (by decide) ?_
      obtain ⟨g15a, g15b⟩ := g15
      replace h16 : ∃ g k, isGH (m.2 4) (m.1 8) (m.1 9) g ∧ (g < 0 → isFH (m.2 4) (m.2 14) (m.2 15) (m.1 8) (m.1 9) (m.1 13) k) ∧ so = sortV (m.2 16) g k := h16
      have hSo := h16
      replace h17 : -1 ≤ so ∧ so ≤ 7 := h17
      have u18 : (m.1 8) ≤ (m.1 8) := by omega
      refine T_sto 28 [(1, .int (i32 so)), (0, .ref 189)] rfl (fun _ => rfl) ?_
      refine T_ld 29 (.int (i32 so)) rfl (fun _ => rfl) ?_
      refine T_ld 30 (.int (i32 5)) rfl (fun _ => rfl) ?_
      refine T_icmp 44 33 rfl rfl rfl (r32 (by omega) (by omega)) ⟨by decide, by decide⟩ (fun (h19 : so ≠ 5) => ?_) (fun (h19 : ¬ (so ≠ 5)) => ?_)
      · skip
        refine T_ld 45 (.int (i32 so)) rfl (fun _ => rfl) ?_
        refine T_ld 46 (.int (i32 (-1))) rfl (fun _ => rfl) ?_
        refine T_icmp 62 49 rfl rfl rfl (r32 (by omega) (by omega)) ⟨by decide, by decide⟩ (fun (h20 : so = (-1)) => ?_) (fun (h20 : ¬ (so = (-1))) => ?_)
        · skip
          refine T_gf 66 (.int (i32 (m.1 23))) rfl rfl rfl rfl rfl rfl ?_
          refine T_ld 68 (.int (i32 16)) rfl (fun _ => rfl) ?_
          refine T_icmp 80 71 rfl rfl rfl (r32 (by omega) (by omega)) ⟨by decide, by decide⟩ (fun (h21 : (m.1 23) ≠ 16) => ?_) (fun (h21 : ¬ ((m.1 23) ≠ 16)) => ?_)
          · skip
            refine T_gf 84 (.int (i32 (m.1 10))) rfl rfl rfl rfl rfl rfl ?_
            refine T_if 89 87 rfl rfl rfl (r32 (by omega) (by omega)) (fun (h22 : (m.1 10) ≤ 0) => ?_) (fun (h22 : ¬ ((m.1 10) ≤ 0)) => by exfalso; omega)
            refine T_gf 93 (.ref 207) rfl rfl rfl rfl rfl rfl ?_
            refine T_gf 97 (.int (i32 (m.1 23))) rfl rfl rfl rfl rfl rfl ?_
            refine T_gf 101 (.int (i32 (m.1 8))) rfl rfl rfl rfl rfl rfl ?_
            have G23 : ∀ j, 0 ≤ (upI (m.2 37) (m.1 23) (m.1 8)) j ∧ (upI (m.2 37) (m.1 23) (m.1 8)) j ≤ 4000 := upI_rg (hT.2.1 37) ⟨by omega, by omega⟩
            refine T_iast (a' := [(14, (m.2 14)), (15, (m.2 15)), (16, (m.2 16)), (17, (m.2 17)), (37, upI (m.2 37) (m.1 23) (m.1 8)), (38, (m.2 38))]) 102 37 (m.2 37) rfl rfl rfl (by omega) (show (m.1 23) < (16 : Int) by omega) rfl rfl ?_
            refine T_gf 106 (.ref 208) rfl rfl rfl rfl rfl rfl ?_
            refine T_gf 110 (.int (i32 (m.1 23))) rfl rfl rfl rfl rfl rfl ?_
            refine T_ld 111 (.int (i32 (-1))) rfl (fun _ => rfl) ?_
            have G24 : ∀ j, (-1) ≤ (upI (m.2 38) (m.1 23) (-1)) j ∧ (upI (m.2 38) (m.1 23) (-1)) j ≤ 15 := upI_rg (hT.2.1 38) ⟨by omega, by omega⟩
            refine T_iast (a' := [(14, (m.2 14)), (15, (m.2 15)), (16, (m.2 16)), (17, (m.2 17)), (37, upI (m.2 37) (m.1 23) (m.1 8)), (38, upI (m.2 38) (m.1 23) (-1))]) 112 38 (m.2 38) rfl rfl rfl (by omega) (show (m.1 23) < (16 : Int) by omega) rfl rfl ?_
            refine T_ld 113 (.ref 189) rfl (fun _ => rfl) ?_
            refine T_ld 114 (.int (i32 5)) rfl (fun _ => rfl) ?_
            refine T_gf 118 (.int (i32 (m.1 23))) rfl rfl rfl rfl rfl rfl ?_
            refine T_call 121 231 [.ref 189, .int (i32 5), .int (i32 (m.1 23))] [] rfl (fun _ => rfl) rfl (c_enter w (mO m [(7, (m.1 7)), (8, (m.1 8)), (9, (m.1 9)), (10, (m.1 10)), (11, (m.1 11)), (12, (m.1 12)), (13, (m.1 13)), (23, (m.1 23))] [(14, (m.2 14)), (15, (m.2 15)), (16, (m.2 16)), (17, (m.2 17)), (37, upI (m.2 37) (m.1 23) (m.1 8)), (38, upI (m.2 38) (m.1 23) (-1))]) c N D (by omega) (Ty_mO hT rfl rfl ⟨f7, f8, f9, f10, f11, f12, f13, f23, trivial⟩ ⟨(hT.2.1 14), (hT.2.1 15), (hT.2.1 16), (hT.2.1 17), G23, G24, trivial⟩) 5 (m.1 23) ⟨by decide, by decide⟩ (r32 (by omega) (by omega)) (show (m.1 13) ≤ 119 by omega) (show 1 ≤ (5 : Int) ∧ (5 : Int) ≤ 7 by omega) (show 0 ≤ (m.1 23) ∧ (m.1 23) ≤ 15 by omega)) (fun rr25 k26 => ?_)
            obtain ⟨y27, F29, F31, F33, F35, g28, G30, G32, G34, G36, h37, h38, h39, h40, h41, rfl⟩ := k26
            refine ⟨_, _, rfl, ?_⟩
            refine T_nf2 (st' := []) (l' := [(7, (m.1 7)), (8, (m.1 8)), (9, (m.1 9)), (10, (m.1 10)), (11, (m.1 11)), (12, (m.1 12)), (13, y27), (23, (m.1 23))]) (a' := [(14, F29), (15, F31), (16, F33), (17, F35), (37, upI (m.2 37) (m.1 23) (m.1 8)), (38, upI (m.2 38) (m.1 23) (-1))]) [13] [14, 15, 16, 17] rfl ⟨rfl, rfl, rfl, rfl, rfl, rfl, rfl, rfl, rfl, rfl, rfl, rfl, rfl, rfl, rfl, rfl, rfl, rfl, rfl, rfl, rfl, rfl, trivial⟩ ⟨rfl, rfl, rfl, rfl, rfl, rfl, rfl, rfl, rfl, rfl, rfl, rfl, trivial⟩ rfl rfl (by decide) (by decide) ?_
            replace h37 : y27 = (m.1 13) + 1 := h37
            have hE0 := h37
            replace h38 : F29 = upI (m.2 14) (m.1 13) (m.1 8) := h38
            have hE1 := h38
            replace h39 : F31 = upI (m.2 15) (m.1 13) (m.1 9) := h39
            have hE2 := h39
            replace h40 : F33 = upI (m.2 16) (m.1 13) (5 : Int) := h40
            have hE3 := h40
            replace h41 : F35 = upI (m.2 17) (m.1 13) (m.1 23) := h41
            have hE4 := h41
            have u42 : (m.1 8) ≤ (m.1 8) := by omega
            refine T_ld 122 (.ref 189) rfl (fun _ => rfl) ?_
            refine T_ld 123 (.ref 189) rfl (fun _ => rfl) ?_
            refine T_gf1 126 (.int (i32 (m.1 23))) rfl rfl rfl rfl ?_
            refine T_ld 127 (.int (i32 1)) rfl (fun _ => rfl) ?_
            refine T_iadd 128 rfl rfl ?_
            refine T_pf (l' := [(7, (m.1 7)), (8, (m.1 8)), (9, (m.1 9)), (10, (m.1 10)), (11, (m.1 11)), (12, (m.1 12)), (13, y27), (23, (m.1 23) + 1)]) 131 ((m.1 23) + 1) rfl rfl rfl rfl rfl rfl ?_
            have g43 : 0 ≤ (m.1 23) + 1 ∧ (m.1 23) + 1 ≤ 16 := ⟨by omega, by omega⟩
            refine T_ld 132 (.ref 189) rfl (fun _ => rfl) ?_
            refine T_call 135 212 [.ref 189] [] rfl (fun _ => rfl) rfl (c_next w (mO m [(7, (m.1 7)), (8, (m.1 8)), (9, (m.1 9)), (10, (m.1 10)), (11, (m.1 11)), (12, (m.1 12)), (13, y27), (23, (m.1 23) + 1)] [(14, F29), (15, F31), (16, F33), (17, F35), (37, upI (m.2 37) (m.1 23) (m.1 8)), (38, upI (m.2 38) (m.1 23) (-1))]) c N D (by omega) (Ty_mO hT rfl rfl ⟨f7, f8, f9, f10, f11, f12, g28, g43, trivial⟩ ⟨G30, G32, G34, G36, G23, G24, trivial⟩) (show (m.1 10) = 0 → (m.1 8) + (m.1 9) ≤ (m.1 6) by first | omega | (intro h9; have h8 := hLx h9; omega))) (fun rr44 k45 => ?_)
            obtain ⟨y46, y48, y50, y52, y54, y56, g47, g49, g51, g53, g55, g57, h58, h59, h60, h61, rfl⟩ := k45
            refine ⟨_, _, rfl, ?_⟩
            refine T_nf2 (st' := []) (l' := [(7, y46), (8, y48), (9, y50), (10, y52), (11, y54), (12, y56), (13, y27), (23, (m.1 23) + 1)]) (a' := [(14, F29), (15, F31), (16, F33), (17, F35), (37, upI (m.2 37) (m.1 23) (m.1 8)), (38, upI (m.2 38) (m.1 23) (-1))]) [7, 8, 9, 10, 11, 12] [] rfl ⟨rfl, rfl, rfl, rfl, rfl, rfl, rfl, rfl, rfl, rfl, rfl, rfl, rfl, rfl, rfl, rfl, trivial⟩ ⟨rfl, rfl, rfl, rfl, rfl, rfl, rfl, rfl, rfl, rfl, rfl, rfl, trivial⟩ rfl rfl (by decide) (by decide) ?_
            by_cases hf62 : y52 = 0
            · skip
              subst hf62
              replace h58 : LxP y46 y48 y50 (m.1 6) (0 : Int) := h58
              have hLx := h58
              replace h59 : (m.1 10) = 0 := h59 rfl
              replace h60 : (m.1 8) ≤ y48 := h60
              replace h61 : (m.1 8) + (m.1 9) ≤ y48 := h61 rfl
              have u63 : (m.1 8) + 1 ≤ y48 := by omega
              clear g53
              refine T_gf 139 (.int (i32 ((m.1 23) + 1))) rfl rfl rfl rfl rfl rfl ?_
              refine T_ld 140 (.int (i32 1)) rfl (fun _ => rfl) ?_
              refine T_isub 141 rfl rfl ?_
              refine T_ret rfl (fun _ => rfl) ?_
              exact ⟨(mO m [(7, y46), (8, y48), (9, y50), (10, 0), (11, y54), (12, y56), (13, y27), (23, (m.1 23) + 1)] [(14, F29), (15, F31), (16, F33), (17, F35), (37, upI (m.2 37) (m.1 23) (m.1 8)), (38, upI (m.2 38) (m.1 23) (-1))]), ((m.1 23) + 1) - 1, (Ty_mO hT rfl rfl ⟨g47, g49, g51, ⟨(by omega : (0 : Int) ≤ 0), (by omega : (0 : Int) ≤ 8)⟩, g55, g57, g28, g43, trivial⟩ ⟨G30, G32, G34, G36, G23, G24, trivial⟩), ⟨by omega, by omega⟩, (show (0 : Int) = 0 → (m.1 10) = 0 by omega), (show LxP y46 y48 y50 (m.1 6) (0 : Int) by first | (first | exact hLx | exact (fun _ => hLx (by omega)) | (intro h9; exfalso; omega)) | (exfalso; omega)), (show ∀ k, F29 k + F31 k ≤ 4000 by first | (first | exact hNM | (intro k; rw [hE1, hE2]; have := hNM k; have h7 := hLx0 hf0; unfold upI; split <;> omega)) | (exfalso; omega)), (fun _ => ⟨(show (m.1 8) + 1 ≤ y48 by omega), (show PN y27 (m.1 19) (m.1 20) (m.1 21) (m.1 22) ((m.1 23) + 1) (m.1 25) (m.1 26) F33 F35 by first | (first | exact pPN | (rw [hE0, hE3, hE4]; exact PN_5 pPN (by omega))) | (exfalso; omega)), (show SOp (upI (m.2 38) (m.1 23) (-1)) ((m.1 23) + 1) (m.1 24) by first | (first | exact pSO | exact SOp_new pSO) | (exfalso; omega)), (show (((m.1 23) + 1) - 1) < ((m.1 23) + 1) by omega), (show (m.1 23) ≤ ((m.1 23) + 1) by omega)⟩), rfl⟩
            · skip
              replace h58 : LxP y46 y48 y50 (m.1 6) y52 := h58
              have hLx := h58
              clear h59
              replace h60 : (m.1 8) ≤ y48 := h60
              clear h61
              have hf64 : 1 ≤ y52 := by omega
              refine T_gf 139 (.int (i32 ((m.1 23) + 1))) rfl rfl rfl rfl rfl rfl ?_
              refine T_ld 140 (.int (i32 1)) rfl (fun _ => rfl) ?_
              refine T_isub 141 rfl rfl ?_
              refine T_ret rfl (fun _ => rfl) ?_
              exact ⟨(mO m [(7, y46), (8, y48), (9, y50), (10, y52), (11, y54), (12, y56), (13, y27), (23, (m.1 23) + 1)] [(14, F29), (15, F31), (16, F33), (17, F35), (37, upI (m.2 37) (m.1 23) (m.1 8)), (38, upI (m.2 38) (m.1 23) (-1))]), ((m.1 23) + 1) - 1, (Ty_mO hT rfl rfl ⟨g47, g49, g51, g53, g55, g57, g28, g43, trivial⟩ ⟨G30, G32, G34, G36, G23, G24, trivial⟩), ⟨by omega, by omega⟩, (show y52 = 0 → (m.1 10) = 0 by omega), (show LxP y46 y48 y50 (m.1 6) y52 by first | (first | exact hLx | exact (fun _ => hLx (by omega)) | (intro h9; exfalso; omega)) | (exfalso; omega)), (show ∀ k, F29 k + F31 k ≤ 4000 by first | (first | exact hNM | (intro k; rw [hE1, hE2]; have := hNM k; have h7 := hLx0 hf0; unfold upI; split <;> omega)) | (exfalso; omega)), (fun (h : y52 = 0) => absurd h (by omega)), rfl⟩
          · skip
            refine T_ld 72 (.ref 189) rfl (fun _ => rfl) ?_
            refine T_ld 73 (.int (i32 4)) rfl (fun _ => rfl) ?_
            refine T_gf 77 (.int (i32 (m.1 8))) rfl rfl rfl rfl rfl rfl ?_
            refine T_call 80 222 [.ref 189, .int (i32 4), .int (i32 (m.1 8))] [] rfl (fun _ => rfl) rfl (c_wrong w (mO m [(7, (m.1 7)), (8, (m.1 8)), (9, (m.1 9)), (10, (m.1 10)), (11, (m.1 11)), (12, (m.1 12)), (13, (m.1 13)), (23, (m.1 23))] [(14, (m.2 14)), (15, (m.2 15)), (16, (m.2 16)), (17, (m.2 17)), (37, (m.2 37)), (38, (m.2 38))]) c N D (by omega) (Ty_mO hT rfl rfl ⟨f7, f8, f9, f10, f11, f12, f13, f23, trivial⟩ ⟨(hT.2.1 14), (hT.2.1 15), (hT.2.1 16), (hT.2.1 17), (hT.2.1 37), (hT.2.1 38), trivial⟩) 4 (m.1 8) ⟨by decide, by decide⟩ (r32 (by omega) (by omega)) (show 1 ≤ (4 : Int) ∧ (4 : Int) ≤ 8 by omega) (show 0 ≤ (m.1 8) ∧ (m.1 8) ≤ 4000 by omega)) (fun rr65 k66 => ?_)
            obtain ⟨y67, y69, g68, g70, h71, rfl⟩ := k66
            refine ⟨_, _, rfl, ?_⟩
            refine T_nf2 (st' := []) (l' := [(7, (m.1 7)), (8, (m.1 8)), (9, (m.1 9)), (10, y67), (11, y69), (12, (m.1 12)), (13, (m.1 13)), (23, (m.1 23))]) (a' := [(14, (m.2 14)), (15, (m.2 15)), (16, (m.2 16)), (17, (m.2 17)), (37, (m.2 37)), (38, (m.2 38))]) [10, 11] [] rfl ⟨rfl, rfl, rfl, rfl, rfl, rfl, rfl, rfl, rfl, rfl, rfl, rfl, rfl, rfl, rfl, rfl, rfl, rfl, rfl, trivial⟩ ⟨rfl, rfl, rfl, rfl, rfl, rfl, rfl, rfl, rfl, rfl, rfl, rfl, trivial⟩ rfl rfl (by decide) (by decide) ?_
            replace h71 : (0 < (m.1 10) → y67 = (m.1 10) ∧ y69 = (m.1 11)) ∧ ((m.1 10) ≤ 0 → y67 = (4 : Int) ∧ y69 = (m.1 8)) := h71
            have hf72 : 1 ≤ y67 := by omega
            refine T_gf 84 (.int (i32 y67)) rfl rfl rfl rfl rfl rfl ?_
            refine T_if 89 87 rfl rfl rfl (r32 (by omega) (by omega)) (fun (h73 : y67 ≤ 0) => by exfalso; omega) (fun (h73 : ¬ (y67 ≤ 0)) => ?_)
            refine T_ld 88 (.int (i32 (-1))) rfl (fun _ => rfl) ?_
            refine T_ret rfl (fun _ => rfl) ?_
            exact ⟨(mO m [(7, (m.1 7)), (8, (m.1 8)), (9, (m.1 9)), (10, y67), (11, y69), (12, (m.1 12)), (13, (m.1 13)), (23, (m.1 23))] [(14, (m.2 14)), (15, (m.2 15)), (16, (m.2 16)), (17, (m.2 17)), (37, (m.2 37)), (38, (m.2 38))]), (-1), (Ty_mO hT rfl rfl ⟨f7, f8, f9, g68, g70, f12, f13, f23, trivial⟩ ⟨(hT.2.1 14), (hT.2.1 15), (hT.2.1 16), (hT.2.1 17), (hT.2.1 37), (hT.2.1 38), trivial⟩), ⟨by omega, by omega⟩, (show y67 = 0 → (m.1 10) = 0 by omega), (show LxP (m.1 7) (m.1 8) (m.1 9) (m.1 6) y67 by first | (first | exact hLx | exact (fun _ => hLx (by omega)) | (intro h9; exfalso; omega)) | (exfalso; omega)), (show ∀ k, (m.2 14) k + (m.2 15) k ≤ 4000 by first | (first | exact hNM | (intro k; rw [hE1, hE2]; have := hNM k; have h7 := hLx0 hf0; unfold upI; split <;> omega)) | (exfalso; omega)), (fun (h : y67 = 0) => absurd h (by omega)), rfl⟩
        · skip
          refine T_ld 50 (.ref 189) rfl (fun _ => rfl) ?_
          refine T_ld 52 (.int (i32 6)) rfl (fun _ => rfl) ?_
          refine T_gf 56 (.int (i32 (m.1 8))) rfl rfl rfl rfl rfl rfl ?_
          refine T_call 59 222 [.ref 189, .int (i32 6), .int (i32 (m.1 8))] [] rfl (fun _ => rfl) rfl (c_wrong w (mO m [(7, (m.1 7)), (8, (m.1 8)), (9, (m.1 9)), (10, (m.1 10)), (11, (m.1 11)), (12, (m.1 12)), (13, (m.1 13)), (23, (m.1 23))] [(14, (m.2 14)), (15, (m.2 15)), (16, (m.2 16)), (17, (m.2 17)), (37, (m.2 37)), (38, (m.2 38))]) c N D (by omega) (Ty_mO hT rfl rfl ⟨f7, f8, f9, f10, f11, f12, f13, f23, trivial⟩ ⟨(hT.2.1 14), (hT.2.1 15), (hT.2.1 16), (hT.2.1 17), (hT.2.1 37), (hT.2.1 38), trivial⟩) 6 (m.1 8) ⟨by decide, by decide⟩ (r32 (by omega) (by omega)) (show 1 ≤ (6 : Int) ∧ (6 : Int) ≤ 8 by omega) (show 0 ≤ (m.1 8) ∧ (m.1 8) ≤ 4000 by omega)) (fun rr74 k75 => ?_)
          obtain ⟨y76, y78, g77, g79, h80, rfl⟩ := k75
          refine ⟨_, _, rfl, ?_⟩
          refine T_nf2 (st' := []) (l' := [(7, (m.1 7)), (8, (m.1 8)), (9, (m.1 9)), (10, y76), (11, y78), (12, (m.1 12)), (13, (m.1 13)), (23, (m.1 23))]) (a' := [(14, (m.2 14)), (15, (m.2 15)), (16, (m.2 16)), (17, (m.2 17)), (37, (m.2 37)), (38, (m.2 38))]) [10, 11] [] rfl ⟨rfl, rfl, rfl, rfl, rfl, rfl, rfl, rfl, rfl, rfl, rfl, rfl, rfl, rfl, rfl, rfl, rfl, rfl, rfl, trivial⟩ ⟨rfl, rfl, rfl, rfl, rfl, rfl, rfl, rfl, rfl, rfl, rfl, rfl, trivial⟩ rfl rfl (by decide) (by decide) ?_
          replace h80 : (0 < (m.1 10) → y76 = (m.1 10) ∧ y78 = (m.1 11)) ∧ ((m.1 10) ≤ 0 → y76 = (6 : Int) ∧ y78 = (m.1 8)) := h80
          have hf81 : 1 ≤ y76 := by omega
          refine T_goto 80 rfl (fun _ => rfl) ?_
          refine T_gf 84 (.int (i32 y76)) rfl rfl rfl rfl rfl rfl ?_
          refine T_if 89 87 rfl rfl rfl (r32 (by omega) (by omega)) (fun (h82 : y76 ≤ 0) => by exfalso; omega) (fun (h82 : ¬ (y76 ≤ 0)) => ?_)
          refine T_ld 88 (.int (i32 (-1))) rfl (fun _ => rfl) ?_
          refine T_ret rfl (fun _ => rfl) ?_
          exact ⟨(mO m [(7, (m.1 7)), (8, (m.1 8)), (9, (m.1 9)), (10, y76), (11, y78), (12, (m.1 12)), (13, (m.1 13)), (23, (m.1 23))] [(14, (m.2 14)), (15, (m.2 15)), (16, (m.2 16)), (17, (m.2 17)), (37, (m.2 37)), (38, (m.2 38))]), (-1), (Ty_mO hT rfl rfl ⟨f7, f8, f9, g77, g79, f12, f13, f23, trivial⟩ ⟨(hT.2.1 14), (hT.2.1 15), (hT.2.1 16), (hT.2.1 17), (hT.2.1 37), (hT.2.1 38), trivial⟩), ⟨by omega, by omega⟩, (show y76 = 0 → (m.1 10) = 0 by omega), (show LxP (m.1 7) (m.1 8) (m.1 9) (m.1 6) y76 by first | (first | exact hLx | exact (fun _ => hLx (by omega)) | (intro h9; exfalso; omega)) | (exfalso; omega)), (show ∀ k, (m.2 14) k + (m.2 15) k ≤ 4000 by first | (first | exact hNM | (intro k; rw [hE1, hE2]; have := hNM k; have h7 := hLx0 hf0; unfold upI; split <;> omega)) | (exfalso; omega)), (fun (h : y76 = 0) => absurd h (by omega)), rfl⟩
      · skip
        refine T_ld 34 (.ref 189) rfl (fun _ => rfl) ?_
        refine T_call 37 237 [.ref 189] [] rfl (fun _ => rfl) rfl (c_whichHere w (mO m [(7, (m.1 7)), (8, (m.1 8)), (9, (m.1 9)), (10, (m.1 10)), (11, (m.1 11)), (12, (m.1 12)), (13, (m.1 13)), (23, (m.1 23))] [(14, (m.2 14)), (15, (m.2 15)), (16, (m.2 16)), (17, (m.2 17)), (37, (m.2 37)), (38, (m.2 38))]) c N D (by omega) (Ty_mO hT rfl rfl ⟨f7, f8, f9, f10, f11, f12, f13, f23, trivial⟩ ⟨(hT.2.1 14), (hT.2.1 15), (hT.2.1 16), (hT.2.1 17), (hT.2.1 37), (hT.2.1 38), trivial⟩) (show 1 ≤ (m.1 9) ∧ (m.1 8) + (m.1 9) ≤ (m.1 6) by first | omega | (have h8 := hLx (by omega); omega)) (show ∀ k, (m.2 14) k + (m.2 15) k ≤ 4000 by first | exact hNM | exact p1) (show ∀ g k, isGH (m.2 4) (m.1 8) (m.1 9) g → g < 0 → isFH (m.2 4) (m.2 14) (m.2 15) (m.1 8) (m.1 9) (m.1 13) k → 0 ≤ k by exact old_ok hSo (by omega))) (fun rr83 k84 => ?_)
        obtain ⟨wi, g85, h86, rfl⟩ := k84
        refine ⟨_, _, rfl, ?_⟩
        refine T_nf2 (st' := [.int (i32 wi)]) (l' := [(7, (m.1 7)), (8, (m.1 8)), (9, (m.1 9)), (10, (m.1 10)), (11, (m.1 11)), (12, (m.1 12)), (13, (m.1 13)), (23, (m.1 23))]) (a' := [(14, (m.2 14)), (15, (m.2 15)), (16, (m.2 16)), (17, (m.2 17)), (37, (m.2 37)), (38, (m.2 38))]) [] [] rfl ⟨rfl, rfl, rfl, rfl, rfl, rfl, rfl, rfl, rfl, rfl, rfl, rfl, rfl, rfl, rfl, rfl, trivial⟩ ⟨rfl, rfl, rfl, rfl, rfl, rfl, rfl, rfl, rfl, rfl, rfl, rfl, trivial⟩ rfl rfl (by decide) (by decide) ?_
        obtain ⟨g85a, g85b⟩ := g85
        replace h86 : ∃ g k, isGH (m.2 4) (m.1 8) (m.1 9) g ∧ (g < 0 → isFH (m.2 4) (m.2 14) (m.2 15) (m.1 8) (m.1 9) (m.1 13) k) ∧ wi = whichV (m.2 17) g k := h86
        have hWi := h86
        have u87 : (m.1 8) ≤ (m.1 8) := by omega
        have hr5 : -2 ≤ wi ∧ wi < (m.1 23) := by
          rcases old_eq hSo hWi (by omega) with ⟨a, b, c⟩ | ⟨a, b⟩ | ⟨k, a, b, c, d⟩
          · omega
          · omega
          · have := PNl_5 pPN k a b (by omega)
            omega
        refine T_sto 38 [(2, .int (i32 wi)), (1, .int (i32 so)), (0, .ref 189)] rfl (fun _ => rfl) ?_
        refine T_ld 39 (.ref 189) rfl (fun _ => rfl) ?_
        refine T_call 42 212 [.ref 189] [] rfl (fun _ => rfl) rfl (c_next w (mO m [(7, (m.1 7)), (8, (m.1 8)), (9, (m.1 9)), (10, (m.1 10)), (11, (m.1 11)), (12, (m.1 12)), (13, (m.1 13)), (23, (m.1 23))] [(14, (m.2 14)), (15, (m.2 15)), (16, (m.2 16)), (17, (m.2 17)), (37, (m.2 37)), (38, (m.2 38))]) c N D (by omega) (Ty_mO hT rfl rfl ⟨f7, f8, f9, f10, f11, f12, f13, f23, trivial⟩ ⟨(hT.2.1 14), (hT.2.1 15), (hT.2.1 16), (hT.2.1 17), (hT.2.1 37), (hT.2.1 38), trivial⟩) (show (m.1 10) = 0 → (m.1 8) + (m.1 9) ≤ (m.1 6) by first | omega | (intro h9; have h8 := hLx h9; omega))) (fun rr88 k89 => ?_)
        obtain ⟨y90, y92, y94, y96, y98, y100, g91, g93, g95, g97, g99, g101, h102, h103, h104, h105, rfl⟩ := k89
        refine ⟨_, _, rfl, ?_⟩
        refine T_nf2 (st' := []) (l' := [(7, y90), (8, y92), (9, y94), (10, y96), (11, y98), (12, y100), (13, (m.1 13)), (23, (m.1 23))]) (a' := [(14, (m.2 14)), (15, (m.2 15)), (16, (m.2 16)), (17, (m.2 17)), (37, (m.2 37)), (38, (m.2 38))]) [7, 8, 9, 10, 11, 12] [] rfl ⟨rfl, rfl, rfl, rfl, rfl, rfl, rfl, rfl, rfl, rfl, rfl, rfl, rfl, rfl, rfl, rfl, trivial⟩ ⟨rfl, rfl, rfl, rfl, rfl, rfl, rfl, rfl, rfl, rfl, rfl, rfl, trivial⟩ rfl rfl (by decide) (by decide) ?_
        by_cases hf106 : y96 = 0
        · skip
          subst hf106
          replace h102 : LxP y90 y92 y94 (m.1 6) (0 : Int) := h102
          have hLx := h102
          replace h103 : (m.1 10) = 0 := h103 rfl
          replace h104 : (m.1 8) ≤ y92 := h104
          replace h105 : (m.1 8) + (m.1 9) ≤ y92 := h105 rfl
          have u107 : (m.1 8) + 1 ≤ y92 := by omega
          clear g97
          refine T_ld 43 (.int (i32 wi)) rfl (fun _ => rfl) ?_
          refine T_ret rfl (fun _ => rfl) ?_
          exact ⟨(mO m [(7, y90), (8, y92), (9, y94), (10, 0), (11, y98), (12, y100), (13, (m.1 13)), (23, (m.1 23))] [(14, (m.2 14)), (15, (m.2 15)), (16, (m.2 16)), (17, (m.2 17)), (37, (m.2 37)), (38, (m.2 38))]), wi, (Ty_mO hT rfl rfl ⟨g91, g93, g95, ⟨(by omega : (0 : Int) ≤ 0), (by omega : (0 : Int) ≤ 8)⟩, g99, g101, f13, f23, trivial⟩ ⟨(hT.2.1 14), (hT.2.1 15), (hT.2.1 16), (hT.2.1 17), (hT.2.1 37), (hT.2.1 38), trivial⟩), ⟨by omega, by omega⟩, (show (0 : Int) = 0 → (m.1 10) = 0 by omega), (show LxP y90 y92 y94 (m.1 6) (0 : Int) by first | (first | exact hLx | exact (fun _ => hLx (by omega)) | (intro h9; exfalso; omega)) | (exfalso; omega)), (show ∀ k, (m.2 14) k + (m.2 15) k ≤ 4000 by first | (first | exact hNM | (intro k; rw [hE1, hE2]; have := hNM k; have h7 := hLx0 hf0; unfold upI; split <;> omega)) | (exfalso; omega)), (fun _ => ⟨(show (m.1 8) + 1 ≤ y92 by omega), (show PN (m.1 13) (m.1 19) (m.1 20) (m.1 21) (m.1 22) (m.1 23) (m.1 25) (m.1 26) (m.2 16) (m.2 17) by first | (first | exact pPN | (rw [hE0, hE3, hE4]; exact PN_5 pPN (by omega))) | (exfalso; omega)), (show SOp (m.2 38) (m.1 23) (m.1 24) by first | (first | exact pSO | exact SOp_new pSO) | (exfalso; omega)), (show wi < (m.1 23) by omega), (show (m.1 23) ≤ (m.1 23) by omega)⟩), rfl⟩
        · skip
          replace h102 : LxP y90 y92 y94 (m.1 6) y96 := h102
          have hLx := h102
          clear h103
          replace h104 : (m.1 8) ≤ y92 := h104
          clear h105
          have hf108 : 1 ≤ y96 := by omega
          refine T_ld 43 (.int (i32 wi)) rfl (fun _ => rfl) ?_
          refine T_ret rfl (fun _ => rfl) ?_
          exact ⟨(mO m [(7, y90), (8, y92), (9, y94), (10, y96), (11, y98), (12, y100), (13, (m.1 13)), (23, (m.1 23))] [(14, (m.2 14)), (15, (m.2 15)), (16, (m.2 16)), (17, (m.2 17)), (37, (m.2 37)), (38, (m.2 38))]), wi, (Ty_mO hT rfl rfl ⟨g91, g93, g95, g97, g99, g101, f13, f23, trivial⟩ ⟨(hT.2.1 14), (hT.2.1 15), (hT.2.1 16), (hT.2.1 17), (hT.2.1 37), (hT.2.1 38), trivial⟩), ⟨by omega, by omega⟩, (show y96 = 0 → (m.1 10) = 0 by omega), (show LxP y90 y92 y94 (m.1 6) y96 by first | (first | exact hLx | exact (fun _ => hLx (by omega)) | (intro h9; exfalso; omega)) | (exfalso; omega)), (show ∀ k, (m.2 14) k + (m.2 15) k ≤ 4000 by first | (first | exact hNM | (intro k; rw [hE1, hE2]; have := hNM k; have h7 := hLx0 hf0; unfold upI; split <;> omega)) | (exfalso; omega)), (fun (h : y96 = 0) => absurd h (by omega)), rfl⟩
    · skip
      refine T_ld 18 (.ref 189) rfl (fun _ => rfl) ?_
      refine T_call 21 226 [.ref 189] [] rfl (fun _ => rfl) rfl (c_bad w (mO m [(7, (m.1 7)), (8, (m.1 8)), (9, (m.1 9)), (10, (m.1 10)), (11, (m.1 11)), (12, (m.1 12)), (13, (m.1 13)), (23, (m.1 23))] [(14, (m.2 14)), (15, (m.2 15)), (16, (m.2 16)), (17, (m.2 17)), (37, (m.2 37)), (38, (m.2 38))]) c N D (by omega) (Ty_mO hT rfl rfl ⟨f7, f8, f9, f10, f11, f12, f13, f23, trivial⟩ ⟨(hT.2.1 14), (hT.2.1 15), (hT.2.1 16), (hT.2.1 17), (hT.2.1 37), (hT.2.1 38), trivial⟩) ) (fun rr109 k110 => ?_)
      obtain ⟨y111, y113, g112, g114, h115, rfl⟩ := k110
      refine ⟨_, _, rfl, ?_⟩
      refine T_nf2 (st' := []) (l' := [(7, (m.1 7)), (8, (m.1 8)), (9, (m.1 9)), (10, y111), (11, y113), (12, (m.1 12)), (13, (m.1 13)), (23, (m.1 23))]) (a' := [(14, (m.2 14)), (15, (m.2 15)), (16, (m.2 16)), (17, (m.2 17)), (37, (m.2 37)), (38, (m.2 38))]) [10, 11] [] rfl ⟨rfl, rfl, rfl, rfl, rfl, rfl, rfl, rfl, rfl, rfl, rfl, rfl, rfl, rfl, rfl, rfl, rfl, rfl, rfl, trivial⟩ ⟨rfl, rfl, rfl, rfl, rfl, rfl, rfl, rfl, rfl, rfl, rfl, rfl, trivial⟩ rfl rfl (by decide) (by decide) ?_
      replace h115 : (0 < (m.1 10) → y111 = (m.1 10) ∧ y113 = (m.1 11)) ∧ ((m.1 10) ≤ 0 → y111 = 1 ∧ y113 = (m.1 8)) := h115
      have hf116 : 1 ≤ y111 := by omega
      refine T_ld 22 (.int (i32 (-1))) rfl (fun _ => rfl) ?_
      refine T_ret rfl (fun _ => rfl) ?_
      exact ⟨(mO m [(7, (m.1 7)), (8, (m.1 8)), (9, (m.1 9)), (10, y111), (11, y113), (12, (m.1 12)), (13, (m.1 13)), (23, (m.1 23))] [(14, (m.2 14)), (15, (m.2 15)), (16, (m.2 16)), (17, (m.2 17)), (37, (m.2 37)), (38, (m.2 38))]), (-1), (Ty_mO hT rfl rfl ⟨f7, f8, f9, g112, g114, f12, f13, f23, trivial⟩ ⟨(hT.2.1 14), (hT.2.1 15), (hT.2.1 16), (hT.2.1 17), (hT.2.1 37), (hT.2.1 38), trivial⟩), ⟨by omega, by omega⟩, (show y111 = 0 → (m.1 10) = 0 by omega), (show LxP (m.1 7) (m.1 8) (m.1 9) (m.1 6) y111 by first | (first | exact hLx | exact (fun _ => hLx (by omega)) | (intro h9; exfalso; omega)) | (exfalso; omega)), (show ∀ k, (m.2 14) k + (m.2 15) k ≤ 4000 by first | (first | exact hNM | (intro k; rw [hE1, hE2]; have := hNM k; have h7 := hLx0 hf0; unfold upI; split <;> omega)) | (exfalso; omega)), (fun (h : y111 = 0) => absurd h (by omega)), rfl⟩
  · skip
    clear hC
    refine T_gf 4 (.int (i32 (m.1 10))) rfl rfl rfl rfl rfl rfl ?_
    refine T_if 9 7 rfl rfl rfl (r32 (by omega) (by omega)) (fun (h117 : (m.1 10) ≤ 0) => by exfalso; omega) (fun (h117 : ¬ ((m.1 10) ≤ 0)) => ?_)
    refine T_ld 8 (.int (i32 (-1))) rfl (fun _ => rfl) ?_
    refine T_ret rfl (fun _ => rfl) ?_
    exact ⟨(mO m [(7, (m.1 7)), (8, (m.1 8)), (9, (m.1 9)), (10, (m.1 10)), (11, (m.1 11)), (12, (m.1 12)), (13, (m.1 13)), (23, (m.1 23))] [(14, (m.2 14)), (15, (m.2 15)), (16, (m.2 16)), (17, (m.2 17)), (37, (m.2 37)), (38, (m.2 38))]), (-1), (Ty_mO hT rfl rfl ⟨f7, f8, f9, f10, f11, f12, f13, f23, trivial⟩ ⟨(hT.2.1 14), (hT.2.1 15), (hT.2.1 16), (hT.2.1 17), (hT.2.1 37), (hT.2.1 38), trivial⟩), ⟨by omega, by omega⟩, (show (m.1 10) = 0 → (m.1 10) = 0 by omega), (show LxP (m.1 7) (m.1 8) (m.1 9) (m.1 6) (m.1 10) by first | (first | exact hLx | exact (fun _ => hLx (by omega)) | (intro h9; exfalso; omega)) | (exfalso; omega)), (show ∀ k, (m.2 14) k + (m.2 15) k ≤ 4000 by first | (first | exact hNM | (intro k; rw [hE1, hE2]; have := hNM k; have h7 := hLx0 hf0; unfold upI; split <;> omega)) | (exfalso; omega)), (fun (h : (m.1 10) = 0) => absurd h (by omega)), rfl⟩
def Q_takeExtract (m : mR) (c : Nat → Option am_C) (N : Nat) (d : Int) : ag_Re af_T → Prop := fun R => ∃ (M : mR), Ty M ∧ ((M.1 10) = 0 → (m.1 10) = 0) ∧ (LxP (M.1 7) (M.1 8) (M.1 9) (m.1 6) (M.1 10)) ∧ (M.1 10 = 0 → ((m.1 8) + 1 ≤ (M.1 8))) ∧ R = (.inl (none), (mhp (mO m [(7, (M.1 7)), (8, (M.1 8)), (9, (M.1 9)), (10, (M.1 10)), (11, (M.1 11)), (12, (M.1 12))] [(41, (M.2 41)), (94, (M.2 94))]) c, N), 0, 0)
set_option maxHeartbeats 8000000 in
theorem c_takeExtract (w : wX) (m : mR) (c : Nat → Option am_C) (N D : Nat) (hD : 7 ≤ D) (hT : Ty m) (d : Int) (qd : R32 d) (hLx0 : LxP (m.1 7) (m.1 8) (m.1 9) (m.1 6) (m.1 10)) (hNM0 : ∀ k, (m.2 14) k + (m.2 15) k ≤ 4000) (p2 : 0 ≤ d ∧ d ≤ 15) (hC : m.1 10 = 0 → (PN (m.1 13) (m.1 19) (m.1 20) (m.1 21) (m.1 22) (m.1 23) (m.1 25) (m.1 26) (m.2 16) (m.2 17))) : TC w D 241 [.ref 189, .int (i32 d)] (mhp m c, N) (Q_takeExtract m c N d) := by
  obtain ⟨D, rfl⟩ : ∃ k, D = k + 1 := ⟨D - 1, by omega⟩
  obtain ⟨qda, qdb⟩ := id qd
  have hLx := hLx0
  have hNM := hNM0
  have f7 : 0 ≤ m.1 7 ∧ m.1 7 ≤ 330 := hT.1 7
  have f8 : 0 ≤ m.1 8 ∧ m.1 8 ≤ 4000 := hT.1 8
  have f9 : 0 ≤ m.1 9 ∧ m.1 9 ≤ 4000 := hT.1 9
  have f10 : 0 ≤ m.1 10 ∧ m.1 10 ≤ 8 := hT.1 10
  have f11 : (-1) ≤ m.1 11 ∧ m.1 11 ≤ 4000 := hT.1 11
  have f12 : (-9223372036854775808) ≤ m.1 12 ∧ m.1 12 ≤ 9223372036854775807 := hT.1 12
  have f25 : 0 ≤ m.1 25 ∧ m.1 25 ≤ 16 := hT.1 25
  have f22 : 0 ≤ m.1 22 ∧ m.1 22 ≤ 8 := hT.1 22
  have f19 : 0 ≤ m.1 19 ∧ m.1 19 ≤ 12 := hT.1 19
  have f20 : 0 ≤ m.1 20 ∧ m.1 20 ≤ 12 := hT.1 20
  have f21 : 0 ≤ m.1 21 ∧ m.1 21 ≤ 16 := hT.1 21
  have f13 : 0 ≤ m.1 13 ∧ m.1 13 ≤ 120 := hT.1 13
  have f6 : 0 ≤ m.1 6 ∧ m.1 6 ≤ 4000 := hT.1 6
  have f23 : 0 ≤ m.1 23 ∧ m.1 23 ≤ 16 := hT.1 23
  have f26 : 0 ≤ m.1 26 ∧ m.1 26 ≤ 8 := hT.1 26
  refine Tc_of rfl ?_
  show TT w D pm_241 (0, [(0, .ref 189), (1, .int (i32 d))], [], (mhp m c, N), 0, 0) (Q_takeExtract m c N d)
  rw [show (mhp m c, N) = (mhp (mO m [(7, (m.1 7)), (8, (m.1 8)), (9, (m.1 9)), (10, (m.1 10)), (11, (m.1 11)), (12, (m.1 12))] [(41, (m.2 41)), (94, (m.2 94))]) c, N) from congrArg (fun M => (mhp M c, N)) (mO_pad m [7, 8, 9, 10, 11, 12] [41, 94])]
  by_cases hf0 : m.1 10 = 0
  · skip
    have pPN := hC hf0
    have h7 := hLx (by omega)
    have J59_7 : ∀ (m6 : mR), (Ty m6) → (1 ≤ (m6.1 10)) → ((m6.1 10) ≤ 8) → ((m.2 41) d ≤ 5) → TT w D pm_241 (59, [(0, .ref 189), (1, .int (i32 d))], [], (mhp (mO m [(7, (m6.1 7)), (8, (m6.1 8)), (9, (m6.1 9)), (10, (m6.1 10)), (11, (m6.1 11)), (12, (m6.1 12))] [(41, (m.2 41)), (94, (m6.2 94))]) c, N), 0, 0) (Q_takeExtract m c N d) := by
      intro m6 q8 ic9 ic10 ic11
      have q8_7 : 0 ≤ m6.1 7 ∧ m6.1 7 ≤ 330 := q8.1 7
      have q8_8 : 0 ≤ m6.1 8 ∧ m6.1 8 ≤ 4000 := q8.1 8
      have q8_9 : 0 ≤ m6.1 9 ∧ m6.1 9 ≤ 4000 := q8.1 9
      have q8_10 : 0 ≤ m6.1 10 ∧ m6.1 10 ≤ 8 := q8.1 10
      have q8_11 : (-1) ≤ m6.1 11 ∧ m6.1 11 ≤ 4000 := q8.1 11
      have q8_12 : (-9223372036854775808) ≤ m6.1 12 ∧ m6.1 12 ≤ 9223372036854775807 := q8.1 12
      refine T_gf 63 (.ref 211) rfl rfl rfl rfl rfl rfl ?_
      refine T_ld 64 (.int (i32 d)) rfl (fun _ => rfl) ?_
      refine T_dup2 65 rfl (fun _ => rfl) ?_
      refine T_iald 66 41 (m.2 41) rfl rfl rfl (by omega) (show d < (16 : Int) by omega) rfl ?_
      have e13 : 0 ≤ (m.2 41) d ∧ (m.2 41) d ≤ 6 := (hT.2.1 41) d
      refine T_ld 67 (.int (i32 1)) rfl (fun _ => rfl) ?_
      refine T_iadd 68 rfl rfl ?_
      have G14 : ∀ j, 0 ≤ (upI (m.2 41) d (((m.2 41) d) + 1)) j ∧ (upI (m.2 41) d (((m.2 41) d) + 1)) j ≤ 6 := upI_rg (hT.2.1 41) ⟨by omega, by omega⟩
      refine T_iast (a' := [(41, upI (m.2 41) d (((m.2 41) d) + 1)), (94, (m6.2 94))]) 69 41 (m.2 41) rfl rfl rfl (by omega) (show d < (16 : Int) by omega) rfl rfl ?_
      refine T_ret rfl (fun _ => rfl) ?_
      exact ⟨(mO m [(7, (m6.1 7)), (8, (m6.1 8)), (9, (m6.1 9)), (10, (m6.1 10)), (11, (m6.1 11)), (12, (m6.1 12))] [(41, upI (m.2 41) d (((m.2 41) d) + 1)), (94, (m6.2 94))]), (Ty_mO hT rfl rfl ⟨(q8.1 7), (q8.1 8), (q8.1 9), (q8.1 10), (q8.1 11), (q8.1 12), trivial⟩ ⟨G14, (q8.2.1 94), trivial⟩), (show (m6.1 10) = 0 → (m.1 10) = 0 by omega), (show LxP (m6.1 7) (m6.1 8) (m6.1 9) (m.1 6) (m6.1 10) by first | (first | exact hLx | exact (fun _ => hLx (by omega)) | (intro h9; exfalso; omega)) | (exfalso; omega)), (fun (h : (m6.1 10) = 0) => absurd h (by omega)), rfl⟩
    have J52_17 : ∀ (s15 : Int) (m16 : mR), (R32 s15) → (Ty m16) → (0 ≤ s15) → (s15 ≤ 11) → (1 ≤ (m16.1 10)) → ((m16.1 10) ≤ 8) → ((m.2 41) d ≤ 5) → TT w D pm_241 (52, [(0, .ref 189), (1, .int (i32 d))], [.int (i32 s15), .int (i32 ((6 * d) + ((m.2 41) d))), .ref 256], (mhp (mO m [(7, (m16.1 7)), (8, (m16.1 8)), (9, (m16.1 9)), (10, (m16.1 10)), (11, (m16.1 11)), (12, (m16.1 12))] [(41, (m.2 41)), (94, (m.2 94))]) c, N), 0, 0) (Q_takeExtract m c N d) := by
      intro s15 m16 q18 q19 ic20 ic21 ic22 ic23 ic24
      obtain ⟨q18a, q18b⟩ := id q18
      have q19_7 : 0 ≤ m16.1 7 ∧ m16.1 7 ≤ 330 := q19.1 7
      have q19_8 : 0 ≤ m16.1 8 ∧ m16.1 8 ≤ 4000 := q19.1 8
      have q19_9 : 0 ≤ m16.1 9 ∧ m16.1 9 ≤ 4000 := q19.1 9
      have q19_10 : 0 ≤ m16.1 10 ∧ m16.1 10 ≤ 8 := q19.1 10
      have q19_11 : (-1) ≤ m16.1 11 ∧ m16.1 11 ≤ 4000 := q19.1 11
      have q19_12 : (-9223372036854775808) ≤ m16.1 12 ∧ m16.1 12 ≤ 9223372036854775807 := q19.1 12
      have G26 : ∀ j, 0 ≤ (upI (m.2 94) ((6 * d) + ((m.2 41) d)) s15) j ∧ (upI (m.2 94) ((6 * d) + ((m.2 41) d)) s15) j ≤ 11 := upI_rg (hT.2.1 94) ⟨by omega, by omega⟩
      refine T_iast (a' := [(41, (m.2 41)), (94, upI (m.2 94) ((6 * d) + ((m.2 41) d)) s15)]) 53 94 (m.2 94) rfl rfl rfl (by omega) (show ((6 * d) + ((m.2 41) d)) < (96 : Int) by omega) rfl rfl ?_
      refine T_ld 54 (.ref 189) rfl (fun _ => rfl) ?_
      refine T_ld 56 (.int (i32 59)) rfl (fun _ => rfl) ?_
      refine T_call 59 232 [.ref 189, .int (i32 59)] [] rfl (fun _ => rfl) rfl (c_need w (mO m [(7, (m16.1 7)), (8, (m16.1 8)), (9, (m16.1 9)), (10, (m16.1 10)), (11, (m16.1 11)), (12, (m16.1 12))] [(41, (m.2 41)), (94, upI (m.2 94) ((6 * d) + ((m.2 41) d)) s15)]) c N D (by omega) (Ty_mO hT rfl rfl ⟨(q19.1 7), (q19.1 8), (q19.1 9), (q19.1 10), (q19.1 11), (q19.1 12), trivial⟩ ⟨(hT.2.1 41), G26, trivial⟩) 59 ⟨by decide, by decide⟩ (show 1 ≤ (59 : Int) by omega) (show LxP (m16.1 7) (m16.1 8) (m16.1 9) (m.1 6) (m16.1 10) by first | exact hLx | (intro h9; exfalso; omega) | (intro h9; have h8 := hLx (by omega); omega))) (fun rr27 k28 => ?_)
      obtain ⟨y29, y31, y33, y35, y37, y39, g30, g32, g34, g36, g38, g40, h41, h42, h43, h44, rfl⟩ := k28
      refine ⟨_, _, rfl, ?_⟩
      refine T_nf2 (st' := []) (l' := [(7, y29), (8, y31), (9, y33), (10, y35), (11, y37), (12, y39)]) (a' := [(41, (m.2 41)), (94, upI (m.2 94) ((6 * d) + ((m.2 41) d)) s15)]) [7, 8, 9, 10, 11, 12] [] rfl ⟨rfl, rfl, rfl, rfl, rfl, rfl, rfl, rfl, rfl, rfl, rfl, rfl, trivial⟩ ⟨rfl, rfl, rfl, rfl, trivial⟩ rfl rfl (by decide) (by decide) ?_
      replace h41 : LxP y29 y31 y33 (m.1 6) y35 := h41
      replace h42 : y35 = 0 → (m16.1 10) = 0 ∧ (m16.1 7) = (59 : Int) := h42
      replace h43 : (m16.1 8) ≤ y31 := h43
      replace h44 : y35 = 0 → (m16.1 8) + (m16.1 9) ≤ y31 := h44
      have hf45 : 1 ≤ y35 := by omega
      clear h42
      clear h44
      have hLx := h41
      clear q19_7 q19_8 q19_9 q19_10 q19_11 q19_12 ic22 ic23 h43
      exact J59_7 (mO m [(7, y29), (8, y31), (9, y33), (10, y35), (11, y37), (12, y39)] [(41, (m.2 41)), (94, upI (m.2 94) ((6 * d) + ((m.2 41) d)) s15)]) (Ty_mO hT rfl rfl ⟨g30, g32, g34, g36, g38, g40, trivial⟩ ⟨(hT.2.1 41), G26, trivial⟩) (show 1 ≤ y35 by omega) (show y35 ≤ 8 by omega) (show (m.2 41) d ≤ 5 by omega)
    refine T_gf 4 (.ref 211) rfl rfl rfl rfl rfl rfl ?_
    refine T_ld 5 (.int (i32 d)) rfl (fun _ => rfl) ?_
    refine T_iald 6 41 (m.2 41) rfl rfl rfl (by omega) (show d < (16 : Int) by omega) rfl ?_
    have e46 : 0 ≤ (m.2 41) d ∧ (m.2 41) d ≤ 6 := (hT.2.1 41) d
    refine T_ld 8 (.int (i32 6)) rfl (fun _ => rfl) ?_
    refine T_icmp 20 11 rfl rfl rfl (r32 (by omega) (by omega)) ⟨by decide, by decide⟩ (fun (h47 : (m.2 41) d ≠ 6) => ?_) (fun (h47 : ¬ ((m.2 41) d ≠ 6)) => ?_)
    · skip
      refine T_gf 24 (.int (i32 (m.1 10))) rfl rfl rfl rfl rfl rfl ?_
      refine T_if 28 27 rfl rfl rfl (r32 (by omega) (by omega)) (fun (h48 : (m.1 10) ≤ 0) => ?_) (fun (h48 : ¬ ((m.1 10) ≤ 0)) => by exfalso; omega)
      refine T_ld 29 (.ref 189) rfl (fun _ => rfl) ?_
      refine T_call 32 212 [.ref 189] [] rfl (fun _ => rfl) rfl (c_next w (mO m [(7, (m.1 7)), (8, (m.1 8)), (9, (m.1 9)), (10, (m.1 10)), (11, (m.1 11)), (12, (m.1 12))] [(41, (m.2 41)), (94, (m.2 94))]) c N D (by omega) (Ty_mO hT rfl rfl ⟨f7, f8, f9, f10, f11, f12, trivial⟩ ⟨(hT.2.1 41), (hT.2.1 94), trivial⟩) (show (m.1 10) = 0 → (m.1 8) + (m.1 9) ≤ (m.1 6) by first | omega | (intro h9; have h8 := hLx h9; omega))) (fun rr49 k50 => ?_)
      obtain ⟨y51, y53, y55, y57, y59, y61, g52, g54, g56, g58, g60, g62, h63, h64, h65, h66, rfl⟩ := k50
      refine ⟨_, _, rfl, ?_⟩
      refine T_nf2 (st' := []) (l' := [(7, y51), (8, y53), (9, y55), (10, y57), (11, y59), (12, y61)]) (a' := [(41, (m.2 41)), (94, (m.2 94))]) [7, 8, 9, 10, 11, 12] [] rfl ⟨rfl, rfl, rfl, rfl, rfl, rfl, rfl, rfl, rfl, rfl, rfl, rfl, trivial⟩ ⟨rfl, rfl, rfl, rfl, trivial⟩ rfl rfl (by decide) (by decide) ?_
      by_cases hf67 : y57 = 0
      · skip
        subst hf67
        replace h63 : LxP y51 y53 y55 (m.1 6) (0 : Int) := h63
        have hLx := h63
        replace h64 : (m.1 10) = 0 := h64 rfl
        replace h65 : (m.1 8) ≤ y53 := h65
        replace h66 : (m.1 8) + (m.1 9) ≤ y53 := h66 rfl
        have u68 : (m.1 8) + 1 ≤ y53 := by omega
        clear g58
        refine T_gf 36 (.ref 256) rfl rfl rfl rfl rfl rfl ?_
        refine T_ld 38 (.int (i32 6)) rfl (fun _ => rfl) ?_
        refine T_ld 39 (.int (i32 d)) rfl (fun _ => rfl) ?_
        refine T_imul 40 rfl rfl ?_
        refine T_gf 44 (.ref 211) rfl rfl rfl rfl rfl rfl ?_
        refine T_ld 45 (.int (i32 d)) rfl (fun _ => rfl) ?_
        refine T_iald 46 41 (m.2 41) rfl rfl rfl (by omega) (show d < (16 : Int) by omega) rfl ?_
        have e69 : 0 ≤ (m.2 41) d ∧ (m.2 41) d ≤ 6 := (hT.2.1 41) d
        refine T_iadd 47 rfl rfl ?_
        refine T_ld 48 (.ref 189) rfl (fun _ => rfl) ?_
        refine T_ld 49 (.int (i32 2)) rfl (fun _ => rfl) ?_
        have hOL : (0 : Int) = 0 → ∀ k, 0 ≤ k → k < (m.1 13) → (m.2 16) k = 2 → 0 ≤ (m.2 17) k ∧ (m.2 17) k < 12 := fun _ k h1 h2 h3 => by
          have h4 := PNl_2 pPN k h1 h2 h3
          omega
        refine T_call 52 236 [.ref 189, .int (i32 2)] [.int (i32 ((6 * d) + ((m.2 41) d))), .ref 256] rfl (fun _ => rfl) rfl (c_oldName w (mO m [(7, y51), (8, y53), (9, y55), (10, 0), (11, y59), (12, y61)] [(41, (m.2 41)), (94, (m.2 94))]) c N D (by omega) (Ty_mO hT rfl rfl ⟨g52, g54, g56, ⟨(by omega : (0 : Int) ≤ 0), (by omega : (0 : Int) ≤ 8)⟩, g60, g62, trivial⟩ ⟨(hT.2.1 41), (hT.2.1 94), trivial⟩) 2 12 ⟨by decide, by decide⟩ (show LxP y51 y53 y55 (m.1 6) (0 : Int) by first | exact hLx | (intro h9; exfalso; omega) | (intro h9; have h8 := hLx (by omega); omega)) (show ∀ k, (m.2 14) k + (m.2 15) k ≤ 4000 by first | exact p1 | exact hNM) (show 1 ≤ (2 : Int) ∧ (2 : Int) ≤ 7 ∧ (2 : Int) ≠ 5 by omega) (show 12 ≤ 16 by omega) (show (0 : Int) = 0 → ∀ k, 0 ≤ k → k < (m.1 13) → (m.2 16) k = (2 : Int) → 0 ≤ (m.2 17) k ∧ (m.2 17) k < 12 by first | exact hOL | (intro h; exfalso; omega)) (show (2 : Int) = 3 → 3 ≤ 12 by omega)) (fun rr70 k71 => ?_)
        obtain ⟨y72, y74, y76, y78, y80, y82, oo, g73, g75, g77, g79, g81, g83, g84, h85, h86, h87, h88, h89, h90, rfl⟩ := k71
        refine ⟨_, _, rfl, ?_⟩
        refine T_nf2 (st' := [.int (i32 oo), .int (i32 ((6 * d) + ((m.2 41) d))), .ref 256]) (l' := [(7, y72), (8, y74), (9, y76), (10, y78), (11, y80), (12, y82)]) (a' := [(41, (m.2 41)), (94, (m.2 94))]) [7, 8, 9, 10, 11, 12] [] rfl ⟨rfl, rfl, rfl, rfl, rfl, rfl, rfl, rfl, rfl, rfl, rfl, rfl, trivial⟩ ⟨rfl, rfl, rfl, rfl, trivial⟩ rfl rfl (by decide) (by decide) ?_
        obtain ⟨g84a, g84b⟩ := g84
        by_cases hf91 : y78 = 0
        · skip
          subst hf91
          replace h85 : LxP y72 y74 y76 (m.1 6) (0 : Int) := h85
          have hLx := h85
          replace h86 : y53 ≤ y74 := h86
          replace h87 : (0 : Int) = 0 ∧ y53 + y55 ≤ y74 := h87 rfl
          replace h88 : y51 = 1 := h88 rfl
          replace h89 : 0 ≤ oo ∧ (oo < 12 ∨ oo = 0) := h89
          replace h90 : oo < 12 := h90 rfl
          have u92 : (m.1 8) + 1 ≤ y74 := by omega
          clear g52 g54 g56 g60 g62 h63 h65 h66 u68 g79 h86 h87 h88
          have G93 : ∀ j, 0 ≤ (upI (m.2 94) ((6 * d) + ((m.2 41) d)) oo) j ∧ (upI (m.2 94) ((6 * d) + ((m.2 41) d)) oo) j ≤ 11 := upI_rg (hT.2.1 94) ⟨by omega, by omega⟩
          refine T_iast (a' := [(41, (m.2 41)), (94, upI (m.2 94) ((6 * d) + ((m.2 41) d)) oo)]) 53 94 (m.2 94) rfl rfl rfl (by omega) (show ((6 * d) + ((m.2 41) d)) < (96 : Int) by omega) rfl rfl ?_
          refine T_ld 54 (.ref 189) rfl (fun _ => rfl) ?_
          refine T_ld 56 (.int (i32 59)) rfl (fun _ => rfl) ?_
          refine T_call 59 232 [.ref 189, .int (i32 59)] [] rfl (fun _ => rfl) rfl (c_need w (mO m [(7, y72), (8, y74), (9, y76), (10, 0), (11, y80), (12, y82)] [(41, (m.2 41)), (94, upI (m.2 94) ((6 * d) + ((m.2 41) d)) oo)]) c N D (by omega) (Ty_mO hT rfl rfl ⟨g73, g75, g77, ⟨(by omega : (0 : Int) ≤ 0), (by omega : (0 : Int) ≤ 8)⟩, g81, g83, trivial⟩ ⟨(hT.2.1 41), G93, trivial⟩) 59 ⟨by decide, by decide⟩ (show 1 ≤ (59 : Int) by omega) (show LxP y72 y74 y76 (m.1 6) (0 : Int) by first | exact hLx | (intro h9; exfalso; omega) | (intro h9; have h8 := hLx (by omega); omega))) (fun rr94 k95 => ?_)
          obtain ⟨y96, y98, y100, y102, y104, y106, g97, g99, g101, g103, g105, g107, h108, h109, h110, h111, rfl⟩ := k95
          refine ⟨_, _, rfl, ?_⟩
          refine T_nf2 (st' := []) (l' := [(7, y96), (8, y98), (9, y100), (10, y102), (11, y104), (12, y106)]) (a' := [(41, (m.2 41)), (94, upI (m.2 94) ((6 * d) + ((m.2 41) d)) oo)]) [7, 8, 9, 10, 11, 12] [] rfl ⟨rfl, rfl, rfl, rfl, rfl, rfl, rfl, rfl, rfl, rfl, rfl, rfl, trivial⟩ ⟨rfl, rfl, rfl, rfl, trivial⟩ rfl rfl (by decide) (by decide) ?_
          by_cases hf112 : y102 = 0
          · skip
            subst hf112
            replace h108 : LxP y96 y98 y100 (m.1 6) (0 : Int) := h108
            have hLx := h108
            replace h109 : (0 : Int) = 0 ∧ y72 = (59 : Int) := h109 rfl
            replace h110 : y74 ≤ y98 := h110
            replace h111 : y74 + y76 ≤ y98 := h111 rfl
            have u113 : (m.1 8) + 1 ≤ y98 := by omega
            clear g73 g75 g77 g81 g83 h85 u92 g103 h109 h110 h111
            refine T_gf 63 (.ref 211) rfl rfl rfl rfl rfl rfl ?_
            refine T_ld 64 (.int (i32 d)) rfl (fun _ => rfl) ?_
            refine T_dup2 65 rfl (fun _ => rfl) ?_
            refine T_iald 66 41 (m.2 41) rfl rfl rfl (by omega) (show d < (16 : Int) by omega) rfl ?_
            have e114 : 0 ≤ (m.2 41) d ∧ (m.2 41) d ≤ 6 := (hT.2.1 41) d
            refine T_ld 67 (.int (i32 1)) rfl (fun _ => rfl) ?_
            refine T_iadd 68 rfl rfl ?_
            have G115 : ∀ j, 0 ≤ (upI (m.2 41) d (((m.2 41) d) + 1)) j ∧ (upI (m.2 41) d (((m.2 41) d) + 1)) j ≤ 6 := upI_rg (hT.2.1 41) ⟨by omega, by omega⟩
            refine T_iast (a' := [(41, upI (m.2 41) d (((m.2 41) d) + 1)), (94, upI (m.2 94) ((6 * d) + ((m.2 41) d)) oo)]) 69 41 (m.2 41) rfl rfl rfl (by omega) (show d < (16 : Int) by omega) rfl rfl ?_
            refine T_ret rfl (fun _ => rfl) ?_
            exact ⟨(mO m [(7, y96), (8, y98), (9, y100), (10, 0), (11, y104), (12, y106)] [(41, upI (m.2 41) d (((m.2 41) d) + 1)), (94, upI (m.2 94) ((6 * d) + ((m.2 41) d)) oo)]), (Ty_mO hT rfl rfl ⟨g97, g99, g101, ⟨(by omega : (0 : Int) ≤ 0), (by omega : (0 : Int) ≤ 8)⟩, g105, g107, trivial⟩ ⟨G115, G93, trivial⟩), (show (0 : Int) = 0 → (m.1 10) = 0 by omega), (show LxP y96 y98 y100 (m.1 6) (0 : Int) by first | (first | exact hLx | exact (fun _ => hLx (by omega)) | (intro h9; exfalso; omega)) | (exfalso; omega)), (fun _ => (show (m.1 8) + 1 ≤ y98 by omega)), rfl⟩
          · skip
            replace h108 : LxP y96 y98 y100 (m.1 6) y102 := h108
            have hLx := h108
            clear h109
            replace h110 : y74 ≤ y98 := h110
            clear h111
            have hf116 : 1 ≤ y102 := by omega
            clear g73 g75 g77 g81 g83 h85 u92 h110
            exact J59_7 (mO m [(7, y96), (8, y98), (9, y100), (10, y102), (11, y104), (12, y106)] [(41, (m.2 41)), (94, upI (m.2 94) ((6 * d) + ((m.2 41) d)) oo)]) (Ty_mO hT rfl rfl ⟨g97, g99, g101, g103, g105, g107, trivial⟩ ⟨(hT.2.1 41), G93, trivial⟩) (show 1 ≤ y102 by omega) (show y102 ≤ 8 by omega) (show (m.2 41) d ≤ 5 by omega)
        · skip
          replace h85 : LxP y72 y74 y76 (m.1 6) y78 := h85
          have hLx := h85
          replace h86 : y53 ≤ y74 := h86
          clear h87
          clear h88
          replace h89 : 0 ≤ oo ∧ (oo < 12 ∨ oo = 0) := h89
          clear h90
          have hf117 : 1 ≤ y78 := by omega
          clear g52 g54 g56 g60 g62 h63 h65 h66 u68 h86
          exact J52_17 oo (mO m [(7, y72), (8, y74), (9, y76), (10, y78), (11, y80), (12, y82)] [(41, (m.2 41)), (94, (m.2 94))]) (r32 (by omega) (by omega)) (Ty_mO hT rfl rfl ⟨g73, g75, g77, g79, g81, g83, trivial⟩ ⟨(hT.2.1 41), (hT.2.1 94), trivial⟩) (show 0 ≤ oo by omega) (show oo ≤ 11 by omega) (show 1 ≤ y78 by omega) (show y78 ≤ 8 by omega) (show (m.2 41) d ≤ 5 by omega)
      · skip
        replace h63 : LxP y51 y53 y55 (m.1 6) y57 := h63
        have hLx := h63
        clear h64
        replace h65 : (m.1 8) ≤ y53 := h65
        clear h66
        have hf118 : 1 ≤ y57 := by omega
        refine T_gf 36 (.ref 256) rfl rfl rfl rfl rfl rfl ?_
        refine T_ld 38 (.int (i32 6)) rfl (fun _ => rfl) ?_
        refine T_ld 39 (.int (i32 d)) rfl (fun _ => rfl) ?_
        refine T_imul 40 rfl rfl ?_
        refine T_gf 44 (.ref 211) rfl rfl rfl rfl rfl rfl ?_
        refine T_ld 45 (.int (i32 d)) rfl (fun _ => rfl) ?_
        refine T_iald 46 41 (m.2 41) rfl rfl rfl (by omega) (show d < (16 : Int) by omega) rfl ?_
        have e119 : 0 ≤ (m.2 41) d ∧ (m.2 41) d ≤ 6 := (hT.2.1 41) d
        refine T_iadd 47 rfl rfl ?_
        refine T_ld 48 (.ref 189) rfl (fun _ => rfl) ?_
        refine T_ld 49 (.int (i32 2)) rfl (fun _ => rfl) ?_
        refine T_call 52 236 [.ref 189, .int (i32 2)] [.int (i32 ((6 * d) + ((m.2 41) d))), .ref 256] rfl (fun _ => rfl) rfl (c_oldName w (mO m [(7, y51), (8, y53), (9, y55), (10, y57), (11, y59), (12, y61)] [(41, (m.2 41)), (94, (m.2 94))]) c N D (by omega) (Ty_mO hT rfl rfl ⟨g52, g54, g56, g58, g60, g62, trivial⟩ ⟨(hT.2.1 41), (hT.2.1 94), trivial⟩) 2 12 ⟨by decide, by decide⟩ (show LxP y51 y53 y55 (m.1 6) y57 by first | exact hLx | (intro h9; exfalso; omega) | (intro h9; have h8 := hLx (by omega); omega)) (show ∀ k, (m.2 14) k + (m.2 15) k ≤ 4000 by first | exact p1 | exact hNM) (show 1 ≤ (2 : Int) ∧ (2 : Int) ≤ 7 ∧ (2 : Int) ≠ 5 by omega) (show 12 ≤ 16 by omega) (show y57 = 0 → ∀ k, 0 ≤ k → k < (m.1 13) → (m.2 16) k = (2 : Int) → 0 ≤ (m.2 17) k ∧ (m.2 17) k < 12 by first | exact hOL | (intro h; exfalso; omega)) (show (2 : Int) = 3 → 3 ≤ 12 by omega)) (fun rr120 k121 => ?_)
        obtain ⟨y122, y124, y126, y128, y130, y132, oo, g123, g125, g127, g129, g131, g133, g134, h135, h136, h137, h138, h139, h140, rfl⟩ := k121
        refine ⟨_, _, rfl, ?_⟩
        refine T_nf2 (st' := [.int (i32 oo), .int (i32 ((6 * d) + ((m.2 41) d))), .ref 256]) (l' := [(7, y122), (8, y124), (9, y126), (10, y128), (11, y130), (12, y132)]) (a' := [(41, (m.2 41)), (94, (m.2 94))]) [7, 8, 9, 10, 11, 12] [] rfl ⟨rfl, rfl, rfl, rfl, rfl, rfl, rfl, rfl, rfl, rfl, rfl, rfl, trivial⟩ ⟨rfl, rfl, rfl, rfl, trivial⟩ rfl rfl (by decide) (by decide) ?_
        obtain ⟨g134a, g134b⟩ := g134
        replace h135 : LxP y122 y124 y126 (m.1 6) y128 := h135
        replace h136 : y53 ≤ y124 := h136
        replace h137 : y128 = 0 → y57 = 0 ∧ y53 + y55 ≤ y124 := h137
        replace h138 : y128 = 0 → y51 = 1 := h138
        replace h139 : 0 ≤ oo ∧ (oo < 12 ∨ oo = 0) := h139
        replace h140 : y128 = 0 → oo < 12 := h140
        have hf141 : 1 ≤ y128 := by omega
        clear h137
        clear h138
        clear h140
        have hLx := h135
        clear g52 g54 g56 g58 g60 g62 h63 h65 hf118 h136
        exact J52_17 oo (mO m [(7, y122), (8, y124), (9, y126), (10, y128), (11, y130), (12, y132)] [(41, (m.2 41)), (94, (m.2 94))]) (r32 (by omega) (by omega)) (Ty_mO hT rfl rfl ⟨g123, g125, g127, g129, g131, g133, trivial⟩ ⟨(hT.2.1 41), (hT.2.1 94), trivial⟩) (show 0 ≤ oo by omega) (show oo ≤ 11 by omega) (show 1 ≤ y128 by omega) (show y128 ≤ 8 by omega) (show (m.2 41) d ≤ 5 by omega)
    · skip
      refine T_ld 12 (.ref 189) rfl (fun _ => rfl) ?_
      refine T_ld 13 (.int (i32 4)) rfl (fun _ => rfl) ?_
      refine T_gf 17 (.int (i32 (m.1 8))) rfl rfl rfl rfl rfl rfl ?_
      refine T_call 20 222 [.ref 189, .int (i32 4), .int (i32 (m.1 8))] [] rfl (fun _ => rfl) rfl (c_wrong w (mO m [(7, (m.1 7)), (8, (m.1 8)), (9, (m.1 9)), (10, (m.1 10)), (11, (m.1 11)), (12, (m.1 12))] [(41, (m.2 41)), (94, (m.2 94))]) c N D (by omega) (Ty_mO hT rfl rfl ⟨f7, f8, f9, f10, f11, f12, trivial⟩ ⟨(hT.2.1 41), (hT.2.1 94), trivial⟩) 4 (m.1 8) ⟨by decide, by decide⟩ (r32 (by omega) (by omega)) (show 1 ≤ (4 : Int) ∧ (4 : Int) ≤ 8 by omega) (show 0 ≤ (m.1 8) ∧ (m.1 8) ≤ 4000 by omega)) (fun rr142 k143 => ?_)
      obtain ⟨y144, y146, g145, g147, h148, rfl⟩ := k143
      refine ⟨_, _, rfl, ?_⟩
      refine T_nf2 (st' := []) (l' := [(7, (m.1 7)), (8, (m.1 8)), (9, (m.1 9)), (10, y144), (11, y146), (12, (m.1 12))]) (a' := [(41, (m.2 41)), (94, (m.2 94))]) [10, 11] [] rfl ⟨rfl, rfl, rfl, rfl, rfl, rfl, rfl, rfl, rfl, rfl, rfl, rfl, rfl, rfl, rfl, trivial⟩ ⟨rfl, rfl, rfl, rfl, trivial⟩ rfl rfl (by decide) (by decide) ?_
      replace h148 : (0 < (m.1 10) → y144 = (m.1 10) ∧ y146 = (m.1 11)) ∧ ((m.1 10) ≤ 0 → y144 = (4 : Int) ∧ y146 = (m.1 8)) := h148
      have hf149 : 1 ≤ y144 := by omega
      refine T_gf 24 (.int (i32 y144)) rfl rfl rfl rfl rfl rfl ?_
      refine T_if 28 27 rfl rfl rfl (r32 (by omega) (by omega)) (fun (h150 : y144 ≤ 0) => by exfalso; omega) (fun (h150 : ¬ (y144 ≤ 0)) => ?_)
      refine T_ret rfl (fun _ => rfl) ?_
      exact ⟨(mO m [(7, (m.1 7)), (8, (m.1 8)), (9, (m.1 9)), (10, y144), (11, y146), (12, (m.1 12))] [(41, (m.2 41)), (94, (m.2 94))]), (Ty_mO hT rfl rfl ⟨f7, f8, f9, g145, g147, f12, trivial⟩ ⟨(hT.2.1 41), (hT.2.1 94), trivial⟩), (show y144 = 0 → (m.1 10) = 0 by omega), (show LxP (m.1 7) (m.1 8) (m.1 9) (m.1 6) y144 by first | (first | exact hLx | exact (fun _ => hLx (by omega)) | (intro h9; exfalso; omega)) | (exfalso; omega)), (fun (h : y144 = 0) => absurd h (by omega)), rfl⟩
  · skip
    clear hC
    refine T_gf 4 (.ref 211) rfl rfl rfl rfl rfl rfl ?_
    refine T_ld 5 (.int (i32 d)) rfl (fun _ => rfl) ?_
    refine T_iald 6 41 (m.2 41) rfl rfl rfl (by omega) (show d < (16 : Int) by omega) rfl ?_
    have e151 : 0 ≤ (m.2 41) d ∧ (m.2 41) d ≤ 6 := (hT.2.1 41) d
    refine T_ld 8 (.int (i32 6)) rfl (fun _ => rfl) ?_
    refine T_icmp 20 11 rfl rfl rfl (r32 (by omega) (by omega)) ⟨by decide, by decide⟩ (fun (h152 : (m.2 41) d ≠ 6) => ?_) (fun (h152 : ¬ ((m.2 41) d ≠ 6)) => ?_)
    · skip
      refine T_gf 24 (.int (i32 (m.1 10))) rfl rfl rfl rfl rfl rfl ?_
      refine T_if 28 27 rfl rfl rfl (r32 (by omega) (by omega)) (fun (h153 : (m.1 10) ≤ 0) => by exfalso; omega) (fun (h153 : ¬ ((m.1 10) ≤ 0)) => ?_)
      refine T_ret rfl (fun _ => rfl) ?_
      exact ⟨(mO m [(7, (m.1 7)), (8, (m.1 8)), (9, (m.1 9)), (10, (m.1 10)), (11, (m.1 11)), (12, (m.1 12))] [(41, (m.2 41)), (94, (m.2 94))]), (Ty_mO hT rfl rfl ⟨f7, f8, f9, f10, f11, f12, trivial⟩ ⟨(hT.2.1 41), (hT.2.1 94), trivial⟩), (show (m.1 10) = 0 → (m.1 10) = 0 by omega), (show LxP (m.1 7) (m.1 8) (m.1 9) (m.1 6) (m.1 10) by first | (first | exact hLx | exact (fun _ => hLx (by omega)) | (intro h9; exfalso; omega)) | (exfalso; omega)), (fun (h : (m.1 10) = 0) => absurd h (by omega)), rfl⟩
    · skip
      refine T_ld 12 (.ref 189) rfl (fun _ => rfl) ?_
      refine T_ld 13 (.int (i32 4)) rfl (fun _ => rfl) ?_
      refine T_gf 17 (.int (i32 (m.1 8))) rfl rfl rfl rfl rfl rfl ?_
      refine T_call 20 222 [.ref 189, .int (i32 4), .int (i32 (m.1 8))] [] rfl (fun _ => rfl) rfl (c_wrong w (mO m [(7, (m.1 7)), (8, (m.1 8)), (9, (m.1 9)), (10, (m.1 10)), (11, (m.1 11)), (12, (m.1 12))] [(41, (m.2 41)), (94, (m.2 94))]) c N D (by omega) (Ty_mO hT rfl rfl ⟨f7, f8, f9, f10, f11, f12, trivial⟩ ⟨(hT.2.1 41), (hT.2.1 94), trivial⟩) 4 (m.1 8) ⟨by decide, by decide⟩ (r32 (by omega) (by omega)) (show 1 ≤ (4 : Int) ∧ (4 : Int) ≤ 8 by omega) (show 0 ≤ (m.1 8) ∧ (m.1 8) ≤ 4000 by omega)) (fun rr154 k155 => ?_)
      obtain ⟨y156, y158, g157, g159, h160, rfl⟩ := k155
      refine ⟨_, _, rfl, ?_⟩
      refine T_nf2 (st' := []) (l' := [(7, (m.1 7)), (8, (m.1 8)), (9, (m.1 9)), (10, y156), (11, y158), (12, (m.1 12))]) (a' := [(41, (m.2 41)), (94, (m.2 94))]) [10, 11] [] rfl ⟨rfl, rfl, rfl, rfl, rfl, rfl, rfl, rfl, rfl, rfl, rfl, rfl, rfl, rfl, rfl, trivial⟩ ⟨rfl, rfl, rfl, rfl, trivial⟩ rfl rfl (by decide) (by decide) ?_
      replace h160 : (0 < (m.1 10) → y156 = (m.1 10) ∧ y158 = (m.1 11)) ∧ ((m.1 10) ≤ 0 → y156 = (4 : Int) ∧ y158 = (m.1 8)) := h160
      have hf161 : 1 ≤ y156 := by omega
      refine T_gf 24 (.int (i32 y156)) rfl rfl rfl rfl rfl rfl ?_
      refine T_if 28 27 rfl rfl rfl (r32 (by omega) (by omega)) (fun (h162 : y156 ≤ 0) => by exfalso; omega) (fun (h162 : ¬ (y156 ≤ 0)) => ?_)
      refine T_ret rfl (fun _ => rfl) ?_
      exact ⟨(mO m [(7, (m.1 7)), (8, (m.1 8)), (9, (m.1 9)), (10, y156), (11, y158), (12, (m.1 12))] [(41, (m.2 41)), (94, (m.2 94))]), (Ty_mO hT rfl rfl ⟨f7, f8, f9, g157, g159, f12, trivial⟩ ⟨(hT.2.1 41), (hT.2.1 94), trivial⟩), (show y156 = 0 → (m.1 10) = 0 by omega), (show LxP (m.1 7) (m.1 8) (m.1 9) (m.1 6) y156 by first | (first | exact hLx | exact (fun _ => hLx (by omega)) | (intro h9; exfalso; omega)) | (exfalso; omega)), (fun (h : y156 = 0) => absurd h (by omega)), rfl⟩
def Q_caseNumber (m : mR) (c : Nat → Option am_C) (N : Nat) (b : Int) : ag_Re af_T → Prop := fun R => ∃ (M : mR) (r : Int), Ty M ∧ ((-9223372036854775808) ≤ r ∧ r ≤ 9223372036854775807) ∧ ((M.1 10) = 0 → (m.1 10) = 0) ∧ (LxP (M.1 7) (M.1 8) (M.1 9) (m.1 6) (M.1 10)) ∧ (M.1 10 = 0 → ((m.1 8) + 1 ≤ (M.1 8)) ∧ ((m.1 7) = 2)) ∧ R = (.inl (some (.long (i64 r))), (mhp (mO m [(7, (M.1 7)), (8, (M.1 8)), (9, (M.1 9)), (10, (M.1 10)), (11, (M.1 11)), (12, (M.1 12))] []) c, N), 0, 0)
set_option maxHeartbeats 8000000 in
theorem c_caseNumber (w : wX) (m : mR) (c : Nat → Option am_C) (N D : Nat) (hD : 6 ≤ D) (hT : Ty m) (b : Int) (qb : R32 b) (hLx0 : LxP (m.1 7) (m.1 8) (m.1 9) (m.1 6) (m.1 10)) (hC : m.1 10 = 0 → True) : TC w D 266 [.ref 189, .int (i32 b)] (mhp m c, N) (Q_caseNumber m c N b) := by
  obtain ⟨D, rfl⟩ : ∃ k, D = k + 1 := ⟨D - 1, by omega⟩
  obtain ⟨qba, qbb⟩ := id qb
  have hLx := hLx0
  have f7 : 0 ≤ m.1 7 ∧ m.1 7 ≤ 330 := hT.1 7
  have f8 : 0 ≤ m.1 8 ∧ m.1 8 ≤ 4000 := hT.1 8
  have f9 : 0 ≤ m.1 9 ∧ m.1 9 ≤ 4000 := hT.1 9
  have f10 : 0 ≤ m.1 10 ∧ m.1 10 ≤ 8 := hT.1 10
  have f11 : (-1) ≤ m.1 11 ∧ m.1 11 ≤ 4000 := hT.1 11
  have f12 : (-9223372036854775808) ≤ m.1 12 ∧ m.1 12 ≤ 9223372036854775807 := hT.1 12
  have f6 : 0 ≤ m.1 6 ∧ m.1 6 ≤ 4000 := hT.1 6
  refine Tc_of rfl ?_
  show TT w D pm_266 (0, [(0, .ref 189), (1, .int (i32 b))], [], (mhp m c, N), 0, 0) (Q_caseNumber m c N b)
  rw [show (mhp m c, N) = (mhp (mO m [(7, (m.1 7)), (8, (m.1 8)), (9, (m.1 9)), (10, (m.1 10)), (11, (m.1 11)), (12, (m.1 12))] []) c, N) from congrArg (fun M => (mhp M c, N)) (mO_pad m [7, 8, 9, 10, 11, 12] [])]
  by_cases hf0 : m.1 10 = 0
  · skip
    have h7 := hLx (by omega)
    refine T_gf 4 (.int (i32 (m.1 10))) rfl rfl rfl rfl rfl rfl ?_
    refine T_if 9 7 rfl rfl rfl (r32 (by omega) (by omega)) (fun (h4 : (m.1 10) ≤ 0) => ?_) (fun (h4 : ¬ ((m.1 10) ≤ 0)) => by exfalso; omega)
    refine T_gf 13 (.int (i32 (m.1 7))) rfl rfl rfl rfl rfl rfl ?_
    refine T_ld 14 (.int (i32 2)) rfl (fun _ => rfl) ?_
    refine T_icmp 23 17 rfl rfl rfl (r32 (by omega) (by omega)) ⟨by decide, by decide⟩ (fun (h5 : (m.1 7) = 2) => ?_) (fun (h5 : ¬ ((m.1 7) = 2)) => ?_)
    · skip
      refine T_gf 27 (.int (i32 (m.1 8))) rfl rfl rfl rfl rfl rfl ?_
      refine T_sto 28 [(2, .int (i32 (m.1 8))), (0, .ref 189), (1, .int (i32 b))] rfl (fun _ => rfl) ?_
      refine T_gf 32 (.long (i64 (m.1 12))) rfl rfl rfl rfl rfl rfl ?_
      refine T_sto 33 [(3, .long (i64 (m.1 12))), (2, .int (i32 (m.1 8))), (0, .ref 189), (1, .int (i32 b))] rfl (fun _ => rfl) ?_
      refine T_ld 34 (.ref 189) rfl (fun _ => rfl) ?_
      refine T_call 37 212 [.ref 189] [] rfl (fun _ => rfl) rfl (c_next w (mO m [(7, (m.1 7)), (8, (m.1 8)), (9, (m.1 9)), (10, (m.1 10)), (11, (m.1 11)), (12, (m.1 12))] []) c N D (by omega) (Ty_mO hT rfl rfl ⟨f7, f8, f9, f10, f11, f12, trivial⟩ trivial) (show (m.1 10) = 0 → (m.1 8) + (m.1 9) ≤ (m.1 6) by first | omega | (intro h9; have h8 := hLx h9; omega))) (fun rr6 k7 => ?_)
      obtain ⟨y8, y10, y12, y14, y16, y18, g9, g11, g13, g15, g17, g19, h20, h21, h22, h23, rfl⟩ := k7
      refine ⟨_, _, rfl, ?_⟩
      refine T_nf2 (st' := []) (l' := [(7, y8), (8, y10), (9, y12), (10, y14), (11, y16), (12, y18)]) (a' := []) [7, 8, 9, 10, 11, 12] [] rfl ⟨rfl, rfl, rfl, rfl, rfl, rfl, rfl, rfl, rfl, rfl, rfl, rfl, trivial⟩ trivial rfl rfl (by decide) (by decide) ?_
      by_cases hf24 : y14 = 0
      · skip
        subst hf24
        replace h20 : LxP y8 y10 y12 (m.1 6) (0 : Int) := h20
        have hLx := h20
        replace h21 : (m.1 10) = 0 := h21 rfl
        replace h22 : (m.1 8) ≤ y10 := h22
        replace h23 : (m.1 8) + (m.1 9) ≤ y10 := h23 rfl
        have u25 : (m.1 8) + 1 ≤ y10 := by omega
        clear g15
        refine T_gf 41 (.int (i32 0)) rfl rfl rfl rfl rfl rfl ?_
        refine T_if 54 44 rfl rfl rfl ⟨by decide, by decide⟩ (fun h26 => absurd (show (0 : Int) ≠ 0 from h26) (by decide)) (fun _ => ?_)
        refine T_ld 45 (.ref 189) rfl (fun _ => rfl) ?_
        refine T_ld 46 (.long (i64 (m.1 12))) rfl (fun _ => rfl) ?_
        refine T_ld 47 (.int (i32 b)) rfl (fun _ => rfl) ?_
        refine T_call 50 262 [.long (i64 (m.1 12)), .int (i32 b)] [.ref 189] rfl (fun _ => rfl) rfl (c_fits w (mO m [(7, y8), (8, y10), (9, y12), (10, 0), (11, y16), (12, y18)] []) c N D (by omega) (Ty_mO hT rfl rfl ⟨g9, g11, g13, ⟨(by omega : (0 : Int) ≤ 0), (by omega : (0 : Int) ≤ 8)⟩, g17, g19, trivial⟩ trivial) (m.1 12) b (r64 (by omega) (by omega)) (r32 (by omega) (by omega))) (fun rr27 k28 => ?_)
        obtain ⟨x29, g30, rfl⟩ := k28
        refine ⟨_, _, rfl, ?_⟩
        refine T_nf2 (st' := [.int (i32 x29), .ref 189]) (l' := [(7, y8), (8, y10), (9, y12), (10, 0), (11, y16), (12, y18)]) (a' := []) [] [] rfl ⟨rfl, rfl, rfl, rfl, rfl, rfl, rfl, rfl, rfl, rfl, rfl, rfl, trivial⟩ trivial rfl rfl (by decide) (by decide) ?_
        obtain ⟨g30a, g30b⟩ := g30
        have u31 : (m.1 8) + 1 ≤ y10 := by omega
        refine T_ld 51 (.int (i32 (m.1 8))) rfl (fun _ => rfl) ?_
        refine T_call 54 256 [.ref 189, .int (i32 x29), .int (i32 (m.1 8))] [] rfl (fun _ => rfl) rfl (c_want w (mO m [(7, y8), (8, y10), (9, y12), (10, 0), (11, y16), (12, y18)] []) c N D (by omega) (Ty_mO hT rfl rfl ⟨g9, g11, g13, ⟨(by omega : (0 : Int) ≤ 0), (by omega : (0 : Int) ≤ 8)⟩, g17, g19, trivial⟩ trivial) x29 (m.1 8) (r32 (by omega) (by omega)) (r32 (by omega) (by omega)) (show 0 ≤ (m.1 8) ∧ (m.1 8) ≤ 4000 by omega) (fun _ => trivial)) (fun rr32 k33 => ?_)
        obtain ⟨m34, hT35, h36, c37, rfl⟩ := k33
        refine ⟨_, _, rfl, ?_⟩
        refine T_nf2 (st' := []) (l' := [(7, y8), (8, y10), (9, y12), (10, (m34.1 10)), (11, (m34.1 11)), (12, y18)]) (a' := []) [10, 11] [] rfl ⟨rfl, rfl, rfl, rfl, rfl, rfl, rfl, rfl, rfl, rfl, rfl, rfl, rfl, rfl, rfl, trivial⟩ trivial rfl rfl (by decide) (by decide) ?_
        have g38 : 0 ≤ m34.1 10 ∧ m34.1 10 ≤ 8 := hT35.1 10
        have g39 : (-1) ≤ m34.1 11 ∧ m34.1 11 ≤ 4000 := hT35.1 11
        by_cases hf40 : (m34.1 10) = 0
        · skip
          replace h36 : (0 : Int) = 0 := h36 hf40
          have c41 := c37 hf40
          replace c41 : x29 ≠ 0 := c41
          clear c37
          have u42 : (m.1 8) + 1 ≤ y10 := by omega
          clear g17 g30a g30b c41
          refine T_ld 55 (.long (i64 (m.1 12))) rfl (fun _ => rfl) ?_
          refine T_ret rfl (fun _ => rfl) ?_
          exact ⟨(mO m [(7, y8), (8, y10), (9, y12), (10, (m34.1 10)), (11, (m34.1 11)), (12, y18)] []), (m.1 12), (Ty_mO hT rfl rfl ⟨g9, g11, g13, (hT35.1 10), (hT35.1 11), g19, trivial⟩ trivial), ⟨by omega, by omega⟩, (show (m34.1 10) = 0 → (m.1 10) = 0 by omega), (show LxP y8 y10 y12 (m.1 6) (m34.1 10) by first | (first | exact hLx | exact (fun _ => hLx (by omega)) | (intro h9; exfalso; omega)) | (exfalso; omega)), (fun _ => ⟨(show (m.1 8) + 1 ≤ y10 by omega), (show (m.1 7) = 2 by omega)⟩), rfl⟩
        · skip
          clear c37
          clear h36
          have hf43 : 1 ≤ (m34.1 10) := by omega
          clear g17 g30a g30b
          refine T_ld 55 (.long (i64 (m.1 12))) rfl (fun _ => rfl) ?_
          refine T_ret rfl (fun _ => rfl) ?_
          exact ⟨(mO m [(7, y8), (8, y10), (9, y12), (10, (m34.1 10)), (11, (m34.1 11)), (12, y18)] []), (m.1 12), (Ty_mO hT rfl rfl ⟨g9, g11, g13, (hT35.1 10), (hT35.1 11), g19, trivial⟩ trivial), ⟨by omega, by omega⟩, (show (m34.1 10) = 0 → (m.1 10) = 0 by omega), (show LxP y8 y10 y12 (m.1 6) (m34.1 10) by first | (first | exact hLx | exact (fun _ => hLx (by omega)) | (intro h9; exfalso; omega)) | (exfalso; omega)), (fun (h : (m34.1 10) = 0) => absurd h (by omega)), rfl⟩
      · skip
        replace h20 : LxP y8 y10 y12 (m.1 6) y14 := h20
        have hLx := h20
        clear h21
        replace h22 : (m.1 8) ≤ y10 := h22
        clear h23
        have hf44 : 1 ≤ y14 := by omega
        refine T_gf 41 (.int (i32 y14)) rfl rfl rfl rfl rfl rfl ?_
        refine T_if 54 44 rfl rfl rfl (r32 (by omega) (by omega)) (fun (h45 : y14 ≠ 0) => ?_) (fun (h45 : ¬ (y14 ≠ 0)) => by exfalso; omega)
        refine T_ld 55 (.long (i64 (m.1 12))) rfl (fun _ => rfl) ?_
        refine T_ret rfl (fun _ => rfl) ?_
        exact ⟨(mO m [(7, y8), (8, y10), (9, y12), (10, y14), (11, y16), (12, y18)] []), (m.1 12), (Ty_mO hT rfl rfl ⟨g9, g11, g13, g15, g17, g19, trivial⟩ trivial), ⟨by omega, by omega⟩, (show y14 = 0 → (m.1 10) = 0 by omega), (show LxP y8 y10 y12 (m.1 6) y14 by first | (first | exact hLx | exact (fun _ => hLx (by omega)) | (intro h9; exfalso; omega)) | (exfalso; omega)), (fun (h : y14 = 0) => absurd h (by omega)), rfl⟩
    · skip
      refine T_ld 18 (.ref 189) rfl (fun _ => rfl) ?_
      refine T_call 21 226 [.ref 189] [] rfl (fun _ => rfl) rfl (c_bad w (mO m [(7, (m.1 7)), (8, (m.1 8)), (9, (m.1 9)), (10, (m.1 10)), (11, (m.1 11)), (12, (m.1 12))] []) c N D (by omega) (Ty_mO hT rfl rfl ⟨f7, f8, f9, f10, f11, f12, trivial⟩ trivial) ) (fun rr46 k47 => ?_)
      obtain ⟨y48, y50, g49, g51, h52, rfl⟩ := k47
      refine ⟨_, _, rfl, ?_⟩
      refine T_nf2 (st' := []) (l' := [(7, (m.1 7)), (8, (m.1 8)), (9, (m.1 9)), (10, y48), (11, y50), (12, (m.1 12))]) (a' := []) [10, 11] [] rfl ⟨rfl, rfl, rfl, rfl, rfl, rfl, rfl, rfl, rfl, rfl, rfl, rfl, rfl, rfl, rfl, trivial⟩ trivial rfl rfl (by decide) (by decide) ?_
      replace h52 : (0 < (m.1 10) → y48 = (m.1 10) ∧ y50 = (m.1 11)) ∧ ((m.1 10) ≤ 0 → y48 = 1 ∧ y50 = (m.1 8)) := h52
      have hf53 : 1 ≤ y48 := by omega
      refine T_ld 22 (.long (i64 0)) rfl (fun _ => rfl) ?_
      refine T_ret rfl (fun _ => rfl) ?_
      exact ⟨(mO m [(7, (m.1 7)), (8, (m.1 8)), (9, (m.1 9)), (10, y48), (11, y50), (12, (m.1 12))] []), 0, (Ty_mO hT rfl rfl ⟨f7, f8, f9, g49, g51, f12, trivial⟩ trivial), ⟨by omega, by omega⟩, (show y48 = 0 → (m.1 10) = 0 by omega), (show LxP (m.1 7) (m.1 8) (m.1 9) (m.1 6) y48 by first | (first | exact hLx | exact (fun _ => hLx (by omega)) | (intro h9; exfalso; omega)) | (exfalso; omega)), (fun (h : y48 = 0) => absurd h (by omega)), rfl⟩
  · skip
    clear hC
    refine T_gf 4 (.int (i32 (m.1 10))) rfl rfl rfl rfl rfl rfl ?_
    refine T_if 9 7 rfl rfl rfl (r32 (by omega) (by omega)) (fun (h54 : (m.1 10) ≤ 0) => by exfalso; omega) (fun (h54 : ¬ ((m.1 10) ≤ 0)) => ?_)
    refine T_ld 8 (.long (i64 0)) rfl (fun _ => rfl) ?_
    refine T_ret rfl (fun _ => rfl) ?_
    exact ⟨(mO m [(7, (m.1 7)), (8, (m.1 8)), (9, (m.1 9)), (10, (m.1 10)), (11, (m.1 11)), (12, (m.1 12))] []), 0, (Ty_mO hT rfl rfl ⟨f7, f8, f9, f10, f11, f12, trivial⟩ trivial), ⟨by omega, by omega⟩, (show (m.1 10) = 0 → (m.1 10) = 0 by omega), (show LxP (m.1 7) (m.1 8) (m.1 9) (m.1 6) (m.1 10) by first | (first | exact hLx | exact (fun _ => hLx (by omega)) | (intro h9; exfalso; omega)) | (exfalso; omega)), (fun (h : (m.1 10) = 0) => absurd h (by omega)), rfl⟩
def Q_takeCase (m : mR) (c : Nat → Option am_C) (N : Nat) (d : Int) : ag_Re af_T → Prop := fun R => ∃ (M : mR), Ty M ∧ ((M.1 10) = 0 → (m.1 10) = 0) ∧ (LxP (M.1 7) (M.1 8) (M.1 9) (m.1 6) (M.1 10)) ∧ (∀ k, (M.2 14) k + (M.2 15) k ≤ 4000) ∧ (M.1 10 = 0 → ((m.1 8) + 1 ≤ (M.1 8)) ∧ (PN (M.1 13) (m.1 19) (m.1 20) (m.1 21) (m.1 22) (M.1 23) (m.1 25) (m.1 26) (M.2 16) (M.2 17)) ∧ (SOp (M.2 38) (M.1 23) (m.1 24)) ∧ (∀ c, 8 * d ≤ c → c < 8 * d + (M.2 42) d → (M.2 45) c < (M.1 23)) ∧ ((m.1 23) ≤ (M.1 23)) ∧ (agr (m.2 42) (M.2 42) d) ∧ (agr (m.2 45) (M.2 45) (8 * d))) ∧ R = (.inl (none), (mhp (mO m [(7, (M.1 7)), (8, (M.1 8)), (9, (M.1 9)), (10, (M.1 10)), (11, (M.1 11)), (12, (M.1 12)), (13, (M.1 13)), (23, (M.1 23))] [(14, (M.2 14)), (15, (M.2 15)), (16, (M.2 16)), (17, (M.2 17)), (37, (M.2 37)), (38, (M.2 38)), (42, (M.2 42)), (45, (M.2 45)), (97, (M.2 97)), (98, (M.2 98))]) c, N), 0, 0)
set_option maxHeartbeats 8000000 in
theorem c_takeCase (w : wX) (m : mR) (c : Nat → Option am_C) (N D : Nat) (hD : 7 ≤ D) (hT : Ty m) (d : Int) (qd : R32 d) (hLx0 : LxP (m.1 7) (m.1 8) (m.1 9) (m.1 6) (m.1 10)) (hNM0 : ∀ k, (m.2 14) k + (m.2 15) k ≤ 4000) (p2 : 0 ≤ d ∧ d ≤ 15) (hC : m.1 10 = 0 → (PN (m.1 13) (m.1 19) (m.1 20) (m.1 21) (m.1 22) (m.1 23) (m.1 25) (m.1 26) (m.2 16) (m.2 17)) ∧ (SOp (m.2 38) (m.1 23) (m.1 24)) ∧ (∀ c, 8 * d ≤ c → c < 8 * d + (m.2 42) d → (m.2 45) c < (m.1 23))) : TC w D 265 [.ref 189, .int (i32 d)] (mhp m c, N) (Q_takeCase m c N d) := by
  obtain ⟨D, rfl⟩ : ∃ k, D = k + 1 := ⟨D - 1, by omega⟩
  obtain ⟨qda, qdb⟩ := id qd
  have hLx := hLx0
  have hNM := hNM0
  have f7 : 0 ≤ m.1 7 ∧ m.1 7 ≤ 330 := hT.1 7
  have f8 : 0 ≤ m.1 8 ∧ m.1 8 ≤ 4000 := hT.1 8
  have f9 : 0 ≤ m.1 9 ∧ m.1 9 ≤ 4000 := hT.1 9
  have f10 : 0 ≤ m.1 10 ∧ m.1 10 ≤ 8 := hT.1 10
  have f11 : (-1) ≤ m.1 11 ∧ m.1 11 ≤ 4000 := hT.1 11
  have f12 : (-9223372036854775808) ≤ m.1 12 ∧ m.1 12 ≤ 9223372036854775807 := hT.1 12
  have f13 : 0 ≤ m.1 13 ∧ m.1 13 ≤ 120 := hT.1 13
  have f23 : 0 ≤ m.1 23 ∧ m.1 23 ≤ 16 := hT.1 23
  have f25 : 0 ≤ m.1 25 ∧ m.1 25 ≤ 16 := hT.1 25
  have f22 : 0 ≤ m.1 22 ∧ m.1 22 ≤ 8 := hT.1 22
  have f24 : 0 ≤ m.1 24 ∧ m.1 24 ≤ 16 := hT.1 24
  have f19 : 0 ≤ m.1 19 ∧ m.1 19 ≤ 12 := hT.1 19
  have f20 : 0 ≤ m.1 20 ∧ m.1 20 ≤ 12 := hT.1 20
  have f21 : 0 ≤ m.1 21 ∧ m.1 21 ≤ 16 := hT.1 21
  have f6 : 0 ≤ m.1 6 ∧ m.1 6 ≤ 4000 := hT.1 6
  have f26 : 0 ≤ m.1 26 ∧ m.1 26 ≤ 8 := hT.1 26
  refine Tc_of rfl ?_
  show TT w D pm_265 (0, [(0, .ref 189), (1, .int (i32 d))], [], (mhp m c, N), 0, 0) (Q_takeCase m c N d)
  rw [show (mhp m c, N) = (mhp (mO m [(7, (m.1 7)), (8, (m.1 8)), (9, (m.1 9)), (10, (m.1 10)), (11, (m.1 11)), (12, (m.1 12)), (13, (m.1 13)), (23, (m.1 23))] [(14, (m.2 14)), (15, (m.2 15)), (16, (m.2 16)), (17, (m.2 17)), (37, (m.2 37)), (38, (m.2 38)), (42, (m.2 42)), (45, (m.2 45)), (97, (m.2 97)), (98, (m.2 98))]) c, N) from congrArg (fun M => (mhp M c, N)) (mO_pad m [7, 8, 9, 10, 11, 12, 13, 23] [14, 15, 16, 17, 37, 38, 42, 45, 97, 98])]
  by_cases hf0 : m.1 10 = 0
  · skip
    obtain ⟨pPN, pSO, hCT⟩ := hC hf0
    have h7 := hLx (by omega)
    have hNM := hNM0
    have J123_12 : ∀ (m11 : mR), (Ty m11) → (1 ≤ (m11.1 10)) → ((m11.1 10) ≤ 8) → (∀ k, (m11.2 14) k + (m11.2 15) k ≤ 4000) → ((m.2 42) d ≤ 7) → TT w D pm_265 (123, [(0, .ref 189), (1, .int (i32 d)), (2, .int (i32 ((8 * d) + ((m.2 42) d))))], [], (mhp (mO m [(7, (m11.1 7)), (8, (m11.1 8)), (9, (m11.1 9)), (10, (m11.1 10)), (11, (m11.1 11)), (12, (m11.1 12)), (13, (m11.1 13)), (23, (m11.1 23))] [(14, (m11.2 14)), (15, (m11.2 15)), (16, (m11.2 16)), (17, (m11.2 17)), (37, (m11.2 37)), (38, (m11.2 38)), (42, (m.2 42)), (45, (m11.2 45)), (97, (m11.2 97)), (98, (m11.2 98))]) c, N), 0, 0) (Q_takeCase m c N d) := by
      intro m11 q13 ic14 ic15 ic16 ic17
      have q13_7 : 0 ≤ m11.1 7 ∧ m11.1 7 ≤ 330 := q13.1 7
      have q13_8 : 0 ≤ m11.1 8 ∧ m11.1 8 ≤ 4000 := q13.1 8
      have q13_9 : 0 ≤ m11.1 9 ∧ m11.1 9 ≤ 4000 := q13.1 9
      have q13_10 : 0 ≤ m11.1 10 ∧ m11.1 10 ≤ 8 := q13.1 10
      have q13_11 : (-1) ≤ m11.1 11 ∧ m11.1 11 ≤ 4000 := q13.1 11
      have q13_12 : (-9223372036854775808) ≤ m11.1 12 ∧ m11.1 12 ≤ 9223372036854775807 := q13.1 12
      have q13_13 : 0 ≤ m11.1 13 ∧ m11.1 13 ≤ 120 := q13.1 13
      have q13_23 : 0 ≤ m11.1 23 ∧ m11.1 23 ≤ 16 := q13.1 23
      have hNM := ic16
      refine T_gf 127 (.ref 212) rfl rfl rfl rfl rfl rfl ?_
      refine T_ld 128 (.int (i32 d)) rfl (fun _ => rfl) ?_
      refine T_dup2 129 rfl (fun _ => rfl) ?_
      refine T_iald 130 42 (m.2 42) rfl rfl rfl (by omega) (show d < (16 : Int) by omega) rfl ?_
      have e19 : 0 ≤ (m.2 42) d ∧ (m.2 42) d ≤ 8 := (hT.2.1 42) d
      refine T_ld 131 (.int (i32 1)) rfl (fun _ => rfl) ?_
      refine T_iadd 132 rfl rfl ?_
      have G20 : ∀ j, 0 ≤ (upI (m.2 42) d (((m.2 42) d) + 1)) j ∧ (upI (m.2 42) d (((m.2 42) d) + 1)) j ≤ 8 := upI_rg (hT.2.1 42) ⟨by omega, by omega⟩
      refine T_iast (a' := [(14, (m11.2 14)), (15, (m11.2 15)), (16, (m11.2 16)), (17, (m11.2 17)), (37, (m11.2 37)), (38, (m11.2 38)), (42, upI (m.2 42) d (((m.2 42) d) + 1)), (45, (m11.2 45)), (97, (m11.2 97)), (98, (m11.2 98))]) 133 42 (m.2 42) rfl rfl rfl (by omega) (show d < (16 : Int) by omega) rfl rfl ?_
      refine T_ret rfl (fun _ => rfl) ?_
      exact ⟨(mO m [(7, (m11.1 7)), (8, (m11.1 8)), (9, (m11.1 9)), (10, (m11.1 10)), (11, (m11.1 11)), (12, (m11.1 12)), (13, (m11.1 13)), (23, (m11.1 23))] [(14, (m11.2 14)), (15, (m11.2 15)), (16, (m11.2 16)), (17, (m11.2 17)), (37, (m11.2 37)), (38, (m11.2 38)), (42, upI (m.2 42) d (((m.2 42) d) + 1)), (45, (m11.2 45)), (97, (m11.2 97)), (98, (m11.2 98))]), (Ty_mO hT rfl rfl ⟨(q13.1 7), (q13.1 8), (q13.1 9), (q13.1 10), (q13.1 11), (q13.1 12), (q13.1 13), (q13.1 23), trivial⟩ ⟨(q13.2.1 14), (q13.2.1 15), (q13.2.1 16), (q13.2.1 17), (q13.2.1 37), (q13.2.1 38), G20, (q13.2.1 45), (q13.2.1 97), (q13.2.1 98), trivial⟩), (show (m11.1 10) = 0 → (m.1 10) = 0 by omega), (show LxP (m11.1 7) (m11.1 8) (m11.1 9) (m.1 6) (m11.1 10) by first | (first | exact hLx | exact (fun _ => hLx (by omega)) | (intro h9; exfalso; omega)) | (exfalso; omega)), (show ∀ k, (m11.2 14) k + (m11.2 15) k ≤ 4000 by first | (first | exact hNM | (intro k; rw [hE1, hE2]; have := hNM k; have h7 := hLx0 hf0; unfold upI; split <;> omega)) | (exfalso; omega)), (fun (h : (m11.1 10) = 0) => absurd h (by omega)), rfl⟩
    have J116_23 : ∀ (s21 : Int) (m22 : mR), (R32 s21) → (Ty m22) → ((-2) ≤ s21) → (s21 ≤ 15) → (1 ≤ (m22.1 10)) → ((m22.1 10) ≤ 8) → (∀ k, (m22.2 14) k + (m22.2 15) k ≤ 4000) → ((m.2 42) d ≤ 7) → TT w D pm_265 (116, [(0, .ref 189), (1, .int (i32 d)), (2, .int (i32 ((8 * d) + ((m.2 42) d))))], [.int (i32 s21), .int (i32 ((8 * d) + ((m.2 42) d))), .ref 215], (mhp (mO m [(7, (m22.1 7)), (8, (m22.1 8)), (9, (m22.1 9)), (10, (m22.1 10)), (11, (m22.1 11)), (12, (m22.1 12)), (13, (m22.1 13)), (23, (m22.1 23))] [(14, (m22.2 14)), (15, (m22.2 15)), (16, (m22.2 16)), (17, (m22.2 17)), (37, (m22.2 37)), (38, (m22.2 38)), (42, (m.2 42)), (45, (m.2 45)), (97, (m22.2 97)), (98, (m22.2 98))]) c, N), 0, 0) (Q_takeCase m c N d) := by
      intro s21 m22 q24 q25 ic26 ic27 ic28 ic29 ic30 ic31
      obtain ⟨q24a, q24b⟩ := id q24
      have q25_7 : 0 ≤ m22.1 7 ∧ m22.1 7 ≤ 330 := q25.1 7
      have q25_8 : 0 ≤ m22.1 8 ∧ m22.1 8 ≤ 4000 := q25.1 8
      have q25_9 : 0 ≤ m22.1 9 ∧ m22.1 9 ≤ 4000 := q25.1 9
      have q25_10 : 0 ≤ m22.1 10 ∧ m22.1 10 ≤ 8 := q25.1 10
      have q25_11 : (-1) ≤ m22.1 11 ∧ m22.1 11 ≤ 4000 := q25.1 11
      have q25_12 : (-9223372036854775808) ≤ m22.1 12 ∧ m22.1 12 ≤ 9223372036854775807 := q25.1 12
      have q25_13 : 0 ≤ m22.1 13 ∧ m22.1 13 ≤ 120 := q25.1 13
      have q25_23 : 0 ≤ m22.1 23 ∧ m22.1 23 ≤ 16 := q25.1 23
      have hNM := ic30
      have G33 : ∀ j, (-2) ≤ (upI (m.2 45) ((8 * d) + ((m.2 42) d)) s21) j ∧ (upI (m.2 45) ((8 * d) + ((m.2 42) d)) s21) j ≤ 15 := upI_rg (hT.2.1 45) ⟨by omega, by omega⟩
      refine T_iast (a' := [(14, (m22.2 14)), (15, (m22.2 15)), (16, (m22.2 16)), (17, (m22.2 17)), (37, (m22.2 37)), (38, (m22.2 38)), (42, (m.2 42)), (45, upI (m.2 45) ((8 * d) + ((m.2 42) d)) s21), (97, (m22.2 97)), (98, (m22.2 98))]) 117 45 (m.2 45) rfl rfl rfl (by omega) (show ((8 * d) + ((m.2 42) d)) < (128 : Int) by omega) rfl rfl ?_
      refine T_ld 118 (.ref 189) rfl (fun _ => rfl) ?_
      refine T_ld 120 (.int (i32 59)) rfl (fun _ => rfl) ?_
      refine T_call 123 232 [.ref 189, .int (i32 59)] [] rfl (fun _ => rfl) rfl (c_need w (mO m [(7, (m22.1 7)), (8, (m22.1 8)), (9, (m22.1 9)), (10, (m22.1 10)), (11, (m22.1 11)), (12, (m22.1 12)), (13, (m22.1 13)), (23, (m22.1 23))] [(14, (m22.2 14)), (15, (m22.2 15)), (16, (m22.2 16)), (17, (m22.2 17)), (37, (m22.2 37)), (38, (m22.2 38)), (42, (m.2 42)), (45, upI (m.2 45) ((8 * d) + ((m.2 42) d)) s21), (97, (m22.2 97)), (98, (m22.2 98))]) c N D (by omega) (Ty_mO hT rfl rfl ⟨(q25.1 7), (q25.1 8), (q25.1 9), (q25.1 10), (q25.1 11), (q25.1 12), (q25.1 13), (q25.1 23), trivial⟩ ⟨(q25.2.1 14), (q25.2.1 15), (q25.2.1 16), (q25.2.1 17), (q25.2.1 37), (q25.2.1 38), (hT.2.1 42), G33, (q25.2.1 97), (q25.2.1 98), trivial⟩) 59 ⟨by decide, by decide⟩ (show 1 ≤ (59 : Int) by omega) (show LxP (m22.1 7) (m22.1 8) (m22.1 9) (m.1 6) (m22.1 10) by first | exact hLx | (intro h9; exfalso; omega) | (intro h9; have h8 := hLx (by omega); omega))) (fun rr34 k35 => ?_)
      obtain ⟨y36, y38, y40, y42, y44, y46, g37, g39, g41, g43, g45, g47, h48, h49, h50, h51, rfl⟩ := k35
      refine ⟨_, _, rfl, ?_⟩
      refine T_nf2 (st' := []) (l' := [(7, y36), (8, y38), (9, y40), (10, y42), (11, y44), (12, y46), (13, (m22.1 13)), (23, (m22.1 23))]) (a' := [(14, (m22.2 14)), (15, (m22.2 15)), (16, (m22.2 16)), (17, (m22.2 17)), (37, (m22.2 37)), (38, (m22.2 38)), (42, (m.2 42)), (45, upI (m.2 45) ((8 * d) + ((m.2 42) d)) s21), (97, (m22.2 97)), (98, (m22.2 98))]) [7, 8, 9, 10, 11, 12] [] rfl ⟨rfl, rfl, rfl, rfl, rfl, rfl, rfl, rfl, rfl, rfl, rfl, rfl, rfl, rfl, rfl, rfl, trivial⟩ ⟨rfl, rfl, rfl, rfl, rfl, rfl, rfl, rfl, rfl, rfl, rfl, rfl, rfl, rfl, rfl, rfl, rfl, rfl, rfl, rfl, trivial⟩ rfl rfl (by decide) (by decide) ?_
      replace h48 : LxP y36 y38 y40 (m.1 6) y42 := h48
      replace h49 : y42 = 0 → (m22.1 10) = 0 ∧ (m22.1 7) = (59 : Int) := h49
      replace h50 : (m22.1 8) ≤ y38 := h50
      replace h51 : y42 = 0 → (m22.1 8) + (m22.1 9) ≤ y38 := h51
      have hf52 : 1 ≤ y42 := by omega
      clear h49
      clear h51
      have hLx := h48
      clear q25_7 q25_8 q25_9 q25_10 q25_11 q25_12 ic28 ic29 h50
      exact J123_12 (mO m [(7, y36), (8, y38), (9, y40), (10, y42), (11, y44), (12, y46), (13, (m22.1 13)), (23, (m22.1 23))] [(14, (m22.2 14)), (15, (m22.2 15)), (16, (m22.2 16)), (17, (m22.2 17)), (37, (m22.2 37)), (38, (m22.2 38)), (42, (m.2 42)), (45, upI (m.2 45) ((8 * d) + ((m.2 42) d)) s21), (97, (m22.2 97)), (98, (m22.2 98))]) (Ty_mO hT rfl rfl ⟨g37, g39, g41, g43, g45, g47, (q25.1 13), (q25.1 23), trivial⟩ ⟨(q25.2.1 14), (q25.2.1 15), (q25.2.1 16), (q25.2.1 17), (q25.2.1 37), (q25.2.1 38), (hT.2.1 42), G33, (q25.2.1 97), (q25.2.1 98), trivial⟩) (show 1 ≤ y42 by omega) (show y42 ≤ 8 by omega) (show ∀ k, (m22.2 14) k + (m22.2 15) k ≤ 4000 by first | exact hNM) (show (m.2 42) d ≤ 7 by omega)
    have J107_54 : ∀ (m53 : mR), (Ty m53) → (1 ≤ (m53.1 10)) → ((m53.1 10) ≤ 8) → (∀ k, (m.2 14) k + (m.2 15) k ≤ 4000) → ((m.2 42) d ≤ 7) → TT w D pm_265 (107, [(0, .ref 189), (1, .int (i32 d)), (2, .int (i32 ((8 * d) + ((m.2 42) d))))], [], (mhp (mO m [(7, (m53.1 7)), (8, (m53.1 8)), (9, (m53.1 9)), (10, (m53.1 10)), (11, (m53.1 11)), (12, (m53.1 12)), (13, (m.1 13)), (23, (m.1 23))] [(14, (m.2 14)), (15, (m.2 15)), (16, (m.2 16)), (17, (m.2 17)), (37, (m.2 37)), (38, (m.2 38)), (42, (m.2 42)), (45, (m.2 45)), (97, (m53.2 97)), (98, (m53.2 98))]) c, N), 0, 0) (Q_takeCase m c N d) := by
      intro m53 q55 ic56 ic57 ic58 ic59
      have q55_7 : 0 ≤ m53.1 7 ∧ m53.1 7 ≤ 330 := q55.1 7
      have q55_8 : 0 ≤ m53.1 8 ∧ m53.1 8 ≤ 4000 := q55.1 8
      have q55_9 : 0 ≤ m53.1 9 ∧ m53.1 9 ≤ 4000 := q55.1 9
      have q55_10 : 0 ≤ m53.1 10 ∧ m53.1 10 ≤ 8 := q55.1 10
      have q55_11 : (-1) ≤ m53.1 11 ∧ m53.1 11 ≤ 4000 := q55.1 11
      have q55_12 : (-9223372036854775808) ≤ m53.1 12 ∧ m53.1 12 ≤ 9223372036854775807 := q55.1 12
      have hNM := ic58
      refine T_gf 111 (.ref 215) rfl rfl rfl rfl rfl rfl ?_
      refine T_ld 112 (.int (i32 ((8 * d) + ((m.2 42) d)))) rfl (fun _ => rfl) ?_
      refine T_ld 113 (.ref 189) rfl (fun _ => rfl) ?_
      refine T_call 116 242 [.ref 189] [.int (i32 ((8 * d) + ((m.2 42) d))), .ref 215] rfl (fun _ => rfl) rfl (c_stateHere w (mO m [(7, (m53.1 7)), (8, (m53.1 8)), (9, (m53.1 9)), (10, (m53.1 10)), (11, (m53.1 11)), (12, (m53.1 12)), (13, (m.1 13)), (23, (m.1 23))] [(14, (m.2 14)), (15, (m.2 15)), (16, (m.2 16)), (17, (m.2 17)), (37, (m.2 37)), (38, (m.2 38)), (42, (m.2 42)), (45, (m.2 45)), (97, (m53.2 97)), (98, (m53.2 98))]) c N D (by omega) (Ty_mO hT rfl rfl ⟨(q55.1 7), (q55.1 8), (q55.1 9), (q55.1 10), (q55.1 11), (q55.1 12), f13, f23, trivial⟩ ⟨(hT.2.1 14), (hT.2.1 15), (hT.2.1 16), (hT.2.1 17), (hT.2.1 37), (hT.2.1 38), (hT.2.1 42), (hT.2.1 45), (q55.2.1 97), (q55.2.1 98), trivial⟩) (show LxP (m53.1 7) (m53.1 8) (m53.1 9) (m.1 6) (m53.1 10) by first | exact hLx | exact (fun _ => hLx (by omega)) | (intro h9; exfalso; omega)) (show ∀ k, (m.2 14) k + (m.2 15) k ≤ 4000 by assumption) (fun (h : (m53.1 10) = 0) => absurd h (by omega))) (fun rr61 k62 => ?_)
      obtain ⟨m63, x65, hT64, g66, h67, h68, h69, c70, rfl⟩ := k62
      refine ⟨_, _, rfl, ?_⟩
      refine T_nf2 (st' := [.int (i32 x65), .int (i32 ((8 * d) + ((m.2 42) d))), .ref 215]) (l' := [(7, (m63.1 7)), (8, (m63.1 8)), (9, (m63.1 9)), (10, (m63.1 10)), (11, (m63.1 11)), (12, (m63.1 12)), (13, (m63.1 13)), (23, (m63.1 23))]) (a' := [(14, (m63.2 14)), (15, (m63.2 15)), (16, (m63.2 16)), (17, (m63.2 17)), (37, (m63.2 37)), (38, (m63.2 38)), (42, (m.2 42)), (45, (m.2 45)), (97, (m53.2 97)), (98, (m53.2 98))]) [7, 8, 9, 10, 11, 12, 13, 23] [14, 15, 16, 17, 37, 38] rfl ⟨rfl, rfl, rfl, rfl, rfl, rfl, rfl, rfl, rfl, rfl, rfl, rfl, rfl, rfl, rfl, rfl, trivial⟩ ⟨rfl, rfl, rfl, rfl, rfl, rfl, rfl, rfl, rfl, rfl, rfl, rfl, rfl, rfl, rfl, rfl, rfl, rfl, rfl, rfl, trivial⟩ rfl rfl (by decide) (by decide) ?_
      obtain ⟨g66a, g66b⟩ := g66
      have g71 : 0 ≤ m63.1 7 ∧ m63.1 7 ≤ 330 := hT64.1 7
      have g72 : 0 ≤ m63.1 8 ∧ m63.1 8 ≤ 4000 := hT64.1 8
      have g73 : 0 ≤ m63.1 9 ∧ m63.1 9 ≤ 4000 := hT64.1 9
      have g74 : 0 ≤ m63.1 10 ∧ m63.1 10 ≤ 8 := hT64.1 10
      have g75 : (-1) ≤ m63.1 11 ∧ m63.1 11 ≤ 4000 := hT64.1 11
      have g76 : (-9223372036854775808) ≤ m63.1 12 ∧ m63.1 12 ≤ 9223372036854775807 := hT64.1 12
      have g77 : 0 ≤ m63.1 13 ∧ m63.1 13 ≤ 120 := hT64.1 13
      have g78 : 0 ≤ m63.1 23 ∧ m63.1 23 ≤ 16 := hT64.1 23
      replace h67 : (m63.1 10) = 0 → (m53.1 10) = 0 := h67
      replace h68 : LxP (m63.1 7) (m63.1 8) (m63.1 9) (m.1 6) (m63.1 10) := h68
      replace h69 : ∀ k, (m63.2 14) k + (m63.2 15) k ≤ 4000 := h69
      have hf79 : 1 ≤ (m63.1 10) := by omega
      clear c70
      clear h67
      have hLx := h68
      have hNM := h69
      clear q55_7 q55_8 q55_9 q55_10 q55_11 q55_12 ic56 ic57
      exact J116_23 x65 (mO m [(7, (m63.1 7)), (8, (m63.1 8)), (9, (m63.1 9)), (10, (m63.1 10)), (11, (m63.1 11)), (12, (m63.1 12)), (13, (m63.1 13)), (23, (m63.1 23))] [(14, (m63.2 14)), (15, (m63.2 15)), (16, (m63.2 16)), (17, (m63.2 17)), (37, (m63.2 37)), (38, (m63.2 38)), (42, (m.2 42)), (45, (m.2 45)), (97, (m53.2 97)), (98, (m53.2 98))]) (r32 (by omega) (by omega)) (Ty_mO hT rfl rfl ⟨(hT64.1 7), (hT64.1 8), (hT64.1 9), (hT64.1 10), (hT64.1 11), (hT64.1 12), (hT64.1 13), (hT64.1 23), trivial⟩ ⟨(hT64.2.1 14), (hT64.2.1 15), (hT64.2.1 16), (hT64.2.1 17), (hT64.2.1 37), (hT64.2.1 38), (hT.2.1 42), (hT.2.1 45), (q55.2.1 97), (q55.2.1 98), trivial⟩) (show (-2) ≤ x65 by omega) (show x65 ≤ 15 by omega) (show 1 ≤ (m63.1 10) by omega) (show (m63.1 10) ≤ 8 by omega) (show ∀ k, (m63.2 14) k + (m63.2 15) k ≤ 4000 by first | exact hNM) (show (m.2 42) d ≤ 7 by omega)
    have J100_82 : ∀ (s80 : Int) (m81 : mR), (R64 s80) → (Ty m81) → (1 ≤ (m81.1 10)) → ((m81.1 10) ≤ 8) → (∀ k, (m.2 14) k + (m.2 15) k ≤ 4000) → ((m.2 42) d ≤ 7) → TT w D pm_265 (100, [(0, .ref 189), (1, .int (i32 d)), (2, .int (i32 ((8 * d) + ((m.2 42) d))))], [.long (i64 s80), .int (i32 ((8 * d) + ((m.2 42) d))), .ref 260], (mhp (mO m [(7, (m81.1 7)), (8, (m81.1 8)), (9, (m81.1 9)), (10, (m81.1 10)), (11, (m81.1 11)), (12, (m81.1 12)), (13, (m.1 13)), (23, (m.1 23))] [(14, (m.2 14)), (15, (m.2 15)), (16, (m.2 16)), (17, (m.2 17)), (37, (m.2 37)), (38, (m.2 38)), (42, (m.2 42)), (45, (m.2 45)), (97, (m81.2 97)), (98, (m81.2 98))]) c, N), 0, 0) (Q_takeCase m c N d) := by
      intro s80 m81 q83 q84 ic85 ic86 ic87 ic88
      obtain ⟨q83a, q83b⟩ := id q83
      have q84_7 : 0 ≤ m81.1 7 ∧ m81.1 7 ≤ 330 := q84.1 7
      have q84_8 : 0 ≤ m81.1 8 ∧ m81.1 8 ≤ 4000 := q84.1 8
      have q84_9 : 0 ≤ m81.1 9 ∧ m81.1 9 ≤ 4000 := q84.1 9
      have q84_10 : 0 ≤ m81.1 10 ∧ m81.1 10 ≤ 8 := q84.1 10
      have q84_11 : (-1) ≤ m81.1 11 ∧ m81.1 11 ≤ 4000 := q84.1 11
      have q84_12 : (-9223372036854775808) ≤ m81.1 12 ∧ m81.1 12 ≤ 9223372036854775807 := q84.1 12
      have hNM := ic87
      have G90 : ∀ j, (-9223372036854775808) ≤ (upI (m81.2 98) ((8 * d) + ((m.2 42) d)) s80) j ∧ (upI (m81.2 98) ((8 * d) + ((m.2 42) d)) s80) j ≤ 9223372036854775807 := upI_rg (q84.2.1 98) ⟨by omega, by omega⟩
      refine T_last (a' := [(14, (m.2 14)), (15, (m.2 15)), (16, (m.2 16)), (17, (m.2 17)), (37, (m.2 37)), (38, (m.2 38)), (42, (m.2 42)), (45, (m.2 45)), (97, (m81.2 97)), (98, upI (m81.2 98) ((8 * d) + ((m.2 42) d)) s80)]) 101 98 (m81.2 98) rfl rfl rfl (by omega) (show ((8 * d) + ((m.2 42) d)) < (128 : Int) by omega) rfl rfl ?_
      refine T_ld 102 (.ref 189) rfl (fun _ => rfl) ?_
      refine T_ld 104 (.int (i32 58)) rfl (fun _ => rfl) ?_
      refine T_call 107 232 [.ref 189, .int (i32 58)] [] rfl (fun _ => rfl) rfl (c_need w (mO m [(7, (m81.1 7)), (8, (m81.1 8)), (9, (m81.1 9)), (10, (m81.1 10)), (11, (m81.1 11)), (12, (m81.1 12)), (13, (m.1 13)), (23, (m.1 23))] [(14, (m.2 14)), (15, (m.2 15)), (16, (m.2 16)), (17, (m.2 17)), (37, (m.2 37)), (38, (m.2 38)), (42, (m.2 42)), (45, (m.2 45)), (97, (m81.2 97)), (98, upI (m81.2 98) ((8 * d) + ((m.2 42) d)) s80)]) c N D (by omega) (Ty_mO hT rfl rfl ⟨(q84.1 7), (q84.1 8), (q84.1 9), (q84.1 10), (q84.1 11), (q84.1 12), f13, f23, trivial⟩ ⟨(hT.2.1 14), (hT.2.1 15), (hT.2.1 16), (hT.2.1 17), (hT.2.1 37), (hT.2.1 38), (hT.2.1 42), (hT.2.1 45), (q84.2.1 97), G90, trivial⟩) 58 ⟨by decide, by decide⟩ (show 1 ≤ (58 : Int) by omega) (show LxP (m81.1 7) (m81.1 8) (m81.1 9) (m.1 6) (m81.1 10) by first | exact hLx | (intro h9; exfalso; omega) | (intro h9; have h8 := hLx (by omega); omega))) (fun rr91 k92 => ?_)
      obtain ⟨y93, y95, y97, y99, y101, y103, g94, g96, g98, g100, g102, g104, h105, h106, h107, h108, rfl⟩ := k92
      refine ⟨_, _, rfl, ?_⟩
      refine T_nf2 (st' := []) (l' := [(7, y93), (8, y95), (9, y97), (10, y99), (11, y101), (12, y103), (13, (m.1 13)), (23, (m.1 23))]) (a' := [(14, (m.2 14)), (15, (m.2 15)), (16, (m.2 16)), (17, (m.2 17)), (37, (m.2 37)), (38, (m.2 38)), (42, (m.2 42)), (45, (m.2 45)), (97, (m81.2 97)), (98, upI (m81.2 98) ((8 * d) + ((m.2 42) d)) s80)]) [7, 8, 9, 10, 11, 12] [] rfl ⟨rfl, rfl, rfl, rfl, rfl, rfl, rfl, rfl, rfl, rfl, rfl, rfl, rfl, rfl, rfl, rfl, trivial⟩ ⟨rfl, rfl, rfl, rfl, rfl, rfl, rfl, rfl, rfl, rfl, rfl, rfl, rfl, rfl, rfl, rfl, rfl, rfl, rfl, rfl, trivial⟩ rfl rfl (by decide) (by decide) ?_
      replace h105 : LxP y93 y95 y97 (m.1 6) y99 := h105
      replace h106 : y99 = 0 → (m81.1 10) = 0 ∧ (m81.1 7) = (58 : Int) := h106
      replace h107 : (m81.1 8) ≤ y95 := h107
      replace h108 : y99 = 0 → (m81.1 8) + (m81.1 9) ≤ y95 := h108
      have hf109 : 1 ≤ y99 := by omega
      clear h106
      clear h108
      have hLx := h105
      clear q84_7 q84_8 q84_9 q84_10 q84_11 q84_12 ic85 ic86 h107
      exact J107_54 (mO m [(7, y93), (8, y95), (9, y97), (10, y99), (11, y101), (12, y103), (13, (m.1 13)), (23, (m.1 23))] [(14, (m.2 14)), (15, (m.2 15)), (16, (m.2 16)), (17, (m.2 17)), (37, (m.2 37)), (38, (m.2 38)), (42, (m.2 42)), (45, (m.2 45)), (97, (m81.2 97)), (98, upI (m81.2 98) ((8 * d) + ((m.2 42) d)) s80)]) (Ty_mO hT rfl rfl ⟨g94, g96, g98, g100, g102, g104, f13, f23, trivial⟩ ⟨(hT.2.1 14), (hT.2.1 15), (hT.2.1 16), (hT.2.1 17), (hT.2.1 37), (hT.2.1 38), (hT.2.1 42), (hT.2.1 45), (q84.2.1 97), G90, trivial⟩) (show 1 ≤ y99 by omega) (show y99 ≤ 8 by omega) (show ∀ k, (m.2 14) k + (m.2 15) k ≤ 4000 by first | exact hNM) (show (m.2 42) d ≤ 7 by omega)
    refine T_gf 4 (.ref 212) rfl rfl rfl rfl rfl rfl ?_
    refine T_ld 5 (.int (i32 d)) rfl (fun _ => rfl) ?_
    refine T_iald 6 42 (m.2 42) rfl rfl rfl (by omega) (show d < (16 : Int) by omega) rfl ?_
    have e110 : 0 ≤ (m.2 42) d ∧ (m.2 42) d ≤ 8 := (hT.2.1 42) d
    refine T_ld 8 (.int (i32 8)) rfl (fun _ => rfl) ?_
    refine T_icmp 20 11 rfl rfl rfl (r32 (by omega) (by omega)) ⟨by decide, by decide⟩ (fun (h111 : (m.2 42) d ≠ 8) => ?_) (fun (h111 : ¬ ((m.2 42) d ≠ 8)) => ?_)
    · skip
      refine T_gf 24 (.int (i32 (m.1 10))) rfl rfl rfl rfl rfl rfl ?_
      refine T_if 28 27 rfl rfl rfl (r32 (by omega) (by omega)) (fun (h112 : (m.1 10) ≤ 0) => ?_) (fun (h112 : ¬ ((m.1 10) ≤ 0)) => by exfalso; omega)
      refine T_ld 30 (.int (i32 8)) rfl (fun _ => rfl) ?_
      refine T_ld 31 (.int (i32 d)) rfl (fun _ => rfl) ?_
      refine T_imul 32 rfl rfl ?_
      refine T_gf 36 (.ref 212) rfl rfl rfl rfl rfl rfl ?_
      refine T_ld 37 (.int (i32 d)) rfl (fun _ => rfl) ?_
      refine T_iald 38 42 (m.2 42) rfl rfl rfl (by omega) (show d < (16 : Int) by omega) rfl ?_
      have e113 : 0 ≤ (m.2 42) d ∧ (m.2 42) d ≤ 8 := (hT.2.1 42) d
      refine T_iadd 39 rfl rfl ?_
      refine T_sto 40 [(2, .int (i32 ((8 * d) + ((m.2 42) d)))), (0, .ref 189), (1, .int (i32 d))] rfl (fun _ => rfl) ?_
      refine T_gf 44 (.ref 259) rfl rfl rfl rfl rfl rfl ?_
      refine T_ld 45 (.int (i32 ((8 * d) + ((m.2 42) d)))) rfl (fun _ => rfl) ?_
      refine T_ld 46 (.ref 189) rfl (fun _ => rfl) ?_
      refine T_gf 50 (.ref 213) rfl rfl rfl rfl rfl rfl ?_
      refine T_ld 51 (.int (i32 d)) rfl (fun _ => rfl) ?_
      refine T_iald 52 43 (m.2 43) rfl rfl rfl (by omega) (show d < (16 : Int) by omega) rfl ?_
      have e114 : 0 ≤ m.2 43 d ∧ m.2 43 d ≤ 1024 := hT.2.1 43 d
      refine T_call 55 266 [.ref 189, .int (i32 ((m.2 43) d))] [.int (i32 ((8 * d) + ((m.2 42) d))), .ref 259] rfl (fun _ => rfl) rfl (c_caseNumber w (mO m [(7, (m.1 7)), (8, (m.1 8)), (9, (m.1 9)), (10, (m.1 10)), (11, (m.1 11)), (12, (m.1 12)), (13, (m.1 13)), (23, (m.1 23))] [(14, (m.2 14)), (15, (m.2 15)), (16, (m.2 16)), (17, (m.2 17)), (37, (m.2 37)), (38, (m.2 38)), (42, (m.2 42)), (45, (m.2 45)), (97, (m.2 97)), (98, (m.2 98))]) c N D (by omega) (Ty_mO hT rfl rfl ⟨f7, f8, f9, f10, f11, f12, f13, f23, trivial⟩ ⟨(hT.2.1 14), (hT.2.1 15), (hT.2.1 16), (hT.2.1 17), (hT.2.1 37), (hT.2.1 38), (hT.2.1 42), (hT.2.1 45), (hT.2.1 97), (hT.2.1 98), trivial⟩) ((m.2 43) d) (r32 (by omega) (by omega)) (show LxP (m.1 7) (m.1 8) (m.1 9) (m.1 6) (m.1 10) by first | exact hLx | exact (fun _ => hLx (by omega)) | (intro h9; exfalso; omega)) (fun _ => trivial)) (fun rr115 k116 => ?_)
      obtain ⟨m117, x119, hT118, g120, h121, h122, c123, rfl⟩ := k116
      refine ⟨_, _, rfl, ?_⟩
      refine T_nf2 (st' := [.long (i64 x119), .int (i32 ((8 * d) + ((m.2 42) d))), .ref 259]) (l' := [(7, (m117.1 7)), (8, (m117.1 8)), (9, (m117.1 9)), (10, (m117.1 10)), (11, (m117.1 11)), (12, (m117.1 12)), (13, (m.1 13)), (23, (m.1 23))]) (a' := [(14, (m.2 14)), (15, (m.2 15)), (16, (m.2 16)), (17, (m.2 17)), (37, (m.2 37)), (38, (m.2 38)), (42, (m.2 42)), (45, (m.2 45)), (97, (m.2 97)), (98, (m.2 98))]) [7, 8, 9, 10, 11, 12] [] rfl ⟨rfl, rfl, rfl, rfl, rfl, rfl, rfl, rfl, rfl, rfl, rfl, rfl, rfl, rfl, rfl, rfl, trivial⟩ ⟨rfl, rfl, rfl, rfl, rfl, rfl, rfl, rfl, rfl, rfl, rfl, rfl, rfl, rfl, rfl, rfl, rfl, rfl, rfl, rfl, trivial⟩ rfl rfl (by decide) (by decide) ?_
      obtain ⟨g120a, g120b⟩ := g120
      have g124 : 0 ≤ m117.1 7 ∧ m117.1 7 ≤ 330 := hT118.1 7
      have g125 : 0 ≤ m117.1 8 ∧ m117.1 8 ≤ 4000 := hT118.1 8
      have g126 : 0 ≤ m117.1 9 ∧ m117.1 9 ≤ 4000 := hT118.1 9
      have g127 : 0 ≤ m117.1 10 ∧ m117.1 10 ≤ 8 := hT118.1 10
      have g128 : (-1) ≤ m117.1 11 ∧ m117.1 11 ≤ 4000 := hT118.1 11
      have g129 : (-9223372036854775808) ≤ m117.1 12 ∧ m117.1 12 ≤ 9223372036854775807 := hT118.1 12
      by_cases hf130 : (m117.1 10) = 0
      · skip
        replace h121 : (m.1 10) = 0 := h121 hf130
        replace h122 : LxP (m117.1 7) (m117.1 8) (m117.1 9) (m.1 6) (m117.1 10) := h122
        have hLx := h122
        obtain ⟨c131, c132⟩ := c123 hf130
        replace c131 : (m.1 8) + 1 ≤ (m117.1 8) := c131
        replace c132 : (m.1 7) = 2 := c132
        clear c123
        have u133 : (m.1 8) + 1 ≤ (m117.1 8) := by omega
        have G134 : ∀ j, (-9223372036854775808) ≤ (upI (m.2 97) ((8 * d) + ((m.2 42) d)) x119) j ∧ (upI (m.2 97) ((8 * d) + ((m.2 42) d)) x119) j ≤ 9223372036854775807 := upI_rg (hT.2.1 97) ⟨by omega, by omega⟩
        refine T_last (a' := [(14, (m.2 14)), (15, (m.2 15)), (16, (m.2 16)), (17, (m.2 17)), (37, (m.2 37)), (38, (m.2 38)), (42, (m.2 42)), (45, (m.2 45)), (97, upI (m.2 97) ((8 * d) + ((m.2 42) d)) x119), (98, (m.2 98))]) 56 97 (m.2 97) rfl rfl rfl (by omega) (show ((8 * d) + ((m.2 42) d)) < (128 : Int) by omega) rfl rfl ?_
        refine T_gf 60 (.ref 260) rfl rfl rfl rfl rfl rfl ?_
        refine T_ld 61 (.int (i32 ((8 * d) + ((m.2 42) d)))) rfl (fun _ => rfl) ?_
        refine T_ld 64 (.long (i64 (-1))) rfl (fun _ => rfl) ?_
        have G135 : ∀ j, (-9223372036854775808) ≤ (upI (m.2 98) ((8 * d) + ((m.2 42) d)) (-1)) j ∧ (upI (m.2 98) ((8 * d) + ((m.2 42) d)) (-1)) j ≤ 9223372036854775807 := upI_rg (hT.2.1 98) ⟨by omega, by omega⟩
        refine T_last (a' := [(14, (m.2 14)), (15, (m.2 15)), (16, (m.2 16)), (17, (m.2 17)), (37, (m.2 37)), (38, (m.2 38)), (42, (m.2 42)), (45, (m.2 45)), (97, upI (m.2 97) ((8 * d) + ((m.2 42) d)) x119), (98, upI (m.2 98) ((8 * d) + ((m.2 42) d)) (-1))]) 65 98 (m.2 98) rfl rfl rfl (by omega) (show ((8 * d) + ((m.2 42) d)) < (128 : Int) by omega) rfl rfl ?_
        refine T_gf 69 (.int (i32 (m117.1 10))) rfl rfl rfl rfl rfl rfl ?_
        refine T_if 101 72 rfl rfl rfl (r32 (by omega) (by omega)) (fun (h136 : (m117.1 10) ≠ 0) => by exfalso; omega) (fun (h136 : ¬ ((m117.1 10) ≠ 0)) => ?_)
        refine T_gf 76 (.int (i32 (m117.1 7))) rfl rfl rfl rfl rfl rfl ?_
        refine T_ld 78 (.int (i32 38)) rfl (fun _ => rfl) ?_
        refine T_icmp 101 81 rfl rfl rfl (r32 (by omega) (by omega)) ⟨by decide, by decide⟩ (fun (h137 : (m117.1 7) ≠ 38) => ?_) (fun (h137 : ¬ ((m117.1 7) ≠ 38)) => ?_)
        · skip
          refine T_ld 102 (.ref 189) rfl (fun _ => rfl) ?_
          refine T_ld 104 (.int (i32 58)) rfl (fun _ => rfl) ?_
          refine T_call 107 232 [.ref 189, .int (i32 58)] [] rfl (fun _ => rfl) rfl (c_need w (mO m [(7, (m117.1 7)), (8, (m117.1 8)), (9, (m117.1 9)), (10, (m117.1 10)), (11, (m117.1 11)), (12, (m117.1 12)), (13, (m.1 13)), (23, (m.1 23))] [(14, (m.2 14)), (15, (m.2 15)), (16, (m.2 16)), (17, (m.2 17)), (37, (m.2 37)), (38, (m.2 38)), (42, (m.2 42)), (45, (m.2 45)), (97, upI (m.2 97) ((8 * d) + ((m.2 42) d)) x119), (98, upI (m.2 98) ((8 * d) + ((m.2 42) d)) (-1))]) c N D (by omega) (Ty_mO hT rfl rfl ⟨(hT118.1 7), (hT118.1 8), (hT118.1 9), (hT118.1 10), (hT118.1 11), (hT118.1 12), f13, f23, trivial⟩ ⟨(hT.2.1 14), (hT.2.1 15), (hT.2.1 16), (hT.2.1 17), (hT.2.1 37), (hT.2.1 38), (hT.2.1 42), (hT.2.1 45), G134, G135, trivial⟩) 58 ⟨by decide, by decide⟩ (show 1 ≤ (58 : Int) by omega) (show LxP (m117.1 7) (m117.1 8) (m117.1 9) (m.1 6) (m117.1 10) by first | exact hLx | (intro h9; exfalso; omega) | (intro h9; have h8 := hLx (by omega); omega))) (fun rr138 k139 => ?_)
          obtain ⟨y140, y142, y144, y146, y148, y150, g141, g143, g145, g147, g149, g151, h152, h153, h154, h155, rfl⟩ := k139
          refine ⟨_, _, rfl, ?_⟩
          refine T_nf2 (st' := []) (l' := [(7, y140), (8, y142), (9, y144), (10, y146), (11, y148), (12, y150), (13, (m.1 13)), (23, (m.1 23))]) (a' := [(14, (m.2 14)), (15, (m.2 15)), (16, (m.2 16)), (17, (m.2 17)), (37, (m.2 37)), (38, (m.2 38)), (42, (m.2 42)), (45, (m.2 45)), (97, upI (m.2 97) ((8 * d) + ((m.2 42) d)) x119), (98, upI (m.2 98) ((8 * d) + ((m.2 42) d)) (-1))]) [7, 8, 9, 10, 11, 12] [] rfl ⟨rfl, rfl, rfl, rfl, rfl, rfl, rfl, rfl, rfl, rfl, rfl, rfl, rfl, rfl, rfl, rfl, trivial⟩ ⟨rfl, rfl, rfl, rfl, rfl, rfl, rfl, rfl, rfl, rfl, rfl, rfl, rfl, rfl, rfl, rfl, rfl, rfl, rfl, rfl, trivial⟩ rfl rfl (by decide) (by decide) ?_
          by_cases hf156 : y146 = 0
          · skip
            subst hf156
            replace h152 : LxP y140 y142 y144 (m.1 6) (0 : Int) := h152
            have hLx := h152
            replace h153 : (m117.1 10) = 0 ∧ (m117.1 7) = (58 : Int) := h153 rfl
            replace h154 : (m117.1 8) ≤ y142 := h154
            replace h155 : (m117.1 8) + (m117.1 9) ≤ y142 := h155 rfl
            have u157 : (m.1 8) + 1 ≤ y142 := by omega
            clear g124 g125 g126 g127 g128 g129 h122 c131 u133 h136 h137 g147 h153 h154 h155
            refine T_gf 111 (.ref 215) rfl rfl rfl rfl rfl rfl ?_
            refine T_ld 112 (.int (i32 ((8 * d) + ((m.2 42) d)))) rfl (fun _ => rfl) ?_
            refine T_ld 113 (.ref 189) rfl (fun _ => rfl) ?_
            refine T_call 116 242 [.ref 189] [.int (i32 ((8 * d) + ((m.2 42) d))), .ref 215] rfl (fun _ => rfl) rfl (c_stateHere w (mO m [(7, y140), (8, y142), (9, y144), (10, 0), (11, y148), (12, y150), (13, (m.1 13)), (23, (m.1 23))] [(14, (m.2 14)), (15, (m.2 15)), (16, (m.2 16)), (17, (m.2 17)), (37, (m.2 37)), (38, (m.2 38)), (42, (m.2 42)), (45, (m.2 45)), (97, upI (m.2 97) ((8 * d) + ((m.2 42) d)) x119), (98, upI (m.2 98) ((8 * d) + ((m.2 42) d)) (-1))]) c N D (by omega) (Ty_mO hT rfl rfl ⟨g141, g143, g145, ⟨(by omega : (0 : Int) ≤ 0), (by omega : (0 : Int) ≤ 8)⟩, g149, g151, f13, f23, trivial⟩ ⟨(hT.2.1 14), (hT.2.1 15), (hT.2.1 16), (hT.2.1 17), (hT.2.1 37), (hT.2.1 38), (hT.2.1 42), (hT.2.1 45), G134, G135, trivial⟩) (show LxP y140 y142 y144 (m.1 6) (0 : Int) by first | exact hLx | exact (fun _ => hLx (by omega)) | (intro h9; exfalso; omega)) (show ∀ k, (m.2 14) k + (m.2 15) k ≤ 4000 by assumption) (fun _ => ⟨(show PN (m.1 13) (m.1 19) (m.1 20) (m.1 21) (m.1 22) (m.1 23) (m.1 25) (m.1 26) (m.2 16) (m.2 17) by assumption), (show SOp (m.2 38) (m.1 23) (m.1 24) by first | exact pSO | assumption)⟩)) (fun rr158 k159 => ?_)
            obtain ⟨m160, x162, hT161, g163, h164, h165, h166, c167, rfl⟩ := k159
            refine ⟨_, _, rfl, ?_⟩
            refine T_nf2 (st' := [.int (i32 x162), .int (i32 ((8 * d) + ((m.2 42) d))), .ref 215]) (l' := [(7, (m160.1 7)), (8, (m160.1 8)), (9, (m160.1 9)), (10, (m160.1 10)), (11, (m160.1 11)), (12, (m160.1 12)), (13, (m160.1 13)), (23, (m160.1 23))]) (a' := [(14, (m160.2 14)), (15, (m160.2 15)), (16, (m160.2 16)), (17, (m160.2 17)), (37, (m160.2 37)), (38, (m160.2 38)), (42, (m.2 42)), (45, (m.2 45)), (97, upI (m.2 97) ((8 * d) + ((m.2 42) d)) x119), (98, upI (m.2 98) ((8 * d) + ((m.2 42) d)) (-1))]) [7, 8, 9, 10, 11, 12, 13, 23] [14, 15, 16, 17, 37, 38] rfl ⟨rfl, rfl, rfl, rfl, rfl, rfl, rfl, rfl, rfl, rfl, rfl, rfl, rfl, rfl, rfl, rfl, trivial⟩ ⟨rfl, rfl, rfl, rfl, rfl, rfl, rfl, rfl, rfl, rfl, rfl, rfl, rfl, rfl, rfl, rfl, rfl, rfl, rfl, rfl, trivial⟩ rfl rfl (by decide) (by decide) ?_
            obtain ⟨g163a, g163b⟩ := g163
            have g168 : 0 ≤ m160.1 7 ∧ m160.1 7 ≤ 330 := hT161.1 7
            have g169 : 0 ≤ m160.1 8 ∧ m160.1 8 ≤ 4000 := hT161.1 8
            have g170 : 0 ≤ m160.1 9 ∧ m160.1 9 ≤ 4000 := hT161.1 9
            have g171 : 0 ≤ m160.1 10 ∧ m160.1 10 ≤ 8 := hT161.1 10
            have g172 : (-1) ≤ m160.1 11 ∧ m160.1 11 ≤ 4000 := hT161.1 11
            have g173 : (-9223372036854775808) ≤ m160.1 12 ∧ m160.1 12 ≤ 9223372036854775807 := hT161.1 12
            have g174 : 0 ≤ m160.1 13 ∧ m160.1 13 ≤ 120 := hT161.1 13
            have g175 : 0 ≤ m160.1 23 ∧ m160.1 23 ≤ 16 := hT161.1 23
            by_cases hf176 : (m160.1 10) = 0
            · skip
              replace h164 : (0 : Int) = 0 := h164 hf176
              replace h165 : LxP (m160.1 7) (m160.1 8) (m160.1 9) (m.1 6) (m160.1 10) := h165
              have hLx := h165
              replace h166 : ∀ k, (m160.2 14) k + (m160.2 15) k ≤ 4000 := h166
              have hNM := h166
              obtain ⟨c177, c178, c179, c180, c181⟩ := c167 hf176
              replace c177 : y142 + 1 ≤ (m160.1 8) := c177
              replace c178 : PN (m160.1 13) (m.1 19) (m.1 20) (m.1 21) (m.1 22) (m160.1 23) (m.1 25) (m.1 26) (m160.2 16) (m160.2 17) := c178
              have pPN := c178
              replace c179 : SOp (m160.2 38) (m160.1 23) (m.1 24) := c179
              have pSO := c179
              replace c180 : x162 < (m160.1 23) := c180
              have hRS := c180
              replace c181 : (m.1 23) ≤ (m160.1 23) := c181
              clear c167
              have u182 : (m.1 8) + 1 ≤ (m160.1 8) := by omega
              clear g141 g143 g145 g149 g151 h152 u157 c177
              have G183 : ∀ j, (-2) ≤ (upI (m.2 45) ((8 * d) + ((m.2 42) d)) x162) j ∧ (upI (m.2 45) ((8 * d) + ((m.2 42) d)) x162) j ≤ 15 := upI_rg (hT.2.1 45) ⟨by omega, by omega⟩
              refine T_iast (a' := [(14, (m160.2 14)), (15, (m160.2 15)), (16, (m160.2 16)), (17, (m160.2 17)), (37, (m160.2 37)), (38, (m160.2 38)), (42, (m.2 42)), (45, upI (m.2 45) ((8 * d) + ((m.2 42) d)) x162), (97, upI (m.2 97) ((8 * d) + ((m.2 42) d)) x119), (98, upI (m.2 98) ((8 * d) + ((m.2 42) d)) (-1))]) 117 45 (m.2 45) rfl rfl rfl (by omega) (show ((8 * d) + ((m.2 42) d)) < (128 : Int) by omega) rfl rfl ?_
              refine T_ld 118 (.ref 189) rfl (fun _ => rfl) ?_
              refine T_ld 120 (.int (i32 59)) rfl (fun _ => rfl) ?_
              refine T_call 123 232 [.ref 189, .int (i32 59)] [] rfl (fun _ => rfl) rfl (c_need w (mO m [(7, (m160.1 7)), (8, (m160.1 8)), (9, (m160.1 9)), (10, (m160.1 10)), (11, (m160.1 11)), (12, (m160.1 12)), (13, (m160.1 13)), (23, (m160.1 23))] [(14, (m160.2 14)), (15, (m160.2 15)), (16, (m160.2 16)), (17, (m160.2 17)), (37, (m160.2 37)), (38, (m160.2 38)), (42, (m.2 42)), (45, upI (m.2 45) ((8 * d) + ((m.2 42) d)) x162), (97, upI (m.2 97) ((8 * d) + ((m.2 42) d)) x119), (98, upI (m.2 98) ((8 * d) + ((m.2 42) d)) (-1))]) c N D (by omega) (Ty_mO hT rfl rfl ⟨(hT161.1 7), (hT161.1 8), (hT161.1 9), (hT161.1 10), (hT161.1 11), (hT161.1 12), (hT161.1 13), (hT161.1 23), trivial⟩ ⟨(hT161.2.1 14), (hT161.2.1 15), (hT161.2.1 16), (hT161.2.1 17), (hT161.2.1 37), (hT161.2.1 38), (hT.2.1 42), G183, G134, G135, trivial⟩) 59 ⟨by decide, by decide⟩ (show 1 ≤ (59 : Int) by omega) (show LxP (m160.1 7) (m160.1 8) (m160.1 9) (m.1 6) (m160.1 10) by first | exact hLx | (intro h9; exfalso; omega) | (intro h9; have h8 := hLx (by omega); omega))) (fun rr184 k185 => ?_)
              obtain ⟨y186, y188, y190, y192, y194, y196, g187, g189, g191, g193, g195, g197, h198, h199, h200, h201, rfl⟩ := k185
              refine ⟨_, _, rfl, ?_⟩
              refine T_nf2 (st' := []) (l' := [(7, y186), (8, y188), (9, y190), (10, y192), (11, y194), (12, y196), (13, (m160.1 13)), (23, (m160.1 23))]) (a' := [(14, (m160.2 14)), (15, (m160.2 15)), (16, (m160.2 16)), (17, (m160.2 17)), (37, (m160.2 37)), (38, (m160.2 38)), (42, (m.2 42)), (45, upI (m.2 45) ((8 * d) + ((m.2 42) d)) x162), (97, upI (m.2 97) ((8 * d) + ((m.2 42) d)) x119), (98, upI (m.2 98) ((8 * d) + ((m.2 42) d)) (-1))]) [7, 8, 9, 10, 11, 12] [] rfl ⟨rfl, rfl, rfl, rfl, rfl, rfl, rfl, rfl, rfl, rfl, rfl, rfl, rfl, rfl, rfl, rfl, trivial⟩ ⟨rfl, rfl, rfl, rfl, rfl, rfl, rfl, rfl, rfl, rfl, rfl, rfl, rfl, rfl, rfl, rfl, rfl, rfl, rfl, rfl, trivial⟩ rfl rfl (by decide) (by decide) ?_
              by_cases hf202 : y192 = 0
              · skip
                subst hf202
                replace h198 : LxP y186 y188 y190 (m.1 6) (0 : Int) := h198
                have hLx := h198
                replace h199 : (m160.1 10) = 0 ∧ (m160.1 7) = (59 : Int) := h199 rfl
                replace h200 : (m160.1 8) ≤ y188 := h200
                replace h201 : (m160.1 8) + (m160.1 9) ≤ y188 := h201 rfl
                have u203 : (m.1 8) + 1 ≤ y188 := by omega
                clear g168 g169 g170 g171 g172 g173 h165 u182 g193 h199 h200 h201
                have hlt : (m.2 42) d < 8 := by omega
                refine T_gf 127 (.ref 212) rfl rfl rfl rfl rfl rfl ?_
                refine T_ld 128 (.int (i32 d)) rfl (fun _ => rfl) ?_
                refine T_dup2 129 rfl (fun _ => rfl) ?_
                refine T_iald 130 42 (m.2 42) rfl rfl rfl (by omega) (show d < (16 : Int) by omega) rfl ?_
                have e204 : 0 ≤ (m.2 42) d ∧ (m.2 42) d ≤ 8 := (hT.2.1 42) d
                refine T_ld 131 (.int (i32 1)) rfl (fun _ => rfl) ?_
                refine T_iadd 132 rfl rfl ?_
                have G205 : ∀ j, 0 ≤ (upI (m.2 42) d (((m.2 42) d) + 1)) j ∧ (upI (m.2 42) d (((m.2 42) d) + 1)) j ≤ 8 := upI_rg (hT.2.1 42) ⟨by omega, by omega⟩
                refine T_iast (a' := [(14, (m160.2 14)), (15, (m160.2 15)), (16, (m160.2 16)), (17, (m160.2 17)), (37, (m160.2 37)), (38, (m160.2 38)), (42, upI (m.2 42) d (((m.2 42) d) + 1)), (45, upI (m.2 45) ((8 * d) + ((m.2 42) d)) x162), (97, upI (m.2 97) ((8 * d) + ((m.2 42) d)) x119), (98, upI (m.2 98) ((8 * d) + ((m.2 42) d)) (-1))]) 133 42 (m.2 42) rfl rfl rfl (by omega) (show d < (16 : Int) by omega) rfl rfl ?_
                have hCT2 : ∀ c, 8 * d ≤ c → c < 8 * d + (upI (m.2 42) d (((m.2 42) d) + 1)) d → (upI (m.2 45) ((8 * d) + ((m.2 42) d)) x162) c < (m160.1 23) := by
                  intro c c0 c1
                  rw [upI_s] at c1
                  by_cases e : c = 8 * d + (m.2 42) d
                  · subst e
                    rw [upI_s]
                    exact hRS
                  · rw [upI_n e]
                    have := hCT c c0 (by omega)
                    omega
                refine T_ret rfl (fun _ => rfl) ?_
                exact ⟨(mO m [(7, y186), (8, y188), (9, y190), (10, 0), (11, y194), (12, y196), (13, (m160.1 13)), (23, (m160.1 23))] [(14, (m160.2 14)), (15, (m160.2 15)), (16, (m160.2 16)), (17, (m160.2 17)), (37, (m160.2 37)), (38, (m160.2 38)), (42, upI (m.2 42) d (((m.2 42) d) + 1)), (45, upI (m.2 45) ((8 * d) + ((m.2 42) d)) x162), (97, upI (m.2 97) ((8 * d) + ((m.2 42) d)) x119), (98, upI (m.2 98) ((8 * d) + ((m.2 42) d)) (-1))]), (Ty_mO hT rfl rfl ⟨g187, g189, g191, ⟨(by omega : (0 : Int) ≤ 0), (by omega : (0 : Int) ≤ 8)⟩, g195, g197, (hT161.1 13), (hT161.1 23), trivial⟩ ⟨(hT161.2.1 14), (hT161.2.1 15), (hT161.2.1 16), (hT161.2.1 17), (hT161.2.1 37), (hT161.2.1 38), G205, G183, G134, G135, trivial⟩), (show (0 : Int) = 0 → (m.1 10) = 0 by omega), (show LxP y186 y188 y190 (m.1 6) (0 : Int) by first | (first | exact hLx | exact (fun _ => hLx (by omega)) | (intro h9; exfalso; omega)) | (exfalso; omega)), (show ∀ k, (m160.2 14) k + (m160.2 15) k ≤ 4000 by first | (first | exact hNM | (intro k; rw [hE1, hE2]; have := hNM k; have h7 := hLx0 hf0; unfold upI; split <;> omega)) | (exfalso; omega)), (fun _ => ⟨(show (m.1 8) + 1 ≤ y188 by omega), (show PN (m160.1 13) (m.1 19) (m.1 20) (m.1 21) (m.1 22) (m160.1 23) (m.1 25) (m.1 26) (m160.2 16) (m160.2 17) by first | (exact pPN) | (exfalso; omega)), (show SOp (m160.2 38) (m160.1 23) (m.1 24) by first | (exact pSO) | (exfalso; omega)), (show ∀ c, 8 * d ≤ c → c < 8 * d + (upI (m.2 42) d (((m.2 42) d) + 1)) d → (upI (m.2 45) ((8 * d) + ((m.2 42) d)) x162) c < (m160.1 23) by first | (exact hCT2) | (exfalso; omega)), (show (m.1 23) ≤ (m160.1 23) by omega), (show agr (m.2 42) (upI (m.2 42) d (((m.2 42) d) + 1)) d by first | (exact agr_u (Int.le_refl _)) | (exfalso; omega)), (show agr (m.2 45) (upI (m.2 45) ((8 * d) + ((m.2 42) d)) x162) (8 * d) by first | (exact agr_u (by omega)) | (exfalso; omega))⟩), rfl⟩
              · skip
                replace h198 : LxP y186 y188 y190 (m.1 6) y192 := h198
                have hLx := h198
                clear h199
                replace h200 : (m160.1 8) ≤ y188 := h200
                clear h201
                have hf206 : 1 ≤ y192 := by omega
                clear g168 g169 g170 g171 g172 g173 h165 u182 h200
                refine Tm_lv (a := [(0, .ref 189), (1, .int (i32 d)), (2, .int (i32 ((8 * d) + ((m.2 42) d))))]) rfl rfl ⟨rfl, rfl, rfl, trivial⟩ ?_
                exact J123_12 (mO m [(7, y186), (8, y188), (9, y190), (10, y192), (11, y194), (12, y196), (13, (m160.1 13)), (23, (m160.1 23))] [(14, (m160.2 14)), (15, (m160.2 15)), (16, (m160.2 16)), (17, (m160.2 17)), (37, (m160.2 37)), (38, (m160.2 38)), (42, (m.2 42)), (45, upI (m.2 45) ((8 * d) + ((m.2 42) d)) x162), (97, upI (m.2 97) ((8 * d) + ((m.2 42) d)) x119), (98, upI (m.2 98) ((8 * d) + ((m.2 42) d)) (-1))]) (Ty_mO hT rfl rfl ⟨g187, g189, g191, g193, g195, g197, (hT161.1 13), (hT161.1 23), trivial⟩ ⟨(hT161.2.1 14), (hT161.2.1 15), (hT161.2.1 16), (hT161.2.1 17), (hT161.2.1 37), (hT161.2.1 38), (hT.2.1 42), G183, G134, G135, trivial⟩) (show 1 ≤ y192 by omega) (show y192 ≤ 8 by omega) (show ∀ k, (m160.2 14) k + (m160.2 15) k ≤ 4000 by first | exact hNM) (show (m.2 42) d ≤ 7 by omega)
            · skip
              clear c167
              clear h164
              replace h165 : LxP (m160.1 7) (m160.1 8) (m160.1 9) (m.1 6) (m160.1 10) := h165
              have hLx := h165
              replace h166 : ∀ k, (m160.2 14) k + (m160.2 15) k ≤ 4000 := h166
              have hNM := h166
              have hf207 : 1 ≤ (m160.1 10) := by omega
              clear g141 g143 g145 g149 g151 h152 u157
              refine Tm_lv (a := [(0, .ref 189), (1, .int (i32 d)), (2, .int (i32 ((8 * d) + ((m.2 42) d))))]) rfl rfl ⟨rfl, rfl, rfl, trivial⟩ ?_
              exact J116_23 x162 (mO m [(7, (m160.1 7)), (8, (m160.1 8)), (9, (m160.1 9)), (10, (m160.1 10)), (11, (m160.1 11)), (12, (m160.1 12)), (13, (m160.1 13)), (23, (m160.1 23))] [(14, (m160.2 14)), (15, (m160.2 15)), (16, (m160.2 16)), (17, (m160.2 17)), (37, (m160.2 37)), (38, (m160.2 38)), (42, (m.2 42)), (45, (m.2 45)), (97, upI (m.2 97) ((8 * d) + ((m.2 42) d)) x119), (98, upI (m.2 98) ((8 * d) + ((m.2 42) d)) (-1))]) (r32 (by omega) (by omega)) (Ty_mO hT rfl rfl ⟨(hT161.1 7), (hT161.1 8), (hT161.1 9), (hT161.1 10), (hT161.1 11), (hT161.1 12), (hT161.1 13), (hT161.1 23), trivial⟩ ⟨(hT161.2.1 14), (hT161.2.1 15), (hT161.2.1 16), (hT161.2.1 17), (hT161.2.1 37), (hT161.2.1 38), (hT.2.1 42), (hT.2.1 45), G134, G135, trivial⟩) (show (-2) ≤ x162 by omega) (show x162 ≤ 15 by omega) (show 1 ≤ (m160.1 10) by omega) (show (m160.1 10) ≤ 8 by omega) (show ∀ k, (m160.2 14) k + (m160.2 15) k ≤ 4000 by first | exact hNM) (show (m.2 42) d ≤ 7 by omega)
          · skip
            replace h152 : LxP y140 y142 y144 (m.1 6) y146 := h152
            have hLx := h152
            clear h153
            replace h154 : (m117.1 8) ≤ y142 := h154
            clear h155
            have hf208 : 1 ≤ y146 := by omega
            clear g124 g125 g126 g127 g128 g129 h122 c131 u133 h136 h137 h154
            refine Tm_lv (a := [(0, .ref 189), (1, .int (i32 d)), (2, .int (i32 ((8 * d) + ((m.2 42) d))))]) rfl rfl ⟨rfl, rfl, rfl, trivial⟩ ?_
            exact J107_54 (mO m [(7, y140), (8, y142), (9, y144), (10, y146), (11, y148), (12, y150), (13, (m.1 13)), (23, (m.1 23))] [(14, (m.2 14)), (15, (m.2 15)), (16, (m.2 16)), (17, (m.2 17)), (37, (m.2 37)), (38, (m.2 38)), (42, (m.2 42)), (45, (m.2 45)), (97, upI (m.2 97) ((8 * d) + ((m.2 42) d)) x119), (98, upI (m.2 98) ((8 * d) + ((m.2 42) d)) (-1))]) (Ty_mO hT rfl rfl ⟨g141, g143, g145, g147, g149, g151, f13, f23, trivial⟩ ⟨(hT.2.1 14), (hT.2.1 15), (hT.2.1 16), (hT.2.1 17), (hT.2.1 37), (hT.2.1 38), (hT.2.1 42), (hT.2.1 45), G134, G135, trivial⟩) (show 1 ≤ y146 by omega) (show y146 ≤ 8 by omega) (show ∀ k, (m.2 14) k + (m.2 15) k ≤ 4000 by first | exact hNM) (show (m.2 42) d ≤ 7 by omega)
        · skip
          refine T_ld 82 (.ref 189) rfl (fun _ => rfl) ?_
          refine T_call 85 212 [.ref 189] [] rfl (fun _ => rfl) rfl (c_next w (mO m [(7, (m117.1 7)), (8, (m117.1 8)), (9, (m117.1 9)), (10, (m117.1 10)), (11, (m117.1 11)), (12, (m117.1 12)), (13, (m.1 13)), (23, (m.1 23))] [(14, (m.2 14)), (15, (m.2 15)), (16, (m.2 16)), (17, (m.2 17)), (37, (m.2 37)), (38, (m.2 38)), (42, (m.2 42)), (45, (m.2 45)), (97, upI (m.2 97) ((8 * d) + ((m.2 42) d)) x119), (98, upI (m.2 98) ((8 * d) + ((m.2 42) d)) (-1))]) c N D (by omega) (Ty_mO hT rfl rfl ⟨(hT118.1 7), (hT118.1 8), (hT118.1 9), (hT118.1 10), (hT118.1 11), (hT118.1 12), f13, f23, trivial⟩ ⟨(hT.2.1 14), (hT.2.1 15), (hT.2.1 16), (hT.2.1 17), (hT.2.1 37), (hT.2.1 38), (hT.2.1 42), (hT.2.1 45), G134, G135, trivial⟩) (show (m117.1 10) = 0 → (m117.1 8) + (m117.1 9) ≤ (m.1 6) by first | omega | (intro h9; have h8 := hLx h9; omega))) (fun rr209 k210 => ?_)
          obtain ⟨y211, y213, y215, y217, y219, y221, g212, g214, g216, g218, g220, g222, h223, h224, h225, h226, rfl⟩ := k210
          refine ⟨_, _, rfl, ?_⟩
          refine T_nf2 (st' := []) (l' := [(7, y211), (8, y213), (9, y215), (10, y217), (11, y219), (12, y221), (13, (m.1 13)), (23, (m.1 23))]) (a' := [(14, (m.2 14)), (15, (m.2 15)), (16, (m.2 16)), (17, (m.2 17)), (37, (m.2 37)), (38, (m.2 38)), (42, (m.2 42)), (45, (m.2 45)), (97, upI (m.2 97) ((8 * d) + ((m.2 42) d)) x119), (98, upI (m.2 98) ((8 * d) + ((m.2 42) d)) (-1))]) [7, 8, 9, 10, 11, 12] [] rfl ⟨rfl, rfl, rfl, rfl, rfl, rfl, rfl, rfl, rfl, rfl, rfl, rfl, rfl, rfl, rfl, rfl, trivial⟩ ⟨rfl, rfl, rfl, rfl, rfl, rfl, rfl, rfl, rfl, rfl, rfl, rfl, rfl, rfl, rfl, rfl, rfl, rfl, rfl, rfl, trivial⟩ rfl rfl (by decide) (by decide) ?_
          by_cases hf227 : y217 = 0
          · skip
            subst hf227
            replace h223 : LxP y211 y213 y215 (m.1 6) (0 : Int) := h223
            have hLx := h223
            replace h224 : (m117.1 10) = 0 := h224 rfl
            replace h225 : (m117.1 8) ≤ y213 := h225
            replace h226 : (m117.1 8) + (m117.1 9) ≤ y213 := h226 rfl
            have u228 : (m.1 8) + 1 ≤ y213 := by omega
            clear g124 g125 g126 g127 g128 g129 h122 c131 u133 h136 h137 g218 h224 h225 h226
            refine T_gf 89 (.ref 260) rfl rfl rfl rfl rfl rfl ?_
            refine T_ld 90 (.int (i32 ((8 * d) + ((m.2 42) d)))) rfl (fun _ => rfl) ?_
            refine T_ld 91 (.ref 189) rfl (fun _ => rfl) ?_
            refine T_gf 95 (.ref 213) rfl rfl rfl rfl rfl rfl ?_
            refine T_ld 96 (.int (i32 d)) rfl (fun _ => rfl) ?_
            refine T_iald 97 43 (m.2 43) rfl rfl rfl (by omega) (show d < (16 : Int) by omega) rfl ?_
            have e229 : 0 ≤ m.2 43 d ∧ m.2 43 d ≤ 1024 := hT.2.1 43 d
            refine T_call 100 266 [.ref 189, .int (i32 ((m.2 43) d))] [.int (i32 ((8 * d) + ((m.2 42) d))), .ref 260] rfl (fun _ => rfl) rfl (c_caseNumber w (mO m [(7, y211), (8, y213), (9, y215), (10, 0), (11, y219), (12, y221), (13, (m.1 13)), (23, (m.1 23))] [(14, (m.2 14)), (15, (m.2 15)), (16, (m.2 16)), (17, (m.2 17)), (37, (m.2 37)), (38, (m.2 38)), (42, (m.2 42)), (45, (m.2 45)), (97, upI (m.2 97) ((8 * d) + ((m.2 42) d)) x119), (98, upI (m.2 98) ((8 * d) + ((m.2 42) d)) (-1))]) c N D (by omega) (Ty_mO hT rfl rfl ⟨g212, g214, g216, ⟨(by omega : (0 : Int) ≤ 0), (by omega : (0 : Int) ≤ 8)⟩, g220, g222, f13, f23, trivial⟩ ⟨(hT.2.1 14), (hT.2.1 15), (hT.2.1 16), (hT.2.1 17), (hT.2.1 37), (hT.2.1 38), (hT.2.1 42), (hT.2.1 45), G134, G135, trivial⟩) ((m.2 43) d) (r32 (by omega) (by omega)) (show LxP y211 y213 y215 (m.1 6) (0 : Int) by first | exact hLx | exact (fun _ => hLx (by omega)) | (intro h9; exfalso; omega)) (fun _ => trivial)) (fun rr230 k231 => ?_)
            obtain ⟨m232, x234, hT233, g235, h236, h237, c238, rfl⟩ := k231
            refine ⟨_, _, rfl, ?_⟩
            refine T_nf2 (st' := [.long (i64 x234), .int (i32 ((8 * d) + ((m.2 42) d))), .ref 260]) (l' := [(7, (m232.1 7)), (8, (m232.1 8)), (9, (m232.1 9)), (10, (m232.1 10)), (11, (m232.1 11)), (12, (m232.1 12)), (13, (m.1 13)), (23, (m.1 23))]) (a' := [(14, (m.2 14)), (15, (m.2 15)), (16, (m.2 16)), (17, (m.2 17)), (37, (m.2 37)), (38, (m.2 38)), (42, (m.2 42)), (45, (m.2 45)), (97, upI (m.2 97) ((8 * d) + ((m.2 42) d)) x119), (98, upI (m.2 98) ((8 * d) + ((m.2 42) d)) (-1))]) [7, 8, 9, 10, 11, 12] [] rfl ⟨rfl, rfl, rfl, rfl, rfl, rfl, rfl, rfl, rfl, rfl, rfl, rfl, rfl, rfl, rfl, rfl, trivial⟩ ⟨rfl, rfl, rfl, rfl, rfl, rfl, rfl, rfl, rfl, rfl, rfl, rfl, rfl, rfl, rfl, rfl, rfl, rfl, rfl, rfl, trivial⟩ rfl rfl (by decide) (by decide) ?_
            obtain ⟨g235a, g235b⟩ := g235
            have g239 : 0 ≤ m232.1 7 ∧ m232.1 7 ≤ 330 := hT233.1 7
            have g240 : 0 ≤ m232.1 8 ∧ m232.1 8 ≤ 4000 := hT233.1 8
            have g241 : 0 ≤ m232.1 9 ∧ m232.1 9 ≤ 4000 := hT233.1 9
            have g242 : 0 ≤ m232.1 10 ∧ m232.1 10 ≤ 8 := hT233.1 10
            have g243 : (-1) ≤ m232.1 11 ∧ m232.1 11 ≤ 4000 := hT233.1 11
            have g244 : (-9223372036854775808) ≤ m232.1 12 ∧ m232.1 12 ≤ 9223372036854775807 := hT233.1 12
            by_cases hf245 : (m232.1 10) = 0
            · skip
              replace h236 : (0 : Int) = 0 := h236 hf245
              replace h237 : LxP (m232.1 7) (m232.1 8) (m232.1 9) (m.1 6) (m232.1 10) := h237
              have hLx := h237
              obtain ⟨c246, c247⟩ := c238 hf245
              replace c246 : y213 + 1 ≤ (m232.1 8) := c246
              replace c247 : y211 = 2 := c247
              clear c238
              have u248 : (m.1 8) + 1 ≤ (m232.1 8) := by omega
              clear g212 g214 g216 g220 g222 h223 u228 c246 c247
              have G249 : ∀ j, (-9223372036854775808) ≤ (upI (upI (m.2 98) ((8 * d) + ((m.2 42) d)) (-1)) ((8 * d) + ((m.2 42) d)) x234) j ∧ (upI (upI (m.2 98) ((8 * d) + ((m.2 42) d)) (-1)) ((8 * d) + ((m.2 42) d)) x234) j ≤ 9223372036854775807 := upI_rg G135 ⟨by omega, by omega⟩
              refine T_last (a' := [(14, (m.2 14)), (15, (m.2 15)), (16, (m.2 16)), (17, (m.2 17)), (37, (m.2 37)), (38, (m.2 38)), (42, (m.2 42)), (45, (m.2 45)), (97, upI (m.2 97) ((8 * d) + ((m.2 42) d)) x119), (98, upI (upI (m.2 98) ((8 * d) + ((m.2 42) d)) (-1)) ((8 * d) + ((m.2 42) d)) x234)]) 101 98 (upI (m.2 98) ((8 * d) + ((m.2 42) d)) (-1)) rfl rfl rfl (by omega) (show ((8 * d) + ((m.2 42) d)) < (128 : Int) by omega) rfl rfl ?_
              refine T_ld 102 (.ref 189) rfl (fun _ => rfl) ?_
              refine T_ld 104 (.int (i32 58)) rfl (fun _ => rfl) ?_
              refine T_call 107 232 [.ref 189, .int (i32 58)] [] rfl (fun _ => rfl) rfl (c_need w (mO m [(7, (m232.1 7)), (8, (m232.1 8)), (9, (m232.1 9)), (10, (m232.1 10)), (11, (m232.1 11)), (12, (m232.1 12)), (13, (m.1 13)), (23, (m.1 23))] [(14, (m.2 14)), (15, (m.2 15)), (16, (m.2 16)), (17, (m.2 17)), (37, (m.2 37)), (38, (m.2 38)), (42, (m.2 42)), (45, (m.2 45)), (97, upI (m.2 97) ((8 * d) + ((m.2 42) d)) x119), (98, upI (upI (m.2 98) ((8 * d) + ((m.2 42) d)) (-1)) ((8 * d) + ((m.2 42) d)) x234)]) c N D (by omega) (Ty_mO hT rfl rfl ⟨(hT233.1 7), (hT233.1 8), (hT233.1 9), (hT233.1 10), (hT233.1 11), (hT233.1 12), f13, f23, trivial⟩ ⟨(hT.2.1 14), (hT.2.1 15), (hT.2.1 16), (hT.2.1 17), (hT.2.1 37), (hT.2.1 38), (hT.2.1 42), (hT.2.1 45), G134, G249, trivial⟩) 58 ⟨by decide, by decide⟩ (show 1 ≤ (58 : Int) by omega) (show LxP (m232.1 7) (m232.1 8) (m232.1 9) (m.1 6) (m232.1 10) by first | exact hLx | (intro h9; exfalso; omega) | (intro h9; have h8 := hLx (by omega); omega))) (fun rr250 k251 => ?_)
              obtain ⟨y252, y254, y256, y258, y260, y262, g253, g255, g257, g259, g261, g263, h264, h265, h266, h267, rfl⟩ := k251
              refine ⟨_, _, rfl, ?_⟩
              refine T_nf2 (st' := []) (l' := [(7, y252), (8, y254), (9, y256), (10, y258), (11, y260), (12, y262), (13, (m.1 13)), (23, (m.1 23))]) (a' := [(14, (m.2 14)), (15, (m.2 15)), (16, (m.2 16)), (17, (m.2 17)), (37, (m.2 37)), (38, (m.2 38)), (42, (m.2 42)), (45, (m.2 45)), (97, upI (m.2 97) ((8 * d) + ((m.2 42) d)) x119), (98, upI (upI (m.2 98) ((8 * d) + ((m.2 42) d)) (-1)) ((8 * d) + ((m.2 42) d)) x234)]) [7, 8, 9, 10, 11, 12] [] rfl ⟨rfl, rfl, rfl, rfl, rfl, rfl, rfl, rfl, rfl, rfl, rfl, rfl, rfl, rfl, rfl, rfl, trivial⟩ ⟨rfl, rfl, rfl, rfl, rfl, rfl, rfl, rfl, rfl, rfl, rfl, rfl, rfl, rfl, rfl, rfl, rfl, rfl, rfl, rfl, trivial⟩ rfl rfl (by decide) (by decide) ?_
              by_cases hf268 : y258 = 0
              · skip
                subst hf268
                replace h264 : LxP y252 y254 y256 (m.1 6) (0 : Int) := h264
                have hLx := h264
                replace h265 : (m232.1 10) = 0 ∧ (m232.1 7) = (58 : Int) := h265 rfl
                replace h266 : (m232.1 8) ≤ y254 := h266
                replace h267 : (m232.1 8) + (m232.1 9) ≤ y254 := h267 rfl
                have u269 : (m.1 8) + 1 ≤ y254 := by omega
                clear g239 g240 g241 g242 g243 g244 h237 u248 g259 h265 h266 h267
                refine T_gf 111 (.ref 215) rfl rfl rfl rfl rfl rfl ?_
                refine T_ld 112 (.int (i32 ((8 * d) + ((m.2 42) d)))) rfl (fun _ => rfl) ?_
                refine T_ld 113 (.ref 189) rfl (fun _ => rfl) ?_
                refine T_call 116 242 [.ref 189] [.int (i32 ((8 * d) + ((m.2 42) d))), .ref 215] rfl (fun _ => rfl) rfl (c_stateHere w (mO m [(7, y252), (8, y254), (9, y256), (10, 0), (11, y260), (12, y262), (13, (m.1 13)), (23, (m.1 23))] [(14, (m.2 14)), (15, (m.2 15)), (16, (m.2 16)), (17, (m.2 17)), (37, (m.2 37)), (38, (m.2 38)), (42, (m.2 42)), (45, (m.2 45)), (97, upI (m.2 97) ((8 * d) + ((m.2 42) d)) x119), (98, upI (upI (m.2 98) ((8 * d) + ((m.2 42) d)) (-1)) ((8 * d) + ((m.2 42) d)) x234)]) c N D (by omega) (Ty_mO hT rfl rfl ⟨g253, g255, g257, ⟨(by omega : (0 : Int) ≤ 0), (by omega : (0 : Int) ≤ 8)⟩, g261, g263, f13, f23, trivial⟩ ⟨(hT.2.1 14), (hT.2.1 15), (hT.2.1 16), (hT.2.1 17), (hT.2.1 37), (hT.2.1 38), (hT.2.1 42), (hT.2.1 45), G134, G249, trivial⟩) (show LxP y252 y254 y256 (m.1 6) (0 : Int) by first | exact hLx | exact (fun _ => hLx (by omega)) | (intro h9; exfalso; omega)) (show ∀ k, (m.2 14) k + (m.2 15) k ≤ 4000 by assumption) (fun _ => ⟨(show PN (m.1 13) (m.1 19) (m.1 20) (m.1 21) (m.1 22) (m.1 23) (m.1 25) (m.1 26) (m.2 16) (m.2 17) by assumption), (show SOp (m.2 38) (m.1 23) (m.1 24) by first | exact pSO | assumption)⟩)) (fun rr270 k271 => ?_)
                obtain ⟨m272, x274, hT273, g275, h276, h277, h278, c279, rfl⟩ := k271
                refine ⟨_, _, rfl, ?_⟩
                refine T_nf2 (st' := [.int (i32 x274), .int (i32 ((8 * d) + ((m.2 42) d))), .ref 215]) (l' := [(7, (m272.1 7)), (8, (m272.1 8)), (9, (m272.1 9)), (10, (m272.1 10)), (11, (m272.1 11)), (12, (m272.1 12)), (13, (m272.1 13)), (23, (m272.1 23))]) (a' := [(14, (m272.2 14)), (15, (m272.2 15)), (16, (m272.2 16)), (17, (m272.2 17)), (37, (m272.2 37)), (38, (m272.2 38)), (42, (m.2 42)), (45, (m.2 45)), (97, upI (m.2 97) ((8 * d) + ((m.2 42) d)) x119), (98, upI (upI (m.2 98) ((8 * d) + ((m.2 42) d)) (-1)) ((8 * d) + ((m.2 42) d)) x234)]) [7, 8, 9, 10, 11, 12, 13, 23] [14, 15, 16, 17, 37, 38] rfl ⟨rfl, rfl, rfl, rfl, rfl, rfl, rfl, rfl, rfl, rfl, rfl, rfl, rfl, rfl, rfl, rfl, trivial⟩ ⟨rfl, rfl, rfl, rfl, rfl, rfl, rfl, rfl, rfl, rfl, rfl, rfl, rfl, rfl, rfl, rfl, rfl, rfl, rfl, rfl, trivial⟩ rfl rfl (by decide) (by decide) ?_
                obtain ⟨g275a, g275b⟩ := g275
                have g280 : 0 ≤ m272.1 7 ∧ m272.1 7 ≤ 330 := hT273.1 7
                have g281 : 0 ≤ m272.1 8 ∧ m272.1 8 ≤ 4000 := hT273.1 8
                have g282 : 0 ≤ m272.1 9 ∧ m272.1 9 ≤ 4000 := hT273.1 9
                have g283 : 0 ≤ m272.1 10 ∧ m272.1 10 ≤ 8 := hT273.1 10
                have g284 : (-1) ≤ m272.1 11 ∧ m272.1 11 ≤ 4000 := hT273.1 11
                have g285 : (-9223372036854775808) ≤ m272.1 12 ∧ m272.1 12 ≤ 9223372036854775807 := hT273.1 12
                have g286 : 0 ≤ m272.1 13 ∧ m272.1 13 ≤ 120 := hT273.1 13
                have g287 : 0 ≤ m272.1 23 ∧ m272.1 23 ≤ 16 := hT273.1 23
                by_cases hf288 : (m272.1 10) = 0
                · skip
                  replace h276 : (0 : Int) = 0 := h276 hf288
                  replace h277 : LxP (m272.1 7) (m272.1 8) (m272.1 9) (m.1 6) (m272.1 10) := h277
                  have hLx := h277
                  replace h278 : ∀ k, (m272.2 14) k + (m272.2 15) k ≤ 4000 := h278
                  have hNM := h278
                  obtain ⟨c289, c290, c291, c292, c293⟩ := c279 hf288
                  replace c289 : y254 + 1 ≤ (m272.1 8) := c289
                  replace c290 : PN (m272.1 13) (m.1 19) (m.1 20) (m.1 21) (m.1 22) (m272.1 23) (m.1 25) (m.1 26) (m272.2 16) (m272.2 17) := c290
                  have pPN := c290
                  replace c291 : SOp (m272.2 38) (m272.1 23) (m.1 24) := c291
                  have pSO := c291
                  replace c292 : x274 < (m272.1 23) := c292
                  have hRS := c292
                  replace c293 : (m.1 23) ≤ (m272.1 23) := c293
                  clear c279
                  have u294 : (m.1 8) + 1 ≤ (m272.1 8) := by omega
                  clear g253 g255 g257 g261 g263 h264 u269 c289
                  have G295 : ∀ j, (-2) ≤ (upI (m.2 45) ((8 * d) + ((m.2 42) d)) x274) j ∧ (upI (m.2 45) ((8 * d) + ((m.2 42) d)) x274) j ≤ 15 := upI_rg (hT.2.1 45) ⟨by omega, by omega⟩
                  refine T_iast (a' := [(14, (m272.2 14)), (15, (m272.2 15)), (16, (m272.2 16)), (17, (m272.2 17)), (37, (m272.2 37)), (38, (m272.2 38)), (42, (m.2 42)), (45, upI (m.2 45) ((8 * d) + ((m.2 42) d)) x274), (97, upI (m.2 97) ((8 * d) + ((m.2 42) d)) x119), (98, upI (upI (m.2 98) ((8 * d) + ((m.2 42) d)) (-1)) ((8 * d) + ((m.2 42) d)) x234)]) 117 45 (m.2 45) rfl rfl rfl (by omega) (show ((8 * d) + ((m.2 42) d)) < (128 : Int) by omega) rfl rfl ?_
                  refine T_ld 118 (.ref 189) rfl (fun _ => rfl) ?_
                  refine T_ld 120 (.int (i32 59)) rfl (fun _ => rfl) ?_
                  refine T_call 123 232 [.ref 189, .int (i32 59)] [] rfl (fun _ => rfl) rfl (c_need w (mO m [(7, (m272.1 7)), (8, (m272.1 8)), (9, (m272.1 9)), (10, (m272.1 10)), (11, (m272.1 11)), (12, (m272.1 12)), (13, (m272.1 13)), (23, (m272.1 23))] [(14, (m272.2 14)), (15, (m272.2 15)), (16, (m272.2 16)), (17, (m272.2 17)), (37, (m272.2 37)), (38, (m272.2 38)), (42, (m.2 42)), (45, upI (m.2 45) ((8 * d) + ((m.2 42) d)) x274), (97, upI (m.2 97) ((8 * d) + ((m.2 42) d)) x119), (98, upI (upI (m.2 98) ((8 * d) + ((m.2 42) d)) (-1)) ((8 * d) + ((m.2 42) d)) x234)]) c N D (by omega) (Ty_mO hT rfl rfl ⟨(hT273.1 7), (hT273.1 8), (hT273.1 9), (hT273.1 10), (hT273.1 11), (hT273.1 12), (hT273.1 13), (hT273.1 23), trivial⟩ ⟨(hT273.2.1 14), (hT273.2.1 15), (hT273.2.1 16), (hT273.2.1 17), (hT273.2.1 37), (hT273.2.1 38), (hT.2.1 42), G295, G134, G249, trivial⟩) 59 ⟨by decide, by decide⟩ (show 1 ≤ (59 : Int) by omega) (show LxP (m272.1 7) (m272.1 8) (m272.1 9) (m.1 6) (m272.1 10) by first | exact hLx | (intro h9; exfalso; omega) | (intro h9; have h8 := hLx (by omega); omega))) (fun rr296 k297 => ?_)
                  obtain ⟨y298, y300, y302, y304, y306, y308, g299, g301, g303, g305, g307, g309, h310, h311, h312, h313, rfl⟩ := k297
                  refine ⟨_, _, rfl, ?_⟩
                  refine T_nf2 (st' := []) (l' := [(7, y298), (8, y300), (9, y302), (10, y304), (11, y306), (12, y308), (13, (m272.1 13)), (23, (m272.1 23))]) (a' := [(14, (m272.2 14)), (15, (m272.2 15)), (16, (m272.2 16)), (17, (m272.2 17)), (37, (m272.2 37)), (38, (m272.2 38)), (42, (m.2 42)), (45, upI (m.2 45) ((8 * d) + ((m.2 42) d)) x274), (97, upI (m.2 97) ((8 * d) + ((m.2 42) d)) x119), (98, upI (upI (m.2 98) ((8 * d) + ((m.2 42) d)) (-1)) ((8 * d) + ((m.2 42) d)) x234)]) [7, 8, 9, 10, 11, 12] [] rfl ⟨rfl, rfl, rfl, rfl, rfl, rfl, rfl, rfl, rfl, rfl, rfl, rfl, rfl, rfl, rfl, rfl, trivial⟩ ⟨rfl, rfl, rfl, rfl, rfl, rfl, rfl, rfl, rfl, rfl, rfl, rfl, rfl, rfl, rfl, rfl, rfl, rfl, rfl, rfl, trivial⟩ rfl rfl (by decide) (by decide) ?_
                  by_cases hf314 : y304 = 0
                  · skip
                    subst hf314
                    replace h310 : LxP y298 y300 y302 (m.1 6) (0 : Int) := h310
                    have hLx := h310
                    replace h311 : (m272.1 10) = 0 ∧ (m272.1 7) = (59 : Int) := h311 rfl
                    replace h312 : (m272.1 8) ≤ y300 := h312
                    replace h313 : (m272.1 8) + (m272.1 9) ≤ y300 := h313 rfl
                    have u315 : (m.1 8) + 1 ≤ y300 := by omega
                    clear g280 g281 g282 g283 g284 g285 h277 u294 g305 h311 h312 h313
                    have hlt : (m.2 42) d < 8 := by omega
                    refine T_gf 127 (.ref 212) rfl rfl rfl rfl rfl rfl ?_
                    refine T_ld 128 (.int (i32 d)) rfl (fun _ => rfl) ?_
                    refine T_dup2 129 rfl (fun _ => rfl) ?_
                    refine T_iald 130 42 (m.2 42) rfl rfl rfl (by omega) (show d < (16 : Int) by omega) rfl ?_
                    have e316 : 0 ≤ (m.2 42) d ∧ (m.2 42) d ≤ 8 := (hT.2.1 42) d
                    refine T_ld 131 (.int (i32 1)) rfl (fun _ => rfl) ?_
                    refine T_iadd 132 rfl rfl ?_
                    have G317 : ∀ j, 0 ≤ (upI (m.2 42) d (((m.2 42) d) + 1)) j ∧ (upI (m.2 42) d (((m.2 42) d) + 1)) j ≤ 8 := upI_rg (hT.2.1 42) ⟨by omega, by omega⟩
                    refine T_iast (a' := [(14, (m272.2 14)), (15, (m272.2 15)), (16, (m272.2 16)), (17, (m272.2 17)), (37, (m272.2 37)), (38, (m272.2 38)), (42, upI (m.2 42) d (((m.2 42) d) + 1)), (45, upI (m.2 45) ((8 * d) + ((m.2 42) d)) x274), (97, upI (m.2 97) ((8 * d) + ((m.2 42) d)) x119), (98, upI (upI (m.2 98) ((8 * d) + ((m.2 42) d)) (-1)) ((8 * d) + ((m.2 42) d)) x234)]) 133 42 (m.2 42) rfl rfl rfl (by omega) (show d < (16 : Int) by omega) rfl rfl ?_
                    have hCT2 : ∀ c, 8 * d ≤ c → c < 8 * d + (upI (m.2 42) d (((m.2 42) d) + 1)) d → (upI (m.2 45) ((8 * d) + ((m.2 42) d)) x274) c < (m272.1 23) := by
                      intro c c0 c1
                      rw [upI_s] at c1
                      by_cases e : c = 8 * d + (m.2 42) d
                      · subst e
                        rw [upI_s]
                        exact hRS
                      · rw [upI_n e]
                        have := hCT c c0 (by omega)
                        omega
                    refine T_ret rfl (fun _ => rfl) ?_
                    exact ⟨(mO m [(7, y298), (8, y300), (9, y302), (10, 0), (11, y306), (12, y308), (13, (m272.1 13)), (23, (m272.1 23))] [(14, (m272.2 14)), (15, (m272.2 15)), (16, (m272.2 16)), (17, (m272.2 17)), (37, (m272.2 37)), (38, (m272.2 38)), (42, upI (m.2 42) d (((m.2 42) d) + 1)), (45, upI (m.2 45) ((8 * d) + ((m.2 42) d)) x274), (97, upI (m.2 97) ((8 * d) + ((m.2 42) d)) x119), (98, upI (upI (m.2 98) ((8 * d) + ((m.2 42) d)) (-1)) ((8 * d) + ((m.2 42) d)) x234)]), (Ty_mO hT rfl rfl ⟨g299, g301, g303, ⟨(by omega : (0 : Int) ≤ 0), (by omega : (0 : Int) ≤ 8)⟩, g307, g309, (hT273.1 13), (hT273.1 23), trivial⟩ ⟨(hT273.2.1 14), (hT273.2.1 15), (hT273.2.1 16), (hT273.2.1 17), (hT273.2.1 37), (hT273.2.1 38), G317, G295, G134, G249, trivial⟩), (show (0 : Int) = 0 → (m.1 10) = 0 by omega), (show LxP y298 y300 y302 (m.1 6) (0 : Int) by first | (first | exact hLx | exact (fun _ => hLx (by omega)) | (intro h9; exfalso; omega)) | (exfalso; omega)), (show ∀ k, (m272.2 14) k + (m272.2 15) k ≤ 4000 by first | (first | exact hNM | (intro k; rw [hE1, hE2]; have := hNM k; have h7 := hLx0 hf0; unfold upI; split <;> omega)) | (exfalso; omega)), (fun _ => ⟨(show (m.1 8) + 1 ≤ y300 by omega), (show PN (m272.1 13) (m.1 19) (m.1 20) (m.1 21) (m.1 22) (m272.1 23) (m.1 25) (m.1 26) (m272.2 16) (m272.2 17) by first | (exact pPN) | (exfalso; omega)), (show SOp (m272.2 38) (m272.1 23) (m.1 24) by first | (exact pSO) | (exfalso; omega)), (show ∀ c, 8 * d ≤ c → c < 8 * d + (upI (m.2 42) d (((m.2 42) d) + 1)) d → (upI (m.2 45) ((8 * d) + ((m.2 42) d)) x274) c < (m272.1 23) by first | (exact hCT2) | (exfalso; omega)), (show (m.1 23) ≤ (m272.1 23) by omega), (show agr (m.2 42) (upI (m.2 42) d (((m.2 42) d) + 1)) d by first | (exact agr_u (Int.le_refl _)) | (exfalso; omega)), (show agr (m.2 45) (upI (m.2 45) ((8 * d) + ((m.2 42) d)) x274) (8 * d) by first | (exact agr_u (by omega)) | (exfalso; omega))⟩), rfl⟩
                  · skip
                    replace h310 : LxP y298 y300 y302 (m.1 6) y304 := h310
                    have hLx := h310
                    clear h311
                    replace h312 : (m272.1 8) ≤ y300 := h312
                    clear h313
                    have hf318 : 1 ≤ y304 := by omega
                    clear g280 g281 g282 g283 g284 g285 h277 u294 h312
                    refine Tm_lv (a := [(0, .ref 189), (1, .int (i32 d)), (2, .int (i32 ((8 * d) + ((m.2 42) d))))]) rfl rfl ⟨rfl, rfl, rfl, trivial⟩ ?_
                    exact J123_12 (mO m [(7, y298), (8, y300), (9, y302), (10, y304), (11, y306), (12, y308), (13, (m272.1 13)), (23, (m272.1 23))] [(14, (m272.2 14)), (15, (m272.2 15)), (16, (m272.2 16)), (17, (m272.2 17)), (37, (m272.2 37)), (38, (m272.2 38)), (42, (m.2 42)), (45, upI (m.2 45) ((8 * d) + ((m.2 42) d)) x274), (97, upI (m.2 97) ((8 * d) + ((m.2 42) d)) x119), (98, upI (upI (m.2 98) ((8 * d) + ((m.2 42) d)) (-1)) ((8 * d) + ((m.2 42) d)) x234)]) (Ty_mO hT rfl rfl ⟨g299, g301, g303, g305, g307, g309, (hT273.1 13), (hT273.1 23), trivial⟩ ⟨(hT273.2.1 14), (hT273.2.1 15), (hT273.2.1 16), (hT273.2.1 17), (hT273.2.1 37), (hT273.2.1 38), (hT.2.1 42), G295, G134, G249, trivial⟩) (show 1 ≤ y304 by omega) (show y304 ≤ 8 by omega) (show ∀ k, (m272.2 14) k + (m272.2 15) k ≤ 4000 by first | exact hNM) (show (m.2 42) d ≤ 7 by omega)
                · skip
                  clear c279
                  clear h276
                  replace h277 : LxP (m272.1 7) (m272.1 8) (m272.1 9) (m.1 6) (m272.1 10) := h277
                  have hLx := h277
                  replace h278 : ∀ k, (m272.2 14) k + (m272.2 15) k ≤ 4000 := h278
                  have hNM := h278
                  have hf319 : 1 ≤ (m272.1 10) := by omega
                  clear g253 g255 g257 g261 g263 h264 u269
                  refine Tm_lv (a := [(0, .ref 189), (1, .int (i32 d)), (2, .int (i32 ((8 * d) + ((m.2 42) d))))]) rfl rfl ⟨rfl, rfl, rfl, trivial⟩ ?_
                  exact J116_23 x274 (mO m [(7, (m272.1 7)), (8, (m272.1 8)), (9, (m272.1 9)), (10, (m272.1 10)), (11, (m272.1 11)), (12, (m272.1 12)), (13, (m272.1 13)), (23, (m272.1 23))] [(14, (m272.2 14)), (15, (m272.2 15)), (16, (m272.2 16)), (17, (m272.2 17)), (37, (m272.2 37)), (38, (m272.2 38)), (42, (m.2 42)), (45, (m.2 45)), (97, upI (m.2 97) ((8 * d) + ((m.2 42) d)) x119), (98, upI (upI (m.2 98) ((8 * d) + ((m.2 42) d)) (-1)) ((8 * d) + ((m.2 42) d)) x234)]) (r32 (by omega) (by omega)) (Ty_mO hT rfl rfl ⟨(hT273.1 7), (hT273.1 8), (hT273.1 9), (hT273.1 10), (hT273.1 11), (hT273.1 12), (hT273.1 13), (hT273.1 23), trivial⟩ ⟨(hT273.2.1 14), (hT273.2.1 15), (hT273.2.1 16), (hT273.2.1 17), (hT273.2.1 37), (hT273.2.1 38), (hT.2.1 42), (hT.2.1 45), G134, G249, trivial⟩) (show (-2) ≤ x274 by omega) (show x274 ≤ 15 by omega) (show 1 ≤ (m272.1 10) by omega) (show (m272.1 10) ≤ 8 by omega) (show ∀ k, (m272.2 14) k + (m272.2 15) k ≤ 4000 by first | exact hNM) (show (m.2 42) d ≤ 7 by omega)
              · skip
                replace h264 : LxP y252 y254 y256 (m.1 6) y258 := h264
                have hLx := h264
                clear h265
                replace h266 : (m232.1 8) ≤ y254 := h266
                clear h267
                have hf320 : 1 ≤ y258 := by omega
                clear g239 g240 g241 g242 g243 g244 h237 u248 h266
                refine Tm_lv (a := [(0, .ref 189), (1, .int (i32 d)), (2, .int (i32 ((8 * d) + ((m.2 42) d))))]) rfl rfl ⟨rfl, rfl, rfl, trivial⟩ ?_
                exact J107_54 (mO m [(7, y252), (8, y254), (9, y256), (10, y258), (11, y260), (12, y262), (13, (m.1 13)), (23, (m.1 23))] [(14, (m.2 14)), (15, (m.2 15)), (16, (m.2 16)), (17, (m.2 17)), (37, (m.2 37)), (38, (m.2 38)), (42, (m.2 42)), (45, (m.2 45)), (97, upI (m.2 97) ((8 * d) + ((m.2 42) d)) x119), (98, upI (upI (m.2 98) ((8 * d) + ((m.2 42) d)) (-1)) ((8 * d) + ((m.2 42) d)) x234)]) (Ty_mO hT rfl rfl ⟨g253, g255, g257, g259, g261, g263, f13, f23, trivial⟩ ⟨(hT.2.1 14), (hT.2.1 15), (hT.2.1 16), (hT.2.1 17), (hT.2.1 37), (hT.2.1 38), (hT.2.1 42), (hT.2.1 45), G134, G249, trivial⟩) (show 1 ≤ y258 by omega) (show y258 ≤ 8 by omega) (show ∀ k, (m.2 14) k + (m.2 15) k ≤ 4000 by first | exact hNM) (show (m.2 42) d ≤ 7 by omega)
            · skip
              clear c238
              clear h236
              replace h237 : LxP (m232.1 7) (m232.1 8) (m232.1 9) (m.1 6) (m232.1 10) := h237
              have hLx := h237
              have hf321 : 1 ≤ (m232.1 10) := by omega
              clear g212 g214 g216 g220 g222 h223 u228
              refine Tm_lv (a := [(0, .ref 189), (1, .int (i32 d)), (2, .int (i32 ((8 * d) + ((m.2 42) d))))]) rfl rfl ⟨rfl, rfl, rfl, trivial⟩ ?_
              exact J100_82 x234 (mO m [(7, (m232.1 7)), (8, (m232.1 8)), (9, (m232.1 9)), (10, (m232.1 10)), (11, (m232.1 11)), (12, (m232.1 12)), (13, (m.1 13)), (23, (m.1 23))] [(14, (m.2 14)), (15, (m.2 15)), (16, (m.2 16)), (17, (m.2 17)), (37, (m.2 37)), (38, (m.2 38)), (42, (m.2 42)), (45, (m.2 45)), (97, upI (m.2 97) ((8 * d) + ((m.2 42) d)) x119), (98, upI (m.2 98) ((8 * d) + ((m.2 42) d)) (-1))]) (r64 (by omega) (by omega)) (Ty_mO hT rfl rfl ⟨(hT233.1 7), (hT233.1 8), (hT233.1 9), (hT233.1 10), (hT233.1 11), (hT233.1 12), f13, f23, trivial⟩ ⟨(hT.2.1 14), (hT.2.1 15), (hT.2.1 16), (hT.2.1 17), (hT.2.1 37), (hT.2.1 38), (hT.2.1 42), (hT.2.1 45), G134, G135, trivial⟩) (show 1 ≤ (m232.1 10) by omega) (show (m232.1 10) ≤ 8 by omega) (show ∀ k, (m.2 14) k + (m.2 15) k ≤ 4000 by first | exact hNM) (show (m.2 42) d ≤ 7 by omega)
          · skip
            replace h223 : LxP y211 y213 y215 (m.1 6) y217 := h223
            have hLx := h223
            clear h224
            replace h225 : (m117.1 8) ≤ y213 := h225
            clear h226
            have hf322 : 1 ≤ y217 := by omega
            clear g124 g125 g126 g127 g128 g129 h122 c131 u133 h136 h137 h225
            refine T_gf 89 (.ref 260) rfl rfl rfl rfl rfl rfl ?_
            refine T_ld 90 (.int (i32 ((8 * d) + ((m.2 42) d)))) rfl (fun _ => rfl) ?_
            refine T_ld 91 (.ref 189) rfl (fun _ => rfl) ?_
            refine T_gf 95 (.ref 213) rfl rfl rfl rfl rfl rfl ?_
            refine T_ld 96 (.int (i32 d)) rfl (fun _ => rfl) ?_
            refine T_iald 97 43 (m.2 43) rfl rfl rfl (by omega) (show d < (16 : Int) by omega) rfl ?_
            have e323 : 0 ≤ m.2 43 d ∧ m.2 43 d ≤ 1024 := hT.2.1 43 d
            refine T_call 100 266 [.ref 189, .int (i32 ((m.2 43) d))] [.int (i32 ((8 * d) + ((m.2 42) d))), .ref 260] rfl (fun _ => rfl) rfl (c_caseNumber w (mO m [(7, y211), (8, y213), (9, y215), (10, y217), (11, y219), (12, y221), (13, (m.1 13)), (23, (m.1 23))] [(14, (m.2 14)), (15, (m.2 15)), (16, (m.2 16)), (17, (m.2 17)), (37, (m.2 37)), (38, (m.2 38)), (42, (m.2 42)), (45, (m.2 45)), (97, upI (m.2 97) ((8 * d) + ((m.2 42) d)) x119), (98, upI (m.2 98) ((8 * d) + ((m.2 42) d)) (-1))]) c N D (by omega) (Ty_mO hT rfl rfl ⟨g212, g214, g216, g218, g220, g222, f13, f23, trivial⟩ ⟨(hT.2.1 14), (hT.2.1 15), (hT.2.1 16), (hT.2.1 17), (hT.2.1 37), (hT.2.1 38), (hT.2.1 42), (hT.2.1 45), G134, G135, trivial⟩) ((m.2 43) d) (r32 (by omega) (by omega)) (show LxP y211 y213 y215 (m.1 6) y217 by first | exact hLx | exact (fun _ => hLx (by omega)) | (intro h9; exfalso; omega)) (fun (h : y217 = 0) => absurd h (by omega))) (fun rr324 k325 => ?_)
            obtain ⟨m326, x328, hT327, g329, h330, h331, c332, rfl⟩ := k325
            refine ⟨_, _, rfl, ?_⟩
            refine T_nf2 (st' := [.long (i64 x328), .int (i32 ((8 * d) + ((m.2 42) d))), .ref 260]) (l' := [(7, (m326.1 7)), (8, (m326.1 8)), (9, (m326.1 9)), (10, (m326.1 10)), (11, (m326.1 11)), (12, (m326.1 12)), (13, (m.1 13)), (23, (m.1 23))]) (a' := [(14, (m.2 14)), (15, (m.2 15)), (16, (m.2 16)), (17, (m.2 17)), (37, (m.2 37)), (38, (m.2 38)), (42, (m.2 42)), (45, (m.2 45)), (97, upI (m.2 97) ((8 * d) + ((m.2 42) d)) x119), (98, upI (m.2 98) ((8 * d) + ((m.2 42) d)) (-1))]) [7, 8, 9, 10, 11, 12] [] rfl ⟨rfl, rfl, rfl, rfl, rfl, rfl, rfl, rfl, rfl, rfl, rfl, rfl, rfl, rfl, rfl, rfl, trivial⟩ ⟨rfl, rfl, rfl, rfl, rfl, rfl, rfl, rfl, rfl, rfl, rfl, rfl, rfl, rfl, rfl, rfl, rfl, rfl, rfl, rfl, trivial⟩ rfl rfl (by decide) (by decide) ?_
            obtain ⟨g329a, g329b⟩ := g329
            have g333 : 0 ≤ m326.1 7 ∧ m326.1 7 ≤ 330 := hT327.1 7
            have g334 : 0 ≤ m326.1 8 ∧ m326.1 8 ≤ 4000 := hT327.1 8
            have g335 : 0 ≤ m326.1 9 ∧ m326.1 9 ≤ 4000 := hT327.1 9
            have g336 : 0 ≤ m326.1 10 ∧ m326.1 10 ≤ 8 := hT327.1 10
            have g337 : (-1) ≤ m326.1 11 ∧ m326.1 11 ≤ 4000 := hT327.1 11
            have g338 : (-9223372036854775808) ≤ m326.1 12 ∧ m326.1 12 ≤ 9223372036854775807 := hT327.1 12
            replace h330 : (m326.1 10) = 0 → y217 = 0 := h330
            replace h331 : LxP (m326.1 7) (m326.1 8) (m326.1 9) (m.1 6) (m326.1 10) := h331
            have hf339 : 1 ≤ (m326.1 10) := by omega
            clear c332
            clear h330
            have hLx := h331
            clear g212 g214 g216 g218 g220 g222 h223 hf322
            refine Tm_lv (a := [(0, .ref 189), (1, .int (i32 d)), (2, .int (i32 ((8 * d) + ((m.2 42) d))))]) rfl rfl ⟨rfl, rfl, rfl, trivial⟩ ?_
            exact J100_82 x328 (mO m [(7, (m326.1 7)), (8, (m326.1 8)), (9, (m326.1 9)), (10, (m326.1 10)), (11, (m326.1 11)), (12, (m326.1 12)), (13, (m.1 13)), (23, (m.1 23))] [(14, (m.2 14)), (15, (m.2 15)), (16, (m.2 16)), (17, (m.2 17)), (37, (m.2 37)), (38, (m.2 38)), (42, (m.2 42)), (45, (m.2 45)), (97, upI (m.2 97) ((8 * d) + ((m.2 42) d)) x119), (98, upI (m.2 98) ((8 * d) + ((m.2 42) d)) (-1))]) (r64 (by omega) (by omega)) (Ty_mO hT rfl rfl ⟨(hT327.1 7), (hT327.1 8), (hT327.1 9), (hT327.1 10), (hT327.1 11), (hT327.1 12), f13, f23, trivial⟩ ⟨(hT.2.1 14), (hT.2.1 15), (hT.2.1 16), (hT.2.1 17), (hT.2.1 37), (hT.2.1 38), (hT.2.1 42), (hT.2.1 45), G134, G135, trivial⟩) (show 1 ≤ (m326.1 10) by omega) (show (m326.1 10) ≤ 8 by omega) (show ∀ k, (m.2 14) k + (m.2 15) k ≤ 4000 by first | exact hNM) (show (m.2 42) d ≤ 7 by omega)
      · skip
        clear c123
        clear h121
        replace h122 : LxP (m117.1 7) (m117.1 8) (m117.1 9) (m.1 6) (m117.1 10) := h122
        have hLx := h122
        have hf340 : 1 ≤ (m117.1 10) := by omega
        have G341 : ∀ j, (-9223372036854775808) ≤ (upI (m.2 97) ((8 * d) + ((m.2 42) d)) x119) j ∧ (upI (m.2 97) ((8 * d) + ((m.2 42) d)) x119) j ≤ 9223372036854775807 := upI_rg (hT.2.1 97) ⟨by omega, by omega⟩
        refine T_last (a' := [(14, (m.2 14)), (15, (m.2 15)), (16, (m.2 16)), (17, (m.2 17)), (37, (m.2 37)), (38, (m.2 38)), (42, (m.2 42)), (45, (m.2 45)), (97, upI (m.2 97) ((8 * d) + ((m.2 42) d)) x119), (98, (m.2 98))]) 56 97 (m.2 97) rfl rfl rfl (by omega) (show ((8 * d) + ((m.2 42) d)) < (128 : Int) by omega) rfl rfl ?_
        refine T_gf 60 (.ref 260) rfl rfl rfl rfl rfl rfl ?_
        refine T_ld 61 (.int (i32 ((8 * d) + ((m.2 42) d)))) rfl (fun _ => rfl) ?_
        refine T_ld 64 (.long (i64 (-1))) rfl (fun _ => rfl) ?_
        have G342 : ∀ j, (-9223372036854775808) ≤ (upI (m.2 98) ((8 * d) + ((m.2 42) d)) (-1)) j ∧ (upI (m.2 98) ((8 * d) + ((m.2 42) d)) (-1)) j ≤ 9223372036854775807 := upI_rg (hT.2.1 98) ⟨by omega, by omega⟩
        refine T_last (a' := [(14, (m.2 14)), (15, (m.2 15)), (16, (m.2 16)), (17, (m.2 17)), (37, (m.2 37)), (38, (m.2 38)), (42, (m.2 42)), (45, (m.2 45)), (97, upI (m.2 97) ((8 * d) + ((m.2 42) d)) x119), (98, upI (m.2 98) ((8 * d) + ((m.2 42) d)) (-1))]) 65 98 (m.2 98) rfl rfl rfl (by omega) (show ((8 * d) + ((m.2 42) d)) < (128 : Int) by omega) rfl rfl ?_
        refine T_gf 69 (.int (i32 (m117.1 10))) rfl rfl rfl rfl rfl rfl ?_
        refine T_if 101 72 rfl rfl rfl (r32 (by omega) (by omega)) (fun (h343 : (m117.1 10) ≠ 0) => ?_) (fun (h343 : ¬ ((m117.1 10) ≠ 0)) => by exfalso; omega)
        refine T_ld 102 (.ref 189) rfl (fun _ => rfl) ?_
        refine T_ld 104 (.int (i32 58)) rfl (fun _ => rfl) ?_
        refine T_call 107 232 [.ref 189, .int (i32 58)] [] rfl (fun _ => rfl) rfl (c_need w (mO m [(7, (m117.1 7)), (8, (m117.1 8)), (9, (m117.1 9)), (10, (m117.1 10)), (11, (m117.1 11)), (12, (m117.1 12)), (13, (m.1 13)), (23, (m.1 23))] [(14, (m.2 14)), (15, (m.2 15)), (16, (m.2 16)), (17, (m.2 17)), (37, (m.2 37)), (38, (m.2 38)), (42, (m.2 42)), (45, (m.2 45)), (97, upI (m.2 97) ((8 * d) + ((m.2 42) d)) x119), (98, upI (m.2 98) ((8 * d) + ((m.2 42) d)) (-1))]) c N D (by omega) (Ty_mO hT rfl rfl ⟨(hT118.1 7), (hT118.1 8), (hT118.1 9), (hT118.1 10), (hT118.1 11), (hT118.1 12), f13, f23, trivial⟩ ⟨(hT.2.1 14), (hT.2.1 15), (hT.2.1 16), (hT.2.1 17), (hT.2.1 37), (hT.2.1 38), (hT.2.1 42), (hT.2.1 45), G341, G342, trivial⟩) 58 ⟨by decide, by decide⟩ (show 1 ≤ (58 : Int) by omega) (show LxP (m117.1 7) (m117.1 8) (m117.1 9) (m.1 6) (m117.1 10) by first | exact hLx | (intro h9; exfalso; omega) | (intro h9; have h8 := hLx (by omega); omega))) (fun rr344 k345 => ?_)
        obtain ⟨y346, y348, y350, y352, y354, y356, g347, g349, g351, g353, g355, g357, h358, h359, h360, h361, rfl⟩ := k345
        refine ⟨_, _, rfl, ?_⟩
        refine T_nf2 (st' := []) (l' := [(7, y346), (8, y348), (9, y350), (10, y352), (11, y354), (12, y356), (13, (m.1 13)), (23, (m.1 23))]) (a' := [(14, (m.2 14)), (15, (m.2 15)), (16, (m.2 16)), (17, (m.2 17)), (37, (m.2 37)), (38, (m.2 38)), (42, (m.2 42)), (45, (m.2 45)), (97, upI (m.2 97) ((8 * d) + ((m.2 42) d)) x119), (98, upI (m.2 98) ((8 * d) + ((m.2 42) d)) (-1))]) [7, 8, 9, 10, 11, 12] [] rfl ⟨rfl, rfl, rfl, rfl, rfl, rfl, rfl, rfl, rfl, rfl, rfl, rfl, rfl, rfl, rfl, rfl, trivial⟩ ⟨rfl, rfl, rfl, rfl, rfl, rfl, rfl, rfl, rfl, rfl, rfl, rfl, rfl, rfl, rfl, rfl, rfl, rfl, rfl, rfl, trivial⟩ rfl rfl (by decide) (by decide) ?_
        replace h358 : LxP y346 y348 y350 (m.1 6) y352 := h358
        replace h359 : y352 = 0 → (m117.1 10) = 0 ∧ (m117.1 7) = (58 : Int) := h359
        replace h360 : (m117.1 8) ≤ y348 := h360
        replace h361 : y352 = 0 → (m117.1 8) + (m117.1 9) ≤ y348 := h361
        have hf362 : 1 ≤ y352 := by omega
        clear h359
        clear h361
        have hLx := h358
        clear g124 g125 g126 g127 g128 g129 h122 hf340 h343 h360
        refine Tm_lv (a := [(0, .ref 189), (1, .int (i32 d)), (2, .int (i32 ((8 * d) + ((m.2 42) d))))]) rfl rfl ⟨rfl, rfl, rfl, trivial⟩ ?_
        exact J107_54 (mO m [(7, y346), (8, y348), (9, y350), (10, y352), (11, y354), (12, y356), (13, (m.1 13)), (23, (m.1 23))] [(14, (m.2 14)), (15, (m.2 15)), (16, (m.2 16)), (17, (m.2 17)), (37, (m.2 37)), (38, (m.2 38)), (42, (m.2 42)), (45, (m.2 45)), (97, upI (m.2 97) ((8 * d) + ((m.2 42) d)) x119), (98, upI (m.2 98) ((8 * d) + ((m.2 42) d)) (-1))]) (Ty_mO hT rfl rfl ⟨g347, g349, g351, g353, g355, g357, f13, f23, trivial⟩ ⟨(hT.2.1 14), (hT.2.1 15), (hT.2.1 16), (hT.2.1 17), (hT.2.1 37), (hT.2.1 38), (hT.2.1 42), (hT.2.1 45), G341, G342, trivial⟩) (show 1 ≤ y352 by omega) (show y352 ≤ 8 by omega) (show ∀ k, (m.2 14) k + (m.2 15) k ≤ 4000 by first | exact hNM) (show (m.2 42) d ≤ 7 by omega)
    · skip
      refine T_ld 12 (.ref 189) rfl (fun _ => rfl) ?_
      refine T_ld 13 (.int (i32 4)) rfl (fun _ => rfl) ?_
      refine T_gf 17 (.int (i32 (m.1 8))) rfl rfl rfl rfl rfl rfl ?_
      refine T_call 20 222 [.ref 189, .int (i32 4), .int (i32 (m.1 8))] [] rfl (fun _ => rfl) rfl (c_wrong w (mO m [(7, (m.1 7)), (8, (m.1 8)), (9, (m.1 9)), (10, (m.1 10)), (11, (m.1 11)), (12, (m.1 12)), (13, (m.1 13)), (23, (m.1 23))] [(14, (m.2 14)), (15, (m.2 15)), (16, (m.2 16)), (17, (m.2 17)), (37, (m.2 37)), (38, (m.2 38)), (42, (m.2 42)), (45, (m.2 45)), (97, (m.2 97)), (98, (m.2 98))]) c N D (by omega) (Ty_mO hT rfl rfl ⟨f7, f8, f9, f10, f11, f12, f13, f23, trivial⟩ ⟨(hT.2.1 14), (hT.2.1 15), (hT.2.1 16), (hT.2.1 17), (hT.2.1 37), (hT.2.1 38), (hT.2.1 42), (hT.2.1 45), (hT.2.1 97), (hT.2.1 98), trivial⟩) 4 (m.1 8) ⟨by decide, by decide⟩ (r32 (by omega) (by omega)) (show 1 ≤ (4 : Int) ∧ (4 : Int) ≤ 8 by omega) (show 0 ≤ (m.1 8) ∧ (m.1 8) ≤ 4000 by omega)) (fun rr363 k364 => ?_)
      obtain ⟨y365, y367, g366, g368, h369, rfl⟩ := k364
      refine ⟨_, _, rfl, ?_⟩
      refine T_nf2 (st' := []) (l' := [(7, (m.1 7)), (8, (m.1 8)), (9, (m.1 9)), (10, y365), (11, y367), (12, (m.1 12)), (13, (m.1 13)), (23, (m.1 23))]) (a' := [(14, (m.2 14)), (15, (m.2 15)), (16, (m.2 16)), (17, (m.2 17)), (37, (m.2 37)), (38, (m.2 38)), (42, (m.2 42)), (45, (m.2 45)), (97, (m.2 97)), (98, (m.2 98))]) [10, 11] [] rfl ⟨rfl, rfl, rfl, rfl, rfl, rfl, rfl, rfl, rfl, rfl, rfl, rfl, rfl, rfl, rfl, rfl, rfl, rfl, rfl, trivial⟩ ⟨rfl, rfl, rfl, rfl, rfl, rfl, rfl, rfl, rfl, rfl, rfl, rfl, rfl, rfl, rfl, rfl, rfl, rfl, rfl, rfl, trivial⟩ rfl rfl (by decide) (by decide) ?_
      replace h369 : (0 < (m.1 10) → y365 = (m.1 10) ∧ y367 = (m.1 11)) ∧ ((m.1 10) ≤ 0 → y365 = (4 : Int) ∧ y367 = (m.1 8)) := h369
      have hf370 : 1 ≤ y365 := by omega
      refine T_gf 24 (.int (i32 y365)) rfl rfl rfl rfl rfl rfl ?_
      refine T_if 28 27 rfl rfl rfl (r32 (by omega) (by omega)) (fun (h371 : y365 ≤ 0) => by exfalso; omega) (fun (h371 : ¬ (y365 ≤ 0)) => ?_)
      refine T_ret rfl (fun _ => rfl) ?_
      exact ⟨(mO m [(7, (m.1 7)), (8, (m.1 8)), (9, (m.1 9)), (10, y365), (11, y367), (12, (m.1 12)), (13, (m.1 13)), (23, (m.1 23))] [(14, (m.2 14)), (15, (m.2 15)), (16, (m.2 16)), (17, (m.2 17)), (37, (m.2 37)), (38, (m.2 38)), (42, (m.2 42)), (45, (m.2 45)), (97, (m.2 97)), (98, (m.2 98))]), (Ty_mO hT rfl rfl ⟨f7, f8, f9, g366, g368, f12, f13, f23, trivial⟩ ⟨(hT.2.1 14), (hT.2.1 15), (hT.2.1 16), (hT.2.1 17), (hT.2.1 37), (hT.2.1 38), (hT.2.1 42), (hT.2.1 45), (hT.2.1 97), (hT.2.1 98), trivial⟩), (show y365 = 0 → (m.1 10) = 0 by omega), (show LxP (m.1 7) (m.1 8) (m.1 9) (m.1 6) y365 by first | (first | exact hLx | exact (fun _ => hLx (by omega)) | (intro h9; exfalso; omega)) | (exfalso; omega)), (show ∀ k, (m.2 14) k + (m.2 15) k ≤ 4000 by first | (first | exact hNM | (intro k; rw [hE1, hE2]; have := hNM k; have h7 := hLx0 hf0; unfold upI; split <;> omega)) | (exfalso; omega)), (fun (h : y365 = 0) => absurd h (by omega)), rfl⟩
  · skip
    clear hC
    refine T_gf 4 (.ref 212) rfl rfl rfl rfl rfl rfl ?_
    refine T_ld 5 (.int (i32 d)) rfl (fun _ => rfl) ?_
    refine T_iald 6 42 (m.2 42) rfl rfl rfl (by omega) (show d < (16 : Int) by omega) rfl ?_
    have e372 : 0 ≤ (m.2 42) d ∧ (m.2 42) d ≤ 8 := (hT.2.1 42) d
    refine T_ld 8 (.int (i32 8)) rfl (fun _ => rfl) ?_
    refine T_icmp 20 11 rfl rfl rfl (r32 (by omega) (by omega)) ⟨by decide, by decide⟩ (fun (h373 : (m.2 42) d ≠ 8) => ?_) (fun (h373 : ¬ ((m.2 42) d ≠ 8)) => ?_)
    · skip
      refine T_gf 24 (.int (i32 (m.1 10))) rfl rfl rfl rfl rfl rfl ?_
      refine T_if 28 27 rfl rfl rfl (r32 (by omega) (by omega)) (fun (h374 : (m.1 10) ≤ 0) => by exfalso; omega) (fun (h374 : ¬ ((m.1 10) ≤ 0)) => ?_)
      refine T_ret rfl (fun _ => rfl) ?_
      exact ⟨(mO m [(7, (m.1 7)), (8, (m.1 8)), (9, (m.1 9)), (10, (m.1 10)), (11, (m.1 11)), (12, (m.1 12)), (13, (m.1 13)), (23, (m.1 23))] [(14, (m.2 14)), (15, (m.2 15)), (16, (m.2 16)), (17, (m.2 17)), (37, (m.2 37)), (38, (m.2 38)), (42, (m.2 42)), (45, (m.2 45)), (97, (m.2 97)), (98, (m.2 98))]), (Ty_mO hT rfl rfl ⟨f7, f8, f9, f10, f11, f12, f13, f23, trivial⟩ ⟨(hT.2.1 14), (hT.2.1 15), (hT.2.1 16), (hT.2.1 17), (hT.2.1 37), (hT.2.1 38), (hT.2.1 42), (hT.2.1 45), (hT.2.1 97), (hT.2.1 98), trivial⟩), (show (m.1 10) = 0 → (m.1 10) = 0 by omega), (show LxP (m.1 7) (m.1 8) (m.1 9) (m.1 6) (m.1 10) by first | (first | exact hLx | exact (fun _ => hLx (by omega)) | (intro h9; exfalso; omega)) | (exfalso; omega)), (show ∀ k, (m.2 14) k + (m.2 15) k ≤ 4000 by first | (first | exact hNM | (intro k; rw [hE1, hE2]; have := hNM k; have h7 := hLx0 hf0; unfold upI; split <;> omega)) | (exfalso; omega)), (fun (h : (m.1 10) = 0) => absurd h (by omega)), rfl⟩
    · skip
      refine T_ld 12 (.ref 189) rfl (fun _ => rfl) ?_
      refine T_ld 13 (.int (i32 4)) rfl (fun _ => rfl) ?_
      refine T_gf 17 (.int (i32 (m.1 8))) rfl rfl rfl rfl rfl rfl ?_
      refine T_call 20 222 [.ref 189, .int (i32 4), .int (i32 (m.1 8))] [] rfl (fun _ => rfl) rfl (c_wrong w (mO m [(7, (m.1 7)), (8, (m.1 8)), (9, (m.1 9)), (10, (m.1 10)), (11, (m.1 11)), (12, (m.1 12)), (13, (m.1 13)), (23, (m.1 23))] [(14, (m.2 14)), (15, (m.2 15)), (16, (m.2 16)), (17, (m.2 17)), (37, (m.2 37)), (38, (m.2 38)), (42, (m.2 42)), (45, (m.2 45)), (97, (m.2 97)), (98, (m.2 98))]) c N D (by omega) (Ty_mO hT rfl rfl ⟨f7, f8, f9, f10, f11, f12, f13, f23, trivial⟩ ⟨(hT.2.1 14), (hT.2.1 15), (hT.2.1 16), (hT.2.1 17), (hT.2.1 37), (hT.2.1 38), (hT.2.1 42), (hT.2.1 45), (hT.2.1 97), (hT.2.1 98), trivial⟩) 4 (m.1 8) ⟨by decide, by decide⟩ (r32 (by omega) (by omega)) (show 1 ≤ (4 : Int) ∧ (4 : Int) ≤ 8 by omega) (show 0 ≤ (m.1 8) ∧ (m.1 8) ≤ 4000 by omega)) (fun rr375 k376 => ?_)
      obtain ⟨y377, y379, g378, g380, h381, rfl⟩ := k376
      refine ⟨_, _, rfl, ?_⟩
      refine T_nf2 (st' := []) (l' := [(7, (m.1 7)), (8, (m.1 8)), (9, (m.1 9)), (10, y377), (11, y379), (12, (m.1 12)), (13, (m.1 13)), (23, (m.1 23))]) (a' := [(14, (m.2 14)), (15, (m.2 15)), (16, (m.2 16)), (17, (m.2 17)), (37, (m.2 37)), (38, (m.2 38)), (42, (m.2 42)), (45, (m.2 45)), (97, (m.2 97)), (98, (m.2 98))]) [10, 11] [] rfl ⟨rfl, rfl, rfl, rfl, rfl, rfl, rfl, rfl, rfl, rfl, rfl, rfl, rfl, rfl, rfl, rfl, rfl, rfl, rfl, trivial⟩ ⟨rfl, rfl, rfl, rfl, rfl, rfl, rfl, rfl, rfl, rfl, rfl, rfl, rfl, rfl, rfl, rfl, rfl, rfl, rfl, rfl, trivial⟩ rfl rfl (by decide) (by decide) ?_
      replace h381 : (0 < (m.1 10) → y377 = (m.1 10) ∧ y379 = (m.1 11)) ∧ ((m.1 10) ≤ 0 → y377 = (4 : Int) ∧ y379 = (m.1 8)) := h381
      have hf382 : 1 ≤ y377 := by omega
      refine T_gf 24 (.int (i32 y377)) rfl rfl rfl rfl rfl rfl ?_
      refine T_if 28 27 rfl rfl rfl (r32 (by omega) (by omega)) (fun (h383 : y377 ≤ 0) => by exfalso; omega) (fun (h383 : ¬ (y377 ≤ 0)) => ?_)
      refine T_ret rfl (fun _ => rfl) ?_
      exact ⟨(mO m [(7, (m.1 7)), (8, (m.1 8)), (9, (m.1 9)), (10, y377), (11, y379), (12, (m.1 12)), (13, (m.1 13)), (23, (m.1 23))] [(14, (m.2 14)), (15, (m.2 15)), (16, (m.2 16)), (17, (m.2 17)), (37, (m.2 37)), (38, (m.2 38)), (42, (m.2 42)), (45, (m.2 45)), (97, (m.2 97)), (98, (m.2 98))]), (Ty_mO hT rfl rfl ⟨f7, f8, f9, g378, g380, f12, f13, f23, trivial⟩ ⟨(hT.2.1 14), (hT.2.1 15), (hT.2.1 16), (hT.2.1 17), (hT.2.1 37), (hT.2.1 38), (hT.2.1 42), (hT.2.1 45), (hT.2.1 97), (hT.2.1 98), trivial⟩), (show y377 = 0 → (m.1 10) = 0 by omega), (show LxP (m.1 7) (m.1 8) (m.1 9) (m.1 6) y377 by first | (first | exact hLx | exact (fun _ => hLx (by omega)) | (intro h9; exfalso; omega)) | (exfalso; omega)), (show ∀ k, (m.2 14) k + (m.2 15) k ≤ 4000 by first | (first | exact hNM | (intro k; rw [hE1, hE2]; have := hNM k; have h7 := hLx0 hf0; unfold upI; split <;> omega)) | (exfalso; omega)), (fun (h : y377 = 0) => absurd h (by omega)), rfl⟩
