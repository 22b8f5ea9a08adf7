def fF_stateHere : List Nat := [7, 8, 9, 10, 11, 12, 13, 23]
def fA_stateHere : List Nat := [14, 15, 16, 17, 37, 38]
def Q_stateHere (m : mR) (c : Nat → Option am_C) (N : Nat) : ag_Re af_T → Prop := fun R => ∃ (M : mR) (r : Int), Ty M ∧ fr fF_stateHere fA_stateHere m M ∧ ((-2) ≤ r ∧ r ≤ 15) ∧ ((M.1 10) = 0 → (m.1 10) = 0) ∧ (LxP (M.1 7) (M.1 8) (M.1 9) (m.1 6) (M.1 10)) ∧ (∀ k, (M.2 14) k + (M.2 15) k ≤ 4000) ∧ (M.1 10 = 0 → ((m.1 8) + 1 ≤ (M.1 8)) ∧ (PN (M.1 13) (m.1 19) (m.1 20) (m.1 21) (m.1 22) (M.1 23) (m.1 25) (m.1 26) (M.2 16) (M.2 17)) ∧ (SOp (M.2 38) (M.1 23) (m.1 24)) ∧ (r < (M.1 23)) ∧ ((m.1 23) ≤ (M.1 23))) ∧ R = (.inl (some (.int (i32 r))), (mhp M c, N), 0, 0)
set_option maxHeartbeats 3000000 in
theorem c_stateHere (w : wX) (m : mR) (c : Nat → Option am_C) (N D : Nat) (hD : 6 ≤ D) (hT : Ty m) (hLx0 : LxP (m.1 7) (m.1 8) (m.1 9) (m.1 6) (m.1 10)) (hNM0 : ∀ k, (m.2 14) k + (m.2 15) k ≤ 4000) (hC : m.1 10 = 0 → (PN (m.1 13) (m.1 19) (m.1 20) (m.1 21) (m.1 22) (m.1 23) (m.1 25) (m.1 26) (m.2 16) (m.2 17)) ∧ (SOp (m.2 38) (m.1 23) (m.1 24))) : TC w D 242 [.ref 189] (mhp m c, N) (Q_stateHere m c N) := by
  obtain ⟨D, rfl⟩ : ∃ k, D = k + 1 := ⟨D - 1, by omega⟩
  have hLx := hLx0
  have hNM := hNM0
  have f7 : 0 ≤ m.1 7 ∧ m.1 7 ≤ 330 := hT.1 7
  have f8 : 0 ≤ m.1 8 ∧ m.1 8 ≤ 4000 := hT.1 8
  have f9 : 0 ≤ m.1 9 ∧ m.1 9 ≤ 4000 := hT.1 9
  have f10 : 0 ≤ m.1 10 ∧ m.1 10 ≤ 8 := hT.1 10
  have f11 : (-1) ≤ m.1 11 ∧ m.1 11 ≤ 4000 := hT.1 11
  have f13 : 0 ≤ m.1 13 ∧ m.1 13 ≤ 120 := hT.1 13
  have f23 : 0 ≤ m.1 23 ∧ m.1 23 ≤ 16 := hT.1 23
  have f25 : 0 ≤ m.1 25 ∧ m.1 25 ≤ 16 := hT.1 25
  have f22 : 0 ≤ m.1 22 ∧ m.1 22 ≤ 8 := hT.1 22
  have f24 : 0 ≤ m.1 24 ∧ m.1 24 ≤ 16 := hT.1 24
  have f19 : 0 ≤ m.1 19 ∧ m.1 19 ≤ 12 := hT.1 19
  have f20 : 0 ≤ m.1 20 ∧ m.1 20 ≤ 12 := hT.1 20
  have f21 : 0 ≤ m.1 21 ∧ m.1 21 ≤ 16 := hT.1 21
  have f6 : 0 ≤ m.1 6 ∧ m.1 6 ≤ 4000 := hT.1 6
  have f26 : 0 ≤ m.1 26 ∧ m.1 26 ≤ 8 := hT.1 26
  refine Tc_of rfl ?_
  show TT w D pm_242 (0, [(0, .ref 189)], [], (mhp (mO m [] []) c, N), 0, 0) (Q_stateHere m c N)
  by_cases hf0 : m.1 10 = 0
  · skip
    obtain ⟨pPN, pSO⟩ := hC hf0
    have hn := pPN.1
    have hNM := hNM0
    refine T_gf 4 (.int (i32 (m.1 10))) rfl rfl rfl rfl rfl rfl ?_
    refine T_if 9 7 rfl rfl rfl (r32 (by omega) (by omega)) (fun (h11 : (m.1 10) ≤ 0) => ?_) (fun (h11 : ¬ ((m.1 10) ≤ 0)) => by exfalso; omega)
    refine T_gf 13 (.int (i32 (m.1 7))) rfl rfl rfl rfl rfl rfl ?_
    refine T_ld 14 (.int (i32 1)) rfl (fun _ => rfl) ?_
    refine T_icmp 23 17 rfl rfl rfl (r32 (by omega) (by omega)) ⟨by decide, by decide⟩ (fun (h12 : (m.1 7) = 1) => ?_) (fun (h12 : ¬ ((m.1 7) = 1)) => ?_)
    · skip
      have h7 := hLx (by omega)
      refine T_ld 24 (.ref 189) rfl (fun _ => rfl) ?_
      refine T_call 27 227 [.ref 189] [] rfl (fun _ => rfl) rfl (d_sortHere w (mO m [] []) c N D (by omega) hT (show 1 ≤ (m.1 9) ∧ (m.1 8) + (m.1 9) ≤ (m.1 6) by first | omega | (have h8 := hLx (by omega); omega)) (show ∀ k, (m.2 14) k + (m.2 15) k ≤ 4000 by first | exact hNM | exact p1)) (fun rr13 k14 => ?_)
      obtain ⟨so, g15, h16, h17, rfl⟩ := k14
      refine ⟨_, _, rfl, ?_⟩
      refine T_ns (st' := [.int (i32 so)]) rfl ?_
      obtain ⟨g15a, g15b⟩ := g15
      replace h16 : ∃ g k, isGH (m.2 4) (m.1 8) (m.1 9) g ∧ (g < 0 → isFH (m.2 4) (m.2 14) (m.2 15) (m.1 8) (m.1 9) (m.1 13) k) ∧ so = sortV (m.2 16) g k := h16
      have hSo := h16
      replace h17 : -1 ≤ so ∧ so ≤ 7 := h17
      have u18 : (m.1 8) ≤ (m.1 8) := by omega
      refine T_sto 28 [(1, .int (i32 so)), (0, .ref 189)] rfl (fun _ => rfl) ?_
      refine T_ld 29 (.int (i32 so)) rfl (fun _ => rfl) ?_
      refine T_ld 30 (.int (i32 5)) rfl (fun _ => rfl) ?_
      refine T_icmp 44 33 rfl rfl rfl (r32 (by omega) (by omega)) ⟨by decide, by decide⟩ (fun (h19 : so ≠ 5) => ?_) (fun (h19 : ¬ (so ≠ 5)) => ?_)
      · skip
        refine T_ld 45 (.int (i32 so)) rfl (fun _ => rfl) ?_
        refine T_ld 46 (.int (i32 (-1))) rfl (fun _ => rfl) ?_
        refine T_icmp 62 49 rfl rfl rfl (r32 (by omega) (by omega)) ⟨by decide, by decide⟩ (fun (h20 : so = (-1)) => ?_) (fun (h20 : ¬ (so = (-1))) => ?_)
        · skip
          refine T_gf 66 (.int (i32 (m.1 23))) rfl rfl rfl rfl rfl rfl ?_
          refine T_ld 68 (.int (i32 16)) rfl (fun _ => rfl) ?_
          refine T_icmp 80 71 rfl rfl rfl (r32 (by omega) (by omega)) ⟨by decide, by decide⟩ (fun (h21 : (m.1 23) ≠ 16) => ?_) (fun (h21 : ¬ ((m.1 23) ≠ 16)) => ?_)
          · skip
            refine T_gf 84 (.int (i32 (m.1 10))) rfl rfl rfl rfl rfl rfl ?_
            refine T_if 89 87 rfl rfl rfl (r32 (by omega) (by omega)) (fun (h22 : (m.1 10) ≤ 0) => ?_) (fun (h22 : ¬ ((m.1 10) ≤ 0)) => by exfalso; omega)
            refine T_gf 93 (.ref 207) rfl rfl rfl rfl rfl rfl ?_
            refine T_gf 97 (.int (i32 (m.1 23))) rfl rfl rfl rfl rfl rfl ?_
            refine T_gf 101 (.int (i32 (m.1 8))) rfl rfl rfl rfl rfl rfl ?_
            have G23 : ∀ j, 0 ≤ (upI (m.2 37) (m.1 23) (m.1 8)) j ∧ (upI (m.2 37) (m.1 23) (m.1 8)) j ≤ 4000 := upI_rg (hT.2.1 37) ⟨by omega, by omega⟩
            refine T_iast (a' := [(37, upI (m.2 37) (m.1 23) (m.1 8))]) 102 37 (m.2 37) rfl rfl rfl (by omega) (show (m.1 23) < (16 : Int) by omega) rfl rfl ?_
            refine T_gf 106 (.ref 208) rfl rfl rfl rfl rfl rfl ?_
            refine T_gf 110 (.int (i32 (m.1 23))) rfl rfl rfl rfl rfl rfl ?_
            refine T_ld 111 (.int (i32 (-1))) rfl (fun _ => rfl) ?_
            have G24 : ∀ j, (-1) ≤ (upI (m.2 38) (m.1 23) (-1)) j ∧ (upI (m.2 38) (m.1 23) (-1)) j ≤ 15 := upI_rg (hT.2.1 38) ⟨by omega, by omega⟩
            refine T_iast (a' := [(37, upI (m.2 37) (m.1 23) (m.1 8)), (38, upI (m.2 38) (m.1 23) (-1))]) 112 38 (m.2 38) rfl rfl rfl (by omega) (show (m.1 23) < (16 : Int) by omega) rfl rfl ?_
            refine T_ld 113 (.ref 189) rfl (fun _ => rfl) ?_
            refine T_ld 114 (.int (i32 5)) rfl (fun _ => rfl) ?_
            refine T_gf 118 (.int (i32 (m.1 23))) rfl rfl rfl rfl rfl rfl ?_
            refine T_call 121 231 [.ref 189, .int (i32 5), .int (i32 (m.1 23))] [] rfl (fun _ => rfl) rfl (d_enter w (mO m [] [(37, upI (m.2 37) (m.1 23) (m.1 8)), (38, upI (m.2 38) (m.1 23) (-1))]) c N D (by omega) (Ty_mO hT rfl rfl trivial ⟨G23, G24, trivial⟩) 5 (m.1 23) ⟨by decide, by decide⟩ (r32 (by omega) (by omega)) (show (m.1 13) ≤ 119 by omega) (show 1 ≤ (5 : Int) ∧ (5 : Int) ≤ 7 by omega) (show 0 ≤ (m.1 23) ∧ (m.1 23) ≤ 15 by omega)) (fun rr25 k26 => ?_)
            obtain ⟨m27, Tm27, Fm27, h28, h29, h30, h31, h32, rfl⟩ := k26
            refine ⟨_, _, rfl, ?_⟩
            refine T_nb (st' := []) rfl ?_
            have g33 : 0 ≤ m27.1 13 ∧ m27.1 13 ≤ 120 := Tm27.1 13
            replace h28 : (m27.1 13) = (m.1 13) + 1 := h28
            have hE0 := h28
            replace h29 : (m27.2 14) = upI (m.2 14) (m.1 13) (m.1 8) := h29
            have hE1 := h29
            replace h30 : (m27.2 15) = upI (m.2 15) (m.1 13) (m.1 9) := h30
            have hE2 := h30
            replace h31 : (m27.2 16) = upI (m.2 16) (m.1 13) (5 : Int) := h31
            have hE3 := h31
            replace h32 : (m27.2 17) = upI (m.2 17) (m.1 13) (m.1 23) := h32
            have hE4 := h32
            have u34 : (m.1 8) ≤ (m.1 8) := by omega
            refine T_ld 122 (.ref 189) rfl (fun _ => rfl) ?_
            refine T_ld 123 (.ref 189) rfl (fun _ => rfl) ?_
            refine T_gf1 126 (.int (i32 (m.1 23))) rfl rfl (mfv_c (F := fun x => .int (i32 x)) rfl (show (m27.1 23) = (m.1 23) from (fr1 Fm27 23 rfl))) rfl ?_
            refine T_ld 127 (.int (i32 1)) rfl (fun _ => rfl) ?_
            refine T_iadd 128 rfl rfl ?_
            refine T_pf (l' := [(23, (m.1 23) + 1)]) 131 ((m.1 23) + 1) rfl rfl rfl rfl rfl rfl ?_
            have g35 : 0 ≤ (m.1 23) + 1 ∧ (m.1 23) + 1 ≤ 16 := ⟨by omega, by omega⟩
            refine T_ld 132 (.ref 189) rfl (fun _ => rfl) ?_
            refine T_call 135 212 [.ref 189] [] rfl (fun _ => rfl) rfl (d_next w (mO m27 [(23, (m.1 23) + 1)] []) c N D (by omega) (Ty_mO Tm27 rfl rfl ⟨g35, trivial⟩ trivial) (show (m27.1 10) = 0 → (m27.1 8) + (m27.1 9) ≤ (m27.1 6) by rewrite [(show (m27.1 10) = (m.1 10) from (fr1 Fm27 10 rfl)), (show (m27.1 8) = (m.1 8) from (fr1 Fm27 8 rfl)), (show (m27.1 9) = (m.1 9) from (fr1 Fm27 9 rfl)), (show (m27.1 6) = (m.1 6) from (fr1 Fm27 6 rfl))]; first | omega | (intro h9; have h8 := hLx h9; omega))) (fun rr36 k37 => ?_)
            obtain ⟨m38, Tm38, Fm38, h39, h40, h41, h42, rfl⟩ := k37
            refine ⟨_, _, rfl, ?_⟩
            refine T_nb (st' := []) rfl ?_
            have g43 : 0 ≤ m38.1 7 ∧ m38.1 7 ≤ 330 := Tm38.1 7
            have g44 : 0 ≤ m38.1 8 ∧ m38.1 8 ≤ 4000 := Tm38.1 8
            have g45 : 0 ≤ m38.1 9 ∧ m38.1 9 ≤ 4000 := Tm38.1 9
            have g46 : 0 ≤ m38.1 10 ∧ m38.1 10 ≤ 8 := Tm38.1 10
            have g47 : (-1) ≤ m38.1 11 ∧ m38.1 11 ≤ 4000 := Tm38.1 11
            by_cases hf48 : (m38.1 10) = 0
            · skip
              replace h39 : LxP (m38.1 7) (m38.1 8) (m38.1 9) (m27.1 6) (m38.1 10) := h39
              rewrite [(show (m27.1 6) = (m.1 6) from (fr1 Fm27 6 rfl))] at h39
              have hLx := h39
              replace h40 : (m27.1 10) = 0 := h40 hf48
              rewrite [(show (m27.1 10) = (m.1 10) from (fr1 Fm27 10 rfl))] at h40
              replace h41 : (m27.1 8) ≤ (m38.1 8) := h41
              rewrite [(show (m27.1 8) = (m.1 8) from (fr1 Fm27 8 rfl))] at h41
              replace h42 : (m27.1 8) + (m27.1 9) ≤ (m38.1 8) := h42 hf48
              rewrite [(show (m27.1 8) = (m.1 8) from (fr1 Fm27 8 rfl)), (show (m27.1 9) = (m.1 9) from (fr1 Fm27 9 rfl))] at h42
              have u49 : (m.1 8) + 1 ≤ (m38.1 8) := by omega
              refine T_gf 139 (.int (i32 ((m.1 23) + 1))) rfl rfl rfl rfl (mfv_c (F := fun x => .int (i32 x)) rfl (show (m38.1 23) = ((m.1 23) + 1) from (fr1 Fm38 23 rfl))) rfl ?_
              refine T_ld 140 (.int (i32 1)) rfl (fun _ => rfl) ?_
              refine T_isub 141 rfl rfl ?_
              refine T_ret rfl (fun _ => rfl) ?_
              exact ⟨(mO m38 [] []), ((m.1 23) + 1) - 1, Tm38, (fr_m (fr_s Fm38 (fr_m (fr_s Fm27 (fr_m fr_0 rfl rfl) rfl rfl) rfl rfl) rfl rfl) rfl rfl), ⟨by omega, by omega⟩, (show (m38.1 10) = 0 → (m.1 10) = 0 by omega), (show LxP (m38.1 7) (m38.1 8) (m38.1 9) (m.1 6) (m38.1 10) by first | (first | exact hLx | exact (fun _ => hLx (by omega)) | (intro h9; exfalso; omega)) | (exfalso; omega)), (show ∀ k, (m38.2 14) k + (m38.2 15) k ≤ 4000 by rewrite [(show (m38.2 14) = (m27.2 14) from (fr2 Fm38 14 rfl)), (show (m38.2 15) = (m27.2 15) from (fr2 Fm38 15 rfl))]; first | (first | exact hNM | (intro k; rw [hE1, hE2]; have := hNM k; have h7 := hLx0 hf0; unfold upI; split <;> omega)) | (exfalso; omega)), (fun _ => ⟨(show (m.1 8) + 1 ≤ (m38.1 8) by omega), (show PN (m38.1 13) (m.1 19) (m.1 20) (m.1 21) (m.1 22) (m38.1 23) (m.1 25) (m.1 26) (m38.2 16) (m38.2 17) by rewrite [(show (m38.1 13) = (m27.1 13) from (fr1 Fm38 13 rfl)), (show (m38.1 23) = ((m.1 23) + 1) from (fr1 Fm38 23 rfl)), (show (m38.2 16) = (m27.2 16) from (fr2 Fm38 16 rfl)), (show (m38.2 17) = (m27.2 17) from (fr2 Fm38 17 rfl))]; first | (first | exact pPN | (rw [hE0, hE3, hE4]; exact PN_5 pPN (by omega))) | (exfalso; omega)), (show SOp (m38.2 38) (m38.1 23) (m.1 24) by rewrite [(show (m38.2 38) = (upI (m.2 38) (m.1 23) (-1)) from ((fr2 Fm38 38 rfl).trans (fr2 Fm27 38 rfl))), (show (m38.1 23) = ((m.1 23) + 1) from (fr1 Fm38 23 rfl))]; first | (first | exact pSO | exact SOp_new pSO) | (exfalso; omega)), (show (((m.1 23) + 1) - 1) < (m38.1 23) by rewrite [(show (m38.1 23) = ((m.1 23) + 1) from (fr1 Fm38 23 rfl))]; omega), (show (m.1 23) ≤ (m38.1 23) by rewrite [(show (m38.1 23) = ((m.1 23) + 1) from (fr1 Fm38 23 rfl))]; omega)⟩), rfl⟩
            · skip
              replace h39 : LxP (m38.1 7) (m38.1 8) (m38.1 9) (m27.1 6) (m38.1 10) := h39
              rewrite [(show (m27.1 6) = (m.1 6) from (fr1 Fm27 6 rfl))] at h39
              have hLx := h39
              clear h40
              replace h41 : (m27.1 8) ≤ (m38.1 8) := h41
              rewrite [(show (m27.1 8) = (m.1 8) from (fr1 Fm27 8 rfl))] at h41
              clear h42
              have hf50 : 1 ≤ (m38.1 10) := by omega
              refine T_gf 139 (.int (i32 ((m.1 23) + 1))) rfl rfl rfl rfl (mfv_c (F := fun x => .int (i32 x)) rfl (show (m38.1 23) = ((m.1 23) + 1) from (fr1 Fm38 23 rfl))) rfl ?_
              refine T_ld 140 (.int (i32 1)) rfl (fun _ => rfl) ?_
              refine T_isub 141 rfl rfl ?_
              refine T_ret rfl (fun _ => rfl) ?_
              exact ⟨(mO m38 [] []), ((m.1 23) + 1) - 1, Tm38, (fr_m (fr_s Fm38 (fr_m (fr_s Fm27 (fr_m fr_0 rfl rfl) rfl rfl) rfl rfl) rfl rfl) rfl rfl), ⟨by omega, by omega⟩, (show (m38.1 10) = 0 → (m.1 10) = 0 by omega), (show LxP (m38.1 7) (m38.1 8) (m38.1 9) (m.1 6) (m38.1 10) by first | (first | exact hLx | exact (fun _ => hLx (by omega)) | (intro h9; exfalso; omega)) | (exfalso; omega)), (show ∀ k, (m38.2 14) k + (m38.2 15) k ≤ 4000 by rewrite [(show (m38.2 14) = (m27.2 14) from (fr2 Fm38 14 rfl)), (show (m38.2 15) = (m27.2 15) from (fr2 Fm38 15 rfl))]; first | (first | exact hNM | (intro k; rw [hE1, hE2]; have := hNM k; have h7 := hLx0 hf0; unfold upI; split <;> omega)) | (exfalso; omega)), (fun (h : (m38.1 10) = 0) => absurd h (by omega)), rfl⟩
          · skip
            refine T_ld 72 (.ref 189) rfl (fun _ => rfl) ?_
            refine T_ld 73 (.int (i32 4)) rfl (fun _ => rfl) ?_
            refine T_gf 77 (.int (i32 (m.1 8))) rfl rfl rfl rfl rfl rfl ?_
            refine T_call 80 222 [.ref 189, .int (i32 4), .int (i32 (m.1 8))] [] rfl (fun _ => rfl) rfl (d_wrong w (mO m [] []) c N D (by omega) hT 4 (m.1 8) ⟨by decide, by decide⟩ (r32 (by omega) (by omega)) (show 1 ≤ (4 : Int) ∧ (4 : Int) ≤ 8 by omega) (show 0 ≤ (m.1 8) ∧ (m.1 8) ≤ 4000 by omega)) (fun rr51 k52 => ?_)
            obtain ⟨m53, Tm53, Fm53, h54, rfl⟩ := k52
            refine ⟨_, _, rfl, ?_⟩
            refine T_nb (st' := []) rfl ?_
            have g55 : 0 ≤ m53.1 10 ∧ m53.1 10 ≤ 8 := Tm53.1 10
            have g56 : (-1) ≤ m53.1 11 ∧ m53.1 11 ≤ 4000 := Tm53.1 11
            replace h54 : (0 < (m.1 10) → (m53.1 10) = (m.1 10) ∧ (m53.1 11) = (m.1 11)) ∧ ((m.1 10) ≤ 0 → (m53.1 10) = (4 : Int) ∧ (m53.1 11) = (m.1 8)) := h54
            have hf57 : 1 ≤ (m53.1 10) := by omega
            refine T_gf 84 (.int (i32 (m53.1 10))) rfl rfl rfl rfl rfl rfl ?_
            refine T_if 89 87 rfl rfl rfl (r32 (by omega) (by omega)) (fun (h58 : (m53.1 10) ≤ 0) => by exfalso; omega) (fun (h58 : ¬ ((m53.1 10) ≤ 0)) => ?_)
            refine T_ld 88 (.int (i32 (-1))) rfl (fun _ => rfl) ?_
            refine T_ret rfl (fun _ => rfl) ?_
            exact ⟨(mO m53 [] []), (-1), Tm53, (fr_m (fr_s Fm53 (fr_m fr_0 rfl rfl) rfl rfl) rfl rfl), ⟨by omega, by omega⟩, (show (m53.1 10) = 0 → (m.1 10) = 0 by omega), (show LxP (m53.1 7) (m53.1 8) (m53.1 9) (m.1 6) (m53.1 10) by rewrite [(show (m53.1 7) = (m.1 7) from (fr1 Fm53 7 rfl)), (show (m53.1 8) = (m.1 8) from (fr1 Fm53 8 rfl)), (show (m53.1 9) = (m.1 9) from (fr1 Fm53 9 rfl))]; first | (first | exact hLx | exact (fun _ => hLx (by omega)) | (intro h9; exfalso; omega)) | (exfalso; omega)), (show ∀ k, (m53.2 14) k + (m53.2 15) k ≤ 4000 by rewrite [(show (m53.2 14) = (m.2 14) from (fr2 Fm53 14 rfl)), (show (m53.2 15) = (m.2 15) from (fr2 Fm53 15 rfl))]; first | (first | exact hNM | (intro k; rw [hE1, hE2]; have := hNM k; have h7 := hLx0 hf0; unfold upI; split <;> omega)) | (exfalso; omega)), (fun (h : (m53.1 10) = 0) => absurd h (by omega)), rfl⟩
        · skip
          refine T_ld 50 (.ref 189) rfl (fun _ => rfl) ?_
          refine T_ld 52 (.int (i32 6)) rfl (fun _ => rfl) ?_
          refine T_gf 56 (.int (i32 (m.1 8))) rfl rfl rfl rfl rfl rfl ?_
          refine T_call 59 222 [.ref 189, .int (i32 6), .int (i32 (m.1 8))] [] rfl (fun _ => rfl) rfl (d_wrong w (mO m [] []) c N D (by omega) hT 6 (m.1 8) ⟨by decide, by decide⟩ (r32 (by omega) (by omega)) (show 1 ≤ (6 : Int) ∧ (6 : Int) ≤ 8 by omega) (show 0 ≤ (m.1 8) ∧ (m.1 8) ≤ 4000 by omega)) (fun rr59 k60 => ?_)
          obtain ⟨m61, Tm61, Fm61, h62, rfl⟩ := k60
          refine ⟨_, _, rfl, ?_⟩
          refine T_nb (st' := []) rfl ?_
          have g63 : 0 ≤ m61.1 10 ∧ m61.1 10 ≤ 8 := Tm61.1 10
          have g64 : (-1) ≤ m61.1 11 ∧ m61.1 11 ≤ 4000 := Tm61.1 11
          replace h62 : (0 < (m.1 10) → (m61.1 10) = (m.1 10) ∧ (m61.1 11) = (m.1 11)) ∧ ((m.1 10) ≤ 0 → (m61.1 10) = (6 : Int) ∧ (m61.1 11) = (m.1 8)) := h62
          have hf65 : 1 ≤ (m61.1 10) := by omega
          refine T_goto 80 rfl (fun _ => rfl) ?_
          refine T_gf 84 (.int (i32 (m61.1 10))) rfl rfl rfl rfl rfl rfl ?_
          refine T_if 89 87 rfl rfl rfl (r32 (by omega) (by omega)) (fun (h66 : (m61.1 10) ≤ 0) => by exfalso; omega) (fun (h66 : ¬ ((m61.1 10) ≤ 0)) => ?_)
          refine T_ld 88 (.int (i32 (-1))) rfl (fun _ => rfl) ?_
          refine T_ret rfl (fun _ => rfl) ?_
          exact ⟨(mO m61 [] []), (-1), Tm61, (fr_m (fr_s Fm61 (fr_m fr_0 rfl rfl) rfl rfl) rfl rfl), ⟨by omega, by omega⟩, (show (m61.1 10) = 0 → (m.1 10) = 0 by omega), (show LxP (m61.1 7) (m61.1 8) (m61.1 9) (m.1 6) (m61.1 10) by rewrite [(show (m61.1 7) = (m.1 7) from (fr1 Fm61 7 rfl)), (show (m61.1 8) = (m.1 8) from (fr1 Fm61 8 rfl)), (show (m61.1 9) = (m.1 9) from (fr1 Fm61 9 rfl))]; first | (first | exact hLx | exact (fun _ => hLx (by omega)) | (intro h9; exfalso; omega)) | (exfalso; omega)), (show ∀ k, (m61.2 14) k + (m61.2 15) k ≤ 4000 by rewrite [(show (m61.2 14) = (m.2 14) from (fr2 Fm61 14 rfl)), (show (m61.2 15) = (m.2 15) from (fr2 Fm61 15 rfl))]; first | (first | exact hNM | (intro k; rw [hE1, hE2]; have := hNM k; have h7 := hLx0 hf0; unfold upI; split <;> omega)) | (exfalso; omega)), (fun (h : (m61.1 10) = 0) => absurd h (by omega)), rfl⟩
      · skip
        refine T_ld 34 (.ref 189) rfl (fun _ => rfl) ?_
        refine T_call 37 237 [.ref 189] [] rfl (fun _ => rfl) rfl (d_whichHere w (mO m [] []) c N D (by omega) hT (show 1 ≤ (m.1 9) ∧ (m.1 8) + (m.1 9) ≤ (m.1 6) by first | omega | (have h8 := hLx (by omega); omega)) (show ∀ k, (m.2 14) k + (m.2 15) k ≤ 4000 by first | exact hNM | exact p1) (show ∀ g k, isGH (m.2 4) (m.1 8) (m.1 9) g → g < 0 → isFH (m.2 4) (m.2 14) (m.2 15) (m.1 8) (m.1 9) (m.1 13) k → 0 ≤ k by exact old_ok hSo (by omega))) (fun rr67 k68 => ?_)
        obtain ⟨wi, g69, h70, rfl⟩ := k68
        refine ⟨_, _, rfl, ?_⟩
        refine T_ns (st' := [.int (i32 wi)]) rfl ?_
        obtain ⟨g69a, g69b⟩ := g69
        replace h70 : ∃ g k, isGH (m.2 4) (m.1 8) (m.1 9) g ∧ (g < 0 → isFH (m.2 4) (m.2 14) (m.2 15) (m.1 8) (m.1 9) (m.1 13) k) ∧ wi = whichV (m.2 17) g k := h70
        have hWi := h70
        have u71 : (m.1 8) ≤ (m.1 8) := by omega
        have hr5 : -2 ≤ wi ∧ wi < (m.1 23) := by
          rcases old_eq hSo hWi (by omega) with ⟨a, b, c⟩ | ⟨a, b⟩ | ⟨k, a, b, c, d⟩
          · omega
          · omega
          · have := PNl_5 pPN k a b (by omega)
            omega
        refine T_sto 38 [(2, .int (i32 wi)), (1, .int (i32 so)), (0, .ref 189)] rfl (fun _ => rfl) ?_
        refine T_ld 39 (.ref 189) rfl (fun _ => rfl) ?_
        refine T_call 42 212 [.ref 189] [] rfl (fun _ => rfl) rfl (d_next w (mO m [] []) c N D (by omega) hT (show (m.1 10) = 0 → (m.1 8) + (m.1 9) ≤ (m.1 6) by first | omega | (intro h9; have h8 := hLx h9; omega))) (fun rr72 k73 => ?_)
        obtain ⟨m74, Tm74, Fm74, h75, h76, h77, h78, rfl⟩ := k73
        refine ⟨_, _, rfl, ?_⟩
        refine T_nb (st' := []) rfl ?_
        have g79 : 0 ≤ m74.1 7 ∧ m74.1 7 ≤ 330 := Tm74.1 7
        have g80 : 0 ≤ m74.1 8 ∧ m74.1 8 ≤ 4000 := Tm74.1 8
        have g81 : 0 ≤ m74.1 9 ∧ m74.1 9 ≤ 4000 := Tm74.1 9
        have g82 : 0 ≤ m74.1 10 ∧ m74.1 10 ≤ 8 := Tm74.1 10
        have g83 : (-1) ≤ m74.1 11 ∧ m74.1 11 ≤ 4000 := Tm74.1 11
        by_cases hf84 : (m74.1 10) = 0
        · skip
          replace h75 : LxP (m74.1 7) (m74.1 8) (m74.1 9) (m.1 6) (m74.1 10) := h75
          have hLx := h75
          replace h76 : (m.1 10) = 0 := h76 hf84
          replace h77 : (m.1 8) ≤ (m74.1 8) := h77
          replace h78 : (m.1 8) + (m.1 9) ≤ (m74.1 8) := h78 hf84
          have u85 : (m.1 8) + 1 ≤ (m74.1 8) := by omega
          refine T_ld 43 (.int (i32 wi)) rfl (fun _ => rfl) ?_
          refine T_ret rfl (fun _ => rfl) ?_
          exact ⟨(mO m74 [] []), wi, Tm74, (fr_m (fr_s Fm74 (fr_m fr_0 rfl rfl) rfl rfl) rfl rfl), ⟨by omega, by omega⟩, (show (m74.1 10) = 0 → (m.1 10) = 0 by omega), (show LxP (m74.1 7) (m74.1 8) (m74.1 9) (m.1 6) (m74.1 10) by first | (first | exact hLx | exact (fun _ => hLx (by omega)) | (intro h9; exfalso; omega)) | (exfalso; omega)), (show ∀ k, (m74.2 14) k + (m74.2 15) k ≤ 4000 by rewrite [(show (m74.2 14) = (m.2 14) from (fr2 Fm74 14 rfl)), (show (m74.2 15) = (m.2 15) from (fr2 Fm74 15 rfl))]; first | (first | exact hNM | (intro k; rw [hE1, hE2]; have := hNM k; have h7 := hLx0 hf0; unfold upI; split <;> omega)) | (exfalso; omega)), (fun _ => ⟨(show (m.1 8) + 1 ≤ (m74.1 8) by omega), (show PN (m74.1 13) (m.1 19) (m.1 20) (m.1 21) (m.1 22) (m74.1 23) (m.1 25) (m.1 26) (m74.2 16) (m74.2 17) by rewrite [(show (m74.1 13) = (m.1 13) from (fr1 Fm74 13 rfl)), (show (m74.1 23) = (m.1 23) from (fr1 Fm74 23 rfl)), (show (m74.2 16) = (m.2 16) from (fr2 Fm74 16 rfl)), (show (m74.2 17) = (m.2 17) from (fr2 Fm74 17 rfl))]; first | (first | exact pPN | (rw [hE0, hE3, hE4]; exact PN_5 pPN (by omega))) | (exfalso; omega)), (show SOp (m74.2 38) (m74.1 23) (m.1 24) by rewrite [(show (m74.2 38) = (m.2 38) from (fr2 Fm74 38 rfl)), (show (m74.1 23) = (m.1 23) from (fr1 Fm74 23 rfl))]; first | (first | exact pSO | exact SOp_new pSO) | (exfalso; omega)), (show wi < (m74.1 23) by rewrite [(show (m74.1 23) = (m.1 23) from (fr1 Fm74 23 rfl))]; omega), (show (m.1 23) ≤ (m74.1 23) by rewrite [(show (m74.1 23) = (m.1 23) from (fr1 Fm74 23 rfl))]; omega)⟩), rfl⟩
        · skip
          replace h75 : LxP (m74.1 7) (m74.1 8) (m74.1 9) (m.1 6) (m74.1 10) := h75
          have hLx := h75
          clear h76
          replace h77 : (m.1 8) ≤ (m74.1 8) := h77
          clear h78
          have hf86 : 1 ≤ (m74.1 10) := by omega
          refine T_ld 43 (.int (i32 wi)) rfl (fun _ => rfl) ?_
          refine T_ret rfl (fun _ => rfl) ?_
          exact ⟨(mO m74 [] []), wi, Tm74, (fr_m (fr_s Fm74 (fr_m fr_0 rfl rfl) rfl rfl) rfl rfl), ⟨by omega, by omega⟩, (show (m74.1 10) = 0 → (m.1 10) = 0 by omega), (show LxP (m74.1 7) (m74.1 8) (m74.1 9) (m.1 6) (m74.1 10) by first | (first | exact hLx | exact (fun _ => hLx (by omega)) | (intro h9; exfalso; omega)) | (exfalso; omega)), (show ∀ k, (m74.2 14) k + (m74.2 15) k ≤ 4000 by rewrite [(show (m74.2 14) = (m.2 14) from (fr2 Fm74 14 rfl)), (show (m74.2 15) = (m.2 15) from (fr2 Fm74 15 rfl))]; first | (first | exact hNM | (intro k; rw [hE1, hE2]; have := hNM k; have h7 := hLx0 hf0; unfold upI; split <;> omega)) | (exfalso; omega)), (fun (h : (m74.1 10) = 0) => absurd h (by omega)), rfl⟩
    · skip
      refine T_ld 18 (.ref 189) rfl (fun _ => rfl) ?_
      refine T_call 21 226 [.ref 189] [] rfl (fun _ => rfl) rfl (d_bad w (mO m [] []) c N D (by omega) hT ) (fun rr87 k88 => ?_)
      obtain ⟨m89, Tm89, Fm89, h90, rfl⟩ := k88
      refine ⟨_, _, rfl, ?_⟩
      refine T_nb (st' := []) rfl ?_
      have g91 : 0 ≤ m89.1 10 ∧ m89.1 10 ≤ 8 := Tm89.1 10
      have g92 : (-1) ≤ m89.1 11 ∧ m89.1 11 ≤ 4000 := Tm89.1 11
      replace h90 : (0 < (m.1 10) → (m89.1 10) = (m.1 10) ∧ (m89.1 11) = (m.1 11)) ∧ ((m.1 10) ≤ 0 → (m89.1 10) = 1 ∧ (m89.1 11) = (m.1 8)) := h90
      have hf93 : 1 ≤ (m89.1 10) := by omega
      refine T_ld 22 (.int (i32 (-1))) rfl (fun _ => rfl) ?_
      refine T_ret rfl (fun _ => rfl) ?_
      exact ⟨(mO m89 [] []), (-1), Tm89, (fr_m (fr_s Fm89 (fr_m fr_0 rfl rfl) rfl rfl) rfl rfl), ⟨by omega, by omega⟩, (show (m89.1 10) = 0 → (m.1 10) = 0 by omega), (show LxP (m89.1 7) (m89.1 8) (m89.1 9) (m.1 6) (m89.1 10) by rewrite [(show (m89.1 7) = (m.1 7) from (fr1 Fm89 7 rfl)), (show (m89.1 8) = (m.1 8) from (fr1 Fm89 8 rfl)), (show (m89.1 9) = (m.1 9) from (fr1 Fm89 9 rfl))]; first | (first | exact hLx | exact (fun _ => hLx (by omega)) | (intro h9; exfalso; omega)) | (exfalso; omega)), (show ∀ k, (m89.2 14) k + (m89.2 15) k ≤ 4000 by rewrite [(show (m89.2 14) = (m.2 14) from (fr2 Fm89 14 rfl)), (show (m89.2 15) = (m.2 15) from (fr2 Fm89 15 rfl))]; first | (first | exact hNM | (intro k; rw [hE1, hE2]; have := hNM k; have h7 := hLx0 hf0; unfold upI; split <;> omega)) | (exfalso; omega)), (fun (h : (m89.1 10) = 0) => absurd h (by omega)), rfl⟩
  · skip
    clear hC
    refine T_gf 4 (.int (i32 (m.1 10))) rfl rfl rfl rfl rfl rfl ?_
    refine T_if 9 7 rfl rfl rfl (r32 (by omega) (by omega)) (fun (h94 : (m.1 10) ≤ 0) => by exfalso; omega) (fun (h94 : ¬ ((m.1 10) ≤ 0)) => ?_)
    refine T_ld 8 (.int (i32 (-1))) rfl (fun _ => rfl) ?_
    refine T_ret rfl (fun _ => rfl) ?_
    exact ⟨(mO m [] []), (-1), hT, (fr_m fr_0 rfl rfl), ⟨by omega, by omega⟩, (show (m.1 10) = 0 → (m.1 10) = 0 by omega), (show LxP (m.1 7) (m.1 8) (m.1 9) (m.1 6) (m.1 10) by first | (first | exact hLx | exact (fun _ => hLx (by omega)) | (intro h9; exfalso; omega)) | (exfalso; omega)), (show ∀ k, (m.2 14) k + (m.2 15) k ≤ 4000 by first | (first | exact hNM | (intro k; rw [hE1, hE2]; have := hNM k; have h7 := hLx0 hf0; unfold upI; split <;> omega)) | (exfalso; omega)), (fun (h : (m.1 10) = 0) => absurd h (by omega)), rfl⟩
def fF_takeExtract : List Nat := [7, 8, 9, 10, 11, 12]
def fA_takeExtract : List Nat := [41, 94]
def Q_takeExtract (m : mR) (c : Nat → Option am_C) (N : Nat) (d : Int) : ag_Re af_T → Prop := fun R => ∃ (M : mR), Ty M ∧ fr fF_takeExtract fA_takeExtract m M ∧ ((M.1 10) = 0 → (m.1 10) = 0) ∧ (LxP (M.1 7) (M.1 8) (M.1 9) (m.1 6) (M.1 10)) ∧ (M.1 10 = 0 → ((m.1 8) + 1 ≤ (M.1 8))) ∧ R = (.inl (none), (mhp M c, N), 0, 0)
set_option maxHeartbeats 3000000 in
theorem c_takeExtract (w : wX) (m : mR) (c : Nat → Option am_C) (N D : Nat) (hD : 7 ≤ D) (hT : Ty m) (d : Int) (qd : R32 d) (hLx0 : LxP (m.1 7) (m.1 8) (m.1 9) (m.1 6) (m.1 10)) (hNM0 : ∀ k, (m.2 14) k + (m.2 15) k ≤ 4000) (p2 : 0 ≤ d ∧ d ≤ 15) (hC : m.1 10 = 0 → (PN (m.1 13) (m.1 19) (m.1 20) (m.1 21) (m.1 22) (m.1 23) (m.1 25) (m.1 26) (m.2 16) (m.2 17)) ∧ ((m.1 7) ≠ 0)) : TC w D 241 [.ref 189, .int (i32 d)] (mhp m c, N) (Q_takeExtract m c N d) := by
  obtain ⟨D, rfl⟩ : ∃ k, D = k + 1 := ⟨D - 1, by omega⟩
  obtain ⟨qda, qdb⟩ := id qd
  have hLx := hLx0
  have hNM := hNM0
  have f7 : 0 ≤ m.1 7 ∧ m.1 7 ≤ 330 := hT.1 7
  have f8 : 0 ≤ m.1 8 ∧ m.1 8 ≤ 4000 := hT.1 8
  have f9 : 0 ≤ m.1 9 ∧ m.1 9 ≤ 4000 := hT.1 9
  have f10 : 0 ≤ m.1 10 ∧ m.1 10 ≤ 8 := hT.1 10
  have f11 : (-1) ≤ m.1 11 ∧ m.1 11 ≤ 4000 := hT.1 11
  have f25 : 0 ≤ m.1 25 ∧ m.1 25 ≤ 16 := hT.1 25
  have f22 : 0 ≤ m.1 22 ∧ m.1 22 ≤ 8 := hT.1 22
  have f19 : 0 ≤ m.1 19 ∧ m.1 19 ≤ 12 := hT.1 19
  have f20 : 0 ≤ m.1 20 ∧ m.1 20 ≤ 12 := hT.1 20
  have f21 : 0 ≤ m.1 21 ∧ m.1 21 ≤ 16 := hT.1 21
  have f13 : 0 ≤ m.1 13 ∧ m.1 13 ≤ 120 := hT.1 13
  have f6 : 0 ≤ m.1 6 ∧ m.1 6 ≤ 4000 := hT.1 6
  have f23 : 0 ≤ m.1 23 ∧ m.1 23 ≤ 16 := hT.1 23
  have f26 : 0 ≤ m.1 26 ∧ m.1 26 ≤ 8 := hT.1 26
  refine Tc_of rfl ?_
  show TT w D pm_241 (0, [(0, .ref 189), (1, .int (i32 d))], [], (mhp (mO m [] []) c, N), 0, 0) (Q_takeExtract m c N d)
  by_cases hf0 : m.1 10 = 0
  · skip
    obtain ⟨pPN, c1⟩ := hC hf0
    have h7 := hLx (by omega)
    have J59_8 : ∀ (m7 : mR), Ty m7 → fr [7, 8, 9, 10, 11, 12] [94] (mO m [] []) m7 → ((m.2 41) d ≤ 5) → (1 ≤ (m7.1 10)) → TT w D pm_241 (59, [(0, .ref 189), (1, .int (i32 d))], [], (mhp (mO m7 [] []) c, N), 0, 0) (Q_takeExtract m c N d) := by
      intro m7 Tm7 Fm7 ic9 ic10
      have q11_7 : 0 ≤ m7.1 7 ∧ m7.1 7 ≤ 330 := Tm7.1 7
      have q11_8 : 0 ≤ m7.1 8 ∧ m7.1 8 ≤ 4000 := Tm7.1 8
      have q11_9 : 0 ≤ m7.1 9 ∧ m7.1 9 ≤ 4000 := Tm7.1 9
      have q11_10 : 0 ≤ m7.1 10 ∧ m7.1 10 ≤ 8 := Tm7.1 10
      have q11_11 : (-1) ≤ m7.1 11 ∧ m7.1 11 ≤ 4000 := Tm7.1 11
      refine T_gf 63 (.ref 211) rfl rfl rfl rfl rfl rfl ?_
      refine T_ld 64 (.int (i32 d)) rfl (fun _ => rfl) ?_
      refine T_dup2 65 rfl (fun _ => rfl) ?_
      refine T_iald 66 41 (m.2 41) rfl rfl rfl (by omega) (show d < (16 : Int) by omega) (show (m7.2 41) = (m.2 41) from (fr2 Fm7 41 rfl)) ?_
      have e13 : 0 ≤ (m.2 41) d ∧ (m.2 41) d ≤ 6 := (hT.2.1 41) d
      refine T_ld 67 (.int (i32 1)) rfl (fun _ => rfl) ?_
      refine T_iadd 68 rfl rfl ?_
      have G14 : ∀ j, 0 ≤ (upI (m.2 41) d (((m.2 41) d) + 1)) j ∧ (upI (m.2 41) d (((m.2 41) d) + 1)) j ≤ 6 := upI_rg (hT.2.1 41) ⟨by omega, by omega⟩
      refine T_iast (a' := [(41, upI (m.2 41) d (((m.2 41) d) + 1))]) 69 41 (m.2 41) rfl rfl rfl (by omega) (show d < (16 : Int) by omega) (show (m7.2 41) = (m.2 41) from (fr2 Fm7 41 rfl)) rfl ?_
      refine T_ret rfl (fun _ => rfl) ?_
      exact ⟨(mO m7 [] [(41, upI (m.2 41) d (((m.2 41) d) + 1))]), (Ty_mO Tm7 rfl rfl trivial ⟨G14, trivial⟩), (fr_m (fr_s Fm7 (fr_m fr_0 rfl rfl) rfl rfl) rfl rfl), (show (m7.1 10) = 0 → (m.1 10) = 0 by omega), (show LxP (m7.1 7) (m7.1 8) (m7.1 9) (m.1 6) (m7.1 10) by first | (first | exact hLx | exact (fun _ => hLx (by omega)) | (intro h9; exfalso; omega)) | (exfalso; omega)), (fun (h : (m7.1 10) = 0) => absurd h (by omega)), rfl⟩
    have J52_17 : ∀ (s15 : Int) (m16 : mR), (R32 s15) → Ty m16 → fr [7, 8, 9, 10, 11, 12] [] (mO m [] []) m16 → (0 ≤ s15) → (s15 ≤ 11) → ((m.2 41) d ≤ 5) → (0 ≤ (6 * d) + ((m.2 41) d) ∧ (6 * d) + ((m.2 41) d) ≤ 96) → (1 ≤ (m16.1 10)) → TT w D pm_241 (52, [(0, .ref 189), (1, .int (i32 d))], [.int (i32 s15), .int (i32 ((6 * d) + ((m.2 41) d))), .ref 256], (mhp (mO m16 [] []) c, N), 0, 0) (Q_takeExtract m c N d) := by
      intro s15 m16 q23 Tm16 Fm16 ic18 ic19 ic20 ic21 ic22
      obtain ⟨q23a, q23b⟩ := id q23
      have q24_7 : 0 ≤ m16.1 7 ∧ m16.1 7 ≤ 330 := Tm16.1 7
      have q24_8 : 0 ≤ m16.1 8 ∧ m16.1 8 ≤ 4000 := Tm16.1 8
      have q24_9 : 0 ≤ m16.1 9 ∧ m16.1 9 ≤ 4000 := Tm16.1 9
      have q24_10 : 0 ≤ m16.1 10 ∧ m16.1 10 ≤ 8 := Tm16.1 10
      have q24_11 : (-1) ≤ m16.1 11 ∧ m16.1 11 ≤ 4000 := Tm16.1 11
      have G26 : ∀ j, 0 ≤ (upI (m.2 94) ((6 * d) + ((m.2 41) d)) s15) j ∧ (upI (m.2 94) ((6 * d) + ((m.2 41) d)) s15) j ≤ 11 := upI_rg (hT.2.1 94) ⟨by omega, by omega⟩
      refine T_iast (a' := [(94, upI (m.2 94) ((6 * d) + ((m.2 41) d)) s15)]) 53 94 (m.2 94) rfl rfl rfl (by omega) (show ((6 * d) + ((m.2 41) d)) < (96 : Int) by omega) (show (m16.2 94) = (m.2 94) from (fr2 Fm16 94 rfl)) rfl ?_
      refine T_ld 54 (.ref 189) rfl (fun _ => rfl) ?_
      refine T_ld 56 (.int (i32 59)) rfl (fun _ => rfl) ?_
      refine T_call 59 232 [.ref 189, .int (i32 59)] [] rfl (fun _ => rfl) rfl (d_need w (mO m16 [] [(94, upI (m.2 94) ((6 * d) + ((m.2 41) d)) s15)]) c N D (by omega) (Ty_mO Tm16 rfl rfl trivial ⟨G26, trivial⟩) 59 ⟨by decide, by decide⟩ (show 1 ≤ (59 : Int) by omega) (show LxP (m16.1 7) (m16.1 8) (m16.1 9) (m16.1 6) (m16.1 10) by rewrite [(show (m16.1 6) = (m.1 6) from (fr1 Fm16 6 rfl))]; first | exact hLx | (intro h9; exfalso; omega) | (intro h9; have h8 := hLx (by omega); omega))) (fun rr27 k28 => ?_)
      obtain ⟨m29, Tm29, Fm29, h30, h31, h32, h33, rfl⟩ := k28
      refine ⟨_, _, rfl, ?_⟩
      refine T_nb (st' := []) rfl ?_
      have g34 : 0 ≤ m29.1 7 ∧ m29.1 7 ≤ 330 := Tm29.1 7
      have g35 : 0 ≤ m29.1 8 ∧ m29.1 8 ≤ 4000 := Tm29.1 8
      have g36 : 0 ≤ m29.1 9 ∧ m29.1 9 ≤ 4000 := Tm29.1 9
      have g37 : 0 ≤ m29.1 10 ∧ m29.1 10 ≤ 8 := Tm29.1 10
      have g38 : (-1) ≤ m29.1 11 ∧ m29.1 11 ≤ 4000 := Tm29.1 11
      replace h30 : LxP (m29.1 7) (m29.1 8) (m29.1 9) (m16.1 6) (m29.1 10) := h30
      rewrite [(show (m16.1 6) = (m.1 6) from (fr1 Fm16 6 rfl))] at h30
      replace h31 : (m29.1 10) = 0 → (m16.1 10) = 0 ∧ (m16.1 7) = (59 : Int) := h31
      replace h32 : (m16.1 8) ≤ (m29.1 8) := h32
      replace h33 : (m29.1 10) = 0 → (m16.1 8) + (m16.1 9) ≤ (m29.1 8) := h33
      have hf39 : 1 ≤ (m29.1 10) := by omega
      clear h31
      clear h33
      have hLx := h30
      clear q24_7 q24_8 q24_9 q24_10 q24_11 ic22 h32
      exact J59_8 (mO m29 [] []) Tm29 (fr_m (fr_s Fm29 (fr_m (fr_s Fm16 (fr_m fr_0 rfl rfl) rfl rfl) rfl rfl) rfl rfl) rfl rfl) (show (m.2 41) d ≤ 5 by omega) (show 1 ≤ (m29.1 10) by omega)
    refine T_gf 4 (.ref 211) rfl rfl rfl rfl rfl rfl ?_
    refine T_ld 5 (.int (i32 d)) rfl (fun _ => rfl) ?_
    refine T_iald 6 41 (m.2 41) rfl rfl rfl (by omega) (show d < (16 : Int) by omega) rfl ?_
    have e40 : 0 ≤ (m.2 41) d ∧ (m.2 41) d ≤ 6 := (hT.2.1 41) d
    refine T_ld 8 (.int (i32 6)) rfl (fun _ => rfl) ?_
    refine T_icmp 20 11 rfl rfl rfl (r32 (by omega) (by omega)) ⟨by decide, by decide⟩ (fun (h41 : (m.2 41) d ≠ 6) => ?_) (fun (h41 : ¬ ((m.2 41) d ≠ 6)) => ?_)
    · skip
      refine T_gf 24 (.int (i32 (m.1 10))) rfl rfl rfl rfl rfl rfl ?_
      refine T_if 28 27 rfl rfl rfl (r32 (by omega) (by omega)) (fun (h42 : (m.1 10) ≤ 0) => ?_) (fun (h42 : ¬ ((m.1 10) ≤ 0)) => by exfalso; omega)
      refine T_ld 29 (.ref 189) rfl (fun _ => rfl) ?_
      refine T_call 32 212 [.ref 189] [] rfl (fun _ => rfl) rfl (d_next w (mO m [] []) c N D (by omega) hT (show (m.1 10) = 0 → (m.1 8) + (m.1 9) ≤ (m.1 6) by first | omega | (intro h9; have h8 := hLx h9; omega))) (fun rr43 k44 => ?_)
      obtain ⟨m45, Tm45, Fm45, h46, h47, h48, h49, rfl⟩ := k44
      refine ⟨_, _, rfl, ?_⟩
      refine T_nb (st' := []) rfl ?_
      have g50 : 0 ≤ m45.1 7 ∧ m45.1 7 ≤ 330 := Tm45.1 7
      have g51 : 0 ≤ m45.1 8 ∧ m45.1 8 ≤ 4000 := Tm45.1 8
      have g52 : 0 ≤ m45.1 9 ∧ m45.1 9 ≤ 4000 := Tm45.1 9
      have g53 : 0 ≤ m45.1 10 ∧ m45.1 10 ≤ 8 := Tm45.1 10
      have g54 : (-1) ≤ m45.1 11 ∧ m45.1 11 ≤ 4000 := Tm45.1 11
      by_cases hf55 : (m45.1 10) = 0
      · skip
        replace h46 : LxP (m45.1 7) (m45.1 8) (m45.1 9) (m.1 6) (m45.1 10) := h46
        have hLx := h46
        replace h47 : (m.1 10) = 0 := h47 hf55
        replace h48 : (m.1 8) ≤ (m45.1 8) := h48
        replace h49 : (m.1 8) + (m.1 9) ≤ (m45.1 8) := h49 hf55
        have u56 : (m.1 8) + 1 ≤ (m45.1 8) := by omega
        refine T_gf 36 (.ref 256) rfl rfl rfl rfl rfl rfl ?_
        refine T_ld 38 (.int (i32 6)) rfl (fun _ => rfl) ?_
        refine T_ld 39 (.int (i32 d)) rfl (fun _ => rfl) ?_
        refine T_imul 40 rfl rfl ?_
        refine T_gf 44 (.ref 211) rfl rfl rfl rfl rfl rfl ?_
        refine T_ld 45 (.int (i32 d)) rfl (fun _ => rfl) ?_
        refine T_iald 46 41 (m.2 41) rfl rfl rfl (by omega) (show d < (16 : Int) by omega) (show (m45.2 41) = (m.2 41) from (fr2 Fm45 41 rfl)) ?_
        have e57 : 0 ≤ (m.2 41) d ∧ (m.2 41) d ≤ 6 := (hT.2.1 41) d
        refine T_iadd 47 rfl rfl ?_
        refine T_ld 48 (.ref 189) rfl (fun _ => rfl) ?_
        refine T_ld 49 (.int (i32 2)) rfl (fun _ => rfl) ?_
        have hOL : (m45.1 10) = 0 → ∀ k, 0 ≤ k → k < (m.1 13) → (m.2 16) k = 2 → 0 ≤ (m.2 17) k ∧ (m.2 17) k < 12 := fun _ k h1 h2 h3 => by
          have h4 := PNl_2 pPN k h1 h2 h3
          omega
        refine T_call 52 236 [.ref 189, .int (i32 2)] [.int (i32 ((6 * d) + ((m.2 41) d))), .ref 256] rfl (fun _ => rfl) rfl (d_oldName w (mO m45 [] []) c N D (by omega) Tm45 2 12 ⟨by decide, by decide⟩ (show LxP (m45.1 7) (m45.1 8) (m45.1 9) (m45.1 6) (m45.1 10) by rewrite [(show (m45.1 6) = (m.1 6) from (fr1 Fm45 6 rfl))]; first | exact hLx | (intro h9; exfalso; omega) | (intro h9; have h8 := hLx (by omega); omega)) (show ∀ k, (m45.2 14) k + (m45.2 15) k ≤ 4000 by rewrite [(show (m45.2 14) = (m.2 14) from (fr2 Fm45 14 rfl)), (show (m45.2 15) = (m.2 15) from (fr2 Fm45 15 rfl))]; first | exact p1 | exact hNM) (show 1 ≤ (2 : Int) ∧ (2 : Int) ≤ 7 ∧ (2 : Int) ≠ 5 by omega) (show 12 ≤ 16 by omega) (show (m45.1 10) = 0 → ∀ k, 0 ≤ k → k < (m45.1 13) → (m45.2 16) k = (2 : Int) → 0 ≤ (m45.2 17) k ∧ (m45.2 17) k < 12 by rewrite [(show (m45.1 13) = (m.1 13) from (fr1 Fm45 13 rfl)), (show (m45.2 16) = (m.2 16) from (fr2 Fm45 16 rfl)), (show (m45.2 17) = (m.2 17) from (fr2 Fm45 17 rfl))]; first | exact hOL | (intro h; exfalso; omega)) (show (2 : Int) = 3 → 3 ≤ 12 by omega)) (fun rr58 k59 => ?_)
        obtain ⟨m60, oo, Tm60, Fm60, g61, h62, h63, h64, h65, h66, h67, rfl⟩ := k59
        refine ⟨_, _, rfl, ?_⟩
        refine T_nb (st' := [.int (i32 oo), .int (i32 ((6 * d) + ((m.2 41) d))), .ref 256]) rfl ?_
        obtain ⟨g61a, g61b⟩ := g61
        have g68 : 0 ≤ m60.1 7 ∧ m60.1 7 ≤ 330 := Tm60.1 7
        have g69 : 0 ≤ m60.1 8 ∧ m60.1 8 ≤ 4000 := Tm60.1 8
        have g70 : 0 ≤ m60.1 9 ∧ m60.1 9 ≤ 4000 := Tm60.1 9
        have g71 : 0 ≤ m60.1 10 ∧ m60.1 10 ≤ 8 := Tm60.1 10
        have g72 : (-1) ≤ m60.1 11 ∧ m60.1 11 ≤ 4000 := Tm60.1 11
        by_cases hf73 : (m60.1 10) = 0
        · skip
          replace h62 : LxP (m60.1 7) (m60.1 8) (m60.1 9) (m45.1 6) (m60.1 10) := h62
          rewrite [(show (m45.1 6) = (m.1 6) from (fr1 Fm45 6 rfl))] at h62
          have hLx := h62
          replace h63 : (m45.1 8) ≤ (m60.1 8) := h63
          replace h64 : (m45.1 10) = 0 ∧ (m45.1 8) + (m45.1 9) ≤ (m60.1 8) := h64 hf73
          replace h65 : (m45.1 7) = 1 := h65 hf73
          replace h66 : 0 ≤ oo ∧ (oo < 12 ∨ oo = 0) := h66
          replace h67 : oo < 12 := h67 hf73
          have u74 : (m.1 8) + 1 ≤ (m60.1 8) := by omega
          clear g50 g51 g52 g53 g54 h46 h48 h49 u56 h63 h64 h65
          have G75 : ∀ j, 0 ≤ (upI (m.2 94) ((6 * d) + ((m.2 41) d)) oo) j ∧ (upI (m.2 94) ((6 * d) + ((m.2 41) d)) oo) j ≤ 11 := upI_rg (hT.2.1 94) ⟨by omega, by omega⟩
          refine T_iast (a' := [(94, upI (m.2 94) ((6 * d) + ((m.2 41) d)) oo)]) 53 94 (m.2 94) rfl rfl rfl (by omega) (show ((6 * d) + ((m.2 41) d)) < (96 : Int) by omega) (show (m60.2 94) = (m.2 94) from ((fr2 Fm60 94 rfl).trans (fr2 Fm45 94 rfl))) rfl ?_
          refine T_ld 54 (.ref 189) rfl (fun _ => rfl) ?_
          refine T_ld 56 (.int (i32 59)) rfl (fun _ => rfl) ?_
          refine T_call 59 232 [.ref 189, .int (i32 59)] [] rfl (fun _ => rfl) rfl (d_need w (mO m60 [] [(94, upI (m.2 94) ((6 * d) + ((m.2 41) d)) oo)]) c N D (by omega) (Ty_mO Tm60 rfl rfl trivial ⟨G75, trivial⟩) 59 ⟨by decide, by decide⟩ (show 1 ≤ (59 : Int) by omega) (show LxP (m60.1 7) (m60.1 8) (m60.1 9) (m60.1 6) (m60.1 10) by rewrite [(show (m60.1 6) = (m.1 6) from ((fr1 Fm60 6 rfl).trans (fr1 Fm45 6 rfl)))]; first | exact hLx | (intro h9; exfalso; omega) | (intro h9; have h8 := hLx (by omega); omega))) (fun rr76 k77 => ?_)
          obtain ⟨m78, Tm78, Fm78, h79, h80, h81, h82, rfl⟩ := k77
          refine ⟨_, _, rfl, ?_⟩
          refine T_nb (st' := []) rfl ?_
          have g83 : 0 ≤ m78.1 7 ∧ m78.1 7 ≤ 330 := Tm78.1 7
          have g84 : 0 ≤ m78.1 8 ∧ m78.1 8 ≤ 4000 := Tm78.1 8
          have g85 : 0 ≤ m78.1 9 ∧ m78.1 9 ≤ 4000 := Tm78.1 9
          have g86 : 0 ≤ m78.1 10 ∧ m78.1 10 ≤ 8 := Tm78.1 10
          have g87 : (-1) ≤ m78.1 11 ∧ m78.1 11 ≤ 4000 := Tm78.1 11
          by_cases hf88 : (m78.1 10) = 0
          · skip
            replace h79 : LxP (m78.1 7) (m78.1 8) (m78.1 9) (m60.1 6) (m78.1 10) := h79
            rewrite [(show (m60.1 6) = (m.1 6) from ((fr1 Fm60 6 rfl).trans (fr1 Fm45 6 rfl)))] at h79
            have hLx := h79
            replace h80 : (m60.1 10) = 0 ∧ (m60.1 7) = (59 : Int) := h80 hf88
            replace h81 : (m60.1 8) ≤ (m78.1 8) := h81
            replace h82 : (m60.1 8) + (m60.1 9) ≤ (m78.1 8) := h82 hf88
            have u89 : (m.1 8) + 1 ≤ (m78.1 8) := by omega
            clear g68 g69 g70 g71 g72 h62 u74 h80 h81 h82
            refine T_gf 63 (.ref 211) rfl rfl rfl rfl rfl rfl ?_
            refine T_ld 64 (.int (i32 d)) rfl (fun _ => rfl) ?_
            refine T_dup2 65 rfl (fun _ => rfl) ?_
            refine T_iald 66 41 (m.2 41) rfl rfl rfl (by omega) (show d < (16 : Int) by omega) (show (m78.2 41) = (m.2 41) from ((fr2 Fm78 41 rfl).trans ((fr2 Fm60 41 rfl).trans (fr2 Fm45 41 rfl)))) ?_
            have e90 : 0 ≤ (m.2 41) d ∧ (m.2 41) d ≤ 6 := (hT.2.1 41) d
            refine T_ld 67 (.int (i32 1)) rfl (fun _ => rfl) ?_
            refine T_iadd 68 rfl rfl ?_
            have G91 : ∀ j, 0 ≤ (upI (m.2 41) d (((m.2 41) d) + 1)) j ∧ (upI (m.2 41) d (((m.2 41) d) + 1)) j ≤ 6 := upI_rg (hT.2.1 41) ⟨by omega, by omega⟩
            refine T_iast (a' := [(41, upI (m.2 41) d (((m.2 41) d) + 1))]) 69 41 (m.2 41) rfl rfl rfl (by omega) (show d < (16 : Int) by omega) (show (m78.2 41) = (m.2 41) from ((fr2 Fm78 41 rfl).trans ((fr2 Fm60 41 rfl).trans (fr2 Fm45 41 rfl)))) rfl ?_
            refine T_ret rfl (fun _ => rfl) ?_
            exact ⟨(mO m78 [] [(41, upI (m.2 41) d (((m.2 41) d) + 1))]), (Ty_mO Tm78 rfl rfl trivial ⟨G91, trivial⟩), (fr_m (fr_s Fm78 (fr_m (fr_s Fm60 (fr_m (fr_s Fm45 (fr_m fr_0 rfl rfl) rfl rfl) rfl rfl) rfl rfl) rfl rfl) rfl rfl) rfl rfl), (show (m78.1 10) = 0 → (m.1 10) = 0 by omega), (show LxP (m78.1 7) (m78.1 8) (m78.1 9) (m.1 6) (m78.1 10) by first | (first | exact hLx | exact (fun _ => hLx (by omega)) | (intro h9; exfalso; omega)) | (exfalso; omega)), (fun _ => (show (m.1 8) + 1 ≤ (m78.1 8) by omega)), rfl⟩
          · skip
            replace h79 : LxP (m78.1 7) (m78.1 8) (m78.1 9) (m60.1 6) (m78.1 10) := h79
            rewrite [(show (m60.1 6) = (m.1 6) from ((fr1 Fm60 6 rfl).trans (fr1 Fm45 6 rfl)))] at h79
            have hLx := h79
            clear h80
            replace h81 : (m60.1 8) ≤ (m78.1 8) := h81
            clear h82
            have hf92 : 1 ≤ (m78.1 10) := by omega
            clear g68 g69 g70 g71 g72 h62 u74 h81
            exact J59_8 (mO m78 [] []) Tm78 (fr_m (fr_s Fm78 (fr_m (fr_s Fm60 (fr_m (fr_s Fm45 (fr_m fr_0 rfl rfl) rfl rfl) rfl rfl) rfl rfl) rfl rfl) rfl rfl) rfl rfl) (show (m.2 41) d ≤ 5 by omega) (show 1 ≤ (m78.1 10) by omega)
        · skip
          replace h62 : LxP (m60.1 7) (m60.1 8) (m60.1 9) (m45.1 6) (m60.1 10) := h62
          rewrite [(show (m45.1 6) = (m.1 6) from (fr1 Fm45 6 rfl))] at h62
          have hLx := h62
          replace h63 : (m45.1 8) ≤ (m60.1 8) := h63
          clear h64
          clear h65
          replace h66 : 0 ≤ oo ∧ (oo < 12 ∨ oo = 0) := h66
          clear h67
          have hf93 : 1 ≤ (m60.1 10) := by omega
          clear g50 g51 g52 g53 g54 h46 h48 h49 u56 h63
          exact J52_17 oo (mO m60 [] []) (r32 (by omega) (by omega)) Tm60 (fr_m (fr_s Fm60 (fr_m (fr_s Fm45 (fr_m fr_0 rfl rfl) rfl rfl) rfl rfl) rfl rfl) rfl rfl) (show 0 ≤ oo by omega) (show oo ≤ 11 by omega) (show (m.2 41) d ≤ 5 by omega) (show 0 ≤ (6 * d) + ((m.2 41) d) ∧ (6 * d) + ((m.2 41) d) ≤ 96 by omega) (show 1 ≤ (m60.1 10) by omega)
      · skip
        replace h46 : LxP (m45.1 7) (m45.1 8) (m45.1 9) (m.1 6) (m45.1 10) := h46
        have hLx := h46
        clear h47
        replace h48 : (m.1 8) ≤ (m45.1 8) := h48
        clear h49
        have hf94 : 1 ≤ (m45.1 10) := by omega
        refine T_gf 36 (.ref 256) rfl rfl rfl rfl rfl rfl ?_
        refine T_ld 38 (.int (i32 6)) rfl (fun _ => rfl) ?_
        refine T_ld 39 (.int (i32 d)) rfl (fun _ => rfl) ?_
        refine T_imul 40 rfl rfl ?_
        refine T_gf 44 (.ref 211) rfl rfl rfl rfl rfl rfl ?_
        refine T_ld 45 (.int (i32 d)) rfl (fun _ => rfl) ?_
        refine T_iald 46 41 (m.2 41) rfl rfl rfl (by omega) (show d < (16 : Int) by omega) (show (m45.2 41) = (m.2 41) from (fr2 Fm45 41 rfl)) ?_
        have e95 : 0 ≤ (m.2 41) d ∧ (m.2 41) d ≤ 6 := (hT.2.1 41) d
        refine T_iadd 47 rfl rfl ?_
        refine T_ld 48 (.ref 189) rfl (fun _ => rfl) ?_
        refine T_ld 49 (.int (i32 2)) rfl (fun _ => rfl) ?_
        refine T_call 52 236 [.ref 189, .int (i32 2)] [.int (i32 ((6 * d) + ((m.2 41) d))), .ref 256] rfl (fun _ => rfl) rfl (d_oldName w (mO m45 [] []) c N D (by omega) Tm45 2 12 ⟨by decide, by decide⟩ (show LxP (m45.1 7) (m45.1 8) (m45.1 9) (m45.1 6) (m45.1 10) by rewrite [(show (m45.1 6) = (m.1 6) from (fr1 Fm45 6 rfl))]; first | exact hLx | (intro h9; exfalso; omega) | (intro h9; have h8 := hLx (by omega); omega)) (show ∀ k, (m45.2 14) k + (m45.2 15) k ≤ 4000 by rewrite [(show (m45.2 14) = (m.2 14) from (fr2 Fm45 14 rfl)), (show (m45.2 15) = (m.2 15) from (fr2 Fm45 15 rfl))]; first | exact p1 | exact hNM) (show 1 ≤ (2 : Int) ∧ (2 : Int) ≤ 7 ∧ (2 : Int) ≠ 5 by omega) (show 12 ≤ 16 by omega) (show (m45.1 10) = 0 → ∀ k, 0 ≤ k → k < (m45.1 13) → (m45.2 16) k = (2 : Int) → 0 ≤ (m45.2 17) k ∧ (m45.2 17) k < 12 by rewrite [(show (m45.1 13) = (m.1 13) from (fr1 Fm45 13 rfl)), (show (m45.2 16) = (m.2 16) from (fr2 Fm45 16 rfl)), (show (m45.2 17) = (m.2 17) from (fr2 Fm45 17 rfl))]; first | exact hOL | (intro h; exfalso; omega)) (show (2 : Int) = 3 → 3 ≤ 12 by omega)) (fun rr96 k97 => ?_)
        obtain ⟨m98, oo, Tm98, Fm98, g99, h100, h101, h102, h103, h104, h105, rfl⟩ := k97
        refine ⟨_, _, rfl, ?_⟩
        refine T_nb (st' := [.int (i32 oo), .int (i32 ((6 * d) + ((m.2 41) d))), .ref 256]) rfl ?_
        obtain ⟨g99a, g99b⟩ := g99
        have g106 : 0 ≤ m98.1 7 ∧ m98.1 7 ≤ 330 := Tm98.1 7
        have g107 : 0 ≤ m98.1 8 ∧ m98.1 8 ≤ 4000 := Tm98.1 8
        have g108 : 0 ≤ m98.1 9 ∧ m98.1 9 ≤ 4000 := Tm98.1 9
        have g109 : 0 ≤ m98.1 10 ∧ m98.1 10 ≤ 8 := Tm98.1 10
        have g110 : (-1) ≤ m98.1 11 ∧ m98.1 11 ≤ 4000 := Tm98.1 11
        replace h100 : LxP (m98.1 7) (m98.1 8) (m98.1 9) (m45.1 6) (m98.1 10) := h100
        rewrite [(show (m45.1 6) = (m.1 6) from (fr1 Fm45 6 rfl))] at h100
        replace h101 : (m45.1 8) ≤ (m98.1 8) := h101
        replace h102 : (m98.1 10) = 0 → (m45.1 10) = 0 ∧ (m45.1 8) + (m45.1 9) ≤ (m98.1 8) := h102
        replace h103 : (m98.1 10) = 0 → (m45.1 7) = 1 := h103
        replace h104 : 0 ≤ oo ∧ (oo < 12 ∨ oo = 0) := h104
        replace h105 : (m98.1 10) = 0 → oo < 12 := h105
        have hf111 : 1 ≤ (m98.1 10) := by omega
        clear h102
        clear h103
        clear h105
        have hLx := h100
        clear g50 g51 g52 g53 g54 h46 h48 hf94 h101
        exact J52_17 oo (mO m98 [] []) (r32 (by omega) (by omega)) Tm98 (fr_m (fr_s Fm98 (fr_m (fr_s Fm45 (fr_m fr_0 rfl rfl) rfl rfl) rfl rfl) rfl rfl) rfl rfl) (show 0 ≤ oo by omega) (show oo ≤ 11 by omega) (show (m.2 41) d ≤ 5 by omega) (show 0 ≤ (6 * d) + ((m.2 41) d) ∧ (6 * d) + ((m.2 41) d) ≤ 96 by omega) (show 1 ≤ (m98.1 10) by omega)
    · skip
      refine T_ld 12 (.ref 189) rfl (fun _ => rfl) ?_
      refine T_ld 13 (.int (i32 4)) rfl (fun _ => rfl) ?_
      refine T_gf 17 (.int (i32 (m.1 8))) rfl rfl rfl rfl rfl rfl ?_
      refine T_call 20 222 [.ref 189, .int (i32 4), .int (i32 (m.1 8))] [] rfl (fun _ => rfl) rfl (d_wrong w (mO m [] []) c N D (by omega) hT 4 (m.1 8) ⟨by decide, by decide⟩ (r32 (by omega) (by omega)) (show 1 ≤ (4 : Int) ∧ (4 : Int) ≤ 8 by omega) (show 0 ≤ (m.1 8) ∧ (m.1 8) ≤ 4000 by omega)) (fun rr112 k113 => ?_)
      obtain ⟨m114, Tm114, Fm114, h115, rfl⟩ := k113
      refine ⟨_, _, rfl, ?_⟩
      refine T_nb (st' := []) rfl ?_
      have g116 : 0 ≤ m114.1 10 ∧ m114.1 10 ≤ 8 := Tm114.1 10
      have g117 : (-1) ≤ m114.1 11 ∧ m114.1 11 ≤ 4000 := Tm114.1 11
      replace h115 : (0 < (m.1 10) → (m114.1 10) = (m.1 10) ∧ (m114.1 11) = (m.1 11)) ∧ ((m.1 10) ≤ 0 → (m114.1 10) = (4 : Int) ∧ (m114.1 11) = (m.1 8)) := h115
      have hf118 : 1 ≤ (m114.1 10) := by omega
      refine T_gf 24 (.int (i32 (m114.1 10))) rfl rfl rfl rfl rfl rfl ?_
      refine T_if 28 27 rfl rfl rfl (r32 (by omega) (by omega)) (fun (h119 : (m114.1 10) ≤ 0) => by exfalso; omega) (fun (h119 : ¬ ((m114.1 10) ≤ 0)) => ?_)
      refine T_ret rfl (fun _ => rfl) ?_
      exact ⟨(mO m114 [] []), Tm114, (fr_m (fr_s Fm114 (fr_m fr_0 rfl rfl) rfl rfl) rfl rfl), (show (m114.1 10) = 0 → (m.1 10) = 0 by omega), (show LxP (m114.1 7) (m114.1 8) (m114.1 9) (m.1 6) (m114.1 10) by rewrite [(show (m114.1 7) = (m.1 7) from (fr1 Fm114 7 rfl)), (show (m114.1 8) = (m.1 8) from (fr1 Fm114 8 rfl)), (show (m114.1 9) = (m.1 9) from (fr1 Fm114 9 rfl))]; first | (first | exact hLx | exact (fun _ => hLx (by omega)) | (intro h9; exfalso; omega)) | (exfalso; omega)), (fun (h : (m114.1 10) = 0) => absurd h (by omega)), rfl⟩
  · skip
    clear hC
    refine T_gf 4 (.ref 211) rfl rfl rfl rfl rfl rfl ?_
    refine T_ld 5 (.int (i32 d)) rfl (fun _ => rfl) ?_
    refine T_iald 6 41 (m.2 41) rfl rfl rfl (by omega) (show d < (16 : Int) by omega) rfl ?_
    have e120 : 0 ≤ (m.2 41) d ∧ (m.2 41) d ≤ 6 := (hT.2.1 41) d
    refine T_ld 8 (.int (i32 6)) rfl (fun _ => rfl) ?_
    refine T_icmp 20 11 rfl rfl rfl (r32 (by omega) (by omega)) ⟨by decide, by decide⟩ (fun (h121 : (m.2 41) d ≠ 6) => ?_) (fun (h121 : ¬ ((m.2 41) d ≠ 6)) => ?_)
    · skip
      refine T_gf 24 (.int (i32 (m.1 10))) rfl rfl rfl rfl rfl rfl ?_
      refine T_if 28 27 rfl rfl rfl (r32 (by omega) (by omega)) (fun (h122 : (m.1 10) ≤ 0) => by exfalso; omega) (fun (h122 : ¬ ((m.1 10) ≤ 0)) => ?_)
      refine T_ret rfl (fun _ => rfl) ?_
      exact ⟨(mO m [] []), hT, (fr_m fr_0 rfl rfl), (show (m.1 10) = 0 → (m.1 10) = 0 by omega), (show LxP (m.1 7) (m.1 8) (m.1 9) (m.1 6) (m.1 10) by first | (first | exact hLx | exact (fun _ => hLx (by omega)) | (intro h9; exfalso; omega)) | (exfalso; omega)), (fun (h : (m.1 10) = 0) => absurd h (by omega)), rfl⟩
    · skip
      refine T_ld 12 (.ref 189) rfl (fun _ => rfl) ?_
      refine T_ld 13 (.int (i32 4)) rfl (fun _ => rfl) ?_
      refine T_gf 17 (.int (i32 (m.1 8))) rfl rfl rfl rfl rfl rfl ?_
      refine T_call 20 222 [.ref 189, .int (i32 4), .int (i32 (m.1 8))] [] rfl (fun _ => rfl) rfl (d_wrong w (mO m [] []) c N D (by omega) hT 4 (m.1 8) ⟨by decide, by decide⟩ (r32 (by omega) (by omega)) (show 1 ≤ (4 : Int) ∧ (4 : Int) ≤ 8 by omega) (show 0 ≤ (m.1 8) ∧ (m.1 8) ≤ 4000 by omega)) (fun rr123 k124 => ?_)
      obtain ⟨m125, Tm125, Fm125, h126, rfl⟩ := k124
      refine ⟨_, _, rfl, ?_⟩
      refine T_nb (st' := []) rfl ?_
      have g127 : 0 ≤ m125.1 10 ∧ m125.1 10 ≤ 8 := Tm125.1 10
      have g128 : (-1) ≤ m125.1 11 ∧ m125.1 11 ≤ 4000 := Tm125.1 11
      replace h126 : (0 < (m.1 10) → (m125.1 10) = (m.1 10) ∧ (m125.1 11) = (m.1 11)) ∧ ((m.1 10) ≤ 0 → (m125.1 10) = (4 : Int) ∧ (m125.1 11) = (m.1 8)) := h126
      have hf129 : 1 ≤ (m125.1 10) := by omega
      refine T_gf 24 (.int (i32 (m125.1 10))) rfl rfl rfl rfl rfl rfl ?_
      refine T_if 28 27 rfl rfl rfl (r32 (by omega) (by omega)) (fun (h130 : (m125.1 10) ≤ 0) => by exfalso; omega) (fun (h130 : ¬ ((m125.1 10) ≤ 0)) => ?_)
      refine T_ret rfl (fun _ => rfl) ?_
      exact ⟨(mO m125 [] []), Tm125, (fr_m (fr_s Fm125 (fr_m fr_0 rfl rfl) rfl rfl) rfl rfl), (show (m125.1 10) = 0 → (m.1 10) = 0 by omega), (show LxP (m125.1 7) (m125.1 8) (m125.1 9) (m.1 6) (m125.1 10) by rewrite [(show (m125.1 7) = (m.1 7) from (fr1 Fm125 7 rfl)), (show (m125.1 8) = (m.1 8) from (fr1 Fm125 8 rfl)), (show (m125.1 9) = (m.1 9) from (fr1 Fm125 9 rfl))]; first | (first | exact hLx | exact (fun _ => hLx (by omega)) | (intro h9; exfalso; omega)) | (exfalso; omega)), (fun (h : (m125.1 10) = 0) => absurd h (by omega)), rfl⟩
def fF_caseNumber : List Nat := [7, 8, 9, 10, 11, 12]
def fA_caseNumber : List Nat := []
def Q_caseNumber (m : mR) (c : Nat → Option am_C) (N : Nat) (b : Int) : ag_Re af_T → Prop := fun R => ∃ (M : mR) (r : Int), Ty M ∧ fr fF_caseNumber fA_caseNumber m M ∧ ((-9223372036854775808) ≤ r ∧ r ≤ 9223372036854775807) ∧ ((M.1 10) = 0 → (m.1 10) = 0) ∧ (LxP (M.1 7) (M.1 8) (M.1 9) (m.1 6) (M.1 10)) ∧ (M.1 10 = 0 → ((m.1 8) + 1 ≤ (M.1 8)) ∧ ((m.1 7) = 2)) ∧ R = (.inl (some (.long (i64 r))), (mhp M c, N), 0, 0)
set_option maxHeartbeats 3000000 in
theorem c_caseNumber (w : wX) (m : mR) (c : Nat → Option am_C) (N D : Nat) (hD : 6 ≤ D) (hT : Ty m) (b : Int) (qb : R32 b) (hLx0 : LxP (m.1 7) (m.1 8) (m.1 9) (m.1 6) (m.1 10)) (hC : m.1 10 = 0 → True) : TC w D 266 [.ref 189, .int (i32 b)] (mhp m c, N) (Q_caseNumber m c N b) := by
  obtain ⟨D, rfl⟩ : ∃ k, D = k + 1 := ⟨D - 1, by omega⟩
  obtain ⟨qba, qbb⟩ := id qb
  have hLx := hLx0
  have f7 : 0 ≤ m.1 7 ∧ m.1 7 ≤ 330 := hT.1 7
  have f8 : 0 ≤ m.1 8 ∧ m.1 8 ≤ 4000 := hT.1 8
  have f9 : 0 ≤ m.1 9 ∧ m.1 9 ≤ 4000 := hT.1 9
  have f10 : 0 ≤ m.1 10 ∧ m.1 10 ≤ 8 := hT.1 10
  have f11 : (-1) ≤ m.1 11 ∧ m.1 11 ≤ 4000 := hT.1 11
  have f12 : (-9223372036854775808) ≤ m.1 12 ∧ m.1 12 ≤ 9223372036854775807 := hT.1 12
  have f6 : 0 ≤ m.1 6 ∧ m.1 6 ≤ 4000 := hT.1 6
  refine Tc_of rfl ?_
  show TT w D pm_266 (0, [(0, .ref 189), (1, .int (i32 b))], [], (mhp (mO m [] []) c, N), 0, 0) (Q_caseNumber m c N b)
  by_cases hf0 : m.1 10 = 0
  · skip
    have h7 := hLx (by omega)
    refine T_gf 4 (.int (i32 (m.1 10))) rfl rfl rfl rfl rfl rfl ?_
    refine T_if 9 7 rfl rfl rfl (r32 (by omega) (by omega)) (fun (h4 : (m.1 10) ≤ 0) => ?_) (fun (h4 : ¬ ((m.1 10) ≤ 0)) => by exfalso; omega)
    refine T_gf 13 (.int (i32 (m.1 7))) rfl rfl rfl rfl rfl rfl ?_
    refine T_ld 14 (.int (i32 2)) rfl (fun _ => rfl) ?_
    refine T_icmp 23 17 rfl rfl rfl (r32 (by omega) (by omega)) ⟨by decide, by decide⟩ (fun (h5 : (m.1 7) = 2) => ?_) (fun (h5 : ¬ ((m.1 7) = 2)) => ?_)
    · skip
      refine T_gf 27 (.int (i32 (m.1 8))) rfl rfl rfl rfl rfl rfl ?_
      refine T_sto 28 [(2, .int (i32 (m.1 8))), (0, .ref 189), (1, .int (i32 b))] rfl (fun _ => rfl) ?_
      refine T_gf 32 (.long (i64 (m.1 12))) rfl rfl rfl rfl rfl rfl ?_
      refine T_sto 33 [(3, .long (i64 (m.1 12))), (2, .int (i32 (m.1 8))), (0, .ref 189), (1, .int (i32 b))] rfl (fun _ => rfl) ?_
      refine T_ld 34 (.ref 189) rfl (fun _ => rfl) ?_
      refine T_call 37 212 [.ref 189] [] rfl (fun _ => rfl) rfl (d_next w (mO m [] []) c N D (by omega) hT (show (m.1 10) = 0 → (m.1 8) + (m.1 9) ≤ (m.1 6) by first | omega | (intro h9; have h8 := hLx h9; omega))) (fun rr6 k7 => ?_)
      obtain ⟨m8, Tm8, Fm8, h9, h10, h11, h12, rfl⟩ := k7
      refine ⟨_, _, rfl, ?_⟩
      refine T_nb (st' := []) rfl ?_
      have g13 : 0 ≤ m8.1 7 ∧ m8.1 7 ≤ 330 := Tm8.1 7
      have g14 : 0 ≤ m8.1 8 ∧ m8.1 8 ≤ 4000 := Tm8.1 8
      have g15 : 0 ≤ m8.1 9 ∧ m8.1 9 ≤ 4000 := Tm8.1 9
      have g16 : 0 ≤ m8.1 10 ∧ m8.1 10 ≤ 8 := Tm8.1 10
      have g17 : (-1) ≤ m8.1 11 ∧ m8.1 11 ≤ 4000 := Tm8.1 11
      have g18 : (-9223372036854775808) ≤ m8.1 12 ∧ m8.1 12 ≤ 9223372036854775807 := Tm8.1 12
      by_cases hf19 : (m8.1 10) = 0
      · skip
        replace h9 : LxP (m8.1 7) (m8.1 8) (m8.1 9) (m.1 6) (m8.1 10) := h9
        have hLx := h9
        replace h10 : (m.1 10) = 0 := h10 hf19
        replace h11 : (m.1 8) ≤ (m8.1 8) := h11
        replace h12 : (m.1 8) + (m.1 9) ≤ (m8.1 8) := h12 hf19
        have u20 : (m.1 8) + 1 ≤ (m8.1 8) := by omega
        refine T_gf 41 (.int (i32 (m8.1 10))) rfl rfl rfl rfl rfl rfl ?_
        refine T_if 54 44 rfl rfl rfl (r32 (by omega) (by omega)) (fun (h21 : (m8.1 10) ≠ 0) => by exfalso; omega) (fun (h21 : ¬ ((m8.1 10) ≠ 0)) => ?_)
        refine T_ld 45 (.ref 189) rfl (fun _ => rfl) ?_
        refine T_ld 46 (.long (i64 (m.1 12))) rfl (fun _ => rfl) ?_
        refine T_ld 47 (.int (i32 b)) rfl (fun _ => rfl) ?_
        refine T_call 50 262 [.long (i64 (m.1 12)), .int (i32 b)] [.ref 189] rfl (fun _ => rfl) rfl (c_fits w (mO m8 [] []) c N D (by omega) Tm8 (m.1 12) b (r64 (by omega) (by omega)) (r32 (by omega) (by omega))) (fun rr22 k23 => ?_)
        obtain ⟨x24, g25, rfl⟩ := k23
        refine ⟨_, _, rfl, ?_⟩
        refine T_ns (st' := [.int (i32 x24), .ref 189]) rfl ?_
        obtain ⟨g25a, g25b⟩ := g25
        have u26 : (m.1 8) + 1 ≤ (m8.1 8) := by omega
        refine T_ld 51 (.int (i32 (m.1 8))) rfl (fun _ => rfl) ?_
        refine T_call 54 256 [.ref 189, .int (i32 x24), .int (i32 (m.1 8))] [] rfl (fun _ => rfl) rfl (c_want w (mO m8 [] []) c N D (by omega) Tm8 x24 (m.1 8) (r32 (by omega) (by omega)) (r32 (by omega) (by omega)) (show 0 ≤ (m.1 8) ∧ (m.1 8) ≤ 4000 by omega) (fun _ => trivial)) (fun rr27 k28 => ?_)
        obtain ⟨m29, Tm29, Fm29, h30, c31, rfl⟩ := k28
        refine ⟨_, _, rfl, ?_⟩
        refine T_nb (st' := []) rfl ?_
        have g32 : 0 ≤ m29.1 10 ∧ m29.1 10 ≤ 8 := Tm29.1 10
        have g33 : (-1) ≤ m29.1 11 ∧ m29.1 11 ≤ 4000 := Tm29.1 11
        by_cases hf34 : (m29.1 10) = 0
        · skip
          replace h30 : (m8.1 10) = 0 := h30 hf34
          have c35 := c31 hf34
          replace c35 : x24 ≠ 0 := c35
          clear c31
          have u36 : (m.1 8) + 1 ≤ (m8.1 8) := by omega
          clear g16 g17 h9 h21 g25a g25b h30 c35
          refine T_ld 55 (.long (i64 (m.1 12))) rfl (fun _ => rfl) ?_
          refine T_ret rfl (fun _ => rfl) ?_
          exact ⟨(mO m29 [] []), (m.1 12), Tm29, (fr_m (fr_s Fm29 (fr_m (fr_s Fm8 (fr_m fr_0 rfl rfl) rfl rfl) rfl rfl) rfl rfl) rfl rfl), ⟨by omega, by omega⟩, (show (m29.1 10) = 0 → (m.1 10) = 0 by omega), (show LxP (m29.1 7) (m29.1 8) (m29.1 9) (m.1 6) (m29.1 10) by rewrite [(show (m29.1 7) = (m8.1 7) from (fr1 Fm29 7 rfl)), (show (m29.1 8) = (m8.1 8) from (fr1 Fm29 8 rfl)), (show (m29.1 9) = (m8.1 9) from (fr1 Fm29 9 rfl))]; first | (first | exact hLx | exact (fun _ => hLx (by omega)) | (intro h9; exfalso; omega)) | (exfalso; omega)), (fun _ => ⟨(show (m.1 8) + 1 ≤ (m29.1 8) by rewrite [(show (m29.1 8) = (m8.1 8) from (fr1 Fm29 8 rfl))]; omega), (show (m.1 7) = 2 by omega)⟩), rfl⟩
        · skip
          clear c31
          clear h30
          have hf37 : 1 ≤ (m29.1 10) := by omega
          clear g16 g17 h9 h21 g25a g25b
          refine T_ld 55 (.long (i64 (m.1 12))) rfl (fun _ => rfl) ?_
          refine T_ret rfl (fun _ => rfl) ?_
          exact ⟨(mO m29 [] []), (m.1 12), Tm29, (fr_m (fr_s Fm29 (fr_m (fr_s Fm8 (fr_m fr_0 rfl rfl) rfl rfl) rfl rfl) rfl rfl) rfl rfl), ⟨by omega, by omega⟩, (show (m29.1 10) = 0 → (m.1 10) = 0 by omega), (show LxP (m29.1 7) (m29.1 8) (m29.1 9) (m.1 6) (m29.1 10) by rewrite [(show (m29.1 7) = (m8.1 7) from (fr1 Fm29 7 rfl)), (show (m29.1 8) = (m8.1 8) from (fr1 Fm29 8 rfl)), (show (m29.1 9) = (m8.1 9) from (fr1 Fm29 9 rfl))]; first | (first | exact hLx | exact (fun _ => hLx (by omega)) | (intro h9; exfalso; omega)) | (exfalso; omega)), (fun (h : (m29.1 10) = 0) => absurd h (by omega)), rfl⟩
      · skip
        replace h9 : LxP (m8.1 7) (m8.1 8) (m8.1 9) (m.1 6) (m8.1 10) := h9
        have hLx := h9
        clear h10
        replace h11 : (m.1 8) ≤ (m8.1 8) := h11
        clear h12
        have hf38 : 1 ≤ (m8.1 10) := by omega
        refine T_gf 41 (.int (i32 (m8.1 10))) rfl rfl rfl rfl rfl rfl ?_
        refine T_if 54 44 rfl rfl rfl (r32 (by omega) (by omega)) (fun (h39 : (m8.1 10) ≠ 0) => ?_) (fun (h39 : ¬ ((m8.1 10) ≠ 0)) => by exfalso; omega)
        refine T_ld 55 (.long (i64 (m.1 12))) rfl (fun _ => rfl) ?_
        refine T_ret rfl (fun _ => rfl) ?_
        exact ⟨(mO m8 [] []), (m.1 12), Tm8, (fr_m (fr_s Fm8 (fr_m fr_0 rfl rfl) rfl rfl) rfl rfl), ⟨by omega, by omega⟩, (show (m8.1 10) = 0 → (m.1 10) = 0 by omega), (show LxP (m8.1 7) (m8.1 8) (m8.1 9) (m.1 6) (m8.1 10) by first | (first | exact hLx | exact (fun _ => hLx (by omega)) | (intro h9; exfalso; omega)) | (exfalso; omega)), (fun (h : (m8.1 10) = 0) => absurd h (by omega)), rfl⟩
    · skip
      refine T_ld 18 (.ref 189) rfl (fun _ => rfl) ?_
      refine T_call 21 226 [.ref 189] [] rfl (fun _ => rfl) rfl (d_bad w (mO m [] []) c N D (by omega) hT ) (fun rr40 k41 => ?_)
      obtain ⟨m42, Tm42, Fm42, h43, rfl⟩ := k41
      refine ⟨_, _, rfl, ?_⟩
      refine T_nb (st' := []) rfl ?_
      have g44 : 0 ≤ m42.1 10 ∧ m42.1 10 ≤ 8 := Tm42.1 10
      have g45 : (-1) ≤ m42.1 11 ∧ m42.1 11 ≤ 4000 := Tm42.1 11
      replace h43 : (0 < (m.1 10) → (m42.1 10) = (m.1 10) ∧ (m42.1 11) = (m.1 11)) ∧ ((m.1 10) ≤ 0 → (m42.1 10) = 1 ∧ (m42.1 11) = (m.1 8)) := h43
      have hf46 : 1 ≤ (m42.1 10) := by omega
      refine T_ld 22 (.long (i64 0)) rfl (fun _ => rfl) ?_
      refine T_ret rfl (fun _ => rfl) ?_
      exact ⟨(mO m42 [] []), 0, Tm42, (fr_m (fr_s Fm42 (fr_m fr_0 rfl rfl) rfl rfl) rfl rfl), ⟨by omega, by omega⟩, (show (m42.1 10) = 0 → (m.1 10) = 0 by omega), (show LxP (m42.1 7) (m42.1 8) (m42.1 9) (m.1 6) (m42.1 10) by rewrite [(show (m42.1 7) = (m.1 7) from (fr1 Fm42 7 rfl)), (show (m42.1 8) = (m.1 8) from (fr1 Fm42 8 rfl)), (show (m42.1 9) = (m.1 9) from (fr1 Fm42 9 rfl))]; first | (first | exact hLx | exact (fun _ => hLx (by omega)) | (intro h9; exfalso; omega)) | (exfalso; omega)), (fun (h : (m42.1 10) = 0) => absurd h (by omega)), rfl⟩
  · skip
    clear hC
    refine T_gf 4 (.int (i32 (m.1 10))) rfl rfl rfl rfl rfl rfl ?_
    refine T_if 9 7 rfl rfl rfl (r32 (by omega) (by omega)) (fun (h47 : (m.1 10) ≤ 0) => by exfalso; omega) (fun (h47 : ¬ ((m.1 10) ≤ 0)) => ?_)
    refine T_ld 8 (.long (i64 0)) rfl (fun _ => rfl) ?_
    refine T_ret rfl (fun _ => rfl) ?_
    exact ⟨(mO m [] []), 0, hT, (fr_m fr_0 rfl rfl), ⟨by omega, by omega⟩, (show (m.1 10) = 0 → (m.1 10) = 0 by omega), (show LxP (m.1 7) (m.1 8) (m.1 9) (m.1 6) (m.1 10) by first | (first | exact hLx | exact (fun _ => hLx (by omega)) | (intro h9; exfalso; omega)) | (exfalso; omega)), (fun (h : (m.1 10) = 0) => absurd h (by omega)), rfl⟩
def fF_takeCase : List Nat := [7, 8, 9, 10, 11, 12, 13, 23]
def fA_takeCase : List Nat := [14, 15, 16, 17, 37, 38, 42, 45, 97, 98]
def Q_takeCase (m : mR) (c : Nat → Option am_C) (N : Nat) (d : Int) : ag_Re af_T → Prop := fun R => ∃ (M : mR), Ty M ∧ fr fF_takeCase fA_takeCase m M ∧ ((M.1 10) = 0 → (m.1 10) = 0) ∧ (LxP (M.1 7) (M.1 8) (M.1 9) (m.1 6) (M.1 10)) ∧ (∀ k, (M.2 14) k + (M.2 15) k ≤ 4000) ∧ (M.1 10 = 0 → ((m.1 8) + 1 ≤ (M.1 8)) ∧ (PN (M.1 13) (m.1 19) (m.1 20) (m.1 21) (m.1 22) (M.1 23) (m.1 25) (m.1 26) (M.2 16) (M.2 17)) ∧ (SOp (M.2 38) (M.1 23) (m.1 24)) ∧ (∀ c, 8 * d ≤ c → c < 8 * d + (M.2 42) d → (M.2 45) c < (M.1 23)) ∧ ((m.1 23) ≤ (M.1 23)) ∧ (agr (m.2 42) (M.2 42) d) ∧ (agr (m.2 45) (M.2 45) (8 * d))) ∧ R = (.inl (none), (mhp M c, N), 0, 0)
set_option maxHeartbeats 3000000 in
theorem c_takeCase (w : wX) (m : mR) (c : Nat → Option am_C) (N D : Nat) (hD : 7 ≤ D) (hT : Ty m) (d : Int) (qd : R32 d) (hLx0 : LxP (m.1 7) (m.1 8) (m.1 9) (m.1 6) (m.1 10)) (hNM0 : ∀ k, (m.2 14) k + (m.2 15) k ≤ 4000) (p2 : 0 ≤ d ∧ d ≤ 15) (hC : m.1 10 = 0 → (PN (m.1 13) (m.1 19) (m.1 20) (m.1 21) (m.1 22) (m.1 23) (m.1 25) (m.1 26) (m.2 16) (m.2 17)) ∧ (SOp (m.2 38) (m.1 23) (m.1 24)) ∧ (∀ c, 8 * d ≤ c → c < 8 * d + (m.2 42) d → (m.2 45) c < (m.1 23))) : TC w D 265 [.ref 189, .int (i32 d)] (mhp m c, N) (Q_takeCase m c N d) := by
  obtain ⟨D, rfl⟩ : ∃ k, D = k + 1 := ⟨D - 1, by omega⟩
  obtain ⟨qda, qdb⟩ := id qd
  have hLx := hLx0
  have hNM := hNM0
  have f7 : 0 ≤ m.1 7 ∧ m.1 7 ≤ 330 := hT.1 7
  have f8 : 0 ≤ m.1 8 ∧ m.1 8 ≤ 4000 := hT.1 8
  have f9 : 0 ≤ m.1 9 ∧ m.1 9 ≤ 4000 := hT.1 9
  have f10 : 0 ≤ m.1 10 ∧ m.1 10 ≤ 8 := hT.1 10
  have f11 : (-1) ≤ m.1 11 ∧ m.1 11 ≤ 4000 := hT.1 11
  have f13 : 0 ≤ m.1 13 ∧ m.1 13 ≤ 120 := hT.1 13
  have f23 : 0 ≤ m.1 23 ∧ m.1 23 ≤ 16 := hT.1 23
  have f25 : 0 ≤ m.1 25 ∧ m.1 25 ≤ 16 := hT.1 25
  have f22 : 0 ≤ m.1 22 ∧ m.1 22 ≤ 8 := hT.1 22
  have f24 : 0 ≤ m.1 24 ∧ m.1 24 ≤ 16 := hT.1 24
  have f19 : 0 ≤ m.1 19 ∧ m.1 19 ≤ 12 := hT.1 19
  have f20 : 0 ≤ m.1 20 ∧ m.1 20 ≤ 12 := hT.1 20
  have f21 : 0 ≤ m.1 21 ∧ m.1 21 ≤ 16 := hT.1 21
  have f6 : 0 ≤ m.1 6 ∧ m.1 6 ≤ 4000 := hT.1 6
  have f26 : 0 ≤ m.1 26 ∧ m.1 26 ≤ 8 := hT.1 26
  refine Tc_of rfl ?_
  show TT w D pm_265 (0, [(0, .ref 189), (1, .int (i32 d))], [], (mhp (mO m [] []) c, N), 0, 0) (Q_takeCase m c N d)
  by_cases hf0 : m.1 10 = 0
  · skip
    obtain ⟨pPN, pSO, hCT⟩ := hC hf0
    have h7 := hLx (by omega)
    have hNM := hNM0
    have J123_12 : ∀ (m11 : mR), Ty m11 → fr [7, 8, 9, 10, 11, 12, 13, 23] [14, 15, 16, 17, 37, 38, 45, 97, 98] (mO m [] []) m11 → (∀ k, (m11.2 14) k + (m11.2 15) k ≤ 4000) → ((m.2 42) d ≤ 7) → (0 ≤ ((8 * d) + ((m.2 42) d)) ∧ ((8 * d) + ((m.2 42) d)) ≤ 127) → (1 ≤ (m11.1 10)) → TT w D pm_265 (123, [(0, .ref 189), (1, .int (i32 d)), (2, .int (i32 ((8 * d) + ((m.2 42) d))))], [], (mhp (mO m11 [] []) c, N), 0, 0) (Q_takeCase m c N d) := by
      intro m11 Tm11 Fm11 ic13 ic14 ic15 ic16
      have q17_7 : 0 ≤ m11.1 7 ∧ m11.1 7 ≤ 330 := Tm11.1 7
      have q17_8 : 0 ≤ m11.1 8 ∧ m11.1 8 ≤ 4000 := Tm11.1 8
      have q17_9 : 0 ≤ m11.1 9 ∧ m11.1 9 ≤ 4000 := Tm11.1 9
      have q17_10 : 0 ≤ m11.1 10 ∧ m11.1 10 ≤ 8 := Tm11.1 10
      have q17_11 : (-1) ≤ m11.1 11 ∧ m11.1 11 ≤ 4000 := Tm11.1 11
      have q17_13 : 0 ≤ m11.1 13 ∧ m11.1 13 ≤ 120 := Tm11.1 13
      have q17_23 : 0 ≤ m11.1 23 ∧ m11.1 23 ≤ 16 := Tm11.1 23
      have hNM := ic13
      refine T_gf 127 (.ref 212) rfl rfl rfl rfl rfl rfl ?_
      refine T_ld 128 (.int (i32 d)) rfl (fun _ => rfl) ?_
      refine T_dup2 129 rfl (fun _ => rfl) ?_
      refine T_iald 130 42 (m.2 42) rfl rfl rfl (by omega) (show d < (16 : Int) by omega) (show (m11.2 42) = (m.2 42) from (fr2 Fm11 42 rfl)) ?_
      have e19 : 0 ≤ (m.2 42) d ∧ (m.2 42) d ≤ 8 := (hT.2.1 42) d
      refine T_ld 131 (.int (i32 1)) rfl (fun _ => rfl) ?_
      refine T_iadd 132 rfl rfl ?_
      have G20 : ∀ j, 0 ≤ (upI (m.2 42) d (((m.2 42) d) + 1)) j ∧ (upI (m.2 42) d (((m.2 42) d) + 1)) j ≤ 8 := upI_rg (hT.2.1 42) ⟨by omega, by omega⟩
      refine T_iast (a' := [(42, upI (m.2 42) d (((m.2 42) d) + 1))]) 133 42 (m.2 42) rfl rfl rfl (by omega) (show d < (16 : Int) by omega) (show (m11.2 42) = (m.2 42) from (fr2 Fm11 42 rfl)) rfl ?_
      refine T_ret rfl (fun _ => rfl) ?_
      exact ⟨(mO m11 [] [(42, upI (m.2 42) d (((m.2 42) d) + 1))]), (Ty_mO Tm11 rfl rfl trivial ⟨G20, trivial⟩), (fr_m (fr_s Fm11 (fr_m fr_0 rfl rfl) rfl rfl) rfl rfl), (show (m11.1 10) = 0 → (m.1 10) = 0 by omega), (show LxP (m11.1 7) (m11.1 8) (m11.1 9) (m.1 6) (m11.1 10) by first | (first | exact hLx | exact (fun _ => hLx (by omega)) | (intro h9; exfalso; omega)) | (exfalso; omega)), (show ∀ k, (m11.2 14) k + (m11.2 15) k ≤ 4000 by first | (first | exact hNM | (intro k; rw [hE1, hE2]; have := hNM k; have h7 := hLx0 hf0; unfold upI; split <;> omega)) | (exfalso; omega)), (fun (h : (m11.1 10) = 0) => absurd h (by omega)), rfl⟩
    have J116_23 : ∀ (s21 : Int) (m22 : mR), (R32 s21) → Ty m22 → fr [7, 8, 9, 10, 11, 12, 13, 23] [14, 15, 16, 17, 37, 38, 97, 98] (mO m [] []) m22 → ((-2) ≤ s21) → (s21 ≤ 15) → (∀ k, (m22.2 14) k + (m22.2 15) k ≤ 4000) → ((m.2 42) d ≤ 7) → (0 ≤ ((8 * d) + ((m.2 42) d)) ∧ ((8 * d) + ((m.2 42) d)) ≤ 127) → (0 ≤ (8 * d) + ((m.2 42) d) ∧ (8 * d) + ((m.2 42) d) ≤ 127) → (1 ≤ (m22.1 10)) → TT w D pm_265 (116, [(0, .ref 189), (1, .int (i32 d)), (2, .int (i32 ((8 * d) + ((m.2 42) d))))], [.int (i32 s21), .int (i32 ((8 * d) + ((m.2 42) d))), .ref 215], (mhp (mO m22 [] []) c, N), 0, 0) (Q_takeCase m c N d) := by
      intro s21 m22 q31 Tm22 Fm22 ic24 ic25 ic26 ic27 ic28 ic29 ic30
      obtain ⟨q31a, q31b⟩ := id q31
      have q32_7 : 0 ≤ m22.1 7 ∧ m22.1 7 ≤ 330 := Tm22.1 7
      have q32_8 : 0 ≤ m22.1 8 ∧ m22.1 8 ≤ 4000 := Tm22.1 8
      have q32_9 : 0 ≤ m22.1 9 ∧ m22.1 9 ≤ 4000 := Tm22.1 9
      have q32_10 : 0 ≤ m22.1 10 ∧ m22.1 10 ≤ 8 := Tm22.1 10
      have q32_11 : (-1) ≤ m22.1 11 ∧ m22.1 11 ≤ 4000 := Tm22.1 11
      have q32_13 : 0 ≤ m22.1 13 ∧ m22.1 13 ≤ 120 := Tm22.1 13
      have q32_23 : 0 ≤ m22.1 23 ∧ m22.1 23 ≤ 16 := Tm22.1 23
      have hNM := ic26
      have G34 : ∀ j, (-2) ≤ (upI (m.2 45) ((8 * d) + ((m.2 42) d)) s21) j ∧ (upI (m.2 45) ((8 * d) + ((m.2 42) d)) s21) j ≤ 15 := upI_rg (hT.2.1 45) ⟨by omega, by omega⟩
      refine T_iast (a' := [(45, upI (m.2 45) ((8 * d) + ((m.2 42) d)) s21)]) 117 45 (m.2 45) rfl rfl rfl (by omega) (show ((8 * d) + ((m.2 42) d)) < (128 : Int) by omega) (show (m22.2 45) = (m.2 45) from (fr2 Fm22 45 rfl)) rfl ?_
      refine T_ld 118 (.ref 189) rfl (fun _ => rfl) ?_
      refine T_ld 120 (.int (i32 59)) rfl (fun _ => rfl) ?_
      refine T_call 123 232 [.ref 189, .int (i32 59)] [] rfl (fun _ => rfl) rfl (d_need w (mO m22 [] [(45, upI (m.2 45) ((8 * d) + ((m.2 42) d)) s21)]) c N D (by omega) (Ty_mO Tm22 rfl rfl trivial ⟨G34, trivial⟩) 59 ⟨by decide, by decide⟩ (show 1 ≤ (59 : Int) by omega) (show LxP (m22.1 7) (m22.1 8) (m22.1 9) (m22.1 6) (m22.1 10) by rewrite [(show (m22.1 6) = (m.1 6) from (fr1 Fm22 6 rfl))]; first | exact hLx | (intro h9; exfalso; omega) | (intro h9; have h8 := hLx (by omega); omega))) (fun rr35 k36 => ?_)
      obtain ⟨m37, Tm37, Fm37, h38, h39, h40, h41, rfl⟩ := k36
      refine ⟨_, _, rfl, ?_⟩
      refine T_nb (st' := []) rfl ?_
      have g42 : 0 ≤ m37.1 7 ∧ m37.1 7 ≤ 330 := Tm37.1 7
      have g43 : 0 ≤ m37.1 8 ∧ m37.1 8 ≤ 4000 := Tm37.1 8
      have g44 : 0 ≤ m37.1 9 ∧ m37.1 9 ≤ 4000 := Tm37.1 9
      have g45 : 0 ≤ m37.1 10 ∧ m37.1 10 ≤ 8 := Tm37.1 10
      have g46 : (-1) ≤ m37.1 11 ∧ m37.1 11 ≤ 4000 := Tm37.1 11
      replace h38 : LxP (m37.1 7) (m37.1 8) (m37.1 9) (m22.1 6) (m37.1 10) := h38
      rewrite [(show (m22.1 6) = (m.1 6) from (fr1 Fm22 6 rfl))] at h38
      replace h39 : (m37.1 10) = 0 → (m22.1 10) = 0 ∧ (m22.1 7) = (59 : Int) := h39
      replace h40 : (m22.1 8) ≤ (m37.1 8) := h40
      replace h41 : (m37.1 10) = 0 → (m22.1 8) + (m22.1 9) ≤ (m37.1 8) := h41
      have hf47 : 1 ≤ (m37.1 10) := by omega
      clear h39
      clear h41
      have hLx := h38
      clear q32_7 q32_8 q32_9 q32_10 q32_11 ic30 h40
      exact J123_12 (mO m37 [] []) Tm37 (fr_m (fr_s Fm37 (fr_m (fr_s Fm22 (fr_m fr_0 rfl rfl) rfl rfl) rfl rfl) rfl rfl) rfl rfl) (show ∀ k, (m37.2 14) k + (m37.2 15) k ≤ 4000 by rewrite [(show (m37.2 14) = (m22.2 14) from (fr2 Fm37 14 rfl)), (show (m37.2 15) = (m22.2 15) from (fr2 Fm37 15 rfl))]; first | exact hNM) (show (m.2 42) d ≤ 7 by omega) (show 0 ≤ ((8 * d) + ((m.2 42) d)) ∧ ((8 * d) + ((m.2 42) d)) ≤ 127 by omega) (show 1 ≤ (m37.1 10) by omega)
    have J107_49 : ∀ (m48 : mR), Ty m48 → fr [7, 8, 9, 10, 11, 12] [97, 98] (mO m [] []) m48 → (∀ k, (m.2 14) k + (m.2 15) k ≤ 4000) → ((m.2 42) d ≤ 7) → (0 ≤ ((8 * d) + ((m.2 42) d)) ∧ ((8 * d) + ((m.2 42) d)) ≤ 127) → (1 ≤ (m48.1 10)) → TT w D pm_265 (107, [(0, .ref 189), (1, .int (i32 d)), (2, .int (i32 ((8 * d) + ((m.2 42) d))))], [], (mhp (mO m48 [] []) c, N), 0, 0) (Q_takeCase m c N d) := by
      intro m48 Tm48 Fm48 ic50 ic51 ic52 ic53
      have q54_7 : 0 ≤ m48.1 7 ∧ m48.1 7 ≤ 330 := Tm48.1 7
      have q54_8 : 0 ≤ m48.1 8 ∧ m48.1 8 ≤ 4000 := Tm48.1 8
      have q54_9 : 0 ≤ m48.1 9 ∧ m48.1 9 ≤ 4000 := Tm48.1 9
      have q54_10 : 0 ≤ m48.1 10 ∧ m48.1 10 ≤ 8 := Tm48.1 10
      have q54_11 : (-1) ≤ m48.1 11 ∧ m48.1 11 ≤ 4000 := Tm48.1 11
      have hNM := ic50
      refine T_gf 111 (.ref 215) rfl rfl rfl rfl rfl rfl ?_
      refine T_ld 112 (.int (i32 ((8 * d) + ((m.2 42) d)))) rfl (fun _ => rfl) ?_
      refine T_ld 113 (.ref 189) rfl (fun _ => rfl) ?_
      refine T_call 116 242 [.ref 189] [.int (i32 ((8 * d) + ((m.2 42) d))), .ref 215] rfl (fun _ => rfl) rfl (c_stateHere w (mO m48 [] []) c N D (by omega) Tm48 (show LxP (m48.1 7) (m48.1 8) (m48.1 9) (m48.1 6) (m48.1 10) by rewrite [(show (m48.1 6) = (m.1 6) from (fr1 Fm48 6 rfl))]; first | exact hLx | exact (fun _ => hLx (by omega)) | (intro h9; exfalso; omega)) (show ∀ k, (m48.2 14) k + (m48.2 15) k ≤ 4000 by rewrite [(show (m48.2 14) = (m.2 14) from (fr2 Fm48 14 rfl)), (show (m48.2 15) = (m.2 15) from (fr2 Fm48 15 rfl))]; assumption) (fun (h : (m48.1 10) = 0) => absurd h (by omega))) (fun rr56 k57 => ?_)
      obtain ⟨m58, x59, Tm58, Fm58, g60, h61, h62, h63, c64, rfl⟩ := k57
      refine ⟨_, _, rfl, ?_⟩
      refine T_nb (st' := [.int (i32 x59), .int (i32 ((8 * d) + ((m.2 42) d))), .ref 215]) rfl ?_
      obtain ⟨g60a, g60b⟩ := g60
      have g65 : 0 ≤ m58.1 7 ∧ m58.1 7 ≤ 330 := Tm58.1 7
      have g66 : 0 ≤ m58.1 8 ∧ m58.1 8 ≤ 4000 := Tm58.1 8
      have g67 : 0 ≤ m58.1 9 ∧ m58.1 9 ≤ 4000 := Tm58.1 9
      have g68 : 0 ≤ m58.1 10 ∧ m58.1 10 ≤ 8 := Tm58.1 10
      have g69 : (-1) ≤ m58.1 11 ∧ m58.1 11 ≤ 4000 := Tm58.1 11
      have g70 : 0 ≤ m58.1 13 ∧ m58.1 13 ≤ 120 := Tm58.1 13
      have g71 : 0 ≤ m58.1 23 ∧ m58.1 23 ≤ 16 := Tm58.1 23
      replace h61 : (m58.1 10) = 0 → (m48.1 10) = 0 := h61
      replace h62 : LxP (m58.1 7) (m58.1 8) (m58.1 9) (m48.1 6) (m58.1 10) := h62
      rewrite [(show (m48.1 6) = (m.1 6) from (fr1 Fm48 6 rfl))] at h62
      replace h63 : ∀ k, (m58.2 14) k + (m58.2 15) k ≤ 4000 := h63
      have hf72 : 1 ≤ (m58.1 10) := by omega
      clear c64
      clear h61
      have hLx := h62
      have hNM := h63
      clear q54_7 q54_8 q54_9 q54_10 q54_11 ic53
      exact J116_23 x59 (mO m58 [] []) (r32 (by omega) (by omega)) Tm58 (fr_m (fr_s Fm58 (fr_m (fr_s Fm48 (fr_m fr_0 rfl rfl) rfl rfl) rfl rfl) rfl rfl) rfl rfl) (show (-2) ≤ x59 by omega) (show x59 ≤ 15 by omega) (show ∀ k, (m58.2 14) k + (m58.2 15) k ≤ 4000 by first | exact hNM) (show (m.2 42) d ≤ 7 by omega) (show 0 ≤ ((8 * d) + ((m.2 42) d)) ∧ ((8 * d) + ((m.2 42) d)) ≤ 127 by omega) (show 0 ≤ (8 * d) + ((m.2 42) d) ∧ (8 * d) + ((m.2 42) d) ≤ 127 by omega) (show 1 ≤ (m58.1 10) by omega)
    have J100_75 : ∀ (s73 : Int) (m74 : mR), (R64 s73) → Ty m74 → fr [7, 8, 9, 10, 11, 12] [97, 98] (mO m [] []) m74 → (∀ k, (m.2 14) k + (m.2 15) k ≤ 4000) → ((m.2 42) d ≤ 7) → (0 ≤ ((8 * d) + ((m.2 42) d)) ∧ ((8 * d) + ((m.2 42) d)) ≤ 127) → (0 ≤ (8 * d) + ((m.2 42) d) ∧ (8 * d) + ((m.2 42) d) ≤ 127) → (1 ≤ (m74.1 10)) → TT w D pm_265 (100, [(0, .ref 189), (1, .int (i32 d)), (2, .int (i32 ((8 * d) + ((m.2 42) d))))], [.long (i64 s73), .int (i32 ((8 * d) + ((m.2 42) d))), .ref 260], (mhp (mO m74 [] []) c, N), 0, 0) (Q_takeCase m c N d) := by
      intro s73 m74 q81 Tm74 Fm74 ic76 ic77 ic78 ic79 ic80
      obtain ⟨q81a, q81b⟩ := id q81
      have q82_7 : 0 ≤ m74.1 7 ∧ m74.1 7 ≤ 330 := Tm74.1 7
      have q82_8 : 0 ≤ m74.1 8 ∧ m74.1 8 ≤ 4000 := Tm74.1 8
      have q82_9 : 0 ≤ m74.1 9 ∧ m74.1 9 ≤ 4000 := Tm74.1 9
      have q82_10 : 0 ≤ m74.1 10 ∧ m74.1 10 ≤ 8 := Tm74.1 10
      have q82_11 : (-1) ≤ m74.1 11 ∧ m74.1 11 ≤ 4000 := Tm74.1 11
      have hNM := ic76
      have G84 : ∀ j, (-9223372036854775808) ≤ (upI (m74.2 98) ((8 * d) + ((m.2 42) d)) s73) j ∧ (upI (m74.2 98) ((8 * d) + ((m.2 42) d)) s73) j ≤ 9223372036854775807 := upI_rg (Tm74.2.1 98) ⟨by omega, by omega⟩
      refine T_last (a' := [(98, upI (m74.2 98) ((8 * d) + ((m.2 42) d)) s73)]) 101 98 (m74.2 98) rfl rfl rfl (by omega) (show ((8 * d) + ((m.2 42) d)) < (128 : Int) by omega) rfl rfl ?_
      refine T_ld 102 (.ref 189) rfl (fun _ => rfl) ?_
      refine T_ld 104 (.int (i32 58)) rfl (fun _ => rfl) ?_
      refine T_call 107 232 [.ref 189, .int (i32 58)] [] rfl (fun _ => rfl) rfl (d_need w (mO m74 [] [(98, upI (m74.2 98) ((8 * d) + ((m.2 42) d)) s73)]) c N D (by omega) (Ty_mO Tm74 rfl rfl trivial ⟨G84, trivial⟩) 58 ⟨by decide, by decide⟩ (show 1 ≤ (58 : Int) by omega) (show LxP (m74.1 7) (m74.1 8) (m74.1 9) (m74.1 6) (m74.1 10) by rewrite [(show (m74.1 6) = (m.1 6) from (fr1 Fm74 6 rfl))]; first | exact hLx | (intro h9; exfalso; omega) | (intro h9; have h8 := hLx (by omega); omega))) (fun rr85 k86 => ?_)
      obtain ⟨m87, Tm87, Fm87, h88, h89, h90, h91, rfl⟩ := k86
      refine ⟨_, _, rfl, ?_⟩
      refine T_nb (st' := []) rfl ?_
      have g92 : 0 ≤ m87.1 7 ∧ m87.1 7 ≤ 330 := Tm87.1 7
      have g93 : 0 ≤ m87.1 8 ∧ m87.1 8 ≤ 4000 := Tm87.1 8
      have g94 : 0 ≤ m87.1 9 ∧ m87.1 9 ≤ 4000 := Tm87.1 9
      have g95 : 0 ≤ m87.1 10 ∧ m87.1 10 ≤ 8 := Tm87.1 10
      have g96 : (-1) ≤ m87.1 11 ∧ m87.1 11 ≤ 4000 := Tm87.1 11
      replace h88 : LxP (m87.1 7) (m87.1 8) (m87.1 9) (m74.1 6) (m87.1 10) := h88
      rewrite [(show (m74.1 6) = (m.1 6) from (fr1 Fm74 6 rfl))] at h88
      replace h89 : (m87.1 10) = 0 → (m74.1 10) = 0 ∧ (m74.1 7) = (58 : Int) := h89
      replace h90 : (m74.1 8) ≤ (m87.1 8) := h90
      replace h91 : (m87.1 10) = 0 → (m74.1 8) + (m74.1 9) ≤ (m87.1 8) := h91
      have hf97 : 1 ≤ (m87.1 10) := by omega
      clear h89
      clear h91
      have hLx := h88
      clear q82_7 q82_8 q82_9 q82_10 q82_11 ic80 h90
      exact J107_49 (mO m87 [] []) Tm87 (fr_m (fr_s Fm87 (fr_m (fr_s Fm74 (fr_m fr_0 rfl rfl) rfl rfl) rfl rfl) rfl rfl) rfl rfl) (show ∀ k, (m.2 14) k + (m.2 15) k ≤ 4000 by first | exact hNM) (show (m.2 42) d ≤ 7 by omega) (show 0 ≤ ((8 * d) + ((m.2 42) d)) ∧ ((8 * d) + ((m.2 42) d)) ≤ 127 by omega) (show 1 ≤ (m87.1 10) by omega)
    refine T_gf 4 (.ref 212) rfl rfl rfl rfl rfl rfl ?_
    refine T_ld 5 (.int (i32 d)) rfl (fun _ => rfl) ?_
    refine T_iald 6 42 (m.2 42) rfl rfl rfl (by omega) (show d < (16 : Int) by omega) rfl ?_
    have e98 : 0 ≤ (m.2 42) d ∧ (m.2 42) d ≤ 8 := (hT.2.1 42) d
    refine T_ld 8 (.int (i32 8)) rfl (fun _ => rfl) ?_
    refine T_icmp 20 11 rfl rfl rfl (r32 (by omega) (by omega)) ⟨by decide, by decide⟩ (fun (h99 : (m.2 42) d ≠ 8) => ?_) (fun (h99 : ¬ ((m.2 42) d ≠ 8)) => ?_)
    · skip
      refine T_gf 24 (.int (i32 (m.1 10))) rfl rfl rfl rfl rfl rfl ?_
      refine T_if 28 27 rfl rfl rfl (r32 (by omega) (by omega)) (fun (h100 : (m.1 10) ≤ 0) => ?_) (fun (h100 : ¬ ((m.1 10) ≤ 0)) => by exfalso; omega)
      refine T_ld 30 (.int (i32 8)) rfl (fun _ => rfl) ?_
      refine T_ld 31 (.int (i32 d)) rfl (fun _ => rfl) ?_
      refine T_imul 32 rfl rfl ?_
      refine T_gf 36 (.ref 212) rfl rfl rfl rfl rfl rfl ?_
      refine T_ld 37 (.int (i32 d)) rfl (fun _ => rfl) ?_
      refine T_iald 38 42 (m.2 42) rfl rfl rfl (by omega) (show d < (16 : Int) by omega) rfl ?_
      have e101 : 0 ≤ (m.2 42) d ∧ (m.2 42) d ≤ 8 := (hT.2.1 42) d
      refine T_iadd 39 rfl rfl ?_
      refine T_sto 40 [(2, .int (i32 ((8 * d) + ((m.2 42) d)))), (0, .ref 189), (1, .int (i32 d))] rfl (fun _ => rfl) ?_
      refine T_gf 44 (.ref 259) rfl rfl rfl rfl rfl rfl ?_
      refine T_ld 45 (.int (i32 ((8 * d) + ((m.2 42) d)))) rfl (fun _ => rfl) ?_
      refine T_ld 46 (.ref 189) rfl (fun _ => rfl) ?_
      refine T_gf 50 (.ref 213) rfl rfl rfl rfl rfl rfl ?_
      refine T_ld 51 (.int (i32 d)) rfl (fun _ => rfl) ?_
      refine T_iald 52 43 (m.2 43) rfl rfl rfl (by omega) (show d < (16 : Int) by omega) rfl ?_
      have e102 : 0 ≤ m.2 43 d ∧ m.2 43 d ≤ 1024 := hT.2.1 43 d
      refine T_call 55 266 [.ref 189, .int (i32 ((m.2 43) d))] [.int (i32 ((8 * d) + ((m.2 42) d))), .ref 259] rfl (fun _ => rfl) rfl (c_caseNumber w (mO m [] []) c N D (by omega) hT ((m.2 43) d) (r32 (by omega) (by omega)) (show LxP (m.1 7) (m.1 8) (m.1 9) (m.1 6) (m.1 10) by first | exact hLx | exact (fun _ => hLx (by omega)) | (intro h9; exfalso; omega)) (fun _ => trivial)) (fun rr103 k104 => ?_)
      obtain ⟨m105, x106, Tm105, Fm105, g107, h108, h109, c110, rfl⟩ := k104
      refine ⟨_, _, rfl, ?_⟩
      refine T_nb (st' := [.long (i64 x106), .int (i32 ((8 * d) + ((m.2 42) d))), .ref 259]) rfl ?_
      obtain ⟨g107a, g107b⟩ := g107
      have g111 : 0 ≤ m105.1 7 ∧ m105.1 7 ≤ 330 := Tm105.1 7
      have g112 : 0 ≤ m105.1 8 ∧ m105.1 8 ≤ 4000 := Tm105.1 8
      have g113 : 0 ≤ m105.1 9 ∧ m105.1 9 ≤ 4000 := Tm105.1 9
      have g114 : 0 ≤ m105.1 10 ∧ m105.1 10 ≤ 8 := Tm105.1 10
      have g115 : (-1) ≤ m105.1 11 ∧ m105.1 11 ≤ 4000 := Tm105.1 11
      by_cases hf116 : (m105.1 10) = 0
      · skip
        replace h108 : (m.1 10) = 0 := h108 hf116
        replace h109 : LxP (m105.1 7) (m105.1 8) (m105.1 9) (m.1 6) (m105.1 10) := h109
        have hLx := h109
        obtain ⟨c117, c118⟩ := c110 hf116
        replace c117 : (m.1 8) + 1 ≤ (m105.1 8) := c117
        replace c118 : (m.1 7) = 2 := c118
        clear c110
        have u119 : (m.1 8) + 1 ≤ (m105.1 8) := by omega
        have G120 : ∀ j, (-9223372036854775808) ≤ (upI (m.2 97) ((8 * d) + ((m.2 42) d)) x106) j ∧ (upI (m.2 97) ((8 * d) + ((m.2 42) d)) x106) j ≤ 9223372036854775807 := upI_rg (hT.2.1 97) ⟨by omega, by omega⟩
        refine T_last (a' := [(97, upI (m.2 97) ((8 * d) + ((m.2 42) d)) x106)]) 56 97 (m.2 97) rfl rfl rfl (by omega) (show ((8 * d) + ((m.2 42) d)) < (128 : Int) by omega) (show (m105.2 97) = (m.2 97) from (fr2 Fm105 97 rfl)) rfl ?_
        refine T_gf 60 (.ref 260) rfl rfl rfl rfl rfl rfl ?_
        refine T_ld 61 (.int (i32 ((8 * d) + ((m.2 42) d)))) rfl (fun _ => rfl) ?_
        refine T_ld 64 (.long (i64 (-1))) rfl (fun _ => rfl) ?_
        have G121 : ∀ j, (-9223372036854775808) ≤ (upI (m.2 98) ((8 * d) + ((m.2 42) d)) (-1)) j ∧ (upI (m.2 98) ((8 * d) + ((m.2 42) d)) (-1)) j ≤ 9223372036854775807 := upI_rg (hT.2.1 98) ⟨by omega, by omega⟩
        refine T_last (a' := [(97, upI (m.2 97) ((8 * d) + ((m.2 42) d)) x106), (98, upI (m.2 98) ((8 * d) + ((m.2 42) d)) (-1))]) 65 98 (m.2 98) rfl rfl rfl (by omega) (show ((8 * d) + ((m.2 42) d)) < (128 : Int) by omega) (show (m105.2 98) = (m.2 98) from (fr2 Fm105 98 rfl)) rfl ?_
        refine T_gf 69 (.int (i32 (m105.1 10))) rfl rfl rfl rfl rfl rfl ?_
        refine T_if 101 72 rfl rfl rfl (r32 (by omega) (by omega)) (fun (h122 : (m105.1 10) ≠ 0) => by exfalso; omega) (fun (h122 : ¬ ((m105.1 10) ≠ 0)) => ?_)
        refine T_gf 76 (.int (i32 (m105.1 7))) rfl rfl rfl rfl rfl rfl ?_
        refine T_ld 78 (.int (i32 38)) rfl (fun _ => rfl) ?_
        refine T_icmp 101 81 rfl rfl rfl (r32 (by omega) (by omega)) ⟨by decide, by decide⟩ (fun (h123 : (m105.1 7) ≠ 38) => ?_) (fun (h123 : ¬ ((m105.1 7) ≠ 38)) => ?_)
        · skip
          refine T_ld 102 (.ref 189) rfl (fun _ => rfl) ?_
          refine T_ld 104 (.int (i32 58)) rfl (fun _ => rfl) ?_
          refine T_call 107 232 [.ref 189, .int (i32 58)] [] rfl (fun _ => rfl) rfl (d_need w (mO m105 [] [(97, upI (m.2 97) ((8 * d) + ((m.2 42) d)) x106), (98, upI (m.2 98) ((8 * d) + ((m.2 42) d)) (-1))]) c N D (by omega) (Ty_mO Tm105 rfl rfl trivial ⟨G120, G121, trivial⟩) 58 ⟨by decide, by decide⟩ (show 1 ≤ (58 : Int) by omega) (show LxP (m105.1 7) (m105.1 8) (m105.1 9) (m105.1 6) (m105.1 10) by rewrite [(show (m105.1 6) = (m.1 6) from (fr1 Fm105 6 rfl))]; first | exact hLx | (intro h9; exfalso; omega) | (intro h9; have h8 := hLx (by omega); omega))) (fun rr124 k125 => ?_)
          obtain ⟨m126, Tm126, Fm126, h127, h128, h129, h130, rfl⟩ := k125
          refine ⟨_, _, rfl, ?_⟩
          refine T_nb (st' := []) rfl ?_
          have g131 : 0 ≤ m126.1 7 ∧ m126.1 7 ≤ 330 := Tm126.1 7
          have g132 : 0 ≤ m126.1 8 ∧ m126.1 8 ≤ 4000 := Tm126.1 8
          have g133 : 0 ≤ m126.1 9 ∧ m126.1 9 ≤ 4000 := Tm126.1 9
          have g134 : 0 ≤ m126.1 10 ∧ m126.1 10 ≤ 8 := Tm126.1 10
          have g135 : (-1) ≤ m126.1 11 ∧ m126.1 11 ≤ 4000 := Tm126.1 11
          by_cases hf136 : (m126.1 10) = 0
          · skip
            replace h127 : LxP (m126.1 7) (m126.1 8) (m126.1 9) (m105.1 6) (m126.1 10) := h127
            rewrite [(show (m105.1 6) = (m.1 6) from (fr1 Fm105 6 rfl))] at h127
            have hLx := h127
            replace h128 : (m105.1 10) = 0 ∧ (m105.1 7) = (58 : Int) := h128 hf136
            replace h129 : (m105.1 8) ≤ (m126.1 8) := h129
            replace h130 : (m105.1 8) + (m105.1 9) ≤ (m126.1 8) := h130 hf136
            have u137 : (m.1 8) + 1 ≤ (m126.1 8) := by omega
            clear g111 g112 g113 g114 g115 h109 c117 u119 h122 h123 h128 h129 h130
            refine T_gf 111 (.ref 215) rfl rfl rfl rfl rfl rfl ?_
            refine T_ld 112 (.int (i32 ((8 * d) + ((m.2 42) d)))) rfl (fun _ => rfl) ?_
            refine T_ld 113 (.ref 189) rfl (fun _ => rfl) ?_
            refine T_call 116 242 [.ref 189] [.int (i32 ((8 * d) + ((m.2 42) d))), .ref 215] rfl (fun _ => rfl) rfl (c_stateHere w (mO m126 [] []) c N D (by omega) Tm126 (show LxP (m126.1 7) (m126.1 8) (m126.1 9) (m126.1 6) (m126.1 10) by rewrite [(show (m126.1 6) = (m.1 6) from ((fr1 Fm126 6 rfl).trans (fr1 Fm105 6 rfl)))]; first | exact hLx | exact (fun _ => hLx (by omega)) | (intro h9; exfalso; omega)) (show ∀ k, (m126.2 14) k + (m126.2 15) k ≤ 4000 by rewrite [(show (m126.2 14) = (m.2 14) from ((fr2 Fm126 14 rfl).trans (fr2 Fm105 14 rfl))), (show (m126.2 15) = (m.2 15) from ((fr2 Fm126 15 rfl).trans (fr2 Fm105 15 rfl)))]; assumption) (fun _ => ⟨(show PN (m126.1 13) (m126.1 19) (m126.1 20) (m126.1 21) (m126.1 22) (m126.1 23) (m126.1 25) (m126.1 26) (m126.2 16) (m126.2 17) by rewrite [(show (m126.1 13) = (m.1 13) from ((fr1 Fm126 13 rfl).trans (fr1 Fm105 13 rfl))), (show (m126.1 19) = (m.1 19) from ((fr1 Fm126 19 rfl).trans (fr1 Fm105 19 rfl))), (show (m126.1 20) = (m.1 20) from ((fr1 Fm126 20 rfl).trans (fr1 Fm105 20 rfl))), (show (m126.1 21) = (m.1 21) from ((fr1 Fm126 21 rfl).trans (fr1 Fm105 21 rfl))), (show (m126.1 22) = (m.1 22) from ((fr1 Fm126 22 rfl).trans (fr1 Fm105 22 rfl))), (show (m126.1 23) = (m.1 23) from ((fr1 Fm126 23 rfl).trans (fr1 Fm105 23 rfl))), (show (m126.1 25) = (m.1 25) from ((fr1 Fm126 25 rfl).trans (fr1 Fm105 25 rfl))), (show (m126.1 26) = (m.1 26) from ((fr1 Fm126 26 rfl).trans (fr1 Fm105 26 rfl))), (show (m126.2 16) = (m.2 16) from ((fr2 Fm126 16 rfl).trans (fr2 Fm105 16 rfl))), (show (m126.2 17) = (m.2 17) from ((fr2 Fm126 17 rfl).trans (fr2 Fm105 17 rfl)))]; assumption), (show SOp (m126.2 38) (m126.1 23) (m126.1 24) by rewrite [(show (m126.2 38) = (m.2 38) from ((fr2 Fm126 38 rfl).trans (fr2 Fm105 38 rfl))), (show (m126.1 23) = (m.1 23) from ((fr1 Fm126 23 rfl).trans (fr1 Fm105 23 rfl))), (show (m126.1 24) = (m.1 24) from ((fr1 Fm126 24 rfl).trans (fr1 Fm105 24 rfl)))]; first | exact pSO | assumption)⟩)) (fun rr138 k139 => ?_)
            obtain ⟨m140, x141, Tm140, Fm140, g142, h143, h144, h145, c146, rfl⟩ := k139
            refine ⟨_, _, rfl, ?_⟩
            refine T_nb (st' := [.int (i32 x141), .int (i32 ((8 * d) + ((m.2 42) d))), .ref 215]) rfl ?_
            obtain ⟨g142a, g142b⟩ := g142
            have g147 : 0 ≤ m140.1 7 ∧ m140.1 7 ≤ 330 := Tm140.1 7
            have g148 : 0 ≤ m140.1 8 ∧ m140.1 8 ≤ 4000 := Tm140.1 8
            have g149 : 0 ≤ m140.1 9 ∧ m140.1 9 ≤ 4000 := Tm140.1 9
            have g150 : 0 ≤ m140.1 10 ∧ m140.1 10 ≤ 8 := Tm140.1 10
            have g151 : (-1) ≤ m140.1 11 ∧ m140.1 11 ≤ 4000 := Tm140.1 11
            have g152 : 0 ≤ m140.1 13 ∧ m140.1 13 ≤ 120 := Tm140.1 13
            have g153 : 0 ≤ m140.1 23 ∧ m140.1 23 ≤ 16 := Tm140.1 23
            by_cases hf154 : (m140.1 10) = 0
            · skip
              replace h143 : (m126.1 10) = 0 := h143 hf154
              replace h144 : LxP (m140.1 7) (m140.1 8) (m140.1 9) (m126.1 6) (m140.1 10) := h144
              rewrite [(show (m126.1 6) = (m.1 6) from ((fr1 Fm126 6 rfl).trans (fr1 Fm105 6 rfl)))] at h144
              have hLx := h144
              replace h145 : ∀ k, (m140.2 14) k + (m140.2 15) k ≤ 4000 := h145
              have hNM := h145
              obtain ⟨c155, c156, c157, c158, c159⟩ := c146 hf154
              replace c155 : (m126.1 8) + 1 ≤ (m140.1 8) := c155
              replace c156 : PN (m140.1 13) (m126.1 19) (m126.1 20) (m126.1 21) (m126.1 22) (m140.1 23) (m126.1 25) (m126.1 26) (m140.2 16) (m140.2 17) := c156
              rewrite [(show (m126.1 19) = (m.1 19) from ((fr1 Fm126 19 rfl).trans (fr1 Fm105 19 rfl))), (show (m126.1 20) = (m.1 20) from ((fr1 Fm126 20 rfl).trans (fr1 Fm105 20 rfl))), (show (m126.1 21) = (m.1 21) from ((fr1 Fm126 21 rfl).trans (fr1 Fm105 21 rfl))), (show (m126.1 22) = (m.1 22) from ((fr1 Fm126 22 rfl).trans (fr1 Fm105 22 rfl))), (show (m126.1 25) = (m.1 25) from ((fr1 Fm126 25 rfl).trans (fr1 Fm105 25 rfl))), (show (m126.1 26) = (m.1 26) from ((fr1 Fm126 26 rfl).trans (fr1 Fm105 26 rfl)))] at c156
              have pPN := c156
              replace c157 : SOp (m140.2 38) (m140.1 23) (m126.1 24) := c157
              rewrite [(show (m126.1 24) = (m.1 24) from ((fr1 Fm126 24 rfl).trans (fr1 Fm105 24 rfl)))] at c157
              have pSO := c157
              replace c158 : x141 < (m140.1 23) := c158
              have hRS := c158
              replace c159 : (m126.1 23) ≤ (m140.1 23) := c159
              rewrite [(show (m126.1 23) = (m.1 23) from ((fr1 Fm126 23 rfl).trans (fr1 Fm105 23 rfl)))] at c159
              clear c146
              have u160 : (m.1 8) + 1 ≤ (m140.1 8) := by omega
              clear g131 g132 g133 g134 g135 h127 u137 h143 c155
              have G161 : ∀ j, (-2) ≤ (upI (m.2 45) ((8 * d) + ((m.2 42) d)) x141) j ∧ (upI (m.2 45) ((8 * d) + ((m.2 42) d)) x141) j ≤ 15 := upI_rg (hT.2.1 45) ⟨by omega, by omega⟩
              refine T_iast (a' := [(45, upI (m.2 45) ((8 * d) + ((m.2 42) d)) x141)]) 117 45 (m.2 45) rfl rfl rfl (by omega) (show ((8 * d) + ((m.2 42) d)) < (128 : Int) by omega) (show (m140.2 45) = (m.2 45) from ((fr2 Fm140 45 rfl).trans ((fr2 Fm126 45 rfl).trans (fr2 Fm105 45 rfl)))) rfl ?_
              refine T_ld 118 (.ref 189) rfl (fun _ => rfl) ?_
              refine T_ld 120 (.int (i32 59)) rfl (fun _ => rfl) ?_
              refine T_call 123 232 [.ref 189, .int (i32 59)] [] rfl (fun _ => rfl) rfl (d_need w (mO m140 [] [(45, upI (m.2 45) ((8 * d) + ((m.2 42) d)) x141)]) c N D (by omega) (Ty_mO Tm140 rfl rfl trivial ⟨G161, trivial⟩) 59 ⟨by decide, by decide⟩ (show 1 ≤ (59 : Int) by omega) (show LxP (m140.1 7) (m140.1 8) (m140.1 9) (m140.1 6) (m140.1 10) by rewrite [(show (m140.1 6) = (m.1 6) from ((fr1 Fm140 6 rfl).trans ((fr1 Fm126 6 rfl).trans (fr1 Fm105 6 rfl))))]; first | exact hLx | (intro h9; exfalso; omega) | (intro h9; have h8 := hLx (by omega); omega))) (fun rr162 k163 => ?_)
              obtain ⟨m164, Tm164, Fm164, h165, h166, h167, h168, rfl⟩ := k163
              refine ⟨_, _, rfl, ?_⟩
              refine T_nb (st' := []) rfl ?_
              have g169 : 0 ≤ m164.1 7 ∧ m164.1 7 ≤ 330 := Tm164.1 7
              have g170 : 0 ≤ m164.1 8 ∧ m164.1 8 ≤ 4000 := Tm164.1 8
              have g171 : 0 ≤ m164.1 9 ∧ m164.1 9 ≤ 4000 := Tm164.1 9
              have g172 : 0 ≤ m164.1 10 ∧ m164.1 10 ≤ 8 := Tm164.1 10
              have g173 : (-1) ≤ m164.1 11 ∧ m164.1 11 ≤ 4000 := Tm164.1 11
              by_cases hf174 : (m164.1 10) = 0
              · skip
                replace h165 : LxP (m164.1 7) (m164.1 8) (m164.1 9) (m140.1 6) (m164.1 10) := h165
                rewrite [(show (m140.1 6) = (m.1 6) from ((fr1 Fm140 6 rfl).trans ((fr1 Fm126 6 rfl).trans (fr1 Fm105 6 rfl))))] at h165
                have hLx := h165
                replace h166 : (m140.1 10) = 0 ∧ (m140.1 7) = (59 : Int) := h166 hf174
                replace h167 : (m140.1 8) ≤ (m164.1 8) := h167
                replace h168 : (m140.1 8) + (m140.1 9) ≤ (m164.1 8) := h168 hf174
                have u175 : (m.1 8) + 1 ≤ (m164.1 8) := by omega
                clear g147 g148 g149 g150 g151 h144 u160 h166 h167 h168
                have hlt : (m.2 42) d < 8 := by omega
                refine T_gf 127 (.ref 212) rfl rfl rfl rfl rfl rfl ?_
                refine T_ld 128 (.int (i32 d)) rfl (fun _ => rfl) ?_
                refine T_dup2 129 rfl (fun _ => rfl) ?_
                refine T_iald 130 42 (m.2 42) rfl rfl rfl (by omega) (show d < (16 : Int) by omega) (show (m164.2 42) = (m.2 42) from ((fr2 Fm164 42 rfl).trans ((fr2 Fm140 42 rfl).trans ((fr2 Fm126 42 rfl).trans (fr2 Fm105 42 rfl))))) ?_
                have e176 : 0 ≤ (m.2 42) d ∧ (m.2 42) d ≤ 8 := (hT.2.1 42) d
                refine T_ld 131 (.int (i32 1)) rfl (fun _ => rfl) ?_
                refine T_iadd 132 rfl rfl ?_
                have G177 : ∀ j, 0 ≤ (upI (m.2 42) d (((m.2 42) d) + 1)) j ∧ (upI (m.2 42) d (((m.2 42) d) + 1)) j ≤ 8 := upI_rg (hT.2.1 42) ⟨by omega, by omega⟩
                refine T_iast (a' := [(42, upI (m.2 42) d (((m.2 42) d) + 1))]) 133 42 (m.2 42) rfl rfl rfl (by omega) (show d < (16 : Int) by omega) (show (m164.2 42) = (m.2 42) from ((fr2 Fm164 42 rfl).trans ((fr2 Fm140 42 rfl).trans ((fr2 Fm126 42 rfl).trans (fr2 Fm105 42 rfl))))) rfl ?_
                have hCT2 : ∀ c, 8 * d ≤ c → c < 8 * d + (upI (m.2 42) d (((m.2 42) d) + 1)) d → (upI (m.2 45) ((8 * d) + ((m.2 42) d)) x141) c < (m140.1 23) := by
                  intro c c0 c1
                  rw [upI_s] at c1
                  by_cases e : c = 8 * d + (m.2 42) d
                  · subst e
                    rw [upI_s]
                    exact hRS
                  · rw [upI_n e]
                    have := hCT c c0 (by omega)
                    omega
                refine T_ret rfl (fun _ => rfl) ?_
                exact ⟨(mO m164 [] [(42, upI (m.2 42) d (((m.2 42) d) + 1))]), (Ty_mO Tm164 rfl rfl trivial ⟨G177, trivial⟩), (fr_m (fr_s Fm164 (fr_m (fr_s Fm140 (fr_m (fr_s Fm126 (fr_m (fr_s Fm105 (fr_m fr_0 rfl rfl) rfl rfl) rfl rfl) rfl rfl) rfl rfl) rfl rfl) rfl rfl) rfl rfl) rfl rfl), (show (m164.1 10) = 0 → (m.1 10) = 0 by omega), (show LxP (m164.1 7) (m164.1 8) (m164.1 9) (m.1 6) (m164.1 10) by first | (first | exact hLx | exact (fun _ => hLx (by omega)) | (intro h9; exfalso; omega)) | (exfalso; omega)), (show ∀ k, (m164.2 14) k + (m164.2 15) k ≤ 4000 by rewrite [(show (m164.2 14) = (m140.2 14) from (fr2 Fm164 14 rfl)), (show (m164.2 15) = (m140.2 15) from (fr2 Fm164 15 rfl))]; first | (first | exact hNM | (intro k; rw [hE1, hE2]; have := hNM k; have h7 := hLx0 hf0; unfold upI; split <;> omega)) | (exfalso; omega)), (fun _ => ⟨(show (m.1 8) + 1 ≤ (m164.1 8) by omega), (show PN (m164.1 13) (m.1 19) (m.1 20) (m.1 21) (m.1 22) (m164.1 23) (m.1 25) (m.1 26) (m164.2 16) (m164.2 17) by rewrite [(show (m164.1 13) = (m140.1 13) from (fr1 Fm164 13 rfl)), (show (m164.1 23) = (m140.1 23) from (fr1 Fm164 23 rfl)), (show (m164.2 16) = (m140.2 16) from (fr2 Fm164 16 rfl)), (show (m164.2 17) = (m140.2 17) from (fr2 Fm164 17 rfl))]; first | (exact pPN) | (exfalso; omega)), (show SOp (m164.2 38) (m164.1 23) (m.1 24) by rewrite [(show (m164.2 38) = (m140.2 38) from (fr2 Fm164 38 rfl)), (show (m164.1 23) = (m140.1 23) from (fr1 Fm164 23 rfl))]; first | (exact pSO) | (exfalso; omega)), (show ∀ c, 8 * d ≤ c → c < 8 * d + (upI (m.2 42) d (((m.2 42) d) + 1)) d → (m164.2 45) c < (m164.1 23) by rewrite [(show (m164.2 45) = (upI (m.2 45) ((8 * d) + ((m.2 42) d)) x141) from (fr2 Fm164 45 rfl)), (show (m164.1 23) = (m140.1 23) from (fr1 Fm164 23 rfl))]; first | (exact hCT2) | (exfalso; omega)), (show (m.1 23) ≤ (m164.1 23) by rewrite [(show (m164.1 23) = (m140.1 23) from (fr1 Fm164 23 rfl))]; omega), (show agr (m.2 42) (upI (m.2 42) d (((m.2 42) d) + 1)) d by first | (exact agr_u (Int.le_refl _)) | (exfalso; omega)), (show agr (m.2 45) (m164.2 45) (8 * d) by rewrite [(show (m164.2 45) = (upI (m.2 45) ((8 * d) + ((m.2 42) d)) x141) from (fr2 Fm164 45 rfl))]; first | (exact agr_u (by omega)) | (exfalso; omega))⟩), rfl⟩
              · skip
                replace h165 : LxP (m164.1 7) (m164.1 8) (m164.1 9) (m140.1 6) (m164.1 10) := h165
                rewrite [(show (m140.1 6) = (m.1 6) from ((fr1 Fm140 6 rfl).trans ((fr1 Fm126 6 rfl).trans (fr1 Fm105 6 rfl))))] at h165
                have hLx := h165
                clear h166
                replace h167 : (m140.1 8) ≤ (m164.1 8) := h167
                clear h168
                have hf178 : 1 ≤ (m164.1 10) := by omega
                clear g147 g148 g149 g150 g151 h144 u160 h167
                refine Tm_lv (a := [(0, .ref 189), (1, .int (i32 d)), (2, .int (i32 ((8 * d) + ((m.2 42) d))))]) rfl rfl ⟨rfl, rfl, rfl, trivial⟩ ?_
                exact J123_12 (mO m164 [] []) Tm164 (fr_m (fr_s Fm164 (fr_m (fr_s Fm140 (fr_m (fr_s Fm126 (fr_m (fr_s Fm105 (fr_m fr_0 rfl rfl) rfl rfl) rfl rfl) rfl rfl) rfl rfl) rfl rfl) rfl rfl) rfl rfl) rfl rfl) (show ∀ k, (m164.2 14) k + (m164.2 15) k ≤ 4000 by rewrite [(show (m164.2 14) = (m140.2 14) from (fr2 Fm164 14 rfl)), (show (m164.2 15) = (m140.2 15) from (fr2 Fm164 15 rfl))]; first | exact hNM) (show (m.2 42) d ≤ 7 by omega) (show 0 ≤ ((8 * d) + ((m.2 42) d)) ∧ ((8 * d) + ((m.2 42) d)) ≤ 127 by omega) (show 1 ≤ (m164.1 10) by omega)
            · skip
              clear c146
              clear h143
              replace h144 : LxP (m140.1 7) (m140.1 8) (m140.1 9) (m126.1 6) (m140.1 10) := h144
              rewrite [(show (m126.1 6) = (m.1 6) from ((fr1 Fm126 6 rfl).trans (fr1 Fm105 6 rfl)))] at h144
              have hLx := h144
              replace h145 : ∀ k, (m140.2 14) k + (m140.2 15) k ≤ 4000 := h145
              have hNM := h145
              have hf179 : 1 ≤ (m140.1 10) := by omega
              clear g131 g132 g133 g134 g135 h127 u137
              refine Tm_lv (a := [(0, .ref 189), (1, .int (i32 d)), (2, .int (i32 ((8 * d) + ((m.2 42) d))))]) rfl rfl ⟨rfl, rfl, rfl, trivial⟩ ?_
              exact J116_23 x141 (mO m140 [] []) (r32 (by omega) (by omega)) Tm140 (fr_m (fr_s Fm140 (fr_m (fr_s Fm126 (fr_m (fr_s Fm105 (fr_m fr_0 rfl rfl) rfl rfl) rfl rfl) rfl rfl) rfl rfl) rfl rfl) rfl rfl) (show (-2) ≤ x141 by omega) (show x141 ≤ 15 by omega) (show ∀ k, (m140.2 14) k + (m140.2 15) k ≤ 4000 by first | exact hNM) (show (m.2 42) d ≤ 7 by omega) (show 0 ≤ ((8 * d) + ((m.2 42) d)) ∧ ((8 * d) + ((m.2 42) d)) ≤ 127 by omega) (show 0 ≤ (8 * d) + ((m.2 42) d) ∧ (8 * d) + ((m.2 42) d) ≤ 127 by omega) (show 1 ≤ (m140.1 10) by omega)
          · skip
            replace h127 : LxP (m126.1 7) (m126.1 8) (m126.1 9) (m105.1 6) (m126.1 10) := h127
            rewrite [(show (m105.1 6) = (m.1 6) from (fr1 Fm105 6 rfl))] at h127
            have hLx := h127
            clear h128
            replace h129 : (m105.1 8) ≤ (m126.1 8) := h129
            clear h130
            have hf180 : 1 ≤ (m126.1 10) := by omega
            clear g111 g112 g113 g114 g115 h109 c117 u119 h122 h123 h129
            refine Tm_lv (a := [(0, .ref 189), (1, .int (i32 d)), (2, .int (i32 ((8 * d) + ((m.2 42) d))))]) rfl rfl ⟨rfl, rfl, rfl, trivial⟩ ?_
            exact J107_49 (mO m126 [] []) Tm126 (fr_m (fr_s Fm126 (fr_m (fr_s Fm105 (fr_m fr_0 rfl rfl) rfl rfl) rfl rfl) rfl rfl) rfl rfl) (show ∀ k, (m.2 14) k + (m.2 15) k ≤ 4000 by first | exact hNM) (show (m.2 42) d ≤ 7 by omega) (show 0 ≤ ((8 * d) + ((m.2 42) d)) ∧ ((8 * d) + ((m.2 42) d)) ≤ 127 by omega) (show 1 ≤ (m126.1 10) by omega)
        · skip
          refine T_ld 82 (.ref 189) rfl (fun _ => rfl) ?_
          refine T_call 85 212 [.ref 189] [] rfl (fun _ => rfl) rfl (d_next w (mO m105 [] [(97, upI (m.2 97) ((8 * d) + ((m.2 42) d)) x106), (98, upI (m.2 98) ((8 * d) + ((m.2 42) d)) (-1))]) c N D (by omega) (Ty_mO Tm105 rfl rfl trivial ⟨G120, G121, trivial⟩) (show (m105.1 10) = 0 → (m105.1 8) + (m105.1 9) ≤ (m105.1 6) by rewrite [(show (m105.1 6) = (m.1 6) from (fr1 Fm105 6 rfl))]; first | omega | (intro h9; have h8 := hLx h9; omega))) (fun rr181 k182 => ?_)
          obtain ⟨m183, Tm183, Fm183, h184, h185, h186, h187, rfl⟩ := k182
          refine ⟨_, _, rfl, ?_⟩
          refine T_nb (st' := []) rfl ?_
          have g188 : 0 ≤ m183.1 7 ∧ m183.1 7 ≤ 330 := Tm183.1 7
          have g189 : 0 ≤ m183.1 8 ∧ m183.1 8 ≤ 4000 := Tm183.1 8
          have g190 : 0 ≤ m183.1 9 ∧ m183.1 9 ≤ 4000 := Tm183.1 9
          have g191 : 0 ≤ m183.1 10 ∧ m183.1 10 ≤ 8 := Tm183.1 10
          have g192 : (-1) ≤ m183.1 11 ∧ m183.1 11 ≤ 4000 := Tm183.1 11
          by_cases hf193 : (m183.1 10) = 0
          · skip
            replace h184 : LxP (m183.1 7) (m183.1 8) (m183.1 9) (m105.1 6) (m183.1 10) := h184
            rewrite [(show (m105.1 6) = (m.1 6) from (fr1 Fm105 6 rfl))] at h184
            have hLx := h184
            replace h185 : (m105.1 10) = 0 := h185 hf193
            replace h186 : (m105.1 8) ≤ (m183.1 8) := h186
            replace h187 : (m105.1 8) + (m105.1 9) ≤ (m183.1 8) := h187 hf193
            have u194 : (m.1 8) + 1 ≤ (m183.1 8) := by omega
            clear g111 g112 g113 g114 g115 h109 c117 u119 h122 h123 h185 h186 h187
            refine T_gf 89 (.ref 260) rfl rfl rfl rfl rfl rfl ?_
            refine T_ld 90 (.int (i32 ((8 * d) + ((m.2 42) d)))) rfl (fun _ => rfl) ?_
            refine T_ld 91 (.ref 189) rfl (fun _ => rfl) ?_
            refine T_gf 95 (.ref 213) rfl rfl rfl rfl rfl rfl ?_
            refine T_ld 96 (.int (i32 d)) rfl (fun _ => rfl) ?_
            refine T_iald 97 43 (m.2 43) rfl rfl rfl (by omega) (show d < (16 : Int) by omega) (show (m183.2 43) = (m.2 43) from ((fr2 Fm183 43 rfl).trans (fr2 Fm105 43 rfl))) ?_
            have e195 : 0 ≤ m.2 43 d ∧ m.2 43 d ≤ 1024 := hT.2.1 43 d
            refine T_call 100 266 [.ref 189, .int (i32 ((m.2 43) d))] [.int (i32 ((8 * d) + ((m.2 42) d))), .ref 260] rfl (fun _ => rfl) rfl (c_caseNumber w (mO m183 [] []) c N D (by omega) Tm183 ((m.2 43) d) (r32 (by omega) (by omega)) (show LxP (m183.1 7) (m183.1 8) (m183.1 9) (m183.1 6) (m183.1 10) by rewrite [(show (m183.1 6) = (m.1 6) from ((fr1 Fm183 6 rfl).trans (fr1 Fm105 6 rfl)))]; first | exact hLx | exact (fun _ => hLx (by omega)) | (intro h9; exfalso; omega)) (fun _ => trivial)) (fun rr196 k197 => ?_)
            obtain ⟨m198, x199, Tm198, Fm198, g200, h201, h202, c203, rfl⟩ := k197
            refine ⟨_, _, rfl, ?_⟩
            refine T_nb (st' := [.long (i64 x199), .int (i32 ((8 * d) + ((m.2 42) d))), .ref 260]) rfl ?_
            obtain ⟨g200a, g200b⟩ := g200
            have g204 : 0 ≤ m198.1 7 ∧ m198.1 7 ≤ 330 := Tm198.1 7
            have g205 : 0 ≤ m198.1 8 ∧ m198.1 8 ≤ 4000 := Tm198.1 8
            have g206 : 0 ≤ m198.1 9 ∧ m198.1 9 ≤ 4000 := Tm198.1 9
            have g207 : 0 ≤ m198.1 10 ∧ m198.1 10 ≤ 8 := Tm198.1 10
            have g208 : (-1) ≤ m198.1 11 ∧ m198.1 11 ≤ 4000 := Tm198.1 11
            by_cases hf209 : (m198.1 10) = 0
            · skip
              replace h201 : (m183.1 10) = 0 := h201 hf209
              replace h202 : LxP (m198.1 7) (m198.1 8) (m198.1 9) (m183.1 6) (m198.1 10) := h202
              rewrite [(show (m183.1 6) = (m.1 6) from ((fr1 Fm183 6 rfl).trans (fr1 Fm105 6 rfl)))] at h202
              have hLx := h202
              obtain ⟨c210, c211⟩ := c203 hf209
              replace c210 : (m183.1 8) + 1 ≤ (m198.1 8) := c210
              replace c211 : (m183.1 7) = 2 := c211
              clear c203
              have u212 : (m.1 8) + 1 ≤ (m198.1 8) := by omega
              clear g188 g189 g190 g191 g192 h184 u194 h201 c210 c211
              have G213 : ∀ j, (-9223372036854775808) ≤ (upI (upI (m.2 98) ((8 * d) + ((m.2 42) d)) (-1)) ((8 * d) + ((m.2 42) d)) x199) j ∧ (upI (upI (m.2 98) ((8 * d) + ((m.2 42) d)) (-1)) ((8 * d) + ((m.2 42) d)) x199) j ≤ 9223372036854775807 := upI_rg G121 ⟨by omega, by omega⟩
              refine T_last (a' := [(98, upI (upI (m.2 98) ((8 * d) + ((m.2 42) d)) (-1)) ((8 * d) + ((m.2 42) d)) x199)]) 101 98 (upI (m.2 98) ((8 * d) + ((m.2 42) d)) (-1)) rfl rfl rfl (by omega) (show ((8 * d) + ((m.2 42) d)) < (128 : Int) by omega) (show (m198.2 98) = (upI (m.2 98) ((8 * d) + ((m.2 42) d)) (-1)) from ((fr2 Fm198 98 rfl).trans (fr2 Fm183 98 rfl))) rfl ?_
              refine T_ld 102 (.ref 189) rfl (fun _ => rfl) ?_
              refine T_ld 104 (.int (i32 58)) rfl (fun _ => rfl) ?_
              refine T_call 107 232 [.ref 189, .int (i32 58)] [] rfl (fun _ => rfl) rfl (d_need w (mO m198 [] [(98, upI (upI (m.2 98) ((8 * d) + ((m.2 42) d)) (-1)) ((8 * d) + ((m.2 42) d)) x199)]) c N D (by omega) (Ty_mO Tm198 rfl rfl trivial ⟨G213, trivial⟩) 58 ⟨by decide, by decide⟩ (show 1 ≤ (58 : Int) by omega) (show LxP (m198.1 7) (m198.1 8) (m198.1 9) (m198.1 6) (m198.1 10) by rewrite [(show (m198.1 6) = (m.1 6) from ((fr1 Fm198 6 rfl).trans ((fr1 Fm183 6 rfl).trans (fr1 Fm105 6 rfl))))]; first | exact hLx | (intro h9; exfalso; omega) | (intro h9; have h8 := hLx (by omega); omega))) (fun rr214 k215 => ?_)
              obtain ⟨m216, Tm216, Fm216, h217, h218, h219, h220, rfl⟩ := k215
              refine ⟨_, _, rfl, ?_⟩
              refine T_nb (st' := []) rfl ?_
              have g221 : 0 ≤ m216.1 7 ∧ m216.1 7 ≤ 330 := Tm216.1 7
              have g222 : 0 ≤ m216.1 8 ∧ m216.1 8 ≤ 4000 := Tm216.1 8
              have g223 : 0 ≤ m216.1 9 ∧ m216.1 9 ≤ 4000 := Tm216.1 9
              have g224 : 0 ≤ m216.1 10 ∧ m216.1 10 ≤ 8 := Tm216.1 10
              have g225 : (-1) ≤ m216.1 11 ∧ m216.1 11 ≤ 4000 := Tm216.1 11
              by_cases hf226 : (m216.1 10) = 0
              · skip
                replace h217 : LxP (m216.1 7) (m216.1 8) (m216.1 9) (m198.1 6) (m216.1 10) := h217
                rewrite [(show (m198.1 6) = (m.1 6) from ((fr1 Fm198 6 rfl).trans ((fr1 Fm183 6 rfl).trans (fr1 Fm105 6 rfl))))] at h217
                have hLx := h217
                replace h218 : (m198.1 10) = 0 ∧ (m198.1 7) = (58 : Int) := h218 hf226
                replace h219 : (m198.1 8) ≤ (m216.1 8) := h219
                replace h220 : (m198.1 8) + (m198.1 9) ≤ (m216.1 8) := h220 hf226
                have u227 : (m.1 8) + 1 ≤ (m216.1 8) := by omega
                clear g204 g205 g206 g207 g208 h202 u212 h218 h219 h220
                refine T_gf 111 (.ref 215) rfl rfl rfl rfl rfl rfl ?_
                refine T_ld 112 (.int (i32 ((8 * d) + ((m.2 42) d)))) rfl (fun _ => rfl) ?_
                refine T_ld 113 (.ref 189) rfl (fun _ => rfl) ?_
                refine T_call 116 242 [.ref 189] [.int (i32 ((8 * d) + ((m.2 42) d))), .ref 215] rfl (fun _ => rfl) rfl (c_stateHere w (mO m216 [] []) c N D (by omega) Tm216 (show LxP (m216.1 7) (m216.1 8) (m216.1 9) (m216.1 6) (m216.1 10) by rewrite [(show (m216.1 6) = (m.1 6) from ((fr1 Fm216 6 rfl).trans ((fr1 Fm198 6 rfl).trans ((fr1 Fm183 6 rfl).trans (fr1 Fm105 6 rfl)))))]; first | exact hLx | exact (fun _ => hLx (by omega)) | (intro h9; exfalso; omega)) (show ∀ k, (m216.2 14) k + (m216.2 15) k ≤ 4000 by rewrite [(show (m216.2 14) = (m.2 14) from ((fr2 Fm216 14 rfl).trans ((fr2 Fm198 14 rfl).trans ((fr2 Fm183 14 rfl).trans (fr2 Fm105 14 rfl))))), (show (m216.2 15) = (m.2 15) from ((fr2 Fm216 15 rfl).trans ((fr2 Fm198 15 rfl).trans ((fr2 Fm183 15 rfl).trans (fr2 Fm105 15 rfl)))))]; assumption) (fun _ => ⟨(show PN (m216.1 13) (m216.1 19) (m216.1 20) (m216.1 21) (m216.1 22) (m216.1 23) (m216.1 25) (m216.1 26) (m216.2 16) (m216.2 17) by rewrite [(show (m216.1 13) = (m.1 13) from ((fr1 Fm216 13 rfl).trans ((fr1 Fm198 13 rfl).trans ((fr1 Fm183 13 rfl).trans (fr1 Fm105 13 rfl))))), (show (m216.1 19) = (m.1 19) from ((fr1 Fm216 19 rfl).trans ((fr1 Fm198 19 rfl).trans ((fr1 Fm183 19 rfl).trans (fr1 Fm105 19 rfl))))), (show (m216.1 20) = (m.1 20) from ((fr1 Fm216 20 rfl).trans ((fr1 Fm198 20 rfl).trans ((fr1 Fm183 20 rfl).trans (fr1 Fm105 20 rfl))))), (show (m216.1 21) = (m.1 21) from ((fr1 Fm216 21 rfl).trans ((fr1 Fm198 21 rfl).trans ((fr1 Fm183 21 rfl).trans (fr1 Fm105 21 rfl))))), (show (m216.1 22) = (m.1 22) from ((fr1 Fm216 22 rfl).trans ((fr1 Fm198 22 rfl).trans ((fr1 Fm183 22 rfl).trans (fr1 Fm105 22 rfl))))), (show (m216.1 23) = (m.1 23) from ((fr1 Fm216 23 rfl).trans ((fr1 Fm198 23 rfl).trans ((fr1 Fm183 23 rfl).trans (fr1 Fm105 23 rfl))))), (show (m216.1 25) = (m.1 25) from ((fr1 Fm216 25 rfl).trans ((fr1 Fm198 25 rfl).trans ((fr1 Fm183 25 rfl).trans (fr1 Fm105 25 rfl))))), (show (m216.1 26) = (m.1 26) from ((fr1 Fm216 26 rfl).trans ((fr1 Fm198 26 rfl).trans ((fr1 Fm183 26 rfl).trans (fr1 Fm105 26 rfl))))), (show (m216.2 16) = (m.2 16) from ((fr2 Fm216 16 rfl).trans ((fr2 Fm198 16 rfl).trans ((fr2 Fm183 16 rfl).trans (fr2 Fm105 16 rfl))))), (show (m216.2 17) = (m.2 17) from ((fr2 Fm216 17 rfl).trans ((fr2 Fm198 17 rfl).trans ((fr2 Fm183 17 rfl).trans (fr2 Fm105 17 rfl)))))]; assumption), (show SOp (m216.2 38) (m216.1 23) (m216.1 24) by rewrite [(show (m216.2 38) = (m.2 38) from ((fr2 Fm216 38 rfl).trans ((fr2 Fm198 38 rfl).trans ((fr2 Fm183 38 rfl).trans (fr2 Fm105 38 rfl))))), (show (m216.1 23) = (m.1 23) from ((fr1 Fm216 23 rfl).trans ((fr1 Fm198 23 rfl).trans ((fr1 Fm183 23 rfl).trans (fr1 Fm105 23 rfl))))), (show (m216.1 24) = (m.1 24) from ((fr1 Fm216 24 rfl).trans ((fr1 Fm198 24 rfl).trans ((fr1 Fm183 24 rfl).trans (fr1 Fm105 24 rfl)))))]; first | exact pSO | assumption)⟩)) (fun rr228 k229 => ?_)
                obtain ⟨m230, x231, Tm230, Fm230, g232, h233, h234, h235, c236, rfl⟩ := k229
                refine ⟨_, _, rfl, ?_⟩
                refine T_nb (st' := [.int (i32 x231), .int (i32 ((8 * d) + ((m.2 42) d))), .ref 215]) rfl ?_
                obtain ⟨g232a, g232b⟩ := g232
                have g237 : 0 ≤ m230.1 7 ∧ m230.1 7 ≤ 330 := Tm230.1 7
                have g238 : 0 ≤ m230.1 8 ∧ m230.1 8 ≤ 4000 := Tm230.1 8
                have g239 : 0 ≤ m230.1 9 ∧ m230.1 9 ≤ 4000 := Tm230.1 9
                have g240 : 0 ≤ m230.1 10 ∧ m230.1 10 ≤ 8 := Tm230.1 10
                have g241 : (-1) ≤ m230.1 11 ∧ m230.1 11 ≤ 4000 := Tm230.1 11
                have g242 : 0 ≤ m230.1 13 ∧ m230.1 13 ≤ 120 := Tm230.1 13
                have g243 : 0 ≤ m230.1 23 ∧ m230.1 23 ≤ 16 := Tm230.1 23
                by_cases hf244 : (m230.1 10) = 0
                · skip
                  replace h233 : (m216.1 10) = 0 := h233 hf244
                  replace h234 : LxP (m230.1 7) (m230.1 8) (m230.1 9) (m216.1 6) (m230.1 10) := h234
                  rewrite [(show (m216.1 6) = (m.1 6) from ((fr1 Fm216 6 rfl).trans ((fr1 Fm198 6 rfl).trans ((fr1 Fm183 6 rfl).trans (fr1 Fm105 6 rfl)))))] at h234
                  have hLx := h234
                  replace h235 : ∀ k, (m230.2 14) k + (m230.2 15) k ≤ 4000 := h235
                  have hNM := h235
                  obtain ⟨c245, c246, c247, c248, c249⟩ := c236 hf244
                  replace c245 : (m216.1 8) + 1 ≤ (m230.1 8) := c245
                  replace c246 : PN (m230.1 13) (m216.1 19) (m216.1 20) (m216.1 21) (m216.1 22) (m230.1 23) (m216.1 25) (m216.1 26) (m230.2 16) (m230.2 17) := c246
                  rewrite [(show (m216.1 19) = (m.1 19) from ((fr1 Fm216 19 rfl).trans ((fr1 Fm198 19 rfl).trans ((fr1 Fm183 19 rfl).trans (fr1 Fm105 19 rfl))))), (show (m216.1 20) = (m.1 20) from ((fr1 Fm216 20 rfl).trans ((fr1 Fm198 20 rfl).trans ((fr1 Fm183 20 rfl).trans (fr1 Fm105 20 rfl))))), (show (m216.1 21) = (m.1 21) from ((fr1 Fm216 21 rfl).trans ((fr1 Fm198 21 rfl).trans ((fr1 Fm183 21 rfl).trans (fr1 Fm105 21 rfl))))), (show (m216.1 22) = (m.1 22) from ((fr1 Fm216 22 rfl).trans ((fr1 Fm198 22 rfl).trans ((fr1 Fm183 22 rfl).trans (fr1 Fm105 22 rfl))))), (show (m216.1 25) = (m.1 25) from ((fr1 Fm216 25 rfl).trans ((fr1 Fm198 25 rfl).trans ((fr1 Fm183 25 rfl).trans (fr1 Fm105 25 rfl))))), (show (m216.1 26) = (m.1 26) from ((fr1 Fm216 26 rfl).trans ((fr1 Fm198 26 rfl).trans ((fr1 Fm183 26 rfl).trans (fr1 Fm105 26 rfl)))))] at c246
                  have pPN := c246
                  replace c247 : SOp (m230.2 38) (m230.1 23) (m216.1 24) := c247
                  rewrite [(show (m216.1 24) = (m.1 24) from ((fr1 Fm216 24 rfl).trans ((fr1 Fm198 24 rfl).trans ((fr1 Fm183 24 rfl).trans (fr1 Fm105 24 rfl)))))] at c247
                  have pSO := c247
                  replace c248 : x231 < (m230.1 23) := c248
                  have hRS := c248
                  replace c249 : (m216.1 23) ≤ (m230.1 23) := c249
                  rewrite [(show (m216.1 23) = (m.1 23) from ((fr1 Fm216 23 rfl).trans ((fr1 Fm198 23 rfl).trans ((fr1 Fm183 23 rfl).trans (fr1 Fm105 23 rfl)))))] at c249
                  clear c236
                  have u250 : (m.1 8) + 1 ≤ (m230.1 8) := by omega
                  clear g221 g222 g223 g224 g225 h217 u227 h233 c245
                  have G251 : ∀ j, (-2) ≤ (upI (m.2 45) ((8 * d) + ((m.2 42) d)) x231) j ∧ (upI (m.2 45) ((8 * d) + ((m.2 42) d)) x231) j ≤ 15 := upI_rg (hT.2.1 45) ⟨by omega, by omega⟩
                  refine T_iast (a' := [(45, upI (m.2 45) ((8 * d) + ((m.2 42) d)) x231)]) 117 45 (m.2 45) rfl rfl rfl (by omega) (show ((8 * d) + ((m.2 42) d)) < (128 : Int) by omega) (show (m230.2 45) = (m.2 45) from ((fr2 Fm230 45 rfl).trans ((fr2 Fm216 45 rfl).trans ((fr2 Fm198 45 rfl).trans ((fr2 Fm183 45 rfl).trans (fr2 Fm105 45 rfl)))))) rfl ?_
                  refine T_ld 118 (.ref 189) rfl (fun _ => rfl) ?_
                  refine T_ld 120 (.int (i32 59)) rfl (fun _ => rfl) ?_
                  refine T_call 123 232 [.ref 189, .int (i32 59)] [] rfl (fun _ => rfl) rfl (d_need w (mO m230 [] [(45, upI (m.2 45) ((8 * d) + ((m.2 42) d)) x231)]) c N D (by omega) (Ty_mO Tm230 rfl rfl trivial ⟨G251, trivial⟩) 59 ⟨by decide, by decide⟩ (show 1 ≤ (59 : Int) by omega) (show LxP (m230.1 7) (m230.1 8) (m230.1 9) (m230.1 6) (m230.1 10) by rewrite [(show (m230.1 6) = (m.1 6) from ((fr1 Fm230 6 rfl).trans ((fr1 Fm216 6 rfl).trans ((fr1 Fm198 6 rfl).trans ((fr1 Fm183 6 rfl).trans (fr1 Fm105 6 rfl))))))]; first | exact hLx | (intro h9; exfalso; omega) | (intro h9; have h8 := hLx (by omega); omega))) (fun rr252 k253 => ?_)
                  obtain ⟨m254, Tm254, Fm254, h255, h256, h257, h258, rfl⟩ := k253
                  refine ⟨_, _, rfl, ?_⟩
                  refine T_nb (st' := []) rfl ?_
                  have g259 : 0 ≤ m254.1 7 ∧ m254.1 7 ≤ 330 := Tm254.1 7
                  have g260 : 0 ≤ m254.1 8 ∧ m254.1 8 ≤ 4000 := Tm254.1 8
                  have g261 : 0 ≤ m254.1 9 ∧ m254.1 9 ≤ 4000 := Tm254.1 9
                  have g262 : 0 ≤ m254.1 10 ∧ m254.1 10 ≤ 8 := Tm254.1 10
                  have g263 : (-1) ≤ m254.1 11 ∧ m254.1 11 ≤ 4000 := Tm254.1 11
                  by_cases hf264 : (m254.1 10) = 0
                  · skip
                    replace h255 : LxP (m254.1 7) (m254.1 8) (m254.1 9) (m230.1 6) (m254.1 10) := h255
                    rewrite [(show (m230.1 6) = (m.1 6) from ((fr1 Fm230 6 rfl).trans ((fr1 Fm216 6 rfl).trans ((fr1 Fm198 6 rfl).trans ((fr1 Fm183 6 rfl).trans (fr1 Fm105 6 rfl))))))] at h255
                    have hLx := h255
                    replace h256 : (m230.1 10) = 0 ∧ (m230.1 7) = (59 : Int) := h256 hf264
                    replace h257 : (m230.1 8) ≤ (m254.1 8) := h257
                    replace h258 : (m230.1 8) + (m230.1 9) ≤ (m254.1 8) := h258 hf264
                    have u265 : (m.1 8) + 1 ≤ (m254.1 8) := by omega
                    clear g237 g238 g239 g240 g241 h234 u250 h256 h257 h258
                    have hlt : (m.2 42) d < 8 := by omega
                    refine T_gf 127 (.ref 212) rfl rfl rfl rfl rfl rfl ?_
                    refine T_ld 128 (.int (i32 d)) rfl (fun _ => rfl) ?_
                    refine T_dup2 129 rfl (fun _ => rfl) ?_
                    refine T_iald 130 42 (m.2 42) rfl rfl rfl (by omega) (show d < (16 : Int) by omega) (show (m254.2 42) = (m.2 42) from ((fr2 Fm254 42 rfl).trans ((fr2 Fm230 42 rfl).trans ((fr2 Fm216 42 rfl).trans ((fr2 Fm198 42 rfl).trans ((fr2 Fm183 42 rfl).trans (fr2 Fm105 42 rfl))))))) ?_
                    have e266 : 0 ≤ (m.2 42) d ∧ (m.2 42) d ≤ 8 := (hT.2.1 42) d
                    refine T_ld 131 (.int (i32 1)) rfl (fun _ => rfl) ?_
                    refine T_iadd 132 rfl rfl ?_
                    have G267 : ∀ j, 0 ≤ (upI (m.2 42) d (((m.2 42) d) + 1)) j ∧ (upI (m.2 42) d (((m.2 42) d) + 1)) j ≤ 8 := upI_rg (hT.2.1 42) ⟨by omega, by omega⟩
                    refine T_iast (a' := [(42, upI (m.2 42) d (((m.2 42) d) + 1))]) 133 42 (m.2 42) rfl rfl rfl (by omega) (show d < (16 : Int) by omega) (show (m254.2 42) = (m.2 42) from ((fr2 Fm254 42 rfl).trans ((fr2 Fm230 42 rfl).trans ((fr2 Fm216 42 rfl).trans ((fr2 Fm198 42 rfl).trans ((fr2 Fm183 42 rfl).trans (fr2 Fm105 42 rfl))))))) rfl ?_
                    have hCT2 : ∀ c, 8 * d ≤ c → c < 8 * d + (upI (m.2 42) d (((m.2 42) d) + 1)) d → (upI (m.2 45) ((8 * d) + ((m.2 42) d)) x231) c < (m230.1 23) := by
                      intro c c0 c1
                      rw [upI_s] at c1
                      by_cases e : c = 8 * d + (m.2 42) d
                      · subst e
                        rw [upI_s]
                        exact hRS
                      · rw [upI_n e]
                        have := hCT c c0 (by omega)
                        omega
                    refine T_ret rfl (fun _ => rfl) ?_
                    exact ⟨(mO m254 [] [(42, upI (m.2 42) d (((m.2 42) d) + 1))]), (Ty_mO Tm254 rfl rfl trivial ⟨G267, trivial⟩), (fr_m (fr_s Fm254 (fr_m (fr_s Fm230 (fr_m (fr_s Fm216 (fr_m (fr_s Fm198 (fr_m (fr_s Fm183 (fr_m (fr_s Fm105 (fr_m fr_0 rfl rfl) rfl rfl) rfl rfl) rfl rfl) rfl rfl) rfl rfl) rfl rfl) rfl rfl) rfl rfl) rfl rfl) rfl rfl) rfl rfl) rfl rfl), (show (m254.1 10) = 0 → (m.1 10) = 0 by omega), (show LxP (m254.1 7) (m254.1 8) (m254.1 9) (m.1 6) (m254.1 10) by first | (first | exact hLx | exact (fun _ => hLx (by omega)) | (intro h9; exfalso; omega)) | (exfalso; omega)), (show ∀ k, (m254.2 14) k + (m254.2 15) k ≤ 4000 by rewrite [(show (m254.2 14) = (m230.2 14) from (fr2 Fm254 14 rfl)), (show (m254.2 15) = (m230.2 15) from (fr2 Fm254 15 rfl))]; first | (first | exact hNM | (intro k; rw [hE1, hE2]; have := hNM k; have h7 := hLx0 hf0; unfold upI; split <;> omega)) | (exfalso; omega)), (fun _ => ⟨(show (m.1 8) + 1 ≤ (m254.1 8) by omega), (show PN (m254.1 13) (m.1 19) (m.1 20) (m.1 21) (m.1 22) (m254.1 23) (m.1 25) (m.1 26) (m254.2 16) (m254.2 17) by rewrite [(show (m254.1 13) = (m230.1 13) from (fr1 Fm254 13 rfl)), (show (m254.1 23) = (m230.1 23) from (fr1 Fm254 23 rfl)), (show (m254.2 16) = (m230.2 16) from (fr2 Fm254 16 rfl)), (show (m254.2 17) = (m230.2 17) from (fr2 Fm254 17 rfl))]; first | (exact pPN) | (exfalso; omega)), (show SOp (m254.2 38) (m254.1 23) (m.1 24) by rewrite [(show (m254.2 38) = (m230.2 38) from (fr2 Fm254 38 rfl)), (show (m254.1 23) = (m230.1 23) from (fr1 Fm254 23 rfl))]; first | (exact pSO) | (exfalso; omega)), (show ∀ c, 8 * d ≤ c → c < 8 * d + (upI (m.2 42) d (((m.2 42) d) + 1)) d → (m254.2 45) c < (m254.1 23) by rewrite [(show (m254.2 45) = (upI (m.2 45) ((8 * d) + ((m.2 42) d)) x231) from (fr2 Fm254 45 rfl)), (show (m254.1 23) = (m230.1 23) from (fr1 Fm254 23 rfl))]; first | (exact hCT2) | (exfalso; omega)), (show (m.1 23) ≤ (m254.1 23) by rewrite [(show (m254.1 23) = (m230.1 23) from (fr1 Fm254 23 rfl))]; omega), (show agr (m.2 42) (upI (m.2 42) d (((m.2 42) d) + 1)) d by first | (exact agr_u (Int.le_refl _)) | (exfalso; omega)), (show agr (m.2 45) (m254.2 45) (8 * d) by rewrite [(show (m254.2 45) = (upI (m.2 45) ((8 * d) + ((m.2 42) d)) x231) from (fr2 Fm254 45 rfl))]; first | (exact agr_u (by omega)) | (exfalso; omega))⟩), rfl⟩
                  · skip
                    replace h255 : LxP (m254.1 7) (m254.1 8) (m254.1 9) (m230.1 6) (m254.1 10) := h255
                    rewrite [(show (m230.1 6) = (m.1 6) from ((fr1 Fm230 6 rfl).trans ((fr1 Fm216 6 rfl).trans ((fr1 Fm198 6 rfl).trans ((fr1 Fm183 6 rfl).trans (fr1 Fm105 6 rfl))))))] at h255
                    have hLx := h255
                    clear h256
                    replace h257 : (m230.1 8) ≤ (m254.1 8) := h257
                    clear h258
                    have hf268 : 1 ≤ (m254.1 10) := by omega
                    clear g237 g238 g239 g240 g241 h234 u250 h257
                    refine Tm_lv (a := [(0, .ref 189), (1, .int (i32 d)), (2, .int (i32 ((8 * d) + ((m.2 42) d))))]) rfl rfl ⟨rfl, rfl, rfl, trivial⟩ ?_
                    exact J123_12 (mO m254 [] []) Tm254 (fr_m (fr_s Fm254 (fr_m (fr_s Fm230 (fr_m (fr_s Fm216 (fr_m (fr_s Fm198 (fr_m (fr_s Fm183 (fr_m (fr_s Fm105 (fr_m fr_0 rfl rfl) rfl rfl) rfl rfl) rfl rfl) rfl rfl) rfl rfl) rfl rfl) rfl rfl) rfl rfl) rfl rfl) rfl rfl) rfl rfl) rfl rfl) (show ∀ k, (m254.2 14) k + (m254.2 15) k ≤ 4000 by rewrite [(show (m254.2 14) = (m230.2 14) from (fr2 Fm254 14 rfl)), (show (m254.2 15) = (m230.2 15) from (fr2 Fm254 15 rfl))]; first | exact hNM) (show (m.2 42) d ≤ 7 by omega) (show 0 ≤ ((8 * d) + ((m.2 42) d)) ∧ ((8 * d) + ((m.2 42) d)) ≤ 127 by omega) (show 1 ≤ (m254.1 10) by omega)
                · skip
                  clear c236
                  clear h233
                  replace h234 : LxP (m230.1 7) (m230.1 8) (m230.1 9) (m216.1 6) (m230.1 10) := h234
                  rewrite [(show (m216.1 6) = (m.1 6) from ((fr1 Fm216 6 rfl).trans ((fr1 Fm198 6 rfl).trans ((fr1 Fm183 6 rfl).trans (fr1 Fm105 6 rfl)))))] at h234
                  have hLx := h234
                  replace h235 : ∀ k, (m230.2 14) k + (m230.2 15) k ≤ 4000 := h235
                  have hNM := h235
                  have hf269 : 1 ≤ (m230.1 10) := by omega
                  clear g221 g222 g223 g224 g225 h217 u227
                  refine Tm_lv (a := [(0, .ref 189), (1, .int (i32 d)), (2, .int (i32 ((8 * d) + ((m.2 42) d))))]) rfl rfl ⟨rfl, rfl, rfl, trivial⟩ ?_
                  exact J116_23 x231 (mO m230 [] []) (r32 (by omega) (by omega)) Tm230 (fr_m (fr_s Fm230 (fr_m (fr_s Fm216 (fr_m (fr_s Fm198 (fr_m (fr_s Fm183 (fr_m (fr_s Fm105 (fr_m fr_0 rfl rfl) rfl rfl) rfl rfl) rfl rfl) rfl rfl) rfl rfl) rfl rfl) rfl rfl) rfl rfl) rfl rfl) rfl rfl) (show (-2) ≤ x231 by omega) (show x231 ≤ 15 by omega) (show ∀ k, (m230.2 14) k + (m230.2 15) k ≤ 4000 by first | exact hNM) (show (m.2 42) d ≤ 7 by omega) (show 0 ≤ ((8 * d) + ((m.2 42) d)) ∧ ((8 * d) + ((m.2 42) d)) ≤ 127 by omega) (show 0 ≤ (8 * d) + ((m.2 42) d) ∧ (8 * d) + ((m.2 42) d) ≤ 127 by omega) (show 1 ≤ (m230.1 10) by omega)
              · skip
                replace h217 : LxP (m216.1 7) (m216.1 8) (m216.1 9) (m198.1 6) (m216.1 10) := h217
                rewrite [(show (m198.1 6) = (m.1 6) from ((fr1 Fm198 6 rfl).trans ((fr1 Fm183 6 rfl).trans (fr1 Fm105 6 rfl))))] at h217
                have hLx := h217
                clear h218
                replace h219 : (m198.1 8) ≤ (m216.1 8) := h219
                clear h220
                have hf270 : 1 ≤ (m216.1 10) := by omega
                clear g204 g205 g206 g207 g208 h202 u212 h219
                refine Tm_lv (a := [(0, .ref 189), (1, .int (i32 d)), (2, .int (i32 ((8 * d) + ((m.2 42) d))))]) rfl rfl ⟨rfl, rfl, rfl, trivial⟩ ?_
                exact J107_49 (mO m216 [] []) Tm216 (fr_m (fr_s Fm216 (fr_m (fr_s Fm198 (fr_m (fr_s Fm183 (fr_m (fr_s Fm105 (fr_m fr_0 rfl rfl) rfl rfl) rfl rfl) rfl rfl) rfl rfl) rfl rfl) rfl rfl) rfl rfl) rfl rfl) (show ∀ k, (m.2 14) k + (m.2 15) k ≤ 4000 by first | exact hNM) (show (m.2 42) d ≤ 7 by omega) (show 0 ≤ ((8 * d) + ((m.2 42) d)) ∧ ((8 * d) + ((m.2 42) d)) ≤ 127 by omega) (show 1 ≤ (m216.1 10) by omega)
            · skip
              clear c203
              clear h201
              replace h202 : LxP (m198.1 7) (m198.1 8) (m198.1 9) (m183.1 6) (m198.1 10) := h202
              rewrite [(show (m183.1 6) = (m.1 6) from ((fr1 Fm183 6 rfl).trans (fr1 Fm105 6 rfl)))] at h202
              have hLx := h202
              have hf271 : 1 ≤ (m198.1 10) := by omega
              clear g188 g189 g190 g191 g192 h184 u194
              refine Tm_lv (a := [(0, .ref 189), (1, .int (i32 d)), (2, .int (i32 ((8 * d) + ((m.2 42) d))))]) rfl rfl ⟨rfl, rfl, rfl, trivial⟩ ?_
              exact J100_75 x199 (mO m198 [] []) (r64 (by omega) (by omega)) Tm198 (fr_m (fr_s Fm198 (fr_m (fr_s Fm183 (fr_m (fr_s Fm105 (fr_m fr_0 rfl rfl) rfl rfl) rfl rfl) rfl rfl) rfl rfl) rfl rfl) rfl rfl) (show ∀ k, (m.2 14) k + (m.2 15) k ≤ 4000 by first | exact hNM) (show (m.2 42) d ≤ 7 by omega) (show 0 ≤ ((8 * d) + ((m.2 42) d)) ∧ ((8 * d) + ((m.2 42) d)) ≤ 127 by omega) (show 0 ≤ (8 * d) + ((m.2 42) d) ∧ (8 * d) + ((m.2 42) d) ≤ 127 by omega) (show 1 ≤ (m198.1 10) by omega)
          · skip
            replace h184 : LxP (m183.1 7) (m183.1 8) (m183.1 9) (m105.1 6) (m183.1 10) := h184
            rewrite [(show (m105.1 6) = (m.1 6) from (fr1 Fm105 6 rfl))] at h184
            have hLx := h184
            clear h185
            replace h186 : (m105.1 8) ≤ (m183.1 8) := h186
            clear h187
            have hf272 : 1 ≤ (m183.1 10) := by omega
            clear g111 g112 g113 g114 g115 h109 c117 u119 h122 h123 h186
            refine T_gf 89 (.ref 260) rfl rfl rfl rfl rfl rfl ?_
            refine T_ld 90 (.int (i32 ((8 * d) + ((m.2 42) d)))) rfl (fun _ => rfl) ?_
            refine T_ld 91 (.ref 189) rfl (fun _ => rfl) ?_
            refine T_gf 95 (.ref 213) rfl rfl rfl rfl rfl rfl ?_
            refine T_ld 96 (.int (i32 d)) rfl (fun _ => rfl) ?_
            refine T_iald 97 43 (m.2 43) rfl rfl rfl (by omega) (show d < (16 : Int) by omega) (show (m183.2 43) = (m.2 43) from ((fr2 Fm183 43 rfl).trans (fr2 Fm105 43 rfl))) ?_
            have e273 : 0 ≤ m.2 43 d ∧ m.2 43 d ≤ 1024 := hT.2.1 43 d
            refine T_call 100 266 [.ref 189, .int (i32 ((m.2 43) d))] [.int (i32 ((8 * d) + ((m.2 42) d))), .ref 260] rfl (fun _ => rfl) rfl (c_caseNumber w (mO m183 [] []) c N D (by omega) Tm183 ((m.2 43) d) (r32 (by omega) (by omega)) (show LxP (m183.1 7) (m183.1 8) (m183.1 9) (m183.1 6) (m183.1 10) by rewrite [(show (m183.1 6) = (m.1 6) from ((fr1 Fm183 6 rfl).trans (fr1 Fm105 6 rfl)))]; first | exact hLx | exact (fun _ => hLx (by omega)) | (intro h9; exfalso; omega)) (fun (h : (m183.1 10) = 0) => absurd h (by omega))) (fun rr274 k275 => ?_)
            obtain ⟨m276, x277, Tm276, Fm276, g278, h279, h280, c281, rfl⟩ := k275
            refine ⟨_, _, rfl, ?_⟩
            refine T_nb (st' := [.long (i64 x277), .int (i32 ((8 * d) + ((m.2 42) d))), .ref 260]) rfl ?_
            obtain ⟨g278a, g278b⟩ := g278
            have g282 : 0 ≤ m276.1 7 ∧ m276.1 7 ≤ 330 := Tm276.1 7
            have g283 : 0 ≤ m276.1 8 ∧ m276.1 8 ≤ 4000 := Tm276.1 8
            have g284 : 0 ≤ m276.1 9 ∧ m276.1 9 ≤ 4000 := Tm276.1 9
            have g285 : 0 ≤ m276.1 10 ∧ m276.1 10 ≤ 8 := Tm276.1 10
            have g286 : (-1) ≤ m276.1 11 ∧ m276.1 11 ≤ 4000 := Tm276.1 11
            replace h279 : (m276.1 10) = 0 → (m183.1 10) = 0 := h279
            replace h280 : LxP (m276.1 7) (m276.1 8) (m276.1 9) (m183.1 6) (m276.1 10) := h280
            rewrite [(show (m183.1 6) = (m.1 6) from ((fr1 Fm183 6 rfl).trans (fr1 Fm105 6 rfl)))] at h280
            have hf287 : 1 ≤ (m276.1 10) := by omega
            clear c281
            clear h279
            have hLx := h280
            clear g188 g189 g190 g191 g192 h184 hf272
            refine Tm_lv (a := [(0, .ref 189), (1, .int (i32 d)), (2, .int (i32 ((8 * d) + ((m.2 42) d))))]) rfl rfl ⟨rfl, rfl, rfl, trivial⟩ ?_
            exact J100_75 x277 (mO m276 [] []) (r64 (by omega) (by omega)) Tm276 (fr_m (fr_s Fm276 (fr_m (fr_s Fm183 (fr_m (fr_s Fm105 (fr_m fr_0 rfl rfl) rfl rfl) rfl rfl) rfl rfl) rfl rfl) rfl rfl) rfl rfl) (show ∀ k, (m.2 14) k + (m.2 15) k ≤ 4000 by first | exact hNM) (show (m.2 42) d ≤ 7 by omega) (show 0 ≤ ((8 * d) + ((m.2 42) d)) ∧ ((8 * d) + ((m.2 42) d)) ≤ 127 by omega) (show 0 ≤ (8 * d) + ((m.2 42) d) ∧ (8 * d) + ((m.2 42) d) ≤ 127 by omega) (show 1 ≤ (m276.1 10) by omega)
      · skip
        clear c110
        clear h108
        replace h109 : LxP (m105.1 7) (m105.1 8) (m105.1 9) (m.1 6) (m105.1 10) := h109
        have hLx := h109
        have hf288 : 1 ≤ (m105.1 10) := by omega
        have G289 : ∀ j, (-9223372036854775808) ≤ (upI (m.2 97) ((8 * d) + ((m.2 42) d)) x106) j ∧ (upI (m.2 97) ((8 * d) + ((m.2 42) d)) x106) j ≤ 9223372036854775807 := upI_rg (hT.2.1 97) ⟨by omega, by omega⟩
        refine T_last (a' := [(97, upI (m.2 97) ((8 * d) + ((m.2 42) d)) x106)]) 56 97 (m.2 97) rfl rfl rfl (by omega) (show ((8 * d) + ((m.2 42) d)) < (128 : Int) by omega) (show (m105.2 97) = (m.2 97) from (fr2 Fm105 97 rfl)) rfl ?_
        refine T_gf 60 (.ref 260) rfl rfl rfl rfl rfl rfl ?_
        refine T_ld 61 (.int (i32 ((8 * d) + ((m.2 42) d)))) rfl (fun _ => rfl) ?_
        refine T_ld 64 (.long (i64 (-1))) rfl (fun _ => rfl) ?_
        have G290 : ∀ j, (-9223372036854775808) ≤ (upI (m.2 98) ((8 * d) + ((m.2 42) d)) (-1)) j ∧ (upI (m.2 98) ((8 * d) + ((m.2 42) d)) (-1)) j ≤ 9223372036854775807 := upI_rg (hT.2.1 98) ⟨by omega, by omega⟩
        refine T_last (a' := [(97, upI (m.2 97) ((8 * d) + ((m.2 42) d)) x106), (98, upI (m.2 98) ((8 * d) + ((m.2 42) d)) (-1))]) 65 98 (m.2 98) rfl rfl rfl (by omega) (show ((8 * d) + ((m.2 42) d)) < (128 : Int) by omega) (show (m105.2 98) = (m.2 98) from (fr2 Fm105 98 rfl)) rfl ?_
        refine T_gf 69 (.int (i32 (m105.1 10))) rfl rfl rfl rfl rfl rfl ?_
        refine T_if 101 72 rfl rfl rfl (r32 (by omega) (by omega)) (fun (h291 : (m105.1 10) ≠ 0) => ?_) (fun (h291 : ¬ ((m105.1 10) ≠ 0)) => by exfalso; omega)
        refine T_ld 102 (.ref 189) rfl (fun _ => rfl) ?_
        refine T_ld 104 (.int (i32 58)) rfl (fun _ => rfl) ?_
        refine T_call 107 232 [.ref 189, .int (i32 58)] [] rfl (fun _ => rfl) rfl (d_need w (mO m105 [] [(97, upI (m.2 97) ((8 * d) + ((m.2 42) d)) x106), (98, upI (m.2 98) ((8 * d) + ((m.2 42) d)) (-1))]) c N D (by omega) (Ty_mO Tm105 rfl rfl trivial ⟨G289, G290, trivial⟩) 58 ⟨by decide, by decide⟩ (show 1 ≤ (58 : Int) by omega) (show LxP (m105.1 7) (m105.1 8) (m105.1 9) (m105.1 6) (m105.1 10) by rewrite [(show (m105.1 6) = (m.1 6) from (fr1 Fm105 6 rfl))]; first | exact hLx | (intro h9; exfalso; omega) | (intro h9; have h8 := hLx (by omega); omega))) (fun rr292 k293 => ?_)
        obtain ⟨m294, Tm294, Fm294, h295, h296, h297, h298, rfl⟩ := k293
        refine ⟨_, _, rfl, ?_⟩
        refine T_nb (st' := []) rfl ?_
        have g299 : 0 ≤ m294.1 7 ∧ m294.1 7 ≤ 330 := Tm294.1 7
        have g300 : 0 ≤ m294.1 8 ∧ m294.1 8 ≤ 4000 := Tm294.1 8
        have g301 : 0 ≤ m294.1 9 ∧ m294.1 9 ≤ 4000 := Tm294.1 9
        have g302 : 0 ≤ m294.1 10 ∧ m294.1 10 ≤ 8 := Tm294.1 10
        have g303 : (-1) ≤ m294.1 11 ∧ m294.1 11 ≤ 4000 := Tm294.1 11
        replace h295 : LxP (m294.1 7) (m294.1 8) (m294.1 9) (m105.1 6) (m294.1 10) := h295
        rewrite [(show (m105.1 6) = (m.1 6) from (fr1 Fm105 6 rfl))] at h295
        replace h296 : (m294.1 10) = 0 → (m105.1 10) = 0 ∧ (m105.1 7) = (58 : Int) := h296
        replace h297 : (m105.1 8) ≤ (m294.1 8) := h297
        replace h298 : (m294.1 10) = 0 → (m105.1 8) + (m105.1 9) ≤ (m294.1 8) := h298
        have hf304 : 1 ≤ (m294.1 10) := by omega
        clear h296
        clear h298
        have hLx := h295
        clear g111 g112 g113 g114 g115 h109 hf288 h291 h297
        refine Tm_lv (a := [(0, .ref 189), (1, .int (i32 d)), (2, .int (i32 ((8 * d) + ((m.2 42) d))))]) rfl rfl ⟨rfl, rfl, rfl, trivial⟩ ?_
        exact J107_49 (mO m294 [] []) Tm294 (fr_m (fr_s Fm294 (fr_m (fr_s Fm105 (fr_m fr_0 rfl rfl) rfl rfl) rfl rfl) rfl rfl) rfl rfl) (show ∀ k, (m.2 14) k + (m.2 15) k ≤ 4000 by first | exact hNM) (show (m.2 42) d ≤ 7 by omega) (show 0 ≤ ((8 * d) + ((m.2 42) d)) ∧ ((8 * d) + ((m.2 42) d)) ≤ 127 by omega) (show 1 ≤ (m294.1 10) by omega)
    · skip
      refine T_ld 12 (.ref 189) rfl (fun _ => rfl) ?_
      refine T_ld 13 (.int (i32 4)) rfl (fun _ => rfl) ?_
      refine T_gf 17 (.int (i32 (m.1 8))) rfl rfl rfl rfl rfl rfl ?_
      refine T_call 20 222 [.ref 189, .int (i32 4), .int (i32 (m.1 8))] [] rfl (fun _ => rfl) rfl (d_wrong w (mO m [] []) c N D (by omega) hT 4 (m.1 8) ⟨by decide, by decide⟩ (r32 (by omega) (by omega)) (show 1 ≤ (4 : Int) ∧ (4 : Int) ≤ 8 by omega) (show 0 ≤ (m.1 8) ∧ (m.1 8) ≤ 4000 by omega)) (fun rr305 k306 => ?_)
      obtain ⟨m307, Tm307, Fm307, h308, rfl⟩ := k306
      refine ⟨_, _, rfl, ?_⟩
      refine T_nb (st' := []) rfl ?_
      have g309 : 0 ≤ m307.1 10 ∧ m307.1 10 ≤ 8 := Tm307.1 10
      have g310 : (-1) ≤ m307.1 11 ∧ m307.1 11 ≤ 4000 := Tm307.1 11
      replace h308 : (0 < (m.1 10) → (m307.1 10) = (m.1 10) ∧ (m307.1 11) = (m.1 11)) ∧ ((m.1 10) ≤ 0 → (m307.1 10) = (4 : Int) ∧ (m307.1 11) = (m.1 8)) := h308
      have hf311 : 1 ≤ (m307.1 10) := by omega
      refine T_gf 24 (.int (i32 (m307.1 10))) rfl rfl rfl rfl rfl rfl ?_
      refine T_if 28 27 rfl rfl rfl (r32 (by omega) (by omega)) (fun (h312 : (m307.1 10) ≤ 0) => by exfalso; omega) (fun (h312 : ¬ ((m307.1 10) ≤ 0)) => ?_)
      refine T_ret rfl (fun _ => rfl) ?_
      exact ⟨(mO m307 [] []), Tm307, (fr_m (fr_s Fm307 (fr_m fr_0 rfl rfl) rfl rfl) rfl rfl), (show (m307.1 10) = 0 → (m.1 10) = 0 by omega), (show LxP (m307.1 7) (m307.1 8) (m307.1 9) (m.1 6) (m307.1 10) by rewrite [(show (m307.1 7) = (m.1 7) from (fr1 Fm307 7 rfl)), (show (m307.1 8) = (m.1 8) from (fr1 Fm307 8 rfl)), (show (m307.1 9) = (m.1 9) from (fr1 Fm307 9 rfl))]; first | (first | exact hLx | exact (fun _ => hLx (by omega)) | (intro h9; exfalso; omega)) | (exfalso; omega)), (show ∀ k, (m307.2 14) k + (m307.2 15) k ≤ 4000 by rewrite [(show (m307.2 14) = (m.2 14) from (fr2 Fm307 14 rfl)), (show (m307.2 15) = (m.2 15) from (fr2 Fm307 15 rfl))]; first | (first | exact hNM | (intro k; rw [hE1, hE2]; have := hNM k; have h7 := hLx0 hf0; unfold upI; split <;> omega)) | (exfalso; omega)), (fun (h : (m307.1 10) = 0) => absurd h (by omega)), rfl⟩
  · skip
    clear hC
    refine T_gf 4 (.ref 212) rfl rfl rfl rfl rfl rfl ?_
    refine T_ld 5 (.int (i32 d)) rfl (fun _ => rfl) ?_
    refine T_iald 6 42 (m.2 42) rfl rfl rfl (by omega) (show d < (16 : Int) by omega) rfl ?_
    have e313 : 0 ≤ (m.2 42) d ∧ (m.2 42) d ≤ 8 := (hT.2.1 42) d
    refine T_ld 8 (.int (i32 8)) rfl (fun _ => rfl) ?_
    refine T_icmp 20 11 rfl rfl rfl (r32 (by omega) (by omega)) ⟨by decide, by decide⟩ (fun (h314 : (m.2 42) d ≠ 8) => ?_) (fun (h314 : ¬ ((m.2 42) d ≠ 8)) => ?_)
    · skip
      refine T_gf 24 (.int (i32 (m.1 10))) rfl rfl rfl rfl rfl rfl ?_
      refine T_if 28 27 rfl rfl rfl (r32 (by omega) (by omega)) (fun (h315 : (m.1 10) ≤ 0) => by exfalso; omega) (fun (h315 : ¬ ((m.1 10) ≤ 0)) => ?_)
      refine T_ret rfl (fun _ => rfl) ?_
      exact ⟨(mO m [] []), hT, (fr_m fr_0 rfl rfl), (show (m.1 10) = 0 → (m.1 10) = 0 by omega), (show LxP (m.1 7) (m.1 8) (m.1 9) (m.1 6) (m.1 10) by first | (first | exact hLx | exact (fun _ => hLx (by omega)) | (intro h9; exfalso; omega)) | (exfalso; omega)), (show ∀ k, (m.2 14) k + (m.2 15) k ≤ 4000 by first | (first | exact hNM | (intro k; rw [hE1, hE2]; have := hNM k; have h7 := hLx0 hf0; unfold upI; split <;> omega)) | (exfalso; omega)), (fun (h : (m.1 10) = 0) => absurd h (by omega)), rfl⟩
    · skip
      refine T_ld 12 (.ref 189) rfl (fun _ => rfl) ?_
      refine T_ld 13 (.int (i32 4)) rfl (fun _ => rfl) ?_
      refine T_gf 17 (.int (i32 (m.1 8))) rfl rfl rfl rfl rfl rfl ?_
      refine T_call 20 222 [.ref 189, .int (i32 4), .int (i32 (m.1 8))] [] rfl (fun _ => rfl) rfl (d_wrong w (mO m [] []) c N D (by omega) hT 4 (m.1 8) ⟨by decide, by decide⟩ (r32 (by omega) (by omega)) (show 1 ≤ (4 : Int) ∧ (4 : Int) ≤ 8 by omega) (show 0 ≤ (m.1 8) ∧ (m.1 8) ≤ 4000 by omega)) (fun rr316 k317 => ?_)
      obtain ⟨m318, Tm318, Fm318, h319, rfl⟩ := k317
      refine ⟨_, _, rfl, ?_⟩
      refine T_nb (st' := []) rfl ?_
      have g320 : 0 ≤ m318.1 10 ∧ m318.1 10 ≤ 8 := Tm318.1 10
      have g321 : (-1) ≤ m318.1 11 ∧ m318.1 11 ≤ 4000 := Tm318.1 11
      replace h319 : (0 < (m.1 10) → (m318.1 10) = (m.1 10) ∧ (m318.1 11) = (m.1 11)) ∧ ((m.1 10) ≤ 0 → (m318.1 10) = (4 : Int) ∧ (m318.1 11) = (m.1 8)) := h319
      have hf322 : 1 ≤ (m318.1 10) := by omega
      refine T_gf 24 (.int (i32 (m318.1 10))) rfl rfl rfl rfl rfl rfl ?_
      refine T_if 28 27 rfl rfl rfl (r32 (by omega) (by omega)) (fun (h323 : (m318.1 10) ≤ 0) => by exfalso; omega) (fun (h323 : ¬ ((m318.1 10) ≤ 0)) => ?_)
      refine T_ret rfl (fun _ => rfl) ?_
      exact ⟨(mO m318 [] []), Tm318, (fr_m (fr_s Fm318 (fr_m fr_0 rfl rfl) rfl rfl) rfl rfl), (show (m318.1 10) = 0 → (m.1 10) = 0 by omega), (show LxP (m318.1 7) (m318.1 8) (m318.1 9) (m.1 6) (m318.1 10) by rewrite [(show (m318.1 7) = (m.1 7) from (fr1 Fm318 7 rfl)), (show (m318.1 8) = (m.1 8) from (fr1 Fm318 8 rfl)), (show (m318.1 9) = (m.1 9) from (fr1 Fm318 9 rfl))]; first | (first | exact hLx | exact (fun _ => hLx (by omega)) | (intro h9; exfalso; omega)) | (exfalso; omega)), (show ∀ k, (m318.2 14) k + (m318.2 15) k ≤ 4000 by rewrite [(show (m318.2 14) = (m.2 14) from (fr2 Fm318 14 rfl)), (show (m318.2 15) = (m.2 15) from (fr2 Fm318 15 rfl))]; first | (first | exact hNM | (intro k; rw [hE1, hE2]; have := hNM k; have h7 := hLx0 hf0; unfold upI; split <;> omega)) | (exfalso; omega)), (fun (h : (m318.1 10) = 0) => absurd h (by omega)), rfl⟩
