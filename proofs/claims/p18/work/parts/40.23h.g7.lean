def fF_stateHere : List Nat := [7, 8, 9, 10, 11, 12, 13, 23]
def fA_stateHere : List Nat := [14, 15, 16, 17, 37, 38]
def Q_stateHere (m : mR) (c : Nat → Option am_C) (N : Nat) : ag_Re af_T → Prop := fun R => ∃ (M : mR) (r : Int), Ty M ∧ fr fF_stateHere fA_stateHere m M ∧ ((-2) ≤ r ∧ r ≤ 15) ∧ ((M.1 10) = 0 → (m.1 10) = 0) ∧ (LxP (M.1 7) (M.1 8) (M.1 9) (m.1 6) (M.1 10)) ∧ (∀ k, (M.2 14) k + (M.2 15) k ≤ 4000) ∧ (M.1 10 = 0 → ((m.1 8) + 1 ≤ (M.1 8)) ∧ (PN (M.1 13) (m.1 19) (m.1 20) (m.1 21) (m.1 22) (M.1 23) (m.1 25) (m.1 26) (M.2 16) (M.2 17)) ∧ (SOp (M.2 38) (M.1 23) (m.1 24)) ∧ (r < (M.1 23)) ∧ ((m.1 23) ≤ (M.1 23))) ∧ R = (.inl (some (.int (i32 r))), (mhp M c, N), 0, 0)
set_option maxHeartbeats 3000000 in
theorem c_stateHere (w : wX) (m : mR) (c : Nat → Option am_C) (N D : Nat) (hD : 6 ≤ D) (hT : Ty m) (hLx0 : LxP (m.1 7) (m.1 8) (m.1 9) (m.1 6) (m.1 10)) (hNM0 : ∀ k, (m.2 14) k + (m.2 15) k ≤ 4000) (hC : m.1 10 = 0 → (PN (m.1 13) (m.1 19) (m.1 20) (m.1 21) (m.1 22) (m.1 23) (m.1 25) (m.1 26) (m.2 16) (m.2 17)) ∧ (SOp (m.2 38) (m.1 23) (m.1 24))) : TC w D 242 [.ref 189] (mhp m c, N) (Q_stateHere m c N) := by
  obtain ⟨D, rfl⟩ : ∃ k, D = k + 1 := ⟨D - 1, by omega⟩
  have hLx := hLx0
  have hNM := hNM0
  have f7 : 0 ≤ m.1 7 ∧ m.1 7 ≤ 330 := hT.1 7
  have f8 : 0 ≤ m.1 8 ∧ m.1 8 ≤ 4000 := hT.1 8
  have f9 : 0 ≤ m.1 9 ∧ m.1 9 ≤ 4000 := hT.1 9
  have f10 : 0 ≤ m.1 10 ∧ m.1 10 ≤ 8 := hT.1 10
  have f11 : (-1) ≤ m.1 11 ∧ m.1 11 ≤ 4000 := hT.1 11
  have f13 : 0 ≤ m.1 13 ∧ m.1 13 ≤ 120 := hT.1 13
  have f23 : 0 ≤ m.1 23 ∧ m.1 23 ≤ 16 := hT.1 23
  have f25 : 0 ≤ m.1 25 ∧ m.1 25 ≤ 16 := hT.1 25
  have f22 : 0 ≤ m.1 22 ∧ m.1 22 ≤ 8 := hT.1 22
  have f24 : 0 ≤ m.1 24 ∧ m.1 24 ≤ 16 := hT.1 24
  have f19 : 0 ≤ m.1 19 ∧ m.1 19 ≤ 12 := hT.1 19
  have f20 : 0 ≤ m.1 20 ∧ m.1 20 ≤ 12 := hT.1 20
  have f21 : 0 ≤ m.1 21 ∧ m.1 21 ≤ 16 := hT.1 21
  have f6 : 0 ≤ m.1 6 ∧ m.1 6 ≤ 4000 := hT.1 6
  have f26 : 0 ≤ m.1 26 ∧ m.1 26 ≤ 8 := hT.1 26
  refine Tc_of rfl ?_
  show TT w D pm_242 (0, [(0, .ref 189)], [], (mhp (mO m [] []) c, N), 0, 0) (Q_stateHere m c N)
  by_cases hf0 : m.1 10 = 0
  · skip
    obtain ⟨pPN, pSO⟩ := hC hf0
    have hn := pPN.1
    have hNM := hNM0
    refine T_gf 4 (.int (i32 (m.1 10))) rfl rfl rfl rfl rfl rfl ?_
    refine T_if 9 7 rfl rfl rfl (r32 (by omega) (by omega)) (fun (h11 : (m.1 10) ≤ 0) => ?_) (fun (h11 : ¬ ((m.1 10) ≤ 0)) => by exfalso; omega)
    refine T_gf 13 (.int (i32 (m.1 7))) rfl rfl rfl rfl rfl rfl ?_
    refine T_ld 14 (.int (i32 1)) rfl (fun _ => rfl) ?_
    refine T_icmp 23 17 rfl rfl rfl (r32 (by omega) (by omega)) ⟨by decide, by decide⟩ (fun (h12 : (m.1 7) = 1) => ?_) (fun (h12 : ¬ ((m.1 7) = 1)) => ?_)
    · skip
      have h7 := hLx (by omega)
      refine T_ld 24 (.ref 189) rfl (fun _ => rfl) ?_
      refine T_call 27 227 [.ref 189] [] rfl (fun _ => rfl) rfl (d_sortHere w (mO m [] []) c N D (by omega) hT (show 1 ≤ (m.1 9) ∧ (m.1 8) + (m.1 9) ≤ (m.1 6) by first | omega | (have h8 := hLx (by omega); omega)) (show ∀ k, (m.2 14) k + (m.2 15) k ≤ 4000 by first | exact hNM | exact p1)) (fun rr13 k14 => ?_)
      obtain ⟨so, g15, h16, h17, rfl⟩ := k14
      refine ⟨_, _, rfl, ?_⟩
      refine T_ns (st' := [.int (i32 so)]) rfl ?_
      obtain ⟨g15a, g15b⟩ := g15
      replace h16 : ∃ g k, isGH (m.2 4) (m.1 8) (m.1 9) g ∧ (g < 0 → isFH (m.2 4) (m.2 14) (m.2 15) (m.1 8) (m.1 9) (m.1 13) k) ∧ so = sortV (m.2 16) g k := h16
      have hSo := h16
      replace h17 : -1 ≤ so ∧ so ≤ 7 := h17
      have u18 : (m.1 8) ≤ (m.1 8) := by omega
      refine T_sto 28 [(1, .int (i32 so)), (0, .ref 189)] rfl (fun _ => rfl) ?_
      refine T_ld 29 (.int (i32 so)) rfl (fun _ => rfl) ?_
      refine T_ld 30 (.int (i32 5)) rfl (fun _ => rfl) ?_
      refine T_icmp 44 33 rfl rfl rfl (r32 (by omega) (by omega)) ⟨by decide, by decide⟩ (fun (h19 : so ≠ 5) => ?_) (fun (h19 : ¬ (so ≠ 5)) => ?_)
      · skip
        refine T_ld 45 (.int (i32 so)) rfl (fun _ => rfl) ?_
        refine T_ld 46 (.int (i32 (-1))) rfl (fun _ => rfl) ?_
        refine T_icmp 62 49 rfl rfl rfl (r32 (by omega) (by omega)) ⟨by decide, by decide⟩ (fun (h20 : so = (-1)) => ?_) (fun (h20 : ¬ (so = (-1))) => ?_)
        · skip
          refine T_gf 66 (.int (i32 (m.1 23))) rfl rfl rfl rfl rfl rfl ?_
          refine T_ld 68 (.int (i32 16)) rfl (fun _ => rfl) ?_
          refine T_icmp 80 71 rfl rfl rfl (r32 (by omega) (by omega)) ⟨by decide, by decide⟩ (fun (h21 : (m.1 23) ≠ 16) => ?_) (fun (h21 : ¬ ((m.1 23) ≠ 16)) => ?_)
          · skip
            refine T_gf 84 (.int (i32 (m.1 10))) rfl rfl rfl rfl rfl rfl ?_
            refine T_if 89 87 rfl rfl rfl (r32 (by omega) (by omega)) (fun (h22 : (m.1 10) ≤ 0) => ?_) (fun (h22 : ¬ ((m.1 10) ≤ 0)) => by exfalso; omega)
            refine T_gf 93 (.ref 207) rfl rfl rfl rfl rfl rfl ?_
            refine T_gf 97 (.int (i32 (m.1 23))) rfl rfl rfl rfl rfl rfl ?_
            refine T_gf 101 (.int (i32 (m.1 8))) rfl rfl rfl rfl rfl rfl ?_
            have G23 : ∀ j, 0 ≤ (upI (m.2 37) (m.1 23) (m.1 8)) j ∧ (upI (m.2 37) (m.1 23) (m.1 8)) j ≤ 4000 := upI_rg (hT.2.1 37) ⟨by omega, by omega⟩
            refine T_iast (a' := [(37, upI (m.2 37) (m.1 23) (m.1 8))]) 102 37 (m.2 37) rfl rfl rfl (by omega) (show (m.1 23) < (16 : Int) by omega) rfl rfl ?_
            refine T_gf 106 (.ref 208) rfl rfl rfl rfl rfl rfl ?_
            refine T_gf 110 (.int (i32 (m.1 23))) rfl rfl rfl rfl rfl rfl ?_
            refine T_ld 111 (.int (i32 (-1))) rfl (fun _ => rfl) ?_
            have G24 : ∀ j, (-1) ≤ (upI (m.2 38) (m.1 23) (-1)) j ∧ (upI (m.2 38) (m.1 23) (-1)) j ≤ 15 := upI_rg (hT.2.1 38) ⟨by omega, by omega⟩
            refine T_iast (a' := [(37, upI (m.2 37) (m.1 23) (m.1 8)), (38, upI (m.2 38) (m.1 23) (-1))]) 112 38 (m.2 38) rfl rfl rfl (by omega) (show (m.1 23) < (16 : Int) by omega) rfl rfl ?_
            refine T_ld 113 (.ref 189) rfl (fun _ => rfl) ?_
            refine T_ld 114 (.int (i32 5)) rfl (fun _ => rfl) ?_
            refine T_gf 118 (.int (i32 (m.1 23))) rfl rfl rfl rfl rfl rfl ?_
            refine T_call 121 231 [.ref 189, .int (i32 5), .int (i32 (m.1 23))] [] rfl (fun _ => rfl) rfl (d_enter w (mO m [] [(37, upI (m.2 37) (m.1 23) (m.1 8)), (38, upI (m.2 38) (m.1 23) (-1))]) c N D (by omega) (Ty_mO hT rfl rfl trivial ⟨G23, G24, trivial⟩) 5 (m.1 23) ⟨by decide, by decide⟩ (r32 (by omega) (by omega)) (show (m.1 13) ≤ 119 by omega) (show 1 ≤ (5 : Int) ∧ (5 : Int) ≤ 7 by omega) (show 0 ≤ (m.1 23) ∧ (m.1 23) ≤ 15 by omega)) (fun rr25 k26 => ?_)
            obtain ⟨m27, Tm27, Fm27, h28, h29, h30, h31, h32, rfl⟩ := k26
            refine ⟨_, _, rfl, ?_⟩
            refine T_nb (st' := []) rfl ?_
            have g33 : 0 ≤ m27.1 13 ∧ m27.1 13 ≤ 120 := Tm27.1 13
            replace h28 : (m27.1 13) = (m.1 13) + 1 := h28
            have hE0 := h28
            replace h29 : (m27.2 14) = upI (m.2 14) (m.1 13) (m.1 8) := h29
            have hE1 := h29
            replace h30 : (m27.2 15) = upI (m.2 15) (m.1 13) (m.1 9) := h30
            have hE2 := h30
            replace h31 : (m27.2 16) = upI (m.2 16) (m.1 13) (5 : Int) := h31
            have hE3 := h31
            replace h32 : (m27.2 17) = upI (m.2 17) (m.1 13) (m.1 23) := h32
            have hE4 := h32
            have u34 : (m.1 8) ≤ (m.1 8) := by omega
            refine T_ld 122 (.ref 189) rfl (fun _ => rfl) ?_
            refine T_ld 123 (.ref 189) rfl (fun _ => rfl) ?_
            refine T_gf1 126 (.int (i32 (m.1 23))) rfl rfl (mfv_c (F := fun x => .int (i32 x)) rfl (show (m27.1 23) = (m.1 23) from (fr1 Fm27 23 rfl))) rfl ?_
            refine T_ld 127 (.int (i32 1)) rfl (fun _ => rfl) ?_
            refine T_iadd 128 rfl rfl ?_
            refine T_pf (l' := [(23, (m.1 23) + 1)]) 131 ((m.1 23) + 1) rfl rfl rfl rfl rfl rfl ?_
            have g35 : 0 ≤ (m.1 23) + 1 ∧ (m.1 23) + 1 ≤ 16 := ⟨by omega, by omega⟩
            refine T_ld 132 (.ref 189) rfl (fun _ => rfl) ?_
            refine T_call 135 212 [.ref 189] [] rfl (fun _ => rfl) rfl (d_next w (mO m27 [(23, (m.1 23) + 1)] []) c N D (by omega) (Ty_mO Tm27 rfl rfl ⟨g35, trivial⟩ trivial) (show (m27.1 10) = 0 → (m27.1 8) + (m27.1 9) ≤ (m27.1 6) by rewrite [(show (m27.1 10) = (m.1 10) from (fr1 Fm27 10 rfl)), (show (m27.1 8) = (m.1 8) from (fr1 Fm27 8 rfl)), (show (m27.1 9) = (m.1 9) from (fr1 Fm27 9 rfl)), (show (m27.1 6) = (m.1 6) from (fr1 Fm27 6 rfl))]; first | omega | (intro h9; have h8 := hLx h9; omega))) (fun rr36 k37 => ?_)
            obtain ⟨m38, Tm38, Fm38, h39, h40, h41, h42, rfl⟩ := k37
            refine ⟨_, _, rfl, ?_⟩
            refine T_nb (st' := []) rfl ?_
            have g43 : 0 ≤ m38.1 7 ∧ m38.1 7 ≤ 330 := Tm38.1 7
            have g44 : 0 ≤ m38.1 8 ∧ m38.1 8 ≤ 4000 := Tm38.1 8
            have g45 : 0 ≤ m38.1 9 ∧ m38.1 9 ≤ 4000 := Tm38.1 9
            have g46 : 0 ≤ m38.1 10 ∧ m38.1 10 ≤ 8 := Tm38.1 10
            have g47 : (-1) ≤ m38.1 11 ∧ m38.1 11 ≤ 4000 := Tm38.1 11
            by_cases hf48 : (m38.1 10) = 0
            · skip
              replace h39 : LxP (m38.1 7) (m38.1 8) (m38.1 9) (m27.1 6) (m38.1 10) := h39
              rewrite [(show (m27.1 6) = (m.1 6) from (fr1 Fm27 6 rfl))] at h39
              have hLx := h39
              replace h40 : (m27.1 10) = 0 := h40 hf48
              rewrite [(show (m27.1 10) = (m.1 10) from (fr1 Fm27 10 rfl))] at h40
              replace h41 : (m27.1 8) ≤ (m38.1 8) := h41
              rewrite [(show (m27.1 8) = (m.1 8) from (fr1 Fm27 8 rfl))] at h41
              replace h42 : (m27.1 8) + (m27.1 9) ≤ (m38.1 8) := h42 hf48
              rewrite [(show (m27.1 8) = (m.1 8) from (fr1 Fm27 8 rfl)), (show (m27.1 9) = (m.1 9) from (fr1 Fm27 9 rfl))] at h42
              have u49 : (m.1 8) + 1 ≤ (m38.1 8) := by omega
              refine T_gf 139 (.int (i32 ((m.1 23) + 1))) rfl rfl rfl rfl (mfv_c (F := fun x => .int (i32 x)) rfl (show (m38.1 23) = ((m.1 23) + 1) from (fr1 Fm38 23 rfl))) rfl ?_
              refine T_ld 140 (.int (i32 1)) rfl (fun _ => rfl) ?_
              refine T_isub 141 rfl rfl ?_
              refine T_ret rfl (fun _ => rfl) ?_
              exact ⟨(mO m38 [] []), ((m.1 23) + 1) - 1, Tm38, (fr_m (fr_s Fm38 (fr_m (fr_s Fm27 (fr_m fr_0 rfl rfl) rfl rfl) rfl rfl) rfl rfl) rfl rfl), ⟨by omega, by omega⟩, (show (m38.1 10) = 0 → (m.1 10) = 0 by omega), (show LxP (m38.1 7) (m38.1 8) (m38.1 9) (m.1 6) (m38.1 10) by first | (first | exact hLx | exact (fun _ => hLx (by omega)) | (intro h9; exfalso; omega)) | (exfalso; omega)), (show ∀ k, (m38.2 14) k + (m38.2 15) k ≤ 4000 by rewrite [(show (m38.2 14) = (m27.2 14) from (fr2 Fm38 14 rfl)), (show (m38.2 15) = (m27.2 15) from (fr2 Fm38 15 rfl))]; first | (first | exact hNM | (intro k; rw [hE1, hE2]; have := hNM k; have h7 := hLx0 hf0; unfold upI; split <;> omega)) | (exfalso; omega)), (fun _ => ⟨(show (m.1 8) + 1 ≤ (m38.1 8) by omega), (show PN (m38.1 13) (m.1 19) (m.1 20) (m.1 21) (m.1 22) (m38.1 23) (m.1 25) (m.1 26) (m38.2 16) (m38.2 17) by rewrite [(show (m38.1 13) = (m27.1 13) from (fr1 Fm38 13 rfl)), (show (m38.1 23) = ((m.1 23) + 1) from (fr1 Fm38 23 rfl)), (show (m38.2 16) = (m27.2 16) from (fr2 Fm38 16 rfl)), (show (m38.2 17) = (m27.2 17) from (fr2 Fm38 17 rfl))]; first | (first | exact pPN | (rw [hE0, hE3, hE4]; exact PN_5 pPN (by omega))) | (exfalso; omega)), (show SOp (m38.2 38) (m38.1 23) (m.1 24) by rewrite [(show (m38.2 38) = (upI (m.2 38) (m.1 23) (-1)) from ((fr2 Fm38 38 rfl).trans (fr2 Fm27 38 rfl))), (show (m38.1 23) = ((m.1 23) + 1) from (fr1 Fm38 23 rfl))]; first | (first | exact pSO | exact SOp_new pSO) | (exfalso; omega)), (show (((m.1 23) + 1) - 1) < (m38.1 23) by rewrite [(show (m38.1 23) = ((m.1 23) + 1) from (fr1 Fm38 23 rfl))]; omega), (show (m.1 23) ≤ (m38.1 23) by rewrite [(show (m38.1 23) = ((m.1 23) + 1) from (fr1 Fm38 23 rfl))]; omega)⟩), rfl⟩
            · skip
              replace h39 : LxP (m38.1 7) (m38.1 8) (m38.1 9) (m27.1 6) (m38.1 10) := h39
              rewrite [(show (m27.1 6) = (m.1 6) from (fr1 Fm27 6 rfl))] at h39
              have hLx := h39
              clear h40
              replace h41 : (m27.1 8) ≤ (m38.1 8) := h41
              rewrite [(show (m27.1 8) = (m.1 8) from (fr1 Fm27 8 rfl))] at h41
              clear h42
              have hf50 : 1 ≤ (m38.1 10) := by omega
              refine T_gf 139 (.int (i32 ((m.1 23) + 1))) rfl rfl rfl rfl (mfv_c (F := fun x => .int (i32 x)) rfl (show (m38.1 23) = ((m.1 23) + 1) from (fr1 Fm38 23 rfl))) rfl ?_
              refine T_ld 140 (.int (i32 1)) rfl (fun _ => rfl) ?_
              refine T_isub 141 rfl rfl ?_
              refine T_ret rfl (fun _ => rfl) ?_
              exact ⟨(mO m38 [] []), ((m.1 23) + 1) - 1, Tm38, (fr_m (fr_s Fm38 (fr_m (fr_s Fm27 (fr_m fr_0 rfl rfl) rfl rfl) rfl rfl) rfl rfl) rfl rfl), ⟨by omega, by omega⟩, (show (m38.1 10) = 0 → (m.1 10) = 0 by omega), (show LxP (m38.1 7) (m38.1 8) (m38.1 9) (m.1 6) (m38.1 10) by first | (first | exact hLx | exact (fun _ => hLx (by omega)) | (intro h9; exfalso; omega)) | (exfalso; omega)), (show ∀ k, (m38.2 14) k + (m38.2 15) k ≤ 4000 by rewrite [(show (m38.2 14) = (m27.2 14) from (fr2 Fm38 14 rfl)), (show (m38.2 15) = (m27.2 15) from (fr2 Fm38 15 rfl))]; first | (first | exact hNM | (intro k; rw [hE1, hE2]; have := hNM k; have h7 := hLx0 hf0; unfold upI; split <;> omega)) | (exfalso; omega)), (fun (h : (m38.1 10) = 0) => absurd h (by omega)), rfl⟩
          · skip
            refine T_ld 72 (.ref 189) rfl (fun _ => rfl) ?_
            refine T_ld 73 (.int (i32 4)) rfl (fun _ => rfl) ?_
            refine T_gf 77 (.int (i32 (m.1 8))) rfl rfl rfl rfl rfl rfl ?_
            refine T_call 80 222 [.ref 189, .int (i32 4), .int (i32 (m.1 8))] [] rfl (fun _ => rfl) rfl (d_wrong w (mO m [] []) c N D (by omega) hT 4 (m.1 8) ⟨by decide, by decide⟩ (r32 (by omega) (by omega)) (show 1 ≤ (4 : Int) ∧ (4 : Int) ≤ 8 by omega) (show 0 ≤ (m.1 8) ∧ (m.1 8) ≤ 4000 by omega)) (fun rr51 k52 => ?_)
            obtain ⟨m53, Tm53, Fm53, h54, rfl⟩ := k52
            refine ⟨_, _, rfl, ?_⟩
            refine T_nb (st' := []) rfl ?_
            have g55 : 0 ≤ m53.1 10 ∧ m53.1 10 ≤ 8 := Tm53.1 10
            have g56 : (-1) ≤ m53.1 11 ∧ m53.1 11 ≤ 4000 := Tm53.1 11
            replace h54 : (0 < (m.1 10) → (m53.1 10) = (m.1 10) ∧ (m53.1 11) = (m.1 11)) ∧ ((m.1 10) ≤ 0 → (m53.1 10) = (4 : Int) ∧ (m53.1 11) = (m.1 8)) := h54
            have hf57 : 1 ≤ (m53.1 10) := by omega
            refine T_gf 84 (.int (i32 (m53.1 10))) rfl rfl rfl rfl rfl rfl ?_
            refine T_if 89 87 rfl rfl rfl (r32 (by omega) (by omega)) (fun (h58 : (m53.1 10) ≤ 0) => by exfalso; omega) (fun (h58 : ¬ ((m53.1 10) ≤ 0)) => ?_)
            refine T_ld 88 (.int (i32 (-1))) rfl (fun _ => rfl) ?_
            refine T_ret rfl (fun _ => rfl) ?_
            exact ⟨(mO m53 [] []), (-1), Tm53, (fr_m (fr_s Fm53 (fr_m fr_0 rfl rfl) rfl rfl) rfl rfl), ⟨by omega, by omega⟩, (show (m53.1 10) = 0 → (m.1 10) = 0 by omega), (show LxP (m53.1 7) (m53.1 8) (m53.1 9) (m.1 6) (m53.1 10) by rewrite [(show (m53.1 7) = (m.1 7) from (fr1 Fm53 7 rfl)), (show (m53.1 8) = (m.1 8) from (fr1 Fm53 8 rfl)), (show (m53.1 9) = (m.1 9) from (fr1 Fm53 9 rfl))]; first | (first | exact hLx | exact (fun _ => hLx (by omega)) | (intro h9; exfalso; omega)) | (exfalso; omega)), (show ∀ k, (m53.2 14) k + (m53.2 15) k ≤ 4000 by rewrite [(show (m53.2 14) = (m.2 14) from (fr2 Fm53 14 rfl)), (show (m53.2 15) = (m.2 15) from (fr2 Fm53 15 rfl))]; first | (first | exact hNM | (intro k; rw [hE1, hE2]; have := hNM k; have h7 := hLx0 hf0; unfold upI; split <;> omega)) | (exfalso; omega)), (fun (h : (m53.1 10) = 0) => absurd h (by omega)), rfl⟩
        · skip
          refine T_ld 50 (.ref 189) rfl (fun _ => rfl) ?_
          refine T_ld 52 (.int (i32 6)) rfl (fun _ => rfl) ?_
          refine T_gf 56 (.int (i32 (m.1 8))) rfl rfl rfl rfl rfl rfl ?_
          refine T_call 59 222 [.ref 189, .int (i32 6), .int (i32 (m.1 8))] [] rfl (fun _ => rfl) rfl (d_wrong w (mO m [] []) c N D (by omega) hT 6 (m.1 8) ⟨by decide, by decide⟩ (r32 (by omega) (by omega)) (show 1 ≤ (6 : Int) ∧ (6 : Int) ≤ 8 by omega) (show 0 ≤ (m.1 8) ∧ (m.1 8) ≤ 4000 by omega)) (fun rr59 k60 => ?_)
          obtain ⟨m61, Tm61, Fm61, h62, rfl⟩ := k60
          refine ⟨_, _, rfl, ?_⟩
          refine T_nb (st' := []) rfl ?_
          have g63 : 0 ≤ m61.1 10 ∧ m61.1 10 ≤ 8 := Tm61.1 10
          have g64 : (-1) ≤ m61.1 11 ∧ m61.1 11 ≤ 4000 := Tm61.1 11
          replace h62 : (0 < (m.1 10) → (m61.1 10) = (m.1 10) ∧ (m61.1 11) = (m.1 11)) ∧ ((m.1 10) ≤ 0 → (m61.1 10) = (6 : Int) ∧ (m61.1 11) = (m.1 8)) := h62
          have hf65 : 1 ≤ (m61.1 10) := by omega
          refine T_goto 80 rfl (fun _ => rfl) ?_
          refine T_gf 84 (.int (i32 (m61.1 10))) rfl rfl rfl rfl rfl rfl ?_
          refine T_if 89 87 rfl rfl rfl (r32 (by omega) (by omega)) (fun (h66 : (m61.1 10) ≤ 0) => by exfalso; omega) (fun (h66 : ¬ ((m61.1 10) ≤ 0)) => ?_)
          refine T_ld 88 (.int (i32 (-1))) rfl (fun _ => rfl) ?_
          refine T_ret rfl (fun _ => rfl) ?_
          exact ⟨(mO m61 [] []), (-1), Tm61, (fr_m (fr_s Fm61 (fr_m fr_0 rfl rfl) rfl rfl) rfl rfl), ⟨by omega, by omega⟩, (show (m61.1 10) = 0 → (m.1 10) = 0 by omega), (show LxP (m61.1 7) (m61.1 8) (m61.1 9) (m.1 6) (m61.1 10) by rewrite [(show (m61.1 7) = (m.1 7) from (fr1 Fm61 7 rfl)), (show (m61.1 8) = (m.1 8) from (fr1 Fm61 8 rfl)), (show (m61.1 9) = (m.1 9) from (fr1 Fm61 9 rfl))]; first | (first | exact hLx | exact (fun _ => hLx (by omega)) | (intro h9; exfalso; omega)) | (exfalso; omega)), (show ∀ k, (m61.2 14) k + (m61.2 15) k ≤ 4000 by rewrite [(show (m61.2 14) = (m.2 14) from (fr2 Fm61 14 rfl)), (show (m61.2 15) = (m.2 15) from (fr2 Fm61 15 rfl))]; first | (first | exact hNM | (intro k; rw [hE1, hE2]; have := hNM k; have h7 := hLx0 hf0; unfold upI; split <;> omega)) | (exfalso; omega)), (fun (h : (m61.1 10) = 0) => absurd h (by omega)), rfl⟩
      · skip
        refine T_ld 34 (.ref 189) rfl (fun _ => rfl) ?_
        refine T_call 37 237 [.ref 189] [] rfl (fun _ => rfl) rfl (d_whichHere w (mO m [] []) c N D (by omega) hT (show 1 ≤ (m.1 9) ∧ (m.1 8) + (m.1 9) ≤ (m.1 6) by first | omega | (have h8 := hLx (by omega); omega)) (show ∀ k, (m.2 14) k + (m.2 15) k ≤ 4000 by first | exact hNM | exact p1) (show ∀ g k, isGH (m.2 4) (m.1 8) (m.1 9) g → g < 0 → isFH (m.2 4) (m.2 14) (m.2 15) (m.1 8) (m.1 9) (m.1 13) k → 0 ≤ k by exact old_ok hSo (by omega))) (fun rr67 k68 => ?_)
        obtain ⟨wi, g69, h70, rfl⟩ := k68
        refine ⟨_, _, rfl, ?_⟩
        refine T_ns (st' := [.int (i32 wi)]) rfl ?_
        obtain ⟨g69a, g69b⟩ := g69
        replace h70 : ∃ g k, isGH (m.2 4) (m.1 8) (m.1 9) g ∧ (g < 0 → isFH (m.2 4) (m.2 14) (m.2 15) (m.1 8) (m.1 9) (m.1 13) k) ∧ wi = whichV (m.2 17) g k := h70
        have hWi := h70
        have u71 : (m.1 8) ≤ (m.1 8) := by omega
        have hr5 : -2 ≤ wi ∧ wi < (m.1 23) := by
          rcases old_eq hSo hWi (by omega) with ⟨a, b, c⟩ | ⟨a, b⟩ | ⟨k, a, b, c, d⟩
          · omega
          · omega
          · have := PNl_5 pPN k a b (by omega)
            omega
        refine T_sto 38 [(2, .int (i32 wi)), (1, .int (i32 so)), (0, .ref 189)] rfl (fun _ => rfl) ?_
        refine T_ld 39 (.ref 189) rfl (fun _ => rfl) ?_
        refine T_call 42 212 [.ref 189] [] rfl (fun _ => rfl) rfl (d_next w (mO m [] []) c N D (by omega) hT (show (m.1 10) = 0 → (m.1 8) + (m.1 9) ≤ (m.1 6) by first | omega | (intro h9; have h8 := hLx h9; omega))) (fun rr72 k73 => ?_)
        obtain ⟨m74, Tm74, Fm74, h75, h76, h77, h78, rfl⟩ := k73
        refine ⟨_, _, rfl, ?_⟩
        refine T_nb (st' := []) rfl ?_
        have g79 : 0 ≤ m74.1 7 ∧ m74.1 7 ≤ 330 := Tm74.1 7
        have g80 : 0 ≤ m74.1 8 ∧ m74.1 8 ≤ 4000 := Tm74.1 8
        have g81 : 0 ≤ m74.1 9 ∧ m74.1 9 ≤ 4000 := Tm74.1 9
        have g82 : 0 ≤ m74.1 10 ∧ m74.1 10 ≤ 8 := Tm74.1 10
        have g83 : (-1) ≤ m74.1 11 ∧ m74.1 11 ≤ 4000 := Tm74.1 11
        by_cases hf84 : (m74.1 10) = 0
        · skip
          replace h75 : LxP (m74.1 7) (m74.1 8) (m74.1 9) (m.1 6) (m74.1 10) := h75
          have hLx := h75
          replace h76 : (m.1 10) = 0 := h76 hf84
          replace h77 : (m.1 8) ≤ (m74.1 8) := h77
          replace h78 : (m.1 8) + (m.1 9) ≤ (m74.1 8) := h78 hf84
          have u85 : (m.1 8) + 1 ≤ (m74.1 8) := by omega
          refine T_ld 43 (.int (i32 wi)) rfl (fun _ => rfl) ?_
          refine T_ret rfl (fun _ => rfl) ?_
          exact ⟨(mO m74 [] []), wi, Tm74, (fr_m (fr_s Fm74 (fr_m fr_0 rfl rfl) rfl rfl) rfl rfl), ⟨by omega, by omega⟩, (show (m74.1 10) = 0 → (m.1 10) = 0 by omega), (show LxP (m74.1 7) (m74.1 8) (m74.1 9) (m.1 6) (m74.1 10) by first | (first | exact hLx | exact (fun _ => hLx (by omega)) | (intro h9; exfalso; omega)) | (exfalso; omega)), (show ∀ k, (m74.2 14) k + (m74.2 15) k ≤ 4000 by rewrite [(show (m74.2 14) = (m.2 14) from (fr2 Fm74 14 rfl)), (show (m74.2 15) = (m.2 15) from (fr2 Fm74 15 rfl))]; first | (first | exact hNM | (intro k; rw [hE1, hE2]; have := hNM k; have h7 := hLx0 hf0; unfold upI; split <;> omega)) | (exfalso; omega)), (fun _ => ⟨(show (m.1 8) + 1 ≤ (m74.1 8) by omega), (show PN (m74.1 13) (m.1 19) (m.1 20) (m.1 21) (m.1 22) (m74.1 23) (m.1 25) (m.1 26) (m74.2 16) (m74.2 17) by rewrite [(show (m74.1 13) = (m.1 13) from (fr1 Fm74 13 rfl)), (show (m74.1 23) = (m.1 23) from (fr1 Fm74 23 rfl)), (show (m74.2 16) = (m.2 16) from (fr2 Fm74 16 rfl)), (show (m74.2 17) = (m.2 17) from (fr2 Fm74 17 rfl))]; first | (first | exact pPN | (rw [hE0, hE3, hE4]; exact PN_5 pPN (by omega))) | (exfalso; omega)), (show SOp (m74.2 38) (m74.1 23) (m.1 24) by rewrite [(show (m74.2 38) = (m.2 38) from (fr2 Fm74 38 rfl)), (show (m74.1 23) = (m.1 23) from (fr1 Fm74 23 rfl))]; first | (first | exact pSO | exact SOp_new pSO) | (exfalso; omega)), (show wi < (m74.1 23) by rewrite [(show (m74.1 23) = (m.1 23) from (fr1 Fm74 23 rfl))]; omega), (show (m.1 23) ≤ (m74.1 23) by rewrite [(show (m74.1 23) = (m.1 23) from (fr1 Fm74 23 rfl))]; omega)⟩), rfl⟩
        · skip
          replace h75 : LxP (m74.1 7) (m74.1 8) (m74.1 9) (m.1 6) (m74.1 10) := h75
          have hLx := h75
          clear h76
          replace h77 : (m.1 8) ≤ (m74.1 8) := h77
          clear h78
          have hf86 : 1 ≤ (m74.1 10) := by omega
          refine T_ld 43 (.int (i32 wi)) rfl (fun _ => rfl) ?_
          refine T_ret rfl (fun _ => rfl) ?_
          exact ⟨(mO m74 [] []), wi, Tm74, (fr_m (fr_s Fm74 (fr_m fr_0 rfl rfl) rfl rfl) rfl rfl), ⟨by omega, by omega⟩, (show (m74.1 10) = 0 → (m.1 10) = 0 by omega), (show LxP (m74.1 7) (m74.1 8) (m74.1 9) (m.1 6) (m74.1 10) by first | (first | exact hLx | exact (fun _ => hLx (by omega)) | (intro h9; exfalso; omega)) | (exfalso; omega)), (show ∀ k, (m74.2 14) k + (m74.2 15) k ≤ 4000 by rewrite [(show (m74.2 14) = (m.2 14) from (fr2 Fm74 14 rfl)), (show (m74.2 15) = (m.2 15) from (fr2 Fm74 15 rfl))]; first | (first | exact hNM | (intro k; rw [hE1, hE2]; have := hNM k; have h7 := hLx0 hf0; unfold upI; split <;> omega)) | (exfalso; omega)), (fun (h : (m74.1 10) = 0) => absurd h (by omega)), rfl⟩
    · skip
      refine T_ld 18 (.ref 189) rfl (fun _ => rfl) ?_
      refine T_call 21 226 [.ref 189] [] rfl (fun _ => rfl) rfl (d_bad w (mO m [] []) c N D (by omega) hT ) (fun rr87 k88 => ?_)
      obtain ⟨m89, Tm89, Fm89, h90, rfl⟩ := k88
      refine ⟨_, _, rfl, ?_⟩
      refine T_nb (st' := []) rfl ?_
      have g91 : 0 ≤ m89.1 10 ∧ m89.1 10 ≤ 8 := Tm89.1 10
      have g92 : (-1) ≤ m89.1 11 ∧ m89.1 11 ≤ 4000 := Tm89.1 11
      replace h90 : (0 < (m.1 10) → (m89.1 10) = (m.1 10) ∧ (m89.1 11) = (m.1 11)) ∧ ((m.1 10) ≤ 0 → (m89.1 10) = 1 ∧ (m89.1 11) = (m.1 8)) := h90
      have hf93 : 1 ≤ (m89.1 10) := by omega
      refine T_ld 22 (.int (i32 (-1))) rfl (fun _ => rfl) ?_
      refine T_ret rfl (fun _ => rfl) ?_
      exact ⟨(mO m89 [] []), (-1), Tm89, (fr_m (fr_s Fm89 (fr_m fr_0 rfl rfl) rfl rfl) rfl rfl), ⟨by omega, by omega⟩, (show (m89.1 10) = 0 → (m.1 10) = 0 by omega), (show LxP (m89.1 7) (m89.1 8) (m89.1 9) (m.1 6) (m89.1 10) by rewrite [(show (m89.1 7) = (m.1 7) from (fr1 Fm89 7 rfl)), (show (m89.1 8) = (m.1 8) from (fr1 Fm89 8 rfl)), (show (m89.1 9) = (m.1 9) from (fr1 Fm89 9 rfl))]; first | (first | exact hLx | exact (fun _ => hLx (by omega)) | (intro h9; exfalso; omega)) | (exfalso; omega)), (show ∀ k, (m89.2 14) k + (m89.2 15) k ≤ 4000 by rewrite [(show (m89.2 14) = (m.2 14) from (fr2 Fm89 14 rfl)), (show (m89.2 15) = (m.2 15) from (fr2 Fm89 15 rfl))]; first | (first | exact hNM | (intro k; rw [hE1, hE2]; have := hNM k; have h7 := hLx0 hf0; unfold upI; split <;> omega)) | (exfalso; omega)), (fun (h : (m89.1 10) = 0) => absurd h (by omega)), rfl⟩
  · skip
    clear hC
    refine T_gf 4 (.int (i32 (m.1 10))) rfl rfl rfl rfl rfl rfl ?_
    refine T_if 9 7 rfl rfl rfl (r32 (by omega) (by omega)) (fun (h94 : (m.1 10) ≤ 0) => by exfalso; omega) (fun (h94 : ¬ ((m.1 10) ≤ 0)) => ?_)
    refine T_ld 8 (.int (i32 (-1))) rfl (fun _ => rfl) ?_
    refine T_ret rfl (fun _ => rfl) ?_
    exact ⟨(mO m [] []), (-1), hT, (fr_m fr_0 rfl rfl), ⟨by omega, by omega⟩, (show (m.1 10) = 0 → (m.1 10) = 0 by omega), (show LxP (m.1 7) (m.1 8) (m.1 9) (m.1 6) (m.1 10) by first | (first | exact hLx | exact (fun _ => hLx (by omega)) | (intro h9; exfalso; omega)) | (exfalso; omega)), (show ∀ k, (m.2 14) k + (m.2 15) k ≤ 4000 by first | (first | exact hNM | (intro k; rw [hE1, hE2]; have := hNM k; have h7 := hLx0 hf0; unfold upI; split <;> omega)) | (exfalso; omega)), (fun (h : (m.1 10) = 0) => absurd h (by omega)), rfl⟩
def fF_takeExtract : List Nat := [7, 8, 9, 10, 11, 12]
def fA_takeExtract : List Nat := [41, 94]
def Q_takeExtract (m : mR) (c : Nat → Option am_C) (N : Nat) (d : Int) : ag_Re af_T → Prop := fun R => ∃ (M : mR), Ty M ∧ fr fF_takeExtract fA_takeExtract m M ∧ ((M.1 10) = 0 → (m.1 10) = 0) ∧ (LxP (M.1 7) (M.1 8) (M.1 9) (m.1 6) (M.1 10)) ∧ (M.1 10 = 0 → ((m.1 8) + 1 ≤ (M.1 8))) ∧ R = (.inl (none), (mhp M c, N), 0, 0)
set_option maxHeartbeats 3000000 in
theorem c_takeExtract (w : wX) (m : mR) (c : Nat → Option am_C) (N D : Nat) (hD : 7 ≤ D) (hT : Ty m) (d : Int) (qd : R32 d) (hLx0 : LxP (m.1 7) (m.1 8) (m.1 9) (m.1 6) (m.1 10)) (hNM0 : ∀ k, (m.2 14) k + (m.2 15) k ≤ 4000) (p2 : 0 ≤ d ∧ d ≤ 15) (hC : m.1 10 = 0 → (PN (m.1 13) (m.1 19) (m.1 20) (m.1 21) (m.1 22) (m.1 23) (m.1 25) (m.1 26) (m.2 16) (m.2 17)) ∧ ((m.1 7) ≠ 0)) : TC w D 241 [.ref 189, .int (i32 d)] (mhp m c, N) (Q_takeExtract m c N d) := by
  obtain ⟨D, rfl⟩ : ∃ k, D = k + 1 := ⟨D - 1, by omega⟩
  obtain ⟨qda, qdb⟩ := id qd
  have hLx := hLx0
  have hNM := hNM0
  have f7 : 0 ≤ m.1 7 ∧ m.1 7 ≤ 330 := hT.1 7
  have f8 : 0 ≤ m.1 8 ∧ m.1 8 ≤ 4000 := hT.1 8
  have f9 : 0 ≤ m.1 9 ∧ m.1 9 ≤ 4000 := hT.1 9
  have f10 : 0 ≤ m.1 10 ∧ m.1 10 ≤ 8 := hT.1 10
  have f11 : (-1) ≤ m.1 11 ∧ m.1 11 ≤ 4000 := hT.1 11
  have f25 : 0 ≤ m.1 25 ∧ m.1 25 ≤ 16 := hT.1 25
  have f22 : 0 ≤ m.1 22 ∧ m.1 22 ≤ 8 := hT.1 22
  have f19 : 0 ≤ m.1 19 ∧ m.1 19 ≤ 12 := hT.1 19
  have f20 : 0 ≤ m.1 20 ∧ m.1 20 ≤ 12 := hT.1 20
  have f21 : 0 ≤ m.1 21 ∧ m.1 21 ≤ 16 := hT.1 21
  have f13 : 0 ≤ m.1 13 ∧ m.1 13 ≤ 120 := hT.1 13
  have f6 : 0 ≤ m.1 6 ∧ m.1 6 ≤ 4000 := hT.1 6
  have f23 : 0 ≤ m.1 23 ∧ m.1 23 ≤ 16 := hT.1 23
  have f26 : 0 ≤ m.1 26 ∧ m.1 26 ≤ 8 := hT.1 26
  refine Tc_of rfl ?_
  show TT w D pm_241 (0, [(0, .ref 189), (1, .int (i32 d))], [], (mhp (mO m [] []) c, N), 0, 0) (Q_takeExtract m c N d)
  by_cases hf0 : m.1 10 = 0
  · skip
    obtain ⟨pPN, c1⟩ := hC hf0
    have h7 := hLx (by omega)
    have J59_8 : ∀ (m7 : mR), Ty m7 → fr [7, 8, 9, 10, 11, 12] [94] (mO m [] []) m7 → ((m.2 41) d ≤ 5) → (1 ≤ (m7.1 10)) → TT w D pm_241 (59, [(0, .ref 189), (1, .int (i32 d))], [], (mhp (mO m7 [] []) c, N), 0, 0) (Q_takeExtract m c N d) := by
      intro m7 Tm7 Fm7 ic9 ic10
      have q11_7 : 0 ≤ m7.1 7 ∧ m7.1 7 ≤ 330 := Tm7.1 7
      have q11_8 : 0 ≤ m7.1 8 ∧ m7.1 8 ≤ 4000 := Tm7.1 8
      have q11_9 : 0 ≤ m7.1 9 ∧ m7.1 9 ≤ 4000 := Tm7.1 9
      have q11_10 : 0 ≤ m7.1 10 ∧ m7.1 10 ≤ 8 := Tm7.1 10
      have q11_11 : (-1) ≤ m7.1 11 ∧ m7.1 11 ≤ 4000 := Tm7.1 11
      refine T_gf 63 (.ref 211) rfl rfl rfl rfl rfl rfl ?_
      refine T_ld 64 (.int (i32 d)) rfl (fun _ => rfl) ?_
      refine T_dup2 65 rfl (fun _ => rfl) ?_
      refine T_iald 66 41 (m.2 41) rfl rfl rfl (by omega) (show d < (16 : Int) by omega) (show (m7.2 41) = (m.2 41) from (fr2 Fm7 41 rfl)) ?_
      have e14 : 0 ≤ (m.2 41) d ∧ (m.2 41) d ≤ 6 := (hT.2.1 41) d
      refine T_ld 67 (.int (i32 1)) rfl (fun _ => rfl) ?_
      refine T_iadd 68 rfl rfl ?_
      have G15 : ∀ j, 0 ≤ (upI (m.2 41) d (((m.2 41) d) + 1)) j ∧ (upI (m.2 41) d (((m.2 41) d) + 1)) j ≤ 6 := upI_rg (hT.2.1 41) ⟨by omega, by omega⟩
      refine T_iast (a' := [(41, upI (m.2 41) d (((m.2 41) d) + 1))]) 69 41 (m.2 41) rfl rfl rfl (by omega) (show d < (16 : Int) by omega) (show (m7.2 41) = (m.2 41) from (fr2 Fm7 41 rfl)) rfl ?_
      refine T_ret rfl (fun _ => rfl) ?_
      exact ⟨(mO m7 [] [(41, upI (m.2 41) d (((m.2 41) d) + 1))]), (Ty_mO Tm7 rfl rfl trivial ⟨G15, trivial⟩), (fr_m (fr_s Fm7 (fr_m fr_0 rfl rfl) rfl rfl) rfl rfl), (show (m7.1 10) = 0 → (m.1 10) = 0 by omega), (show LxP (m7.1 7) (m7.1 8) (m7.1 9) (m.1 6) (m7.1 10) by first | (first | exact hLx | exact (fun _ => hLx (by omega)) | (intro h9; exfalso; omega)) | (exfalso; omega)), (fun (h : (m7.1 10) = 0) => absurd h (by omega)), rfl⟩
    have J52_18 : ∀ (s16 : Int) (m17 : mR), (R32 s16) → Ty m17 → fr [7, 8, 9, 10, 11, 12] [] (mO m [] []) m17 → (0 ≤ s16) → (s16 ≤ 11) → ((m.2 41) d ≤ 5) → (0 ≤ (6 * d) + ((m.2 41) d) ∧ (6 * d) + ((m.2 41) d) ≤ 96) → (1 ≤ (m17.1 10)) → TT w D pm_241 (52, [(0, .ref 189), (1, .int (i32 d))], [.int (i32 s16), .int (i32 ((6 * d) + ((m.2 41) d))), .ref 256], (mhp (mO m17 [] []) c, N), 0, 0) (Q_takeExtract m c N d) := by
      intro s16 m17 q24 Tm17 Fm17 ic19 ic20 ic21 ic22 ic23
      obtain ⟨q24a, q24b⟩ := id q24
      have q25_7 : 0 ≤ m17.1 7 ∧ m17.1 7 ≤ 330 := Tm17.1 7
      have q25_8 : 0 ≤ m17.1 8 ∧ m17.1 8 ≤ 4000 := Tm17.1 8
      have q25_9 : 0 ≤ m17.1 9 ∧ m17.1 9 ≤ 4000 := Tm17.1 9
      have q25_10 : 0 ≤ m17.1 10 ∧ m17.1 10 ≤ 8 := Tm17.1 10
      have q25_11 : (-1) ≤ m17.1 11 ∧ m17.1 11 ≤ 4000 := Tm17.1 11
      have G28 : ∀ j, 0 ≤ (upI (m.2 94) ((6 * d) + ((m.2 41) d)) s16) j ∧ (upI (m.2 94) ((6 * d) + ((m.2 41) d)) s16) j ≤ 11 := upI_rg (hT.2.1 94) ⟨by omega, by omega⟩
      refine T_iast (a' := [(94, upI (m.2 94) ((6 * d) + ((m.2 41) d)) s16)]) 53 94 (m.2 94) rfl rfl rfl (by omega) (show ((6 * d) + ((m.2 41) d)) < (96 : Int) by omega) (show (m17.2 94) = (m.2 94) from (fr2 Fm17 94 rfl)) rfl ?_
      refine T_ld 54 (.ref 189) rfl (fun _ => rfl) ?_
      refine T_ld 56 (.int (i32 59)) rfl (fun _ => rfl) ?_
      refine T_call 59 232 [.ref 189, .int (i32 59)] [] rfl (fun _ => rfl) rfl (d_need w (mO m17 [] [(94, upI (m.2 94) ((6 * d) + ((m.2 41) d)) s16)]) c N D (by omega) (Ty_mO Tm17 rfl rfl trivial ⟨G28, trivial⟩) 59 ⟨by decide, by decide⟩ (show 1 ≤ (59 : Int) by omega) (show LxP (m17.1 7) (m17.1 8) (m17.1 9) (m17.1 6) (m17.1 10) by rewrite [(show (m17.1 6) = (m.1 6) from (fr1 Fm17 6 rfl))]; first | exact hLx | (intro h9; exfalso; omega) | (intro h9; have h8 := hLx (by omega); omega))) (fun rr29 k30 => ?_)
      obtain ⟨m31, Tm31, Fm31, h32, h33, h34, h35, rfl⟩ := k30
      refine ⟨_, _, rfl, ?_⟩
      refine T_nb (st' := []) rfl ?_
      have g36 : 0 ≤ m31.1 7 ∧ m31.1 7 ≤ 330 := Tm31.1 7
      have g37 : 0 ≤ m31.1 8 ∧ m31.1 8 ≤ 4000 := Tm31.1 8
      have g38 : 0 ≤ m31.1 9 ∧ m31.1 9 ≤ 4000 := Tm31.1 9
      have g39 : 0 ≤ m31.1 10 ∧ m31.1 10 ≤ 8 := Tm31.1 10
      have g40 : (-1) ≤ m31.1 11 ∧ m31.1 11 ≤ 4000 := Tm31.1 11
      replace h32 : LxP (m31.1 7) (m31.1 8) (m31.1 9) (m17.1 6) (m31.1 10) := h32
      rewrite [(show (m17.1 6) = (m.1 6) from (fr1 Fm17 6 rfl))] at h32
      replace h33 : (m31.1 10) = 0 → (m17.1 10) = 0 ∧ (m17.1 7) = (59 : Int) := h33
      replace h34 : (m17.1 8) ≤ (m31.1 8) := h34
      replace h35 : (m31.1 10) = 0 → (m17.1 8) + (m17.1 9) ≤ (m31.1 8) := h35
      have hf41 : 1 ≤ (m31.1 10) := by omega
      clear h33
      clear h35
      have hLx := h32
      clear q25_7 q25_8 q25_9 q25_10 q25_11 ic23 h34
      exact J59_8 (mO m31 [] []) Tm31 (fr_m (fr_s Fm31 (fr_m (fr_s Fm17 (fr_m fr_0 rfl rfl) rfl rfl) rfl rfl) rfl rfl) rfl rfl) (show (m.2 41) d ≤ 5 by omega) (show 1 ≤ (m31.1 10) by omega)
    refine T_gf 4 (.ref 211) rfl rfl rfl rfl rfl rfl ?_
    refine T_ld 5 (.int (i32 d)) rfl (fun _ => rfl) ?_
    refine T_iald 6 41 (m.2 41) rfl rfl rfl (by omega) (show d < (16 : Int) by omega) rfl ?_
    have e42 : 0 ≤ (m.2 41) d ∧ (m.2 41) d ≤ 6 := (hT.2.1 41) d
    refine T_ld 8 (.int (i32 6)) rfl (fun _ => rfl) ?_
    refine T_icmp 20 11 rfl rfl rfl (r32 (by omega) (by omega)) ⟨by decide, by decide⟩ (fun (h43 : (m.2 41) d ≠ 6) => ?_) (fun (h43 : ¬ ((m.2 41) d ≠ 6)) => ?_)
    · skip
      refine T_gf 24 (.int (i32 (m.1 10))) rfl rfl rfl rfl rfl rfl ?_
      refine T_if 28 27 rfl rfl rfl (r32 (by omega) (by omega)) (fun (h44 : (m.1 10) ≤ 0) => ?_) (fun (h44 : ¬ ((m.1 10) ≤ 0)) => by exfalso; omega)
      refine T_ld 29 (.ref 189) rfl (fun _ => rfl) ?_
      refine T_call 32 212 [.ref 189] [] rfl (fun _ => rfl) rfl (d_next w (mO m [] []) c N D (by omega) hT (show (m.1 10) = 0 → (m.1 8) + (m.1 9) ≤ (m.1 6) by first | omega | (intro h9; have h8 := hLx h9; omega))) (fun rr45 k46 => ?_)
      obtain ⟨m47, Tm47, Fm47, h48, h49, h50, h51, rfl⟩ := k46
      refine ⟨_, _, rfl, ?_⟩
      refine T_nb (st' := []) rfl ?_
      have g52 : 0 ≤ m47.1 7 ∧ m47.1 7 ≤ 330 := Tm47.1 7
      have g53 : 0 ≤ m47.1 8 ∧ m47.1 8 ≤ 4000 := Tm47.1 8
      have g54 : 0 ≤ m47.1 9 ∧ m47.1 9 ≤ 4000 := Tm47.1 9
      have g55 : 0 ≤ m47.1 10 ∧ m47.1 10 ≤ 8 := Tm47.1 10
      have g56 : (-1) ≤ m47.1 11 ∧ m47.1 11 ≤ 4000 := Tm47.1 11
      by_cases hf57 : (m47.1 10) = 0
      · skip
        replace h48 : LxP (m47.1 7) (m47.1 8) (m47.1 9) (m.1 6) (m47.1 10) := h48
        have hLx := h48
        replace h49 : (m.1 10) = 0 := h49 hf57
        replace h50 : (m.1 8) ≤ (m47.1 8) := h50
        replace h51 : (m.1 8) + (m.1 9) ≤ (m47.1 8) := h51 hf57
        have u58 : (m.1 8) + 1 ≤ (m47.1 8) := by omega
        refine T_gf 36 (.ref 256) rfl rfl rfl rfl rfl rfl ?_
        refine T_ld 38 (.int (i32 6)) rfl (fun _ => rfl) ?_
        refine T_ld 39 (.int (i32 d)) rfl (fun _ => rfl) ?_
        refine T_imul 40 rfl rfl ?_
        refine T_gf 44 (.ref 211) rfl rfl rfl rfl rfl rfl ?_
        refine T_ld 45 (.int (i32 d)) rfl (fun _ => rfl) ?_
        refine T_iald 46 41 (m.2 41) rfl rfl rfl (by omega) (show d < (16 : Int) by omega) (show (m47.2 41) = (m.2 41) from (fr2 Fm47 41 rfl)) ?_
        have e59 : 0 ≤ (m.2 41) d ∧ (m.2 41) d ≤ 6 := (hT.2.1 41) d
        refine T_iadd 47 rfl rfl ?_
        refine T_ld 48 (.ref 189) rfl (fun _ => rfl) ?_
        refine T_ld 49 (.int (i32 2)) rfl (fun _ => rfl) ?_
        have hOL : (m47.1 10) = 0 → ∀ k, 0 ≤ k → k < (m.1 13) → (m.2 16) k = 2 → 0 ≤ (m.2 17) k ∧ (m.2 17) k < 12 := fun _ k h1 h2 h3 => by
          have h4 := PNl_2 pPN k h1 h2 h3
          omega
        refine T_call 52 236 [.ref 189, .int (i32 2)] [.int (i32 ((6 * d) + ((m.2 41) d))), .ref 256] rfl (fun _ => rfl) rfl (d_oldName w (mO m47 [] []) c N D (by omega) Tm47 2 12 ⟨by decide, by decide⟩ (show LxP (m47.1 7) (m47.1 8) (m47.1 9) (m47.1 6) (m47.1 10) by rewrite [(show (m47.1 6) = (m.1 6) from (fr1 Fm47 6 rfl))]; first | exact hLx | (intro h9; exfalso; omega) | (intro h9; have h8 := hLx (by omega); omega)) (show ∀ k, (m47.2 14) k + (m47.2 15) k ≤ 4000 by rewrite [(show (m47.2 14) = (m.2 14) from (fr2 Fm47 14 rfl)), (show (m47.2 15) = (m.2 15) from (fr2 Fm47 15 rfl))]; first | exact p1 | exact hNM) (show 1 ≤ (2 : Int) ∧ (2 : Int) ≤ 7 ∧ (2 : Int) ≠ 5 by omega) (show 12 ≤ 16 by omega) (show (m47.1 10) = 0 → ∀ k, 0 ≤ k → k < (m47.1 13) → (m47.2 16) k = (2 : Int) → 0 ≤ (m47.2 17) k ∧ (m47.2 17) k < 12 by rewrite [(show (m47.1 13) = (m.1 13) from (fr1 Fm47 13 rfl)), (show (m47.2 16) = (m.2 16) from (fr2 Fm47 16 rfl)), (show (m47.2 17) = (m.2 17) from (fr2 Fm47 17 rfl))]; first | exact hOL | (intro h; exfalso; omega)) (show (2 : Int) = 3 → 3 ≤ 12 by omega)) (fun rr60 k61 => ?_)
        obtain ⟨m62, oo, Tm62, Fm62, g63, h64, h65, h66, h67, h68, h69, rfl⟩ := k61
        refine ⟨_, _, rfl, ?_⟩
        refine T_nb (st' := [.int (i32 oo), .int (i32 ((6 * d) + ((m.2 41) d))), .ref 256]) rfl ?_
        obtain ⟨g63a, g63b⟩ := g63
        have g70 : 0 ≤ m62.1 7 ∧ m62.1 7 ≤ 330 := Tm62.1 7
        have g71 : 0 ≤ m62.1 8 ∧ m62.1 8 ≤ 4000 := Tm62.1 8
        have g72 : 0 ≤ m62.1 9 ∧ m62.1 9 ≤ 4000 := Tm62.1 9
        have g73 : 0 ≤ m62.1 10 ∧ m62.1 10 ≤ 8 := Tm62.1 10
        have g74 : (-1) ≤ m62.1 11 ∧ m62.1 11 ≤ 4000 := Tm62.1 11
        by_cases hf75 : (m62.1 10) = 0
        · skip
          replace h64 : LxP (m62.1 7) (m62.1 8) (m62.1 9) (m47.1 6) (m62.1 10) := h64
          rewrite [(show (m47.1 6) = (m.1 6) from (fr1 Fm47 6 rfl))] at h64
          have hLx := h64
          replace h65 : (m47.1 8) ≤ (m62.1 8) := h65
          replace h66 : (m47.1 10) = 0 ∧ (m47.1 8) + (m47.1 9) ≤ (m62.1 8) := h66 hf75
          replace h67 : (m47.1 7) = 1 := h67 hf75
          replace h68 : 0 ≤ oo ∧ (oo < 12 ∨ oo = 0) := h68
          replace h69 : oo < 12 := h69 hf75
          have u76 : (m.1 8) + 1 ≤ (m62.1 8) := by omega
          clear g52 g53 g54 g55 g56 h48 h50 h51 u58 h65 h66 h67
          have G77 : ∀ j, 0 ≤ (upI (m.2 94) ((6 * d) + ((m.2 41) d)) oo) j ∧ (upI (m.2 94) ((6 * d) + ((m.2 41) d)) oo) j ≤ 11 := upI_rg (hT.2.1 94) ⟨by omega, by omega⟩
          refine T_iast (a' := [(94, upI (m.2 94) ((6 * d) + ((m.2 41) d)) oo)]) 53 94 (m.2 94) rfl rfl rfl (by omega) (show ((6 * d) + ((m.2 41) d)) < (96 : Int) by omega) (show (m62.2 94) = (m.2 94) from ((fr2 Fm62 94 rfl).trans (fr2 Fm47 94 rfl))) rfl ?_
          refine T_ld 54 (.ref 189) rfl (fun _ => rfl) ?_
          refine T_ld 56 (.int (i32 59)) rfl (fun _ => rfl) ?_
          refine T_call 59 232 [.ref 189, .int (i32 59)] [] rfl (fun _ => rfl) rfl (d_need w (mO m62 [] [(94, upI (m.2 94) ((6 * d) + ((m.2 41) d)) oo)]) c N D (by omega) (Ty_mO Tm62 rfl rfl trivial ⟨G77, trivial⟩) 59 ⟨by decide, by decide⟩ (show 1 ≤ (59 : Int) by omega) (show LxP (m62.1 7) (m62.1 8) (m62.1 9) (m62.1 6) (m62.1 10) by rewrite [(show (m62.1 6) = (m.1 6) from ((fr1 Fm62 6 rfl).trans (fr1 Fm47 6 rfl)))]; first | exact hLx | (intro h9; exfalso; omega) | (intro h9; have h8 := hLx (by omega); omega))) (fun rr78 k79 => ?_)
          obtain ⟨m80, Tm80, Fm80, h81, h82, h83, h84, rfl⟩ := k79
          refine ⟨_, _, rfl, ?_⟩
          refine T_nb (st' := []) rfl ?_
          have g85 : 0 ≤ m80.1 7 ∧ m80.1 7 ≤ 330 := Tm80.1 7
          have g86 : 0 ≤ m80.1 8 ∧ m80.1 8 ≤ 4000 := Tm80.1 8
          have g87 : 0 ≤ m80.1 9 ∧ m80.1 9 ≤ 4000 := Tm80.1 9
          have g88 : 0 ≤ m80.1 10 ∧ m80.1 10 ≤ 8 := Tm80.1 10
          have g89 : (-1) ≤ m80.1 11 ∧ m80.1 11 ≤ 4000 := Tm80.1 11
          by_cases hf90 : (m80.1 10) = 0
          · skip
            replace h81 : LxP (m80.1 7) (m80.1 8) (m80.1 9) (m62.1 6) (m80.1 10) := h81
            rewrite [(show (m62.1 6) = (m.1 6) from ((fr1 Fm62 6 rfl).trans (fr1 Fm47 6 rfl)))] at h81
            have hLx := h81
            replace h82 : (m62.1 10) = 0 ∧ (m62.1 7) = (59 : Int) := h82 hf90
            replace h83 : (m62.1 8) ≤ (m80.1 8) := h83
            replace h84 : (m62.1 8) + (m62.1 9) ≤ (m80.1 8) := h84 hf90
            have u91 : (m.1 8) + 1 ≤ (m80.1 8) := by omega
            clear g70 g71 g72 g73 g74 h64 u76 h82 h83 h84
            refine T_gf 63 (.ref 211) rfl rfl rfl rfl rfl rfl ?_
            refine T_ld 64 (.int (i32 d)) rfl (fun _ => rfl) ?_
            refine T_dup2 65 rfl (fun _ => rfl) ?_
            refine T_iald 66 41 (m.2 41) rfl rfl rfl (by omega) (show d < (16 : Int) by omega) (show (m80.2 41) = (m.2 41) from ((fr2 Fm80 41 rfl).trans ((fr2 Fm62 41 rfl).trans (fr2 Fm47 41 rfl)))) ?_
            have e92 : 0 ≤ (m.2 41) d ∧ (m.2 41) d ≤ 6 := (hT.2.1 41) d
            refine T_ld 67 (.int (i32 1)) rfl (fun _ => rfl) ?_
            refine T_iadd 68 rfl rfl ?_
            have G93 : ∀ j, 0 ≤ (upI (m.2 41) d (((m.2 41) d) + 1)) j ∧ (upI (m.2 41) d (((m.2 41) d) + 1)) j ≤ 6 := upI_rg (hT.2.1 41) ⟨by omega, by omega⟩
            refine T_iast (a' := [(41, upI (m.2 41) d (((m.2 41) d) + 1))]) 69 41 (m.2 41) rfl rfl rfl (by omega) (show d < (16 : Int) by omega) (show (m80.2 41) = (m.2 41) from ((fr2 Fm80 41 rfl).trans ((fr2 Fm62 41 rfl).trans (fr2 Fm47 41 rfl)))) rfl ?_
            refine T_ret rfl (fun _ => rfl) ?_
            exact ⟨(mO m80 [] [(41, upI (m.2 41) d (((m.2 41) d) + 1))]), (Ty_mO Tm80 rfl rfl trivial ⟨G93, trivial⟩), (fr_m (fr_s Fm80 (fr_m (fr_s Fm62 (fr_m (fr_s Fm47 (fr_m fr_0 rfl rfl) rfl rfl) rfl rfl) rfl rfl) rfl rfl) rfl rfl) rfl rfl), (show (m80.1 10) = 0 → (m.1 10) = 0 by omega), (show LxP (m80.1 7) (m80.1 8) (m80.1 9) (m.1 6) (m80.1 10) by first | (first | exact hLx | exact (fun _ => hLx (by omega)) | (intro h9; exfalso; omega)) | (exfalso; omega)), (fun _ => (show (m.1 8) + 1 ≤ (m80.1 8) by omega)), rfl⟩
          · skip
            replace h81 : LxP (m80.1 7) (m80.1 8) (m80.1 9) (m62.1 6) (m80.1 10) := h81
            rewrite [(show (m62.1 6) = (m.1 6) from ((fr1 Fm62 6 rfl).trans (fr1 Fm47 6 rfl)))] at h81
            have hLx := h81
            clear h82
            replace h83 : (m62.1 8) ≤ (m80.1 8) := h83
            clear h84
            have hf94 : 1 ≤ (m80.1 10) := by omega
            clear g70 g71 g72 g73 g74 h64 u76 h83
            exact J59_8 (mO m80 [] []) Tm80 (fr_m (fr_s Fm80 (fr_m (fr_s Fm62 (fr_m (fr_s Fm47 (fr_m fr_0 rfl rfl) rfl rfl) rfl rfl) rfl rfl) rfl rfl) rfl rfl) rfl rfl) (show (m.2 41) d ≤ 5 by omega) (show 1 ≤ (m80.1 10) by omega)
        · skip
          replace h64 : LxP (m62.1 7) (m62.1 8) (m62.1 9) (m47.1 6) (m62.1 10) := h64
          rewrite [(show (m47.1 6) = (m.1 6) from (fr1 Fm47 6 rfl))] at h64
          have hLx := h64
          replace h65 : (m47.1 8) ≤ (m62.1 8) := h65
          clear h66
          clear h67
          replace h68 : 0 ≤ oo ∧ (oo < 12 ∨ oo = 0) := h68
          clear h69
          have hf95 : 1 ≤ (m62.1 10) := by omega
          clear g52 g53 g54 g55 g56 h48 h50 h51 u58 h65
          exact J52_18 oo (mO m62 [] []) (r32 (by omega) (by omega)) Tm62 (fr_m (fr_s Fm62 (fr_m (fr_s Fm47 (fr_m fr_0 rfl rfl) rfl rfl) rfl rfl) rfl rfl) rfl rfl) (show 0 ≤ oo by omega) (show oo ≤ 11 by omega) (show (m.2 41) d ≤ 5 by omega) (show 0 ≤ (6 * d) + ((m.2 41) d) ∧ (6 * d) + ((m.2 41) d) ≤ 96 by omega) (show 1 ≤ (m62.1 10) by omega)
      · skip
        replace h48 : LxP (m47.1 7) (m47.1 8) (m47.1 9) (m.1 6) (m47.1 10) := h48
        have hLx := h48
        clear h49
        replace h50 : (m.1 8) ≤ (m47.1 8) := h50
        clear h51
        have hf96 : 1 ≤ (m47.1 10) := by omega
        refine T_gf 36 (.ref 256) rfl rfl rfl rfl rfl rfl ?_
        refine T_ld 38 (.int (i32 6)) rfl (fun _ => rfl) ?_
        refine T_ld 39 (.int (i32 d)) rfl (fun _ => rfl) ?_
        refine T_imul 40 rfl rfl ?_
        refine T_gf 44 (.ref 211) rfl rfl rfl rfl rfl rfl ?_
        refine T_ld 45 (.int (i32 d)) rfl (fun _ => rfl) ?_
        refine T_iald 46 41 (m.2 41) rfl rfl rfl (by omega) (show d < (16 : Int) by omega) (show (m47.2 41) = (m.2 41) from (fr2 Fm47 41 rfl)) ?_
        have e97 : 0 ≤ (m.2 41) d ∧ (m.2 41) d ≤ 6 := (hT.2.1 41) d
        refine T_iadd 47 rfl rfl ?_
        refine T_ld 48 (.ref 189) rfl (fun _ => rfl) ?_
        refine T_ld 49 (.int (i32 2)) rfl (fun _ => rfl) ?_
        refine T_call 52 236 [.ref 189, .int (i32 2)] [.int (i32 ((6 * d) + ((m.2 41) d))), .ref 256] rfl (fun _ => rfl) rfl (d_oldName w (mO m47 [] []) c N D (by omega) Tm47 2 12 ⟨by decide, by decide⟩ (show LxP (m47.1 7) (m47.1 8) (m47.1 9) (m47.1 6) (m47.1 10) by rewrite [(show (m47.1 6) = (m.1 6) from (fr1 Fm47 6 rfl))]; first | exact hLx | (intro h9; exfalso; omega) | (intro h9; have h8 := hLx (by omega); omega)) (show ∀ k, (m47.2 14) k + (m47.2 15) k ≤ 4000 by rewrite [(show (m47.2 14) = (m.2 14) from (fr2 Fm47 14 rfl)), (show (m47.2 15) = (m.2 15) from (fr2 Fm47 15 rfl))]; first | exact p1 | exact hNM) (show 1 ≤ (2 : Int) ∧ (2 : Int) ≤ 7 ∧ (2 : Int) ≠ 5 by omega) (show 12 ≤ 16 by omega) (show (m47.1 10) = 0 → ∀ k, 0 ≤ k → k < (m47.1 13) → (m47.2 16) k = (2 : Int) → 0 ≤ (m47.2 17) k ∧ (m47.2 17) k < 12 by rewrite [(show (m47.1 13) = (m.1 13) from (fr1 Fm47 13 rfl)), (show (m47.2 16) = (m.2 16) from (fr2 Fm47 16 rfl)), (show (m47.2 17) = (m.2 17) from (fr2 Fm47 17 rfl))]; first | exact hOL | (intro h; exfalso; omega)) (show (2 : Int) = 3 → 3 ≤ 12 by omega)) (fun rr98 k99 => ?_)
        obtain ⟨m100, oo, Tm100, Fm100, g101, h102, h103, h104, h105, h106, h107, rfl⟩ := k99
        refine ⟨_, _, rfl, ?_⟩
        refine T_nb (st' := [.int (i32 oo), .int (i32 ((6 * d) + ((m.2 41) d))), .ref 256]) rfl ?_
        obtain ⟨g101a, g101b⟩ := g101
        have g108 : 0 ≤ m100.1 7 ∧ m100.1 7 ≤ 330 := Tm100.1 7
        have g109 : 0 ≤ m100.1 8 ∧ m100.1 8 ≤ 4000 := Tm100.1 8
        have g110 : 0 ≤ m100.1 9 ∧ m100.1 9 ≤ 4000 := Tm100.1 9
        have g111 : 0 ≤ m100.1 10 ∧ m100.1 10 ≤ 8 := Tm100.1 10
        have g112 : (-1) ≤ m100.1 11 ∧ m100.1 11 ≤ 4000 := Tm100.1 11
        replace h102 : LxP (m100.1 7) (m100.1 8) (m100.1 9) (m47.1 6) (m100.1 10) := h102
        rewrite [(show (m47.1 6) = (m.1 6) from (fr1 Fm47 6 rfl))] at h102
        replace h103 : (m47.1 8) ≤ (m100.1 8) := h103
        replace h104 : (m100.1 10) = 0 → (m47.1 10) = 0 ∧ (m47.1 8) + (m47.1 9) ≤ (m100.1 8) := h104
        replace h105 : (m100.1 10) = 0 → (m47.1 7) = 1 := h105
        replace h106 : 0 ≤ oo ∧ (oo < 12 ∨ oo = 0) := h106
        replace h107 : (m100.1 10) = 0 → oo < 12 := h107
        have hf113 : 1 ≤ (m100.1 10) := by omega
        clear h104
        clear h105
        clear h107
        have hLx := h102
        clear g52 g53 g54 g55 g56 h48 h50 hf96 h103
        exact J52_18 oo (mO m100 [] []) (r32 (by omega) (by omega)) Tm100 (fr_m (fr_s Fm100 (fr_m (fr_s Fm47 (fr_m fr_0 rfl rfl) rfl rfl) rfl rfl) rfl rfl) rfl rfl) (show 0 ≤ oo by omega) (show oo ≤ 11 by omega) (show (m.2 41) d ≤ 5 by omega) (show 0 ≤ (6 * d) + ((m.2 41) d) ∧ (6 * d) + ((m.2 41) d) ≤ 96 by omega) (show 1 ≤ (m100.1 10) by omega)
    · skip
      refine T_ld 12 (.ref 189) rfl (fun _ => rfl) ?_
      refine T_ld 13 (.int (i32 4)) rfl (fun _ => rfl) ?_
      refine T_gf 17 (.int (i32 (m.1 8))) rfl rfl rfl rfl rfl rfl ?_
      refine T_call 20 222 [.ref 189, .int (i32 4), .int (i32 (m.1 8))] [] rfl (fun _ => rfl) rfl (d_wrong w (mO m [] []) c N D (by omega) hT 4 (m.1 8) ⟨by decide, by decide⟩ (r32 (by omega) (by omega)) (show 1 ≤ (4 : Int) ∧ (4 : Int) ≤ 8 by omega) (show 0 ≤ (m.1 8) ∧ (m.1 8) ≤ 4000 by omega)) (fun rr114 k115 => ?_)
      obtain ⟨m116, Tm116, Fm116, h117, rfl⟩ := k115
      refine ⟨_, _, rfl, ?_⟩
      refine T_nb (st' := []) rfl ?_
      have g118 : 0 ≤ m116.1 10 ∧ m116.1 10 ≤ 8 := Tm116.1 10
      have g119 : (-1) ≤ m116.1 11 ∧ m116.1 11 ≤ 4000 := Tm116.1 11
      replace h117 : (0 < (m.1 10) → (m116.1 10) = (m.1 10) ∧ (m116.1 11) = (m.1 11)) ∧ ((m.1 10) ≤ 0 → (m116.1 10) = (4 : Int) ∧ (m116.1 11) = (m.1 8)) := h117
      have hf120 : 1 ≤ (m116.1 10) := by omega
      refine T_gf 24 (.int (i32 (m116.1 10))) rfl rfl rfl rfl rfl rfl ?_
      refine T_if 28 27 rfl rfl rfl (r32 (by omega) (by omega)) (fun (h121 : (m116.1 10) ≤ 0) => by exfalso; omega) (fun (h121 : ¬ ((m116.1 10) ≤ 0)) => ?_)
      refine T_ret rfl (fun _ => rfl) ?_
      exact ⟨(mO m116 [] []), Tm116, (fr_m (fr_s Fm116 (fr_m fr_0 rfl rfl) rfl rfl) rfl rfl), (show (m116.1 10) = 0 → (m.1 10) = 0 by omega), (show LxP (m116.1 7) (m116.1 8) (m116.1 9) (m.1 6) (m116.1 10) by rewrite [(show (m116.1 7) = (m.1 7) from (fr1 Fm116 7 rfl)), (show (m116.1 8) = (m.1 8) from (fr1 Fm116 8 rfl)), (show (m116.1 9) = (m.1 9) from (fr1 Fm116 9 rfl))]; first | (first | exact hLx | exact (fun _ => hLx (by omega)) | (intro h9; exfalso; omega)) | (exfalso; omega)), (fun (h : (m116.1 10) = 0) => absurd h (by omega)), rfl⟩
  · skip
    clear hC
    refine T_gf 4 (.ref 211) rfl rfl rfl rfl rfl rfl ?_
    refine T_ld 5 (.int (i32 d)) rfl (fun _ => rfl) ?_
    refine T_iald 6 41 (m.2 41) rfl rfl rfl (by omega) (show d < (16 : Int) by omega) rfl ?_
    have e122 : 0 ≤ (m.2 41) d ∧ (m.2 41) d ≤ 6 := (hT.2.1 41) d
    refine T_ld 8 (.int (i32 6)) rfl (fun _ => rfl) ?_
    refine T_icmp 20 11 rfl rfl rfl (r32 (by omega) (by omega)) ⟨by decide, by decide⟩ (fun (h123 : (m.2 41) d ≠ 6) => ?_) (fun (h123 : ¬ ((m.2 41) d ≠ 6)) => ?_)
    · skip
      refine T_gf 24 (.int (i32 (m.1 10))) rfl rfl rfl rfl rfl rfl ?_
      refine T_if 28 27 rfl rfl rfl (r32 (by omega) (by omega)) (fun (h124 : (m.1 10) ≤ 0) => by exfalso; omega) (fun (h124 : ¬ ((m.1 10) ≤ 0)) => ?_)
      refine T_ret rfl (fun _ => rfl) ?_
      exact ⟨(mO m [] []), hT, (fr_m fr_0 rfl rfl), (show (m.1 10) = 0 → (m.1 10) = 0 by omega), (show LxP (m.1 7) (m.1 8) (m.1 9) (m.1 6) (m.1 10) by first | (first | exact hLx | exact (fun _ => hLx (by omega)) | (intro h9; exfalso; omega)) | (exfalso; omega)), (fun (h : (m.1 10) = 0) => absurd h (by omega)), rfl⟩
    · skip
      refine T_ld 12 (.ref 189) rfl (fun _ => rfl) ?_
      refine T_ld 13 (.int (i32 4)) rfl (fun _ => rfl) ?_
      refine T_gf 17 (.int (i32 (m.1 8))) rfl rfl rfl rfl rfl rfl ?_
      refine T_call 20 222 [.ref 189, .int (i32 4), .int (i32 (m.1 8))] [] rfl (fun _ => rfl) rfl (d_wrong w (mO m [] []) c N D (by omega) hT 4 (m.1 8) ⟨by decide, by decide⟩ (r32 (by omega) (by omega)) (show 1 ≤ (4 : Int) ∧ (4 : Int) ≤ 8 by omega) (show 0 ≤ (m.1 8) ∧ (m.1 8) ≤ 4000 by omega)) (fun rr125 k126 => ?_)
      obtain ⟨m127, Tm127, Fm127, h128, rfl⟩ := k126
      refine ⟨_, _, rfl, ?_⟩
      refine T_nb (st' := []) rfl ?_
      have g129 : 0 ≤ m127.1 10 ∧ m127.1 10 ≤ 8 := Tm127.1 10
      have g130 : (-1) ≤ m127.1 11 ∧ m127.1 11 ≤ 4000 := Tm127.1 11
      replace h128 : (0 < (m.1 10) → (m127.1 10) = (m.1 10) ∧ (m127.1 11) = (m.1 11)) ∧ ((m.1 10) ≤ 0 → (m127.1 10) = (4 : Int) ∧ (m127.1 11) = (m.1 8)) := h128
      have hf131 : 1 ≤ (m127.1 10) := by omega
      refine T_gf 24 (.int (i32 (m127.1 10))) rfl rfl rfl rfl rfl rfl ?_
      refine T_if 28 27 rfl rfl rfl (r32 (by omega) (by omega)) (fun (h132 : (m127.1 10) ≤ 0) => by exfalso; omega) (fun (h132 : ¬ ((m127.1 10) ≤ 0)) => ?_)
      refine T_ret rfl (fun _ => rfl) ?_
      exact ⟨(mO m127 [] []), Tm127, (fr_m (fr_s Fm127 (fr_m fr_0 rfl rfl) rfl rfl) rfl rfl), (show (m127.1 10) = 0 → (m.1 10) = 0 by omega), (show LxP (m127.1 7) (m127.1 8) (m127.1 9) (m.1 6) (m127.1 10) by rewrite [(show (m127.1 7) = (m.1 7) from (fr1 Fm127 7 rfl)), (show (m127.1 8) = (m.1 8) from (fr1 Fm127 8 rfl)), (show (m127.1 9) = (m.1 9) from (fr1 Fm127 9 rfl))]; first | (first | exact hLx | exact (fun _ => hLx (by omega)) | (intro h9; exfalso; omega)) | (exfalso; omega)), (fun (h : (m127.1 10) = 0) => absurd h (by omega)), rfl⟩
def fF_caseNumber : List Nat := [7, 8, 9, 10, 11, 12]
def fA_caseNumber : List Nat := []
def Q_caseNumber (m : mR) (c : Nat → Option am_C) (N : Nat) (b : Int) : ag_Re af_T → Prop := fun R => ∃ (M : mR) (r : Int), Ty M ∧ fr fF_caseNumber fA_caseNumber m M ∧ ((-9223372036854775808) ≤ r ∧ r ≤ 9223372036854775807) ∧ ((M.1 10) = 0 → (m.1 10) = 0) ∧ (LxP (M.1 7) (M.1 8) (M.1 9) (m.1 6) (M.1 10)) ∧ (M.1 10 = 0 → ((m.1 8) + 1 ≤ (M.1 8)) ∧ ((m.1 7) = 2)) ∧ R = (.inl (some (.long (i64 r))), (mhp M c, N), 0, 0)
set_option maxHeartbeats 3000000 in
theorem c_caseNumber (w : wX) (m : mR) (c : Nat → Option am_C) (N D : Nat) (hD : 6 ≤ D) (hT : Ty m) (b : Int) (qb : R32 b) (hLx0 : LxP (m.1 7) (m.1 8) (m.1 9) (m.1 6) (m.1 10)) (hC : m.1 10 = 0 → True) : TC w D 266 [.ref 189, .int (i32 b)] (mhp m c, N) (Q_caseNumber m c N b) := by
  obtain ⟨D, rfl⟩ : ∃ k, D = k + 1 := ⟨D - 1, by omega⟩
  obtain ⟨qba, qbb⟩ := id qb
  have hLx := hLx0
  have f7 : 0 ≤ m.1 7 ∧ m.1 7 ≤ 330 := hT.1 7
  have f8 : 0 ≤ m.1 8 ∧ m.1 8 ≤ 4000 := hT.1 8
  have f9 : 0 ≤ m.1 9 ∧ m.1 9 ≤ 4000 := hT.1 9
  have f10 : 0 ≤ m.1 10 ∧ m.1 10 ≤ 8 := hT.1 10
  have f11 : (-1) ≤ m.1 11 ∧ m.1 11 ≤ 4000 := hT.1 11
  have f12 : (-9223372036854775808) ≤ m.1 12 ∧ m.1 12 ≤ 9223372036854775807 := hT.1 12
  have f6 : 0 ≤ m.1 6 ∧ m.1 6 ≤ 4000 := hT.1 6
  refine Tc_of rfl ?_
  show TT w D pm_266 (0, [(0, .ref 189), (1, .int (i32 b))], [], (mhp (mO m [] []) c, N), 0, 0) (Q_caseNumber m c N b)
  by_cases hf0 : m.1 10 = 0
  · skip
    have h7 := hLx (by omega)
    refine T_gf 4 (.int (i32 (m.1 10))) rfl rfl rfl rfl rfl rfl ?_
    refine T_if 9 7 rfl rfl rfl (r32 (by omega) (by omega)) (fun (h4 : (m.1 10) ≤ 0) => ?_) (fun (h4 : ¬ ((m.1 10) ≤ 0)) => by exfalso; omega)
    refine T_gf 13 (.int (i32 (m.1 7))) rfl rfl rfl rfl rfl rfl ?_
    refine T_ld 14 (.int (i32 2)) rfl (fun _ => rfl) ?_
    refine T_icmp 23 17 rfl rfl rfl (r32 (by omega) (by omega)) ⟨by decide, by decide⟩ (fun (h5 : (m.1 7) = 2) => ?_) (fun (h5 : ¬ ((m.1 7) = 2)) => ?_)
    · skip
      refine T_gf 27 (.int (i32 (m.1 8))) rfl rfl rfl rfl rfl rfl ?_
      refine T_sto 28 [(2, .int (i32 (m.1 8))), (0, .ref 189), (1, .int (i32 b))] rfl (fun _ => rfl) ?_
      refine T_gf 32 (.long (i64 (m.1 12))) rfl rfl rfl rfl rfl rfl ?_
      refine T_sto 33 [(3, .long (i64 (m.1 12))), (2, .int (i32 (m.1 8))), (0, .ref 189), (1, .int (i32 b))] rfl (fun _ => rfl) ?_
      refine T_ld 34 (.ref 189) rfl (fun _ => rfl) ?_
      refine T_call 37 212 [.ref 189] [] rfl (fun _ => rfl) rfl (d_next w (mO m [] []) c N D (by omega) hT (show (m.1 10) = 0 → (m.1 8) + (m.1 9) ≤ (m.1 6) by first | omega | (intro h9; have h8 := hLx h9; omega))) (fun rr6 k7 => ?_)
      obtain ⟨m8, Tm8, Fm8, h9, h10, h11, h12, rfl⟩ := k7
      refine ⟨_, _, rfl, ?_⟩
      refine T_nb (st' := []) rfl ?_
      have g13 : 0 ≤ m8.1 7 ∧ m8.1 7 ≤ 330 := Tm8.1 7
      have g14 : 0 ≤ m8.1 8 ∧ m8.1 8 ≤ 4000 := Tm8.1 8
      have g15 : 0 ≤ m8.1 9 ∧ m8.1 9 ≤ 4000 := Tm8.1 9
      have g16 : 0 ≤ m8.1 10 ∧ m8.1 10 ≤ 8 := Tm8.1 10
      have g17 : (-1) ≤ m8.1 11 ∧ m8.1 11 ≤ 4000 := Tm8.1 11
      have g18 : (-9223372036854775808) ≤ m8.1 12 ∧ m8.1 12 ≤ 9223372036854775807 := Tm8.1 12
      by_cases hf19 : (m8.1 10) = 0
      · skip
        replace h9 : LxP (m8.1 7) (m8.1 8) (m8.1 9) (m.1 6) (m8.1 10) := h9
        have hLx := h9
        replace h10 : (m.1 10) = 0 := h10 hf19
        replace h11 : (m.1 8) ≤ (m8.1 8) := h11
        replace h12 : (m.1 8) + (m.1 9) ≤ (m8.1 8) := h12 hf19
        have u20 : (m.1 8) + 1 ≤ (m8.1 8) := by omega
        refine T_gf 41 (.int (i32 (m8.1 10))) rfl rfl rfl rfl rfl rfl ?_
        refine T_if 54 44 rfl rfl rfl (r32 (by omega) (by omega)) (fun (h21 : (m8.1 10) ≠ 0) => by exfalso; omega) (fun (h21 : ¬ ((m8.1 10) ≠ 0)) => ?_)
        refine T_ld 45 (.ref 189) rfl (fun _ => rfl) ?_
        refine T_ld 46 (.long (i64 (m.1 12))) rfl (fun _ => rfl) ?_
        refine T_ld 47 (.int (i32 b)) rfl (fun _ => rfl) ?_
        refine T_call 50 262 [.long (i64 (m.1 12)), .int (i32 b)] [.ref 189] rfl (fun _ => rfl) rfl (c_fits w (mO m8 [] []) c N D (by omega) Tm8 (m.1 12) b (r64 (by omega) (by omega)) (r32 (by omega) (by omega))) (fun rr22 k23 => ?_)
        obtain ⟨x24, g25, rfl⟩ := k23
        refine ⟨_, _, rfl, ?_⟩
        refine T_ns (st' := [.int (i32 x24), .ref 189]) rfl ?_
        obtain ⟨g25a, g25b⟩ := g25
        have u26 : (m.1 8) + 1 ≤ (m8.1 8) := by omega
        refine T_ld 51 (.int (i32 (m.1 8))) rfl (fun _ => rfl) ?_
        refine T_call 54 256 [.ref 189, .int (i32 x24), .int (i32 (m.1 8))] [] rfl (fun _ => rfl) rfl (c_want w (mO m8 [] []) c N D (by omega) Tm8 x24 (m.1 8) (r32 (by omega) (by omega)) (r32 (by omega) (by omega)) (show 0 ≤ (m.1 8) ∧ (m.1 8) ≤ 4000 by omega) (fun _ => trivial)) (fun rr27 k28 => ?_)
        obtain ⟨m29, Tm29, Fm29, h30, c31, rfl⟩ := k28
        refine ⟨_, _, rfl, ?_⟩
        refine T_nb (st' := []) rfl ?_
        have g32 : 0 ≤ m29.1 10 ∧ m29.1 10 ≤ 8 := Tm29.1 10
        have g33 : (-1) ≤ m29.1 11 ∧ m29.1 11 ≤ 4000 := Tm29.1 11
        by_cases hf34 : (m29.1 10) = 0
        · skip
          replace h30 : (m8.1 10) = 0 := h30 hf34
          have c35 := c31 hf34
          replace c35 : x24 ≠ 0 := c35
          clear c31
          have u36 : (m.1 8) + 1 ≤ (m8.1 8) := by omega
          clear g16 g17 h9 h21 g25a g25b h30 c35
          refine T_ld 55 (.long (i64 (m.1 12))) rfl (fun _ => rfl) ?_
          refine T_ret rfl (fun _ => rfl) ?_
          exact ⟨(mO m29 [] []), (m.1 12), Tm29, (fr_m (fr_s Fm29 (fr_m (fr_s Fm8 (fr_m fr_0 rfl rfl) rfl rfl) rfl rfl) rfl rfl) rfl rfl), ⟨by omega, by omega⟩, (show (m29.1 10) = 0 → (m.1 10) = 0 by omega), (show LxP (m29.1 7) (m29.1 8) (m29.1 9) (m.1 6) (m29.1 10) by rewrite [(show (m29.1 7) = (m8.1 7) from (fr1 Fm29 7 rfl)), (show (m29.1 8) = (m8.1 8) from (fr1 Fm29 8 rfl)), (show (m29.1 9) = (m8.1 9) from (fr1 Fm29 9 rfl))]; first | (first | exact hLx | exact (fun _ => hLx (by omega)) | (intro h9; exfalso; omega)) | (exfalso; omega)), (fun _ => ⟨(show (m.1 8) + 1 ≤ (m29.1 8) by rewrite [(show (m29.1 8) = (m8.1 8) from (fr1 Fm29 8 rfl))]; omega), (show (m.1 7) = 2 by omega)⟩), rfl⟩
        · skip
          clear c31
          clear h30
          have hf37 : 1 ≤ (m29.1 10) := by omega
          clear g16 g17 h9 h21 g25a g25b
          refine T_ld 55 (.long (i64 (m.1 12))) rfl (fun _ => rfl) ?_
          refine T_ret rfl (fun _ => rfl) ?_
          exact ⟨(mO m29 [] []), (m.1 12), Tm29, (fr_m (fr_s Fm29 (fr_m (fr_s Fm8 (fr_m fr_0 rfl rfl) rfl rfl) rfl rfl) rfl rfl) rfl rfl), ⟨by omega, by omega⟩, (show (m29.1 10) = 0 → (m.1 10) = 0 by omega), (show LxP (m29.1 7) (m29.1 8) (m29.1 9) (m.1 6) (m29.1 10) by rewrite [(show (m29.1 7) = (m8.1 7) from (fr1 Fm29 7 rfl)), (show (m29.1 8) = (m8.1 8) from (fr1 Fm29 8 rfl)), (show (m29.1 9) = (m8.1 9) from (fr1 Fm29 9 rfl))]; first | (first | exact hLx | exact (fun _ => hLx (by omega)) | (intro h9; exfalso; omega)) | (exfalso; omega)), (fun (h : (m29.1 10) = 0) => absurd h (by omega)), rfl⟩
      · skip
        replace h9 : LxP (m8.1 7) (m8.1 8) (m8.1 9) (m.1 6) (m8.1 10) := h9
        have hLx := h9
        clear h10
        replace h11 : (m.1 8) ≤ (m8.1 8) := h11
        clear h12
        have hf38 : 1 ≤ (m8.1 10) := by omega
        refine T_gf 41 (.int (i32 (m8.1 10))) rfl rfl rfl rfl rfl rfl ?_
        refine T_if 54 44 rfl rfl rfl (r32 (by omega) (by omega)) (fun (h39 : (m8.1 10) ≠ 0) => ?_) (fun (h39 : ¬ ((m8.1 10) ≠ 0)) => by exfalso; omega)
        refine T_ld 55 (.long (i64 (m.1 12))) rfl (fun _ => rfl) ?_
        refine T_ret rfl (fun _ => rfl) ?_
        exact ⟨(mO m8 [] []), (m.1 12), Tm8, (fr_m (fr_s Fm8 (fr_m fr_0 rfl rfl) rfl rfl) rfl rfl), ⟨by omega, by omega⟩, (show (m8.1 10) = 0 → (m.1 10) = 0 by omega), (show LxP (m8.1 7) (m8.1 8) (m8.1 9) (m.1 6) (m8.1 10) by first | (first | exact hLx | exact (fun _ => hLx (by omega)) | (intro h9; exfalso; omega)) | (exfalso; omega)), (fun (h : (m8.1 10) = 0) => absurd h (by omega)), rfl⟩
    · skip
      refine T_ld 18 (.ref 189) rfl (fun _ => rfl) ?_
      refine T_call 21 226 [.ref 189] [] rfl (fun _ => rfl) rfl (d_bad w (mO m [] []) c N D (by omega) hT ) (fun rr40 k41 => ?_)
      obtain ⟨m42, Tm42, Fm42, h43, rfl⟩ := k41
      refine ⟨_, _, rfl, ?_⟩
      refine T_nb (st' := []) rfl ?_
      have g44 : 0 ≤ m42.1 10 ∧ m42.1 10 ≤ 8 := Tm42.1 10
      have g45 : (-1) ≤ m42.1 11 ∧ m42.1 11 ≤ 4000 := Tm42.1 11
      replace h43 : (0 < (m.1 10) → (m42.1 10) = (m.1 10) ∧ (m42.1 11) = (m.1 11)) ∧ ((m.1 10) ≤ 0 → (m42.1 10) = 1 ∧ (m42.1 11) = (m.1 8)) := h43
      have hf46 : 1 ≤ (m42.1 10) := by omega
      refine T_ld 22 (.long (i64 0)) rfl (fun _ => rfl) ?_
      refine T_ret rfl (fun _ => rfl) ?_
      exact ⟨(mO m42 [] []), 0, Tm42, (fr_m (fr_s Fm42 (fr_m fr_0 rfl rfl) rfl rfl) rfl rfl), ⟨by omega, by omega⟩, (show (m42.1 10) = 0 → (m.1 10) = 0 by omega), (show LxP (m42.1 7) (m42.1 8) (m42.1 9) (m.1 6) (m42.1 10) by rewrite [(show (m42.1 7) = (m.1 7) from (fr1 Fm42 7 rfl)), (show (m42.1 8) = (m.1 8) from (fr1 Fm42 8 rfl)), (show (m42.1 9) = (m.1 9) from (fr1 Fm42 9 rfl))]; first | (first | exact hLx | exact (fun _ => hLx (by omega)) | (intro h9; exfalso; omega)) | (exfalso; omega)), (fun (h : (m42.1 10) = 0) => absurd h (by omega)), rfl⟩
  · skip
    clear hC
    refine T_gf 4 (.int (i32 (m.1 10))) rfl rfl rfl rfl rfl rfl ?_
    refine T_if 9 7 rfl rfl rfl (r32 (by omega) (by omega)) (fun (h47 : (m.1 10) ≤ 0) => by exfalso; omega) (fun (h47 : ¬ ((m.1 10) ≤ 0)) => ?_)
    refine T_ld 8 (.long (i64 0)) rfl (fun _ => rfl) ?_
    refine T_ret rfl (fun _ => rfl) ?_
    exact ⟨(mO m [] []), 0, hT, (fr_m fr_0 rfl rfl), ⟨by omega, by omega⟩, (show (m.1 10) = 0 → (m.1 10) = 0 by omega), (show LxP (m.1 7) (m.1 8) (m.1 9) (m.1 6) (m.1 10) by first | (first | exact hLx | exact (fun _ => hLx (by omega)) | (intro h9; exfalso; omega)) | (exfalso; omega)), (fun (h : (m.1 10) = 0) => absurd h (by omega)), rfl⟩
def fF_takeCase : List Nat := [7, 8, 9, 10, 11, 12, 13, 23]
def fA_takeCase : List Nat := [14, 15, 16, 17, 37, 38, 42, 45, 97, 98]
def Q_takeCase (m : mR) (c : Nat → Option am_C) (N : Nat) (d : Int) : ag_Re af_T → Prop := fun R => ∃ (M : mR), Ty M ∧ fr fF_takeCase fA_takeCase m M ∧ ((M.1 10) = 0 → (m.1 10) = 0) ∧ (LxP (M.1 7) (M.1 8) (M.1 9) (m.1 6) (M.1 10)) ∧ (∀ k, (M.2 14) k + (M.2 15) k ≤ 4000) ∧ (M.1 10 = 0 → ((m.1 8) + 1 ≤ (M.1 8)) ∧ (PN (M.1 13) (m.1 19) (m.1 20) (m.1 21) (m.1 22) (M.1 23) (m.1 25) (m.1 26) (M.2 16) (M.2 17)) ∧ (SOp (M.2 38) (M.1 23) (m.1 24)) ∧ (∀ c, 8 * d ≤ c → c < 8 * d + (M.2 42) d → (M.2 45) c < (M.1 23)) ∧ ((m.1 23) ≤ (M.1 23)) ∧ (agr (m.2 42) (M.2 42) d) ∧ (agr (m.2 45) (M.2 45) (8 * d))) ∧ R = (.inl (none), (mhp M c, N), 0, 0)
set_option maxHeartbeats 3000000 in
theorem c_takeCase (w : wX) (m : mR) (c : Nat → Option am_C) (N D : Nat) (hD : 7 ≤ D) (hT : Ty m) (d : Int) (qd : R32 d) (hLx0 : LxP (m.1 7) (m.1 8) (m.1 9) (m.1 6) (m.1 10)) (hNM0 : ∀ k, (m.2 14) k + (m.2 15) k ≤ 4000) (p2 : 0 ≤ d ∧ d ≤ 15) (hC : m.1 10 = 0 → (PN (m.1 13) (m.1 19) (m.1 20) (m.1 21) (m.1 22) (m.1 23) (m.1 25) (m.1 26) (m.2 16) (m.2 17)) ∧ (SOp (m.2 38) (m.1 23) (m.1 24)) ∧ (∀ c, 8 * d ≤ c → c < 8 * d + (m.2 42) d → (m.2 45) c < (m.1 23))) : TC w D 265 [.ref 189, .int (i32 d)] (mhp m c, N) (Q_takeCase m c N d) := by
  obtain ⟨D, rfl⟩ : ∃ k, D = k + 1 := ⟨D - 1, by omega⟩
  obtain ⟨qda, qdb⟩ := id qd
  have hLx := hLx0
  have hNM := hNM0
  have f7 : 0 ≤ m.1 7 ∧ m.1 7 ≤ 330 := hT.1 7
  have f8 : 0 ≤ m.1 8 ∧ m.1 8 ≤ 4000 := hT.1 8
  have f9 : 0 ≤ m.1 9 ∧ m.1 9 ≤ 4000 := hT.1 9
  have f10 : 0 ≤ m.1 10 ∧ m.1 10 ≤ 8 := hT.1 10
  have f11 : (-1) ≤ m.1 11 ∧ m.1 11 ≤ 4000 := hT.1 11
  have f13 : 0 ≤ m.1 13 ∧ m.1 13 ≤ 120 := hT.1 13
  have f23 : 0 ≤ m.1 23 ∧ m.1 23 ≤ 16 := hT.1 23
  have f25 : 0 ≤ m.1 25 ∧ m.1 25 ≤ 16 := hT.1 25
  have f22 : 0 ≤ m.1 22 ∧ m.1 22 ≤ 8 := hT.1 22
  have f24 : 0 ≤ m.1 24 ∧ m.1 24 ≤ 16 := hT.1 24
  have f19 : 0 ≤ m.1 19 ∧ m.1 19 ≤ 12 := hT.1 19
  have f20 : 0 ≤ m.1 20 ∧ m.1 20 ≤ 12 := hT.1 20
  have f21 : 0 ≤ m.1 21 ∧ m.1 21 ≤ 16 := hT.1 21
  have f6 : 0 ≤ m.1 6 ∧ m.1 6 ≤ 4000 := hT.1 6
  have f26 : 0 ≤ m.1 26 ∧ m.1 26 ≤ 8 := hT.1 26
  refine Tc_of rfl ?_
  show TT w D pm_265 (0, [(0, .ref 189), (1, .int (i32 d))], [], (mhp (mO m [] []) c, N), 0, 0) (Q_takeCase m c N d)
  by_cases hf0 : m.1 10 = 0
  · skip
    obtain ⟨pPN, pSO, hCT⟩ := hC hf0
    have h7 := hLx (by omega)
    have hNM := hNM0
    have J123_12 : ∀ (m11 : mR), Ty m11 → fr [7, 8, 9, 10, 11, 12, 13, 23] [14, 15, 16, 17, 37, 38, 45, 97, 98] (mO m [] []) m11 → (∀ k, (m11.2 14) k + (m11.2 15) k ≤ 4000) → ((m.2 42) d ≤ 7) → (0 ≤ ((8 * d) + ((m.2 42) d)) ∧ ((8 * d) + ((m.2 42) d)) ≤ 127) → (1 ≤ (m11.1 10)) → TT w D pm_265 (123, [(0, .ref 189), (1, .int (i32 d)), (2, .int (i32 ((8 * d) + ((m.2 42) d))))], [], (mhp (mO m11 [] []) c, N), 0, 0) (Q_takeCase m c N d) := by
      intro m11 Tm11 Fm11 ic13 ic14 ic15 ic16
      have q17_7 : 0 ≤ m11.1 7 ∧ m11.1 7 ≤ 330 := Tm11.1 7
      have q17_8 : 0 ≤ m11.1 8 ∧ m11.1 8 ≤ 4000 := Tm11.1 8
      have q17_9 : 0 ≤ m11.1 9 ∧ m11.1 9 ≤ 4000 := Tm11.1 9
      have q17_10 : 0 ≤ m11.1 10 ∧ m11.1 10 ≤ 8 := Tm11.1 10
      have q17_11 : (-1) ≤ m11.1 11 ∧ m11.1 11 ≤ 4000 := Tm11.1 11
      have q17_13 : 0 ≤ m11.1 13 ∧ m11.1 13 ≤ 120 := Tm11.1 13
      have q17_23 : 0 ≤ m11.1 23 ∧ m11.1 23 ≤ 16 := Tm11.1 23
      have hNM := ic13
      refine T_gf 127 (.ref 212) rfl rfl rfl rfl rfl rfl ?_
      refine T_ld 128 (.int (i32 d)) rfl (fun _ => rfl) ?_
      refine T_dup2 129 rfl (fun _ => rfl) ?_
      refine T_iald 130 42 (m.2 42) rfl rfl rfl (by omega) (show d < (16 : Int) by omega) (show (m11.2 42) = (m.2 42) from (fr2 Fm11 42 rfl)) ?_
      have e20 : 0 ≤ (m.2 42) d ∧ (m.2 42) d ≤ 8 := (hT.2.1 42) d
      refine T_ld 131 (.int (i32 1)) rfl (fun _ => rfl) ?_
      refine T_iadd 132 rfl rfl ?_
      have G21 : ∀ j, 0 ≤ (upI (m.2 42) d (((m.2 42) d) + 1)) j ∧ (upI (m.2 42) d (((m.2 42) d) + 1)) j ≤ 8 := upI_rg (hT.2.1 42) ⟨by omega, by omega⟩
      refine T_iast (a' := [(42, upI (m.2 42) d (((m.2 42) d) + 1))]) 133 42 (m.2 42) rfl rfl rfl (by omega) (show d < (16 : Int) by omega) (show (m11.2 42) = (m.2 42) from (fr2 Fm11 42 rfl)) rfl ?_
      refine T_ret rfl (fun _ => rfl) ?_
      exact ⟨(mO m11 [] [(42, upI (m.2 42) d (((m.2 42) d) + 1))]), (Ty_mO Tm11 rfl rfl trivial ⟨G21, trivial⟩), (fr_m (fr_s Fm11 (fr_m fr_0 rfl rfl) rfl rfl) rfl rfl), (show (m11.1 10) = 0 → (m.1 10) = 0 by omega), (show LxP (m11.1 7) (m11.1 8) (m11.1 9) (m.1 6) (m11.1 10) by first | (first | exact hLx | exact (fun _ => hLx (by omega)) | (intro h9; exfalso; omega)) | (exfalso; omega)), (show ∀ k, (m11.2 14) k + (m11.2 15) k ≤ 4000 by first | (first | exact hNM | (intro k; rw [hE1, hE2]; have := hNM k; have h7 := hLx0 hf0; unfold upI; split <;> omega)) | (exfalso; omega)), (fun (h : (m11.1 10) = 0) => absurd h (by omega)), rfl⟩
    have J116_24 : ∀ (s22 : Int) (m23 : mR), (R32 s22) → Ty m23 → fr [7, 8, 9, 10, 11, 12, 13, 23] [14, 15, 16, 17, 37, 38, 97, 98] (mO m [] []) m23 → ((-2) ≤ s22) → (s22 ≤ 15) → (∀ k, (m23.2 14) k + (m23.2 15) k ≤ 4000) → ((m.2 42) d ≤ 7) → (0 ≤ ((8 * d) + ((m.2 42) d)) ∧ ((8 * d) + ((m.2 42) d)) ≤ 127) → (0 ≤ (8 * d) + ((m.2 42) d) ∧ (8 * d) + ((m.2 42) d) ≤ 127) → (1 ≤ (m23.1 10)) → TT w D pm_265 (116, [(0, .ref 189), (1, .int (i32 d)), (2, .int (i32 ((8 * d) + ((m.2 42) d))))], [.int (i32 s22), .int (i32 ((8 * d) + ((m.2 42) d))), .ref 215], (mhp (mO m23 [] []) c, N), 0, 0) (Q_takeCase m c N d) := by
      intro s22 m23 q32 Tm23 Fm23 ic25 ic26 ic27 ic28 ic29 ic30 ic31
      obtain ⟨q32a, q32b⟩ := id q32
      have q33_7 : 0 ≤ m23.1 7 ∧ m23.1 7 ≤ 330 := Tm23.1 7
      have q33_8 : 0 ≤ m23.1 8 ∧ m23.1 8 ≤ 4000 := Tm23.1 8
      have q33_9 : 0 ≤ m23.1 9 ∧ m23.1 9 ≤ 4000 := Tm23.1 9
      have q33_10 : 0 ≤ m23.1 10 ∧ m23.1 10 ≤ 8 := Tm23.1 10
      have q33_11 : (-1) ≤ m23.1 11 ∧ m23.1 11 ≤ 4000 := Tm23.1 11
      have q33_13 : 0 ≤ m23.1 13 ∧ m23.1 13 ≤ 120 := Tm23.1 13
      have q33_23 : 0 ≤ m23.1 23 ∧ m23.1 23 ≤ 16 := Tm23.1 23
      have hNM := ic27
      have G36 : ∀ j, (-2) ≤ (upI (m.2 45) ((8 * d) + ((m.2 42) d)) s22) j ∧ (upI (m.2 45) ((8 * d) + ((m.2 42) d)) s22) j ≤ 15 := upI_rg (hT.2.1 45) ⟨by omega, by omega⟩
      refine T_iast (a' := [(45, upI (m.2 45) ((8 * d) + ((m.2 42) d)) s22)]) 117 45 (m.2 45) rfl rfl rfl (by omega) (show ((8 * d) + ((m.2 42) d)) < (128 : Int) by omega) (show (m23.2 45) = (m.2 45) from (fr2 Fm23 45 rfl)) rfl ?_
      refine T_ld 118 (.ref 189) rfl (fun _ => rfl) ?_
      refine T_ld 120 (.int (i32 59)) rfl (fun _ => rfl) ?_
      refine T_call 123 232 [.ref 189, .int (i32 59)] [] rfl (fun _ => rfl) rfl (d_need w (mO m23 [] [(45, upI (m.2 45) ((8 * d) + ((m.2 42) d)) s22)]) c N D (by omega) (Ty_mO Tm23 rfl rfl trivial ⟨G36, trivial⟩) 59 ⟨by decide, by decide⟩ (show 1 ≤ (59 : Int) by omega) (show LxP (m23.1 7) (m23.1 8) (m23.1 9) (m23.1 6) (m23.1 10) by rewrite [(show (m23.1 6) = (m.1 6) from (fr1 Fm23 6 rfl))]; first | exact hLx | (intro h9; exfalso; omega) | (intro h9; have h8 := hLx (by omega); omega))) (fun rr37 k38 => ?_)
      obtain ⟨m39, Tm39, Fm39, h40, h41, h42, h43, rfl⟩ := k38
      refine ⟨_, _, rfl, ?_⟩
      refine T_nb (st' := []) rfl ?_
      have g44 : 0 ≤ m39.1 7 ∧ m39.1 7 ≤ 330 := Tm39.1 7
      have g45 : 0 ≤ m39.1 8 ∧ m39.1 8 ≤ 4000 := Tm39.1 8
      have g46 : 0 ≤ m39.1 9 ∧ m39.1 9 ≤ 4000 := Tm39.1 9
      have g47 : 0 ≤ m39.1 10 ∧ m39.1 10 ≤ 8 := Tm39.1 10
      have g48 : (-1) ≤ m39.1 11 ∧ m39.1 11 ≤ 4000 := Tm39.1 11
      replace h40 : LxP (m39.1 7) (m39.1 8) (m39.1 9) (m23.1 6) (m39.1 10) := h40
      rewrite [(show (m23.1 6) = (m.1 6) from (fr1 Fm23 6 rfl))] at h40
      replace h41 : (m39.1 10) = 0 → (m23.1 10) = 0 ∧ (m23.1 7) = (59 : Int) := h41
      replace h42 : (m23.1 8) ≤ (m39.1 8) := h42
      replace h43 : (m39.1 10) = 0 → (m23.1 8) + (m23.1 9) ≤ (m39.1 8) := h43
      have hf49 : 1 ≤ (m39.1 10) := by omega
      clear h41
      clear h43
      have hLx := h40
      clear q33_7 q33_8 q33_9 q33_10 q33_11 ic31 h42
      exact J123_12 (mO m39 [] []) Tm39 (fr_m (fr_s Fm39 (fr_m (fr_s Fm23 (fr_m fr_0 rfl rfl) rfl rfl) rfl rfl) rfl rfl) rfl rfl) (show ∀ k, (m39.2 14) k + (m39.2 15) k ≤ 4000 by rewrite [(show (m39.2 14) = (m23.2 14) from (fr2 Fm39 14 rfl)), (show (m39.2 15) = (m23.2 15) from (fr2 Fm39 15 rfl))]; first | exact hNM) (show (m.2 42) d ≤ 7 by omega) (show 0 ≤ ((8 * d) + ((m.2 42) d)) ∧ ((8 * d) + ((m.2 42) d)) ≤ 127 by omega) (show 1 ≤ (m39.1 10) by omega)
    have J107_51 : ∀ (m50 : mR), Ty m50 → fr [7, 8, 9, 10, 11, 12] [97, 98] (mO m [] []) m50 → (∀ k, (m.2 14) k + (m.2 15) k ≤ 4000) → ((m.2 42) d ≤ 7) → (0 ≤ ((8 * d) + ((m.2 42) d)) ∧ ((8 * d) + ((m.2 42) d)) ≤ 127) → (1 ≤ (m50.1 10)) → TT w D pm_265 (107, [(0, .ref 189), (1, .int (i32 d)), (2, .int (i32 ((8 * d) + ((m.2 42) d))))], [], (mhp (mO m50 [] []) c, N), 0, 0) (Q_takeCase m c N d) := by
      intro m50 Tm50 Fm50 ic52 ic53 ic54 ic55
      have q56_7 : 0 ≤ m50.1 7 ∧ m50.1 7 ≤ 330 := Tm50.1 7
      have q56_8 : 0 ≤ m50.1 8 ∧ m50.1 8 ≤ 4000 := Tm50.1 8
      have q56_9 : 0 ≤ m50.1 9 ∧ m50.1 9 ≤ 4000 := Tm50.1 9
      have q56_10 : 0 ≤ m50.1 10 ∧ m50.1 10 ≤ 8 := Tm50.1 10
      have q56_11 : (-1) ≤ m50.1 11 ∧ m50.1 11 ≤ 4000 := Tm50.1 11
      have hNM := ic52
      refine T_gf 111 (.ref 215) rfl rfl rfl rfl rfl rfl ?_
      refine T_ld 112 (.int (i32 ((8 * d) + ((m.2 42) d)))) rfl (fun _ => rfl) ?_
      refine T_ld 113 (.ref 189) rfl (fun _ => rfl) ?_
      refine T_call 116 242 [.ref 189] [.int (i32 ((8 * d) + ((m.2 42) d))), .ref 215] rfl (fun _ => rfl) rfl (c_stateHere w (mO m50 [] []) c N D (by omega) Tm50 (show LxP (m50.1 7) (m50.1 8) (m50.1 9) (m50.1 6) (m50.1 10) by rewrite [(show (m50.1 6) = (m.1 6) from (fr1 Fm50 6 rfl))]; first | exact hLx | exact (fun _ => hLx (by omega)) | (intro h9; exfalso; omega)) (show ∀ k, (m50.2 14) k + (m50.2 15) k ≤ 4000 by rewrite [(show (m50.2 14) = (m.2 14) from (fr2 Fm50 14 rfl)), (show (m50.2 15) = (m.2 15) from (fr2 Fm50 15 rfl))]; assumption) (fun (h : (m50.1 10) = 0) => absurd h (by omega))) (fun rr59 k60 => ?_)
      obtain ⟨m61, x62, Tm61, Fm61, g63, h64, h65, h66, c67, rfl⟩ := k60
      refine ⟨_, _, rfl, ?_⟩
      refine T_nb (st' := [.int (i32 x62), .int (i32 ((8 * d) + ((m.2 42) d))), .ref 215]) rfl ?_
      obtain ⟨g63a, g63b⟩ := g63
      have g68 : 0 ≤ m61.1 7 ∧ m61.1 7 ≤ 330 := Tm61.1 7
      have g69 : 0 ≤ m61.1 8 ∧ m61.1 8 ≤ 4000 := Tm61.1 8
      have g70 : 0 ≤ m61.1 9 ∧ m61.1 9 ≤ 4000 := Tm61.1 9
      have g71 : 0 ≤ m61.1 10 ∧ m61.1 10 ≤ 8 := Tm61.1 10
      have g72 : (-1) ≤ m61.1 11 ∧ m61.1 11 ≤ 4000 := Tm61.1 11
      have g73 : 0 ≤ m61.1 13 ∧ m61.1 13 ≤ 120 := Tm61.1 13
      have g74 : 0 ≤ m61.1 23 ∧ m61.1 23 ≤ 16 := Tm61.1 23
      replace h64 : (m61.1 10) = 0 → (m50.1 10) = 0 := h64
      replace h65 : LxP (m61.1 7) (m61.1 8) (m61.1 9) (m50.1 6) (m61.1 10) := h65
      rewrite [(show (m50.1 6) = (m.1 6) from (fr1 Fm50 6 rfl))] at h65
      replace h66 : ∀ k, (m61.2 14) k + (m61.2 15) k ≤ 4000 := h66
      have hf75 : 1 ≤ (m61.1 10) := by omega
      clear c67
      clear h64
      have hLx := h65
      have hNM := h66
      clear q56_7 q56_8 q56_9 q56_10 q56_11 ic55
      exact J116_24 x62 (mO m61 [] []) (r32 (by omega) (by omega)) Tm61 (fr_m (fr_s Fm61 (fr_m (fr_s Fm50 (fr_m fr_0 rfl rfl) rfl rfl) rfl rfl) rfl rfl) rfl rfl) (show (-2) ≤ x62 by omega) (show x62 ≤ 15 by omega) (show ∀ k, (m61.2 14) k + (m61.2 15) k ≤ 4000 by first | exact hNM) (show (m.2 42) d ≤ 7 by omega) (show 0 ≤ ((8 * d) + ((m.2 42) d)) ∧ ((8 * d) + ((m.2 42) d)) ≤ 127 by omega) (show 0 ≤ (8 * d) + ((m.2 42) d) ∧ (8 * d) + ((m.2 42) d) ≤ 127 by omega) (show 1 ≤ (m61.1 10) by omega)
    have J100_78 : ∀ (s76 : Int) (m77 : mR), (R64 s76) → Ty m77 → fr [7, 8, 9, 10, 11, 12] [97, 98] (mO m [] []) m77 → (∀ k, (m.2 14) k + (m.2 15) k ≤ 4000) → ((m.2 42) d ≤ 7) → (0 ≤ ((8 * d) + ((m.2 42) d)) ∧ ((8 * d) + ((m.2 42) d)) ≤ 127) → (0 ≤ (8 * d) + ((m.2 42) d) ∧ (8 * d) + ((m.2 42) d) ≤ 127) → (1 ≤ (m77.1 10)) → TT w D pm_265 (100, [(0, .ref 189), (1, .int (i32 d)), (2, .int (i32 ((8 * d) + ((m.2 42) d))))], [.long (i64 s76), .int (i32 ((8 * d) + ((m.2 42) d))), .ref 260], (mhp (mO m77 [] []) c, N), 0, 0) (Q_takeCase m c N d) := by
      intro s76 m77 q84 Tm77 Fm77 ic79 ic80 ic81 ic82 ic83
      obtain ⟨q84a, q84b⟩ := id q84
      have q85_7 : 0 ≤ m77.1 7 ∧ m77.1 7 ≤ 330 := Tm77.1 7
      have q85_8 : 0 ≤ m77.1 8 ∧ m77.1 8 ≤ 4000 := Tm77.1 8
      have q85_9 : 0 ≤ m77.1 9 ∧ m77.1 9 ≤ 4000 := Tm77.1 9
      have q85_10 : 0 ≤ m77.1 10 ∧ m77.1 10 ≤ 8 := Tm77.1 10
      have q85_11 : (-1) ≤ m77.1 11 ∧ m77.1 11 ≤ 4000 := Tm77.1 11
      have hNM := ic79
      have G88 : ∀ j, (-9223372036854775808) ≤ (upI (m77.2 98) ((8 * d) + ((m.2 42) d)) s76) j ∧ (upI (m77.2 98) ((8 * d) + ((m.2 42) d)) s76) j ≤ 9223372036854775807 := upI_rg (Tm77.2.1 98) ⟨by omega, by omega⟩
      refine T_last (a' := [(98, upI (m77.2 98) ((8 * d) + ((m.2 42) d)) s76)]) 101 98 (m77.2 98) rfl rfl rfl (by omega) (show ((8 * d) + ((m.2 42) d)) < (128 : Int) by omega) rfl rfl ?_
      refine T_ld 102 (.ref 189) rfl (fun _ => rfl) ?_
      refine T_ld 104 (.int (i32 58)) rfl (fun _ => rfl) ?_
      refine T_call 107 232 [.ref 189, .int (i32 58)] [] rfl (fun _ => rfl) rfl (d_need w (mO m77 [] [(98, upI (m77.2 98) ((8 * d) + ((m.2 42) d)) s76)]) c N D (by omega) (Ty_mO Tm77 rfl rfl trivial ⟨G88, trivial⟩) 58 ⟨by decide, by decide⟩ (show 1 ≤ (58 : Int) by omega) (show LxP (m77.1 7) (m77.1 8) (m77.1 9) (m77.1 6) (m77.1 10) by rewrite [(show (m77.1 6) = (m.1 6) from (fr1 Fm77 6 rfl))]; first | exact hLx | (intro h9; exfalso; omega) | (intro h9; have h8 := hLx (by omega); omega))) (fun rr89 k90 => ?_)
      obtain ⟨m91, Tm91, Fm91, h92, h93, h94, h95, rfl⟩ := k90
      refine ⟨_, _, rfl, ?_⟩
      refine T_nb (st' := []) rfl ?_
      have g96 : 0 ≤ m91.1 7 ∧ m91.1 7 ≤ 330 := Tm91.1 7
      have g97 : 0 ≤ m91.1 8 ∧ m91.1 8 ≤ 4000 := Tm91.1 8
      have g98 : 0 ≤ m91.1 9 ∧ m91.1 9 ≤ 4000 := Tm91.1 9
      have g99 : 0 ≤ m91.1 10 ∧ m91.1 10 ≤ 8 := Tm91.1 10
      have g100 : (-1) ≤ m91.1 11 ∧ m91.1 11 ≤ 4000 := Tm91.1 11
      replace h92 : LxP (m91.1 7) (m91.1 8) (m91.1 9) (m77.1 6) (m91.1 10) := h92
      rewrite [(show (m77.1 6) = (m.1 6) from (fr1 Fm77 6 rfl))] at h92
      replace h93 : (m91.1 10) = 0 → (m77.1 10) = 0 ∧ (m77.1 7) = (58 : Int) := h93
      replace h94 : (m77.1 8) ≤ (m91.1 8) := h94
      replace h95 : (m91.1 10) = 0 → (m77.1 8) + (m77.1 9) ≤ (m91.1 8) := h95
      have hf101 : 1 ≤ (m91.1 10) := by omega
      clear h93
      clear h95
      have hLx := h92
      clear q85_7 q85_8 q85_9 q85_10 q85_11 ic83 h94
      exact J107_51 (mO m91 [] []) Tm91 (fr_m (fr_s Fm91 (fr_m (fr_s Fm77 (fr_m fr_0 rfl rfl) rfl rfl) rfl rfl) rfl rfl) rfl rfl) (show ∀ k, (m.2 14) k + (m.2 15) k ≤ 4000 by first | exact hNM) (show (m.2 42) d ≤ 7 by omega) (show 0 ≤ ((8 * d) + ((m.2 42) d)) ∧ ((8 * d) + ((m.2 42) d)) ≤ 127 by omega) (show 1 ≤ (m91.1 10) by omega)
    refine T_gf 4 (.ref 212) rfl rfl rfl rfl rfl rfl ?_
    refine T_ld 5 (.int (i32 d)) rfl (fun _ => rfl) ?_
    refine T_iald 6 42 (m.2 42) rfl rfl rfl (by omega) (show d < (16 : Int) by omega) rfl ?_
    have e102 : 0 ≤ (m.2 42) d ∧ (m.2 42) d ≤ 8 := (hT.2.1 42) d
    refine T_ld 8 (.int (i32 8)) rfl (fun _ => rfl) ?_
    refine T_icmp 20 11 rfl rfl rfl (r32 (by omega) (by omega)) ⟨by decide, by decide⟩ (fun (h103 : (m.2 42) d ≠ 8) => ?_) (fun (h103 : ¬ ((m.2 42) d ≠ 8)) => ?_)
    · skip
      refine T_gf 24 (.int (i32 (m.1 10))) rfl rfl rfl rfl rfl rfl ?_
      refine T_if 28 27 rfl rfl rfl (r32 (by omega) (by omega)) (fun (h104 : (m.1 10) ≤ 0) => ?_) (fun (h104 : ¬ ((m.1 10) ≤ 0)) => by exfalso; omega)
      refine T_ld 30 (.int (i32 8)) rfl (fun _ => rfl) ?_
      refine T_ld 31 (.int (i32 d)) rfl (fun _ => rfl) ?_
      refine T_imul 32 rfl rfl ?_
      refine T_gf 36 (.ref 212) rfl rfl rfl rfl rfl rfl ?_
      refine T_ld 37 (.int (i32 d)) rfl (fun _ => rfl) ?_
      refine T_iald 38 42 (m.2 42) rfl rfl rfl (by omega) (show d < (16 : Int) by omega) rfl ?_
      have e105 : 0 ≤ (m.2 42) d ∧ (m.2 42) d ≤ 8 := (hT.2.1 42) d
      refine T_iadd 39 rfl rfl ?_
      refine T_sto 40 [(2, .int (i32 ((8 * d) + ((m.2 42) d)))), (0, .ref 189), (1, .int (i32 d))] rfl (fun _ => rfl) ?_
      refine T_gf 44 (.ref 259) rfl rfl rfl rfl rfl rfl ?_
      refine T_ld 45 (.int (i32 ((8 * d) + ((m.2 42) d)))) rfl (fun _ => rfl) ?_
      refine T_ld 46 (.ref 189) rfl (fun _ => rfl) ?_
      refine T_gf 50 (.ref 213) rfl rfl rfl rfl rfl rfl ?_
      refine T_ld 51 (.int (i32 d)) rfl (fun _ => rfl) ?_
      refine T_iald 52 43 (m.2 43) rfl rfl rfl (by omega) (show d < (16 : Int) by omega) rfl ?_
      have e106 : 0 ≤ m.2 43 d ∧ m.2 43 d ≤ 1024 := hT.2.1 43 d
      refine T_call 55 266 [.ref 189, .int (i32 ((m.2 43) d))] [.int (i32 ((8 * d) + ((m.2 42) d))), .ref 259] rfl (fun _ => rfl) rfl (c_caseNumber w (mO m [] []) c N D (by omega) hT ((m.2 43) d) (r32 (by omega) (by omega)) (show LxP (m.1 7) (m.1 8) (m.1 9) (m.1 6) (m.1 10) by first | exact hLx | exact (fun _ => hLx (by omega)) | (intro h9; exfalso; omega)) (fun _ => trivial)) (fun rr107 k108 => ?_)
      obtain ⟨m109, x110, Tm109, Fm109, g111, h112, h113, c114, rfl⟩ := k108
      refine ⟨_, _, rfl, ?_⟩
      refine T_nb (st' := [.long (i64 x110), .int (i32 ((8 * d) + ((m.2 42) d))), .ref 259]) rfl ?_
      obtain ⟨g111a, g111b⟩ := g111
      have g115 : 0 ≤ m109.1 7 ∧ m109.1 7 ≤ 330 := Tm109.1 7
      have g116 : 0 ≤ m109.1 8 ∧ m109.1 8 ≤ 4000 := Tm109.1 8
      have g117 : 0 ≤ m109.1 9 ∧ m109.1 9 ≤ 4000 := Tm109.1 9
      have g118 : 0 ≤ m109.1 10 ∧ m109.1 10 ≤ 8 := Tm109.1 10
      have g119 : (-1) ≤ m109.1 11 ∧ m109.1 11 ≤ 4000 := Tm109.1 11
      by_cases hf120 : (m109.1 10) = 0
      · skip
        replace h112 : (m.1 10) = 0 := h112 hf120
        replace h113 : LxP (m109.1 7) (m109.1 8) (m109.1 9) (m.1 6) (m109.1 10) := h113
        have hLx := h113
        obtain ⟨c121, c122⟩ := c114 hf120
        replace c121 : (m.1 8) + 1 ≤ (m109.1 8) := c121
        replace c122 : (m.1 7) = 2 := c122
        clear c114
        have u123 : (m.1 8) + 1 ≤ (m109.1 8) := by omega
        have G124 : ∀ j, (-9223372036854775808) ≤ (upI (m.2 97) ((8 * d) + ((m.2 42) d)) x110) j ∧ (upI (m.2 97) ((8 * d) + ((m.2 42) d)) x110) j ≤ 9223372036854775807 := upI_rg (hT.2.1 97) ⟨by omega, by omega⟩
        refine T_last (a' := [(97, upI (m.2 97) ((8 * d) + ((m.2 42) d)) x110)]) 56 97 (m.2 97) rfl rfl rfl (by omega) (show ((8 * d) + ((m.2 42) d)) < (128 : Int) by omega) (show (m109.2 97) = (m.2 97) from (fr2 Fm109 97 rfl)) rfl ?_
        refine T_gf 60 (.ref 260) rfl rfl rfl rfl rfl rfl ?_
        refine T_ld 61 (.int (i32 ((8 * d) + ((m.2 42) d)))) rfl (fun _ => rfl) ?_
        refine T_ld 64 (.long (i64 (-1))) rfl (fun _ => rfl) ?_
        have G125 : ∀ j, (-9223372036854775808) ≤ (upI (m.2 98) ((8 * d) + ((m.2 42) d)) (-1)) j ∧ (upI (m.2 98) ((8 * d) + ((m.2 42) d)) (-1)) j ≤ 9223372036854775807 := upI_rg (hT.2.1 98) ⟨by omega, by omega⟩
        refine T_last (a' := [(97, upI (m.2 97) ((8 * d) + ((m.2 42) d)) x110), (98, upI (m.2 98) ((8 * d) + ((m.2 42) d)) (-1))]) 65 98 (m.2 98) rfl rfl rfl (by omega) (show ((8 * d) + ((m.2 42) d)) < (128 : Int) by omega) (show (m109.2 98) = (m.2 98) from (fr2 Fm109 98 rfl)) rfl ?_
        refine T_gf 69 (.int (i32 (m109.1 10))) rfl rfl rfl rfl rfl rfl ?_
        refine T_if 101 72 rfl rfl rfl (r32 (by omega) (by omega)) (fun (h126 : (m109.1 10) ≠ 0) => by exfalso; omega) (fun (h126 : ¬ ((m109.1 10) ≠ 0)) => ?_)
        refine T_gf 76 (.int (i32 (m109.1 7))) rfl rfl rfl rfl rfl rfl ?_
        refine T_ld 78 (.int (i32 38)) rfl (fun _ => rfl) ?_
        refine T_icmp 101 81 rfl rfl rfl (r32 (by omega) (by omega)) ⟨by decide, by decide⟩ (fun (h127 : (m109.1 7) ≠ 38) => ?_) (fun (h127 : ¬ ((m109.1 7) ≠ 38)) => ?_)
        · skip
          refine T_ld 102 (.ref 189) rfl (fun _ => rfl) ?_
          refine T_ld 104 (.int (i32 58)) rfl (fun _ => rfl) ?_
          refine T_call 107 232 [.ref 189, .int (i32 58)] [] rfl (fun _ => rfl) rfl (d_need w (mO m109 [] [(97, upI (m.2 97) ((8 * d) + ((m.2 42) d)) x110), (98, upI (m.2 98) ((8 * d) + ((m.2 42) d)) (-1))]) c N D (by omega) (Ty_mO Tm109 rfl rfl trivial ⟨G124, G125, trivial⟩) 58 ⟨by decide, by decide⟩ (show 1 ≤ (58 : Int) by omega) (show LxP (m109.1 7) (m109.1 8) (m109.1 9) (m109.1 6) (m109.1 10) by rewrite [(show (m109.1 6) = (m.1 6) from (fr1 Fm109 6 rfl))]; first | exact hLx | (intro h9; exfalso; omega) | (intro h9; have h8 := hLx (by omega); omega))) (fun rr128 k129 => ?_)
          obtain ⟨m130, Tm130, Fm130, h131, h132, h133, h134, rfl⟩ := k129
          refine ⟨_, _, rfl, ?_⟩
          refine T_nb (st' := []) rfl ?_
          have g135 : 0 ≤ m130.1 7 ∧ m130.1 7 ≤ 330 := Tm130.1 7
          have g136 : 0 ≤ m130.1 8 ∧ m130.1 8 ≤ 4000 := Tm130.1 8
          have g137 : 0 ≤ m130.1 9 ∧ m130.1 9 ≤ 4000 := Tm130.1 9
          have g138 : 0 ≤ m130.1 10 ∧ m130.1 10 ≤ 8 := Tm130.1 10
          have g139 : (-1) ≤ m130.1 11 ∧ m130.1 11 ≤ 4000 := Tm130.1 11
          by_cases hf140 : (m130.1 10) = 0
          · skip
            replace h131 : LxP (m130.1 7) (m130.1 8) (m130.1 9) (m109.1 6) (m130.1 10) := h131
            rewrite [(show (m109.1 6) = (m.1 6) from (fr1 Fm109 6 rfl))] at h131
            have hLx := h131
            replace h132 : (m109.1 10) = 0 ∧ (m109.1 7) = (58 : Int) := h132 hf140
            replace h133 : (m109.1 8) ≤ (m130.1 8) := h133
            replace h134 : (m109.1 8) + (m109.1 9) ≤ (m130.1 8) := h134 hf140
            have u141 : (m.1 8) + 1 ≤ (m130.1 8) := by omega
            clear g115 g116 g117 g118 g119 h113 c121 u123 h126 h127 h132 h133 h134
            refine T_gf 111 (.ref 215) rfl rfl rfl rfl rfl rfl ?_
            refine T_ld 112 (.int (i32 ((8 * d) + ((m.2 42) d)))) rfl (fun _ => rfl) ?_
            refine T_ld 113 (.ref 189) rfl (fun _ => rfl) ?_
            refine T_call 116 242 [.ref 189] [.int (i32 ((8 * d) + ((m.2 42) d))), .ref 215] rfl (fun _ => rfl) rfl (c_stateHere w (mO m130 [] []) c N D (by omega) Tm130 (show LxP (m130.1 7) (m130.1 8) (m130.1 9) (m130.1 6) (m130.1 10) by rewrite [(show (m130.1 6) = (m.1 6) from ((fr1 Fm130 6 rfl).trans (fr1 Fm109 6 rfl)))]; first | exact hLx | exact (fun _ => hLx (by omega)) | (intro h9; exfalso; omega)) (show ∀ k, (m130.2 14) k + (m130.2 15) k ≤ 4000 by rewrite [(show (m130.2 14) = (m.2 14) from ((fr2 Fm130 14 rfl).trans (fr2 Fm109 14 rfl))), (show (m130.2 15) = (m.2 15) from ((fr2 Fm130 15 rfl).trans (fr2 Fm109 15 rfl)))]; assumption) (fun _ => ⟨(show PN (m130.1 13) (m130.1 19) (m130.1 20) (m130.1 21) (m130.1 22) (m130.1 23) (m130.1 25) (m130.1 26) (m130.2 16) (m130.2 17) by rewrite [(show (m130.1 13) = (m.1 13) from ((fr1 Fm130 13 rfl).trans (fr1 Fm109 13 rfl))), (show (m130.1 19) = (m.1 19) from ((fr1 Fm130 19 rfl).trans (fr1 Fm109 19 rfl))), (show (m130.1 20) = (m.1 20) from ((fr1 Fm130 20 rfl).trans (fr1 Fm109 20 rfl))), (show (m130.1 21) = (m.1 21) from ((fr1 Fm130 21 rfl).trans (fr1 Fm109 21 rfl))), (show (m130.1 22) = (m.1 22) from ((fr1 Fm130 22 rfl).trans (fr1 Fm109 22 rfl))), (show (m130.1 23) = (m.1 23) from ((fr1 Fm130 23 rfl).trans (fr1 Fm109 23 rfl))), (show (m130.1 25) = (m.1 25) from ((fr1 Fm130 25 rfl).trans (fr1 Fm109 25 rfl))), (show (m130.1 26) = (m.1 26) from ((fr1 Fm130 26 rfl).trans (fr1 Fm109 26 rfl))), (show (m130.2 16) = (m.2 16) from ((fr2 Fm130 16 rfl).trans (fr2 Fm109 16 rfl))), (show (m130.2 17) = (m.2 17) from ((fr2 Fm130 17 rfl).trans (fr2 Fm109 17 rfl)))]; assumption), (show SOp (m130.2 38) (m130.1 23) (m130.1 24) by rewrite [(show (m130.2 38) = (m.2 38) from ((fr2 Fm130 38 rfl).trans (fr2 Fm109 38 rfl))), (show (m130.1 23) = (m.1 23) from ((fr1 Fm130 23 rfl).trans (fr1 Fm109 23 rfl))), (show (m130.1 24) = (m.1 24) from ((fr1 Fm130 24 rfl).trans (fr1 Fm109 24 rfl)))]; first | exact pSO | assumption)⟩)) (fun rr142 k143 => ?_)
            obtain ⟨m144, x145, Tm144, Fm144, g146, h147, h148, h149, c150, rfl⟩ := k143
            refine ⟨_, _, rfl, ?_⟩
            refine T_nb (st' := [.int (i32 x145), .int (i32 ((8 * d) + ((m.2 42) d))), .ref 215]) rfl ?_
            obtain ⟨g146a, g146b⟩ := g146
            have g151 : 0 ≤ m144.1 7 ∧ m144.1 7 ≤ 330 := Tm144.1 7
            have g152 : 0 ≤ m144.1 8 ∧ m144.1 8 ≤ 4000 := Tm144.1 8
            have g153 : 0 ≤ m144.1 9 ∧ m144.1 9 ≤ 4000 := Tm144.1 9
            have g154 : 0 ≤ m144.1 10 ∧ m144.1 10 ≤ 8 := Tm144.1 10
            have g155 : (-1) ≤ m144.1 11 ∧ m144.1 11 ≤ 4000 := Tm144.1 11
            have g156 : 0 ≤ m144.1 13 ∧ m144.1 13 ≤ 120 := Tm144.1 13
            have g157 : 0 ≤ m144.1 23 ∧ m144.1 23 ≤ 16 := Tm144.1 23
            by_cases hf158 : (m144.1 10) = 0
            · skip
              replace h147 : (m130.1 10) = 0 := h147 hf158
              replace h148 : LxP (m144.1 7) (m144.1 8) (m144.1 9) (m130.1 6) (m144.1 10) := h148
              rewrite [(show (m130.1 6) = (m.1 6) from ((fr1 Fm130 6 rfl).trans (fr1 Fm109 6 rfl)))] at h148
              have hLx := h148
              replace h149 : ∀ k, (m144.2 14) k + (m144.2 15) k ≤ 4000 := h149
              have hNM := h149
              obtain ⟨c159, c160, c161, c162, c163⟩ := c150 hf158
              replace c159 : (m130.1 8) + 1 ≤ (m144.1 8) := c159
              replace c160 : PN (m144.1 13) (m130.1 19) (m130.1 20) (m130.1 21) (m130.1 22) (m144.1 23) (m130.1 25) (m130.1 26) (m144.2 16) (m144.2 17) := c160
              rewrite [(show (m130.1 19) = (m.1 19) from ((fr1 Fm130 19 rfl).trans (fr1 Fm109 19 rfl))), (show (m130.1 20) = (m.1 20) from ((fr1 Fm130 20 rfl).trans (fr1 Fm109 20 rfl))), (show (m130.1 21) = (m.1 21) from ((fr1 Fm130 21 rfl).trans (fr1 Fm109 21 rfl))), (show (m130.1 22) = (m.1 22) from ((fr1 Fm130 22 rfl).trans (fr1 Fm109 22 rfl))), (show (m130.1 25) = (m.1 25) from ((fr1 Fm130 25 rfl).trans (fr1 Fm109 25 rfl))), (show (m130.1 26) = (m.1 26) from ((fr1 Fm130 26 rfl).trans (fr1 Fm109 26 rfl)))] at c160
              have pPN := c160
              replace c161 : SOp (m144.2 38) (m144.1 23) (m130.1 24) := c161
              rewrite [(show (m130.1 24) = (m.1 24) from ((fr1 Fm130 24 rfl).trans (fr1 Fm109 24 rfl)))] at c161
              have pSO := c161
              replace c162 : x145 < (m144.1 23) := c162
              have hRS := c162
              replace c163 : (m130.1 23) ≤ (m144.1 23) := c163
              rewrite [(show (m130.1 23) = (m.1 23) from ((fr1 Fm130 23 rfl).trans (fr1 Fm109 23 rfl)))] at c163
              clear c150
              have u164 : (m.1 8) + 1 ≤ (m144.1 8) := by omega
              clear g135 g136 g137 g138 g139 h131 u141 h147 c159
              have G165 : ∀ j, (-2) ≤ (upI (m.2 45) ((8 * d) + ((m.2 42) d)) x145) j ∧ (upI (m.2 45) ((8 * d) + ((m.2 42) d)) x145) j ≤ 15 := upI_rg (hT.2.1 45) ⟨by omega, by omega⟩
              refine T_iast (a' := [(45, upI (m.2 45) ((8 * d) + ((m.2 42) d)) x145)]) 117 45 (m.2 45) rfl rfl rfl (by omega) (show ((8 * d) + ((m.2 42) d)) < (128 : Int) by omega) (show (m144.2 45) = (m.2 45) from ((fr2 Fm144 45 rfl).trans ((fr2 Fm130 45 rfl).trans (fr2 Fm109 45 rfl)))) rfl ?_
              refine T_ld 118 (.ref 189) rfl (fun _ => rfl) ?_
              refine T_ld 120 (.int (i32 59)) rfl (fun _ => rfl) ?_
              refine T_call 123 232 [.ref 189, .int (i32 59)] [] rfl (fun _ => rfl) rfl (d_need w (mO m144 [] [(45, upI (m.2 45) ((8 * d) + ((m.2 42) d)) x145)]) c N D (by omega) (Ty_mO Tm144 rfl rfl trivial ⟨G165, trivial⟩) 59 ⟨by decide, by decide⟩ (show 1 ≤ (59 : Int) by omega) (show LxP (m144.1 7) (m144.1 8) (m144.1 9) (m144.1 6) (m144.1 10) by rewrite [(show (m144.1 6) = (m.1 6) from ((fr1 Fm144 6 rfl).trans ((fr1 Fm130 6 rfl).trans (fr1 Fm109 6 rfl))))]; first | exact hLx | (intro h9; exfalso; omega) | (intro h9; have h8 := hLx (by omega); omega))) (fun rr166 k167 => ?_)
              obtain ⟨m168, Tm168, Fm168, h169, h170, h171, h172, rfl⟩ := k167
              refine ⟨_, _, rfl, ?_⟩
              refine T_nb (st' := []) rfl ?_
              have g173 : 0 ≤ m168.1 7 ∧ m168.1 7 ≤ 330 := Tm168.1 7
              have g174 : 0 ≤ m168.1 8 ∧ m168.1 8 ≤ 4000 := Tm168.1 8
              have g175 : 0 ≤ m168.1 9 ∧ m168.1 9 ≤ 4000 := Tm168.1 9
              have g176 : 0 ≤ m168.1 10 ∧ m168.1 10 ≤ 8 := Tm168.1 10
              have g177 : (-1) ≤ m168.1 11 ∧ m168.1 11 ≤ 4000 := Tm168.1 11
              by_cases hf178 : (m168.1 10) = 0
              · skip
                replace h169 : LxP (m168.1 7) (m168.1 8) (m168.1 9) (m144.1 6) (m168.1 10) := h169
                rewrite [(show (m144.1 6) = (m.1 6) from ((fr1 Fm144 6 rfl).trans ((fr1 Fm130 6 rfl).trans (fr1 Fm109 6 rfl))))] at h169
                have hLx := h169
                replace h170 : (m144.1 10) = 0 ∧ (m144.1 7) = (59 : Int) := h170 hf178
                replace h171 : (m144.1 8) ≤ (m168.1 8) := h171
                replace h172 : (m144.1 8) + (m144.1 9) ≤ (m168.1 8) := h172 hf178
                have u179 : (m.1 8) + 1 ≤ (m168.1 8) := by omega
                clear g151 g152 g153 g154 g155 h148 u164 h170 h171 h172
                have hlt : (m.2 42) d < 8 := by omega
                refine T_gf 127 (.ref 212) rfl rfl rfl rfl rfl rfl ?_
                refine T_ld 128 (.int (i32 d)) rfl (fun _ => rfl) ?_
                refine T_dup2 129 rfl (fun _ => rfl) ?_
                refine T_iald 130 42 (m.2 42) rfl rfl rfl (by omega) (show d < (16 : Int) by omega) (show (m168.2 42) = (m.2 42) from ((fr2 Fm168 42 rfl).trans ((fr2 Fm144 42 rfl).trans ((fr2 Fm130 42 rfl).trans (fr2 Fm109 42 rfl))))) ?_
                have e180 : 0 ≤ (m.2 42) d ∧ (m.2 42) d ≤ 8 := (hT.2.1 42) d
                refine T_ld 131 (.int (i32 1)) rfl (fun _ => rfl) ?_
                refine T_iadd 132 rfl rfl ?_
                have G181 : ∀ j, 0 ≤ (upI (m.2 42) d (((m.2 42) d) + 1)) j ∧ (upI (m.2 42) d (((m.2 42) d) + 1)) j ≤ 8 := upI_rg (hT.2.1 42) ⟨by omega, by omega⟩
                refine T_iast (a' := [(42, upI (m.2 42) d (((m.2 42) d) + 1))]) 133 42 (m.2 42) rfl rfl rfl (by omega) (show d < (16 : Int) by omega) (show (m168.2 42) = (m.2 42) from ((fr2 Fm168 42 rfl).trans ((fr2 Fm144 42 rfl).trans ((fr2 Fm130 42 rfl).trans (fr2 Fm109 42 rfl))))) rfl ?_
                have hCT2 : ∀ c, 8 * d ≤ c → c < 8 * d + (upI (m.2 42) d (((m.2 42) d) + 1)) d → (upI (m.2 45) ((8 * d) + ((m.2 42) d)) x145) c < (m144.1 23) := by
                  intro c c0 c1
                  rw [upI_s] at c1
                  by_cases e : c = 8 * d + (m.2 42) d
                  · subst e
                    rw [upI_s]
                    exact hRS
                  · rw [upI_n e]
                    have := hCT c c0 (by omega)
                    omega
                refine T_ret rfl (fun _ => rfl) ?_
                exact ⟨(mO m168 [] [(42, upI (m.2 42) d (((m.2 42) d) + 1))]), (Ty_mO Tm168 rfl rfl trivial ⟨G181, trivial⟩), (fr_m (fr_s Fm168 (fr_m (fr_s Fm144 (fr_m (fr_s Fm130 (fr_m (fr_s Fm109 (fr_m fr_0 rfl rfl) rfl rfl) rfl rfl) rfl rfl) rfl rfl) rfl rfl) rfl rfl) rfl rfl) rfl rfl), (show (m168.1 10) = 0 → (m.1 10) = 0 by omega), (show LxP (m168.1 7) (m168.1 8) (m168.1 9) (m.1 6) (m168.1 10) by first | (first | exact hLx | exact (fun _ => hLx (by omega)) | (intro h9; exfalso; omega)) | (exfalso; omega)), (show ∀ k, (m168.2 14) k + (m168.2 15) k ≤ 4000 by rewrite [(show (m168.2 14) = (m144.2 14) from (fr2 Fm168 14 rfl)), (show (m168.2 15) = (m144.2 15) from (fr2 Fm168 15 rfl))]; first | (first | exact hNM | (intro k; rw [hE1, hE2]; have := hNM k; have h7 := hLx0 hf0; unfold upI; split <;> omega)) | (exfalso; omega)), (fun _ => ⟨(show (m.1 8) + 1 ≤ (m168.1 8) by omega), (show PN (m168.1 13) (m.1 19) (m.1 20) (m.1 21) (m.1 22) (m168.1 23) (m.1 25) (m.1 26) (m168.2 16) (m168.2 17) by rewrite [(show (m168.1 13) = (m144.1 13) from (fr1 Fm168 13 rfl)), (show (m168.1 23) = (m144.1 23) from (fr1 Fm168 23 rfl)), (show (m168.2 16) = (m144.2 16) from (fr2 Fm168 16 rfl)), (show (m168.2 17) = (m144.2 17) from (fr2 Fm168 17 rfl))]; first | (exact pPN) | (exfalso; omega)), (show SOp (m168.2 38) (m168.1 23) (m.1 24) by rewrite [(show (m168.2 38) = (m144.2 38) from (fr2 Fm168 38 rfl)), (show (m168.1 23) = (m144.1 23) from (fr1 Fm168 23 rfl))]; first | (exact pSO) | (exfalso; omega)), (show ∀ c, 8 * d ≤ c → c < 8 * d + (upI (m.2 42) d (((m.2 42) d) + 1)) d → (m168.2 45) c < (m168.1 23) by rewrite [(show (m168.2 45) = (upI (m.2 45) ((8 * d) + ((m.2 42) d)) x145) from (fr2 Fm168 45 rfl)), (show (m168.1 23) = (m144.1 23) from (fr1 Fm168 23 rfl))]; first | (exact hCT2) | (exfalso; omega)), (show (m.1 23) ≤ (m168.1 23) by rewrite [(show (m168.1 23) = (m144.1 23) from (fr1 Fm168 23 rfl))]; omega), (show agr (m.2 42) (upI (m.2 42) d (((m.2 42) d) + 1)) d by first | (exact agr_u (Int.le_refl _)) | (exfalso; omega)), (show agr (m.2 45) (m168.2 45) (8 * d) by rewrite [(show (m168.2 45) = (upI (m.2 45) ((8 * d) + ((m.2 42) d)) x145) from (fr2 Fm168 45 rfl))]; first | (exact agr_u (by omega)) | (exfalso; omega))⟩), rfl⟩
              · skip
                replace h169 : LxP (m168.1 7) (m168.1 8) (m168.1 9) (m144.1 6) (m168.1 10) := h169
                rewrite [(show (m144.1 6) = (m.1 6) from ((fr1 Fm144 6 rfl).trans ((fr1 Fm130 6 rfl).trans (fr1 Fm109 6 rfl))))] at h169
                have hLx := h169
                clear h170
                replace h171 : (m144.1 8) ≤ (m168.1 8) := h171
                clear h172
                have hf182 : 1 ≤ (m168.1 10) := by omega
                clear g151 g152 g153 g154 g155 h148 u164 h171
                refine Tm_lv (a := [(0, .ref 189), (1, .int (i32 d)), (2, .int (i32 ((8 * d) + ((m.2 42) d))))]) rfl rfl ⟨rfl, rfl, rfl, trivial⟩ ?_
                exact J123_12 (mO m168 [] []) Tm168 (fr_m (fr_s Fm168 (fr_m (fr_s Fm144 (fr_m (fr_s Fm130 (fr_m (fr_s Fm109 (fr_m fr_0 rfl rfl) rfl rfl) rfl rfl) rfl rfl) rfl rfl) rfl rfl) rfl rfl) rfl rfl) rfl rfl) (show ∀ k, (m168.2 14) k + (m168.2 15) k ≤ 4000 by rewrite [(show (m168.2 14) = (m144.2 14) from (fr2 Fm168 14 rfl)), (show (m168.2 15) = (m144.2 15) from (fr2 Fm168 15 rfl))]; first | exact hNM) (show (m.2 42) d ≤ 7 by omega) (show 0 ≤ ((8 * d) + ((m.2 42) d)) ∧ ((8 * d) + ((m.2 42) d)) ≤ 127 by omega) (show 1 ≤ (m168.1 10) by omega)
            · skip
              clear c150
              clear h147
              replace h148 : LxP (m144.1 7) (m144.1 8) (m144.1 9) (m130.1 6) (m144.1 10) := h148
              rewrite [(show (m130.1 6) = (m.1 6) from ((fr1 Fm130 6 rfl).trans (fr1 Fm109 6 rfl)))] at h148
              have hLx := h148
              replace h149 : ∀ k, (m144.2 14) k + (m144.2 15) k ≤ 4000 := h149
              have hNM := h149
              have hf183 : 1 ≤ (m144.1 10) := by omega
              clear g135 g136 g137 g138 g139 h131 u141
              refine Tm_lv (a := [(0, .ref 189), (1, .int (i32 d)), (2, .int (i32 ((8 * d) + ((m.2 42) d))))]) rfl rfl ⟨rfl, rfl, rfl, trivial⟩ ?_
              exact J116_24 x145 (mO m144 [] []) (r32 (by omega) (by omega)) Tm144 (fr_m (fr_s Fm144 (fr_m (fr_s Fm130 (fr_m (fr_s Fm109 (fr_m fr_0 rfl rfl) rfl rfl) rfl rfl) rfl rfl) rfl rfl) rfl rfl) rfl rfl) (show (-2) ≤ x145 by omega) (show x145 ≤ 15 by omega) (show ∀ k, (m144.2 14) k + (m144.2 15) k ≤ 4000 by first | exact hNM) (show (m.2 42) d ≤ 7 by omega) (show 0 ≤ ((8 * d) + ((m.2 42) d)) ∧ ((8 * d) + ((m.2 42) d)) ≤ 127 by omega) (show 0 ≤ (8 * d) + ((m.2 42) d) ∧ (8 * d) + ((m.2 42) d) ≤ 127 by omega) (show 1 ≤ (m144.1 10) by omega)
          · skip
            replace h131 : LxP (m130.1 7) (m130.1 8) (m130.1 9) (m109.1 6) (m130.1 10) := h131
            rewrite [(show (m109.1 6) = (m.1 6) from (fr1 Fm109 6 rfl))] at h131
            have hLx := h131
            clear h132
            replace h133 : (m109.1 8) ≤ (m130.1 8) := h133
            clear h134
            have hf184 : 1 ≤ (m130.1 10) := by omega
            clear g115 g116 g117 g118 g119 h113 c121 u123 h126 h127 h133
            refine Tm_lv (a := [(0, .ref 189), (1, .int (i32 d)), (2, .int (i32 ((8 * d) + ((m.2 42) d))))]) rfl rfl ⟨rfl, rfl, rfl, trivial⟩ ?_
            exact J107_51 (mO m130 [] []) Tm130 (fr_m (fr_s Fm130 (fr_m (fr_s Fm109 (fr_m fr_0 rfl rfl) rfl rfl) rfl rfl) rfl rfl) rfl rfl) (show ∀ k, (m.2 14) k + (m.2 15) k ≤ 4000 by first | exact hNM) (show (m.2 42) d ≤ 7 by omega) (show 0 ≤ ((8 * d) + ((m.2 42) d)) ∧ ((8 * d) + ((m.2 42) d)) ≤ 127 by omega) (show 1 ≤ (m130.1 10) by omega)
        · skip
          refine T_ld 82 (.ref 189) rfl (fun _ => rfl) ?_
          refine T_call 85 212 [.ref 189] [] rfl (fun _ => rfl) rfl (d_next w (mO m109 [] [(97, upI (m.2 97) ((8 * d) + ((m.2 42) d)) x110), (98, upI (m.2 98) ((8 * d) + ((m.2 42) d)) (-1))]) c N D (by omega) (Ty_mO Tm109 rfl rfl trivial ⟨G124, G125, trivial⟩) (show (m109.1 10) = 0 → (m109.1 8) + (m109.1 9) ≤ (m109.1 6) by rewrite [(show (m109.1 6) = (m.1 6) from (fr1 Fm109 6 rfl))]; first | omega | (intro h9; have h8 := hLx h9; omega))) (fun rr185 k186 => ?_)
          obtain ⟨m187, Tm187, Fm187, h188, h189, h190, h191, rfl⟩ := k186
          refine ⟨_, _, rfl, ?_⟩
          refine T_nb (st' := []) rfl ?_
          have g192 : 0 ≤ m187.1 7 ∧ m187.1 7 ≤ 330 := Tm187.1 7
          have g193 : 0 ≤ m187.1 8 ∧ m187.1 8 ≤ 4000 := Tm187.1 8
          have g194 : 0 ≤ m187.1 9 ∧ m187.1 9 ≤ 4000 := Tm187.1 9
          have g195 : 0 ≤ m187.1 10 ∧ m187.1 10 ≤ 8 := Tm187.1 10
          have g196 : (-1) ≤ m187.1 11 ∧ m187.1 11 ≤ 4000 := Tm187.1 11
          by_cases hf197 : (m187.1 10) = 0
          · skip
            replace h188 : LxP (m187.1 7) (m187.1 8) (m187.1 9) (m109.1 6) (m187.1 10) := h188
            rewrite [(show (m109.1 6) = (m.1 6) from (fr1 Fm109 6 rfl))] at h188
            have hLx := h188
            replace h189 : (m109.1 10) = 0 := h189 hf197
            replace h190 : (m109.1 8) ≤ (m187.1 8) := h190
            replace h191 : (m109.1 8) + (m109.1 9) ≤ (m187.1 8) := h191 hf197
            have u198 : (m.1 8) + 1 ≤ (m187.1 8) := by omega
            clear g115 g116 g117 g118 g119 h113 c121 u123 h126 h127 h189 h190 h191
            refine T_gf 89 (.ref 260) rfl rfl rfl rfl rfl rfl ?_
            refine T_ld 90 (.int (i32 ((8 * d) + ((m.2 42) d)))) rfl (fun _ => rfl) ?_
            refine T_ld 91 (.ref 189) rfl (fun _ => rfl) ?_
            refine T_gf 95 (.ref 213) rfl rfl rfl rfl rfl rfl ?_
            refine T_ld 96 (.int (i32 d)) rfl (fun _ => rfl) ?_
            refine T_iald 97 43 (m.2 43) rfl rfl rfl (by omega) (show d < (16 : Int) by omega) (show (m187.2 43) = (m.2 43) from ((fr2 Fm187 43 rfl).trans (fr2 Fm109 43 rfl))) ?_
            have e199 : 0 ≤ m.2 43 d ∧ m.2 43 d ≤ 1024 := hT.2.1 43 d
            refine T_call 100 266 [.ref 189, .int (i32 ((m.2 43) d))] [.int (i32 ((8 * d) + ((m.2 42) d))), .ref 260] rfl (fun _ => rfl) rfl (c_caseNumber w (mO m187 [] []) c N D (by omega) Tm187 ((m.2 43) d) (r32 (by omega) (by omega)) (show LxP (m187.1 7) (m187.1 8) (m187.1 9) (m187.1 6) (m187.1 10) by rewrite [(show (m187.1 6) = (m.1 6) from ((fr1 Fm187 6 rfl).trans (fr1 Fm109 6 rfl)))]; first | exact hLx | exact (fun _ => hLx (by omega)) | (intro h9; exfalso; omega)) (fun _ => trivial)) (fun rr200 k201 => ?_)
            obtain ⟨m202, x203, Tm202, Fm202, g204, h205, h206, c207, rfl⟩ := k201
            refine ⟨_, _, rfl, ?_⟩
            refine T_nb (st' := [.long (i64 x203), .int (i32 ((8 * d) + ((m.2 42) d))), .ref 260]) rfl ?_
            obtain ⟨g204a, g204b⟩ := g204
            have g208 : 0 ≤ m202.1 7 ∧ m202.1 7 ≤ 330 := Tm202.1 7
            have g209 : 0 ≤ m202.1 8 ∧ m202.1 8 ≤ 4000 := Tm202.1 8
            have g210 : 0 ≤ m202.1 9 ∧ m202.1 9 ≤ 4000 := Tm202.1 9
            have g211 : 0 ≤ m202.1 10 ∧ m202.1 10 ≤ 8 := Tm202.1 10
            have g212 : (-1) ≤ m202.1 11 ∧ m202.1 11 ≤ 4000 := Tm202.1 11
            by_cases hf213 : (m202.1 10) = 0
            · skip
              replace h205 : (m187.1 10) = 0 := h205 hf213
              replace h206 : LxP (m202.1 7) (m202.1 8) (m202.1 9) (m187.1 6) (m202.1 10) := h206
              rewrite [(show (m187.1 6) = (m.1 6) from ((fr1 Fm187 6 rfl).trans (fr1 Fm109 6 rfl)))] at h206
              have hLx := h206
              obtain ⟨c214, c215⟩ := c207 hf213
              replace c214 : (m187.1 8) + 1 ≤ (m202.1 8) := c214
              replace c215 : (m187.1 7) = 2 := c215
              clear c207
              have u216 : (m.1 8) + 1 ≤ (m202.1 8) := by omega
              clear g192 g193 g194 g195 g196 h188 u198 h205 c214 c215
              have G217 : ∀ j, (-9223372036854775808) ≤ (upI (upI (m.2 98) ((8 * d) + ((m.2 42) d)) (-1)) ((8 * d) + ((m.2 42) d)) x203) j ∧ (upI (upI (m.2 98) ((8 * d) + ((m.2 42) d)) (-1)) ((8 * d) + ((m.2 42) d)) x203) j ≤ 9223372036854775807 := upI_rg G125 ⟨by omega, by omega⟩
              refine T_last (a' := [(98, upI (upI (m.2 98) ((8 * d) + ((m.2 42) d)) (-1)) ((8 * d) + ((m.2 42) d)) x203)]) 101 98 (upI (m.2 98) ((8 * d) + ((m.2 42) d)) (-1)) rfl rfl rfl (by omega) (show ((8 * d) + ((m.2 42) d)) < (128 : Int) by omega) (show (m202.2 98) = (upI (m.2 98) ((8 * d) + ((m.2 42) d)) (-1)) from ((fr2 Fm202 98 rfl).trans (fr2 Fm187 98 rfl))) rfl ?_
              refine T_ld 102 (.ref 189) rfl (fun _ => rfl) ?_
              refine T_ld 104 (.int (i32 58)) rfl (fun _ => rfl) ?_
              refine T_call 107 232 [.ref 189, .int (i32 58)] [] rfl (fun _ => rfl) rfl (d_need w (mO m202 [] [(98, upI (upI (m.2 98) ((8 * d) + ((m.2 42) d)) (-1)) ((8 * d) + ((m.2 42) d)) x203)]) c N D (by omega) (Ty_mO Tm202 rfl rfl trivial ⟨G217, trivial⟩) 58 ⟨by decide, by decide⟩ (show 1 ≤ (58 : Int) by omega) (show LxP (m202.1 7) (m202.1 8) (m202.1 9) (m202.1 6) (m202.1 10) by rewrite [(show (m202.1 6) = (m.1 6) from ((fr1 Fm202 6 rfl).trans ((fr1 Fm187 6 rfl).trans (fr1 Fm109 6 rfl))))]; first | exact hLx | (intro h9; exfalso; omega) | (intro h9; have h8 := hLx (by omega); omega))) (fun rr218 k219 => ?_)
              obtain ⟨m220, Tm220, Fm220, h221, h222, h223, h224, rfl⟩ := k219
              refine ⟨_, _, rfl, ?_⟩
              refine T_nb (st' := []) rfl ?_
              have g225 : 0 ≤ m220.1 7 ∧ m220.1 7 ≤ 330 := Tm220.1 7
              have g226 : 0 ≤ m220.1 8 ∧ m220.1 8 ≤ 4000 := Tm220.1 8
              have g227 : 0 ≤ m220.1 9 ∧ m220.1 9 ≤ 4000 := Tm220.1 9
              have g228 : 0 ≤ m220.1 10 ∧ m220.1 10 ≤ 8 := Tm220.1 10
              have g229 : (-1) ≤ m220.1 11 ∧ m220.1 11 ≤ 4000 := Tm220.1 11
              by_cases hf230 : (m220.1 10) = 0
              · skip
                replace h221 : LxP (m220.1 7) (m220.1 8) (m220.1 9) (m202.1 6) (m220.1 10) := h221
                rewrite [(show (m202.1 6) = (m.1 6) from ((fr1 Fm202 6 rfl).trans ((fr1 Fm187 6 rfl).trans (fr1 Fm109 6 rfl))))] at h221
                have hLx := h221
                replace h222 : (m202.1 10) = 0 ∧ (m202.1 7) = (58 : Int) := h222 hf230
                replace h223 : (m202.1 8) ≤ (m220.1 8) := h223
                replace h224 : (m202.1 8) + (m202.1 9) ≤ (m220.1 8) := h224 hf230
                have u231 : (m.1 8) + 1 ≤ (m220.1 8) := by omega
                clear g208 g209 g210 g211 g212 h206 u216 h222 h223 h224
                refine T_gf 111 (.ref 215) rfl rfl rfl rfl rfl rfl ?_
                refine T_ld 112 (.int (i32 ((8 * d) + ((m.2 42) d)))) rfl (fun _ => rfl) ?_
                refine T_ld 113 (.ref 189) rfl (fun _ => rfl) ?_
                refine T_call 116 242 [.ref 189] [.int (i32 ((8 * d) + ((m.2 42) d))), .ref 215] rfl (fun _ => rfl) rfl (c_stateHere w (mO m220 [] []) c N D (by omega) Tm220 (show LxP (m220.1 7) (m220.1 8) (m220.1 9) (m220.1 6) (m220.1 10) by rewrite [(show (m220.1 6) = (m.1 6) from ((fr1 Fm220 6 rfl).trans ((fr1 Fm202 6 rfl).trans ((fr1 Fm187 6 rfl).trans (fr1 Fm109 6 rfl)))))]; first | exact hLx | exact (fun _ => hLx (by omega)) | (intro h9; exfalso; omega)) (show ∀ k, (m220.2 14) k + (m220.2 15) k ≤ 4000 by rewrite [(show (m220.2 14) = (m.2 14) from ((fr2 Fm220 14 rfl).trans ((fr2 Fm202 14 rfl).trans ((fr2 Fm187 14 rfl).trans (fr2 Fm109 14 rfl))))), (show (m220.2 15) = (m.2 15) from ((fr2 Fm220 15 rfl).trans ((fr2 Fm202 15 rfl).trans ((fr2 Fm187 15 rfl).trans (fr2 Fm109 15 rfl)))))]; assumption) (fun _ => ⟨(show PN (m220.1 13) (m220.1 19) (m220.1 20) (m220.1 21) (m220.1 22) (m220.1 23) (m220.1 25) (m220.1 26) (m220.2 16) (m220.2 17) by rewrite [(show (m220.1 13) = (m.1 13) from ((fr1 Fm220 13 rfl).trans ((fr1 Fm202 13 rfl).trans ((fr1 Fm187 13 rfl).trans (fr1 Fm109 13 rfl))))), (show (m220.1 19) = (m.1 19) from ((fr1 Fm220 19 rfl).trans ((fr1 Fm202 19 rfl).trans ((fr1 Fm187 19 rfl).trans (fr1 Fm109 19 rfl))))), (show (m220.1 20) = (m.1 20) from ((fr1 Fm220 20 rfl).trans ((fr1 Fm202 20 rfl).trans ((fr1 Fm187 20 rfl).trans (fr1 Fm109 20 rfl))))), (show (m220.1 21) = (m.1 21) from ((fr1 Fm220 21 rfl).trans ((fr1 Fm202 21 rfl).trans ((fr1 Fm187 21 rfl).trans (fr1 Fm109 21 rfl))))), (show (m220.1 22) = (m.1 22) from ((fr1 Fm220 22 rfl).trans ((fr1 Fm202 22 rfl).trans ((fr1 Fm187 22 rfl).trans (fr1 Fm109 22 rfl))))), (show (m220.1 23) = (m.1 23) from ((fr1 Fm220 23 rfl).trans ((fr1 Fm202 23 rfl).trans ((fr1 Fm187 23 rfl).trans (fr1 Fm109 23 rfl))))), (show (m220.1 25) = (m.1 25) from ((fr1 Fm220 25 rfl).trans ((fr1 Fm202 25 rfl).trans ((fr1 Fm187 25 rfl).trans (fr1 Fm109 25 rfl))))), (show (m220.1 26) = (m.1 26) from ((fr1 Fm220 26 rfl).trans ((fr1 Fm202 26 rfl).trans ((fr1 Fm187 26 rfl).trans (fr1 Fm109 26 rfl))))), (show (m220.2 16) = (m.2 16) from ((fr2 Fm220 16 rfl).trans ((fr2 Fm202 16 rfl).trans ((fr2 Fm187 16 rfl).trans (fr2 Fm109 16 rfl))))), (show (m220.2 17) = (m.2 17) from ((fr2 Fm220 17 rfl).trans ((fr2 Fm202 17 rfl).trans ((fr2 Fm187 17 rfl).trans (fr2 Fm109 17 rfl)))))]; assumption), (show SOp (m220.2 38) (m220.1 23) (m220.1 24) by rewrite [(show (m220.2 38) = (m.2 38) from ((fr2 Fm220 38 rfl).trans ((fr2 Fm202 38 rfl).trans ((fr2 Fm187 38 rfl).trans (fr2 Fm109 38 rfl))))), (show (m220.1 23) = (m.1 23) from ((fr1 Fm220 23 rfl).trans ((fr1 Fm202 23 rfl).trans ((fr1 Fm187 23 rfl).trans (fr1 Fm109 23 rfl))))), (show (m220.1 24) = (m.1 24) from ((fr1 Fm220 24 rfl).trans ((fr1 Fm202 24 rfl).trans ((fr1 Fm187 24 rfl).trans (fr1 Fm109 24 rfl)))))]; first | exact pSO | assumption)⟩)) (fun rr232 k233 => ?_)
                obtain ⟨m234, x235, Tm234, Fm234, g236, h237, h238, h239, c240, rfl⟩ := k233
                refine ⟨_, _, rfl, ?_⟩
                refine T_nb (st' := [.int (i32 x235), .int (i32 ((8 * d) + ((m.2 42) d))), .ref 215]) rfl ?_
                obtain ⟨g236a, g236b⟩ := g236
                have g241 : 0 ≤ m234.1 7 ∧ m234.1 7 ≤ 330 := Tm234.1 7
                have g242 : 0 ≤ m234.1 8 ∧ m234.1 8 ≤ 4000 := Tm234.1 8
                have g243 : 0 ≤ m234.1 9 ∧ m234.1 9 ≤ 4000 := Tm234.1 9
                have g244 : 0 ≤ m234.1 10 ∧ m234.1 10 ≤ 8 := Tm234.1 10
                have g245 : (-1) ≤ m234.1 11 ∧ m234.1 11 ≤ 4000 := Tm234.1 11
                have g246 : 0 ≤ m234.1 13 ∧ m234.1 13 ≤ 120 := Tm234.1 13
                have g247 : 0 ≤ m234.1 23 ∧ m234.1 23 ≤ 16 := Tm234.1 23
                by_cases hf248 : (m234.1 10) = 0
                · skip
                  replace h237 : (m220.1 10) = 0 := h237 hf248
                  replace h238 : LxP (m234.1 7) (m234.1 8) (m234.1 9) (m220.1 6) (m234.1 10) := h238
                  rewrite [(show (m220.1 6) = (m.1 6) from ((fr1 Fm220 6 rfl).trans ((fr1 Fm202 6 rfl).trans ((fr1 Fm187 6 rfl).trans (fr1 Fm109 6 rfl)))))] at h238
                  have hLx := h238
                  replace h239 : ∀ k, (m234.2 14) k + (m234.2 15) k ≤ 4000 := h239
                  have hNM := h239
                  obtain ⟨c249, c250, c251, c252, c253⟩ := c240 hf248
                  replace c249 : (m220.1 8) + 1 ≤ (m234.1 8) := c249
                  replace c250 : PN (m234.1 13) (m220.1 19) (m220.1 20) (m220.1 21) (m220.1 22) (m234.1 23) (m220.1 25) (m220.1 26) (m234.2 16) (m234.2 17) := c250
                  rewrite [(show (m220.1 19) = (m.1 19) from ((fr1 Fm220 19 rfl).trans ((fr1 Fm202 19 rfl).trans ((fr1 Fm187 19 rfl).trans (fr1 Fm109 19 rfl))))), (show (m220.1 20) = (m.1 20) from ((fr1 Fm220 20 rfl).trans ((fr1 Fm202 20 rfl).trans ((fr1 Fm187 20 rfl).trans (fr1 Fm109 20 rfl))))), (show (m220.1 21) = (m.1 21) from ((fr1 Fm220 21 rfl).trans ((fr1 Fm202 21 rfl).trans ((fr1 Fm187 21 rfl).trans (fr1 Fm109 21 rfl))))), (show (m220.1 22) = (m.1 22) from ((fr1 Fm220 22 rfl).trans ((fr1 Fm202 22 rfl).trans ((fr1 Fm187 22 rfl).trans (fr1 Fm109 22 rfl))))), (show (m220.1 25) = (m.1 25) from ((fr1 Fm220 25 rfl).trans ((fr1 Fm202 25 rfl).trans ((fr1 Fm187 25 rfl).trans (fr1 Fm109 25 rfl))))), (show (m220.1 26) = (m.1 26) from ((fr1 Fm220 26 rfl).trans ((fr1 Fm202 26 rfl).trans ((fr1 Fm187 26 rfl).trans (fr1 Fm109 26 rfl)))))] at c250
                  have pPN := c250
                  replace c251 : SOp (m234.2 38) (m234.1 23) (m220.1 24) := c251
                  rewrite [(show (m220.1 24) = (m.1 24) from ((fr1 Fm220 24 rfl).trans ((fr1 Fm202 24 rfl).trans ((fr1 Fm187 24 rfl).trans (fr1 Fm109 24 rfl)))))] at c251
                  have pSO := c251
                  replace c252 : x235 < (m234.1 23) := c252
                  have hRS := c252
                  replace c253 : (m220.1 23) ≤ (m234.1 23) := c253
                  rewrite [(show (m220.1 23) = (m.1 23) from ((fr1 Fm220 23 rfl).trans ((fr1 Fm202 23 rfl).trans ((fr1 Fm187 23 rfl).trans (fr1 Fm109 23 rfl)))))] at c253
                  clear c240
                  have u254 : (m.1 8) + 1 ≤ (m234.1 8) := by omega
                  clear g225 g226 g227 g228 g229 h221 u231 h237 c249
                  have G255 : ∀ j, (-2) ≤ (upI (m.2 45) ((8 * d) + ((m.2 42) d)) x235) j ∧ (upI (m.2 45) ((8 * d) + ((m.2 42) d)) x235) j ≤ 15 := upI_rg (hT.2.1 45) ⟨by omega, by omega⟩
                  refine T_iast (a' := [(45, upI (m.2 45) ((8 * d) + ((m.2 42) d)) x235)]) 117 45 (m.2 45) rfl rfl rfl (by omega) (show ((8 * d) + ((m.2 42) d)) < (128 : Int) by omega) (show (m234.2 45) = (m.2 45) from ((fr2 Fm234 45 rfl).trans ((fr2 Fm220 45 rfl).trans ((fr2 Fm202 45 rfl).trans ((fr2 Fm187 45 rfl).trans (fr2 Fm109 45 rfl)))))) rfl ?_
                  refine T_ld 118 (.ref 189) rfl (fun _ => rfl) ?_
                  refine T_ld 120 (.int (i32 59)) rfl (fun _ => rfl) ?_
                  refine T_call 123 232 [.ref 189, .int (i32 59)] [] rfl (fun _ => rfl) rfl (d_need w (mO m234 [] [(45, upI (m.2 45) ((8 * d) + ((m.2 42) d)) x235)]) c N D (by omega) (Ty_mO Tm234 rfl rfl trivial ⟨G255, trivial⟩) 59 ⟨by decide, by decide⟩ (show 1 ≤ (59 : Int) by omega) (show LxP (m234.1 7) (m234.1 8) (m234.1 9) (m234.1 6) (m234.1 10) by rewrite [(show (m234.1 6) = (m.1 6) from ((fr1 Fm234 6 rfl).trans ((fr1 Fm220 6 rfl).trans ((fr1 Fm202 6 rfl).trans ((fr1 Fm187 6 rfl).trans (fr1 Fm109 6 rfl))))))]; first | exact hLx | (intro h9; exfalso; omega) | (intro h9; have h8 := hLx (by omega); omega))) (fun rr256 k257 => ?_)
                  obtain ⟨m258, Tm258, Fm258, h259, h260, h261, h262, rfl⟩ := k257
                  refine ⟨_, _, rfl, ?_⟩
                  refine T_nb (st' := []) rfl ?_
                  have g263 : 0 ≤ m258.1 7 ∧ m258.1 7 ≤ 330 := Tm258.1 7
                  have g264 : 0 ≤ m258.1 8 ∧ m258.1 8 ≤ 4000 := Tm258.1 8
                  have g265 : 0 ≤ m258.1 9 ∧ m258.1 9 ≤ 4000 := Tm258.1 9
                  have g266 : 0 ≤ m258.1 10 ∧ m258.1 10 ≤ 8 := Tm258.1 10
                  have g267 : (-1) ≤ m258.1 11 ∧ m258.1 11 ≤ 4000 := Tm258.1 11
                  by_cases hf268 : (m258.1 10) = 0
                  · skip
                    replace h259 : LxP (m258.1 7) (m258.1 8) (m258.1 9) (m234.1 6) (m258.1 10) := h259
                    rewrite [(show (m234.1 6) = (m.1 6) from ((fr1 Fm234 6 rfl).trans ((fr1 Fm220 6 rfl).trans ((fr1 Fm202 6 rfl).trans ((fr1 Fm187 6 rfl).trans (fr1 Fm109 6 rfl))))))] at h259
                    have hLx := h259
                    replace h260 : (m234.1 10) = 0 ∧ (m234.1 7) = (59 : Int) := h260 hf268
                    replace h261 : (m234.1 8) ≤ (m258.1 8) := h261
                    replace h262 : (m234.1 8) + (m234.1 9) ≤ (m258.1 8) := h262 hf268
                    have u269 : (m.1 8) + 1 ≤ (m258.1 8) := by omega
                    clear g241 g242 g243 g244 g245 h238 u254 h260 h261 h262
                    have hlt : (m.2 42) d < 8 := by omega
                    refine T_gf 127 (.ref 212) rfl rfl rfl rfl rfl rfl ?_
                    refine T_ld 128 (.int (i32 d)) rfl (fun _ => rfl) ?_
                    refine T_dup2 129 rfl (fun _ => rfl) ?_
                    refine T_iald 130 42 (m.2 42) rfl rfl rfl (by omega) (show d < (16 : Int) by omega) (show (m258.2 42) = (m.2 42) from ((fr2 Fm258 42 rfl).trans ((fr2 Fm234 42 rfl).trans ((fr2 Fm220 42 rfl).trans ((fr2 Fm202 42 rfl).trans ((fr2 Fm187 42 rfl).trans (fr2 Fm109 42 rfl))))))) ?_
                    have e270 : 0 ≤ (m.2 42) d ∧ (m.2 42) d ≤ 8 := (hT.2.1 42) d
                    refine T_ld 131 (.int (i32 1)) rfl (fun _ => rfl) ?_
                    refine T_iadd 132 rfl rfl ?_
                    have G271 : ∀ j, 0 ≤ (upI (m.2 42) d (((m.2 42) d) + 1)) j ∧ (upI (m.2 42) d (((m.2 42) d) + 1)) j ≤ 8 := upI_rg (hT.2.1 42) ⟨by omega, by omega⟩
                    refine T_iast (a' := [(42, upI (m.2 42) d (((m.2 42) d) + 1))]) 133 42 (m.2 42) rfl rfl rfl (by omega) (show d < (16 : Int) by omega) (show (m258.2 42) = (m.2 42) from ((fr2 Fm258 42 rfl).trans ((fr2 Fm234 42 rfl).trans ((fr2 Fm220 42 rfl).trans ((fr2 Fm202 42 rfl).trans ((fr2 Fm187 42 rfl).trans (fr2 Fm109 42 rfl))))))) rfl ?_
                    have hCT2 : ∀ c, 8 * d ≤ c → c < 8 * d + (upI (m.2 42) d (((m.2 42) d) + 1)) d → (upI (m.2 45) ((8 * d) + ((m.2 42) d)) x235) c < (m234.1 23) := by
                      intro c c0 c1
                      rw [upI_s] at c1
                      by_cases e : c = 8 * d + (m.2 42) d
                      · subst e
                        rw [upI_s]
                        exact hRS
                      · rw [upI_n e]
                        have := hCT c c0 (by omega)
                        omega
                    refine T_ret rfl (fun _ => rfl) ?_
                    exact ⟨(mO m258 [] [(42, upI (m.2 42) d (((m.2 42) d) + 1))]), (Ty_mO Tm258 rfl rfl trivial ⟨G271, trivial⟩), (fr_m (fr_s Fm258 (fr_m (fr_s Fm234 (fr_m (fr_s Fm220 (fr_m (fr_s Fm202 (fr_m (fr_s Fm187 (fr_m (fr_s Fm109 (fr_m fr_0 rfl rfl) rfl rfl) rfl rfl) rfl rfl) rfl rfl) rfl rfl) rfl rfl) rfl rfl) rfl rfl) rfl rfl) rfl rfl) rfl rfl) rfl rfl), (show (m258.1 10) = 0 → (m.1 10) = 0 by omega), (show LxP (m258.1 7) (m258.1 8) (m258.1 9) (m.1 6) (m258.1 10) by first | (first | exact hLx | exact (fun _ => hLx (by omega)) | (intro h9; exfalso; omega)) | (exfalso; omega)), (show ∀ k, (m258.2 14) k + (m258.2 15) k ≤ 4000 by rewrite [(show (m258.2 14) = (m234.2 14) from (fr2 Fm258 14 rfl)), (show (m258.2 15) = (m234.2 15) from (fr2 Fm258 15 rfl))]; first | (first | exact hNM | (intro k; rw [hE1, hE2]; have := hNM k; have h7 := hLx0 hf0; unfold upI; split <;> omega)) | (exfalso; omega)), (fun _ => ⟨(show (m.1 8) + 1 ≤ (m258.1 8) by omega), (show PN (m258.1 13) (m.1 19) (m.1 20) (m.1 21) (m.1 22) (m258.1 23) (m.1 25) (m.1 26) (m258.2 16) (m258.2 17) by rewrite [(show (m258.1 13) = (m234.1 13) from (fr1 Fm258 13 rfl)), (show (m258.1 23) = (m234.1 23) from (fr1 Fm258 23 rfl)), (show (m258.2 16) = (m234.2 16) from (fr2 Fm258 16 rfl)), (show (m258.2 17) = (m234.2 17) from (fr2 Fm258 17 rfl))]; first | (exact pPN) | (exfalso; omega)), (show SOp (m258.2 38) (m258.1 23) (m.1 24) by rewrite [(show (m258.2 38) = (m234.2 38) from (fr2 Fm258 38 rfl)), (show (m258.1 23) = (m234.1 23) from (fr1 Fm258 23 rfl))]; first | (exact pSO) | (exfalso; omega)), (show ∀ c, 8 * d ≤ c → c < 8 * d + (upI (m.2 42) d (((m.2 42) d) + 1)) d → (m258.2 45) c < (m258.1 23) by rewrite [(show (m258.2 45) = (upI (m.2 45) ((8 * d) + ((m.2 42) d)) x235) from (fr2 Fm258 45 rfl)), (show (m258.1 23) = (m234.1 23) from (fr1 Fm258 23 rfl))]; first | (exact hCT2) | (exfalso; omega)), (show (m.1 23) ≤ (m258.1 23) by rewrite [(show (m258.1 23) = (m234.1 23) from (fr1 Fm258 23 rfl))]; omega), (show agr (m.2 42) (upI (m.2 42) d (((m.2 42) d) + 1)) d by first | (exact agr_u (Int.le_refl _)) | (exfalso; omega)), (show agr (m.2 45) (m258.2 45) (8 * d) by rewrite [(show (m258.2 45) = (upI (m.2 45) ((8 * d) + ((m.2 42) d)) x235) from (fr2 Fm258 45 rfl))]; first | (exact agr_u (by omega)) | (exfalso; omega))⟩), rfl⟩
                  · skip
                    replace h259 : LxP (m258.1 7) (m258.1 8) (m258.1 9) (m234.1 6) (m258.1 10) := h259
                    rewrite [(show (m234.1 6) = (m.1 6) from ((fr1 Fm234 6 rfl).trans ((fr1 Fm220 6 rfl).trans ((fr1 Fm202 6 rfl).trans ((fr1 Fm187 6 rfl).trans (fr1 Fm109 6 rfl))))))] at h259
                    have hLx := h259
                    clear h260
                    replace h261 : (m234.1 8) ≤ (m258.1 8) := h261
                    clear h262
                    have hf272 : 1 ≤ (m258.1 10) := by omega
                    clear g241 g242 g243 g244 g245 h238 u254 h261
                    refine Tm_lv (a := [(0, .ref 189), (1, .int (i32 d)), (2, .int (i32 ((8 * d) + ((m.2 42) d))))]) rfl rfl ⟨rfl, rfl, rfl, trivial⟩ ?_
                    exact J123_12 (mO m258 [] []) Tm258 (fr_m (fr_s Fm258 (fr_m (fr_s Fm234 (fr_m (fr_s Fm220 (fr_m (fr_s Fm202 (fr_m (fr_s Fm187 (fr_m (fr_s Fm109 (fr_m fr_0 rfl rfl) rfl rfl) rfl rfl) rfl rfl) rfl rfl) rfl rfl) rfl rfl) rfl rfl) rfl rfl) rfl rfl) rfl rfl) rfl rfl) rfl rfl) (show ∀ k, (m258.2 14) k + (m258.2 15) k ≤ 4000 by rewrite [(show (m258.2 14) = (m234.2 14) from (fr2 Fm258 14 rfl)), (show (m258.2 15) = (m234.2 15) from (fr2 Fm258 15 rfl))]; first | exact hNM) (show (m.2 42) d ≤ 7 by omega) (show 0 ≤ ((8 * d) + ((m.2 42) d)) ∧ ((8 * d) + ((m.2 42) d)) ≤ 127 by omega) (show 1 ≤ (m258.1 10) by omega)
                · skip
                  clear c240
                  clear h237
                  replace h238 : LxP (m234.1 7) (m234.1 8) (m234.1 9) (m220.1 6) (m234.1 10) := h238
                  rewrite [(show (m220.1 6) = (m.1 6) from ((fr1 Fm220 6 rfl).trans ((fr1 Fm202 6 rfl).trans ((fr1 Fm187 6 rfl).trans (fr1 Fm109 6 rfl)))))] at h238
                  have hLx := h238
                  replace h239 : ∀ k, (m234.2 14) k + (m234.2 15) k ≤ 4000 := h239
                  have hNM := h239
                  have hf273 : 1 ≤ (m234.1 10) := by omega
                  clear g225 g226 g227 g228 g229 h221 u231
                  refine Tm_lv (a := [(0, .ref 189), (1, .int (i32 d)), (2, .int (i32 ((8 * d) + ((m.2 42) d))))]) rfl rfl ⟨rfl, rfl, rfl, trivial⟩ ?_
                  exact J116_24 x235 (mO m234 [] []) (r32 (by omega) (by omega)) Tm234 (fr_m (fr_s Fm234 (fr_m (fr_s Fm220 (fr_m (fr_s Fm202 (fr_m (fr_s Fm187 (fr_m (fr_s Fm109 (fr_m fr_0 rfl rfl) rfl rfl) rfl rfl) rfl rfl) rfl rfl) rfl rfl) rfl rfl) rfl rfl) rfl rfl) rfl rfl) rfl rfl) (show (-2) ≤ x235 by omega) (show x235 ≤ 15 by omega) (show ∀ k, (m234.2 14) k + (m234.2 15) k ≤ 4000 by first | exact hNM) (show (m.2 42) d ≤ 7 by omega) (show 0 ≤ ((8 * d) + ((m.2 42) d)) ∧ ((8 * d) + ((m.2 42) d)) ≤ 127 by omega) (show 0 ≤ (8 * d) + ((m.2 42) d) ∧ (8 * d) + ((m.2 42) d) ≤ 127 by omega) (show 1 ≤ (m234.1 10) by omega)
              · skip
                replace h221 : LxP (m220.1 7) (m220.1 8) (m220.1 9) (m202.1 6) (m220.1 10) := h221
                rewrite [(show (m202.1 6) = (m.1 6) from ((fr1 Fm202 6 rfl).trans ((fr1 Fm187 6 rfl).trans (fr1 Fm109 6 rfl))))] at h221
                have hLx := h221
                clear h222
                replace h223 : (m202.1 8) ≤ (m220.1 8) := h223
                clear h224
                have hf274 : 1 ≤ (m220.1 10) := by omega
                clear g208 g209 g210 g211 g212 h206 u216 h223
                refine Tm_lv (a := [(0, .ref 189), (1, .int (i32 d)), (2, .int (i32 ((8 * d) + ((m.2 42) d))))]) rfl rfl ⟨rfl, rfl, rfl, trivial⟩ ?_
                exact J107_51 (mO m220 [] []) Tm220 (fr_m (fr_s Fm220 (fr_m (fr_s Fm202 (fr_m (fr_s Fm187 (fr_m (fr_s Fm109 (fr_m fr_0 rfl rfl) rfl rfl) rfl rfl) rfl rfl) rfl rfl) rfl rfl) rfl rfl) rfl rfl) rfl rfl) (show ∀ k, (m.2 14) k + (m.2 15) k ≤ 4000 by first | exact hNM) (show (m.2 42) d ≤ 7 by omega) (show 0 ≤ ((8 * d) + ((m.2 42) d)) ∧ ((8 * d) + ((m.2 42) d)) ≤ 127 by omega) (show 1 ≤ (m220.1 10) by omega)
            · skip
              clear c207
              clear h205
              replace h206 : LxP (m202.1 7) (m202.1 8) (m202.1 9) (m187.1 6) (m202.1 10) := h206
              rewrite [(show (m187.1 6) = (m.1 6) from ((fr1 Fm187 6 rfl).trans (fr1 Fm109 6 rfl)))] at h206
              have hLx := h206
              have hf275 : 1 ≤ (m202.1 10) := by omega
              clear g192 g193 g194 g195 g196 h188 u198
              refine Tm_lv (a := [(0, .ref 189), (1, .int (i32 d)), (2, .int (i32 ((8 * d) + ((m.2 42) d))))]) rfl rfl ⟨rfl, rfl, rfl, trivial⟩ ?_
              exact J100_78 x203 (mO m202 [] []) (r64 (by omega) (by omega)) Tm202 (fr_m (fr_s Fm202 (fr_m (fr_s Fm187 (fr_m (fr_s Fm109 (fr_m fr_0 rfl rfl) rfl rfl) rfl rfl) rfl rfl) rfl rfl) rfl rfl) rfl rfl) (show ∀ k, (m.2 14) k + (m.2 15) k ≤ 4000 by first | exact hNM) (show (m.2 42) d ≤ 7 by omega) (show 0 ≤ ((8 * d) + ((m.2 42) d)) ∧ ((8 * d) + ((m.2 42) d)) ≤ 127 by omega) (show 0 ≤ (8 * d) + ((m.2 42) d) ∧ (8 * d) + ((m.2 42) d) ≤ 127 by omega) (show 1 ≤ (m202.1 10) by omega)
          · skip
            replace h188 : LxP (m187.1 7) (m187.1 8) (m187.1 9) (m109.1 6) (m187.1 10) := h188
            rewrite [(show (m109.1 6) = (m.1 6) from (fr1 Fm109 6 rfl))] at h188
            have hLx := h188
            clear h189
            replace h190 : (m109.1 8) ≤ (m187.1 8) := h190
            clear h191
            have hf276 : 1 ≤ (m187.1 10) := by omega
            clear g115 g116 g117 g118 g119 h113 c121 u123 h126 h127 h190
            refine T_gf 89 (.ref 260) rfl rfl rfl rfl rfl rfl ?_
            refine T_ld 90 (.int (i32 ((8 * d) + ((m.2 42) d)))) rfl (fun _ => rfl) ?_
            refine T_ld 91 (.ref 189) rfl (fun _ => rfl) ?_
            refine T_gf 95 (.ref 213) rfl rfl rfl rfl rfl rfl ?_
            refine T_ld 96 (.int (i32 d)) rfl (fun _ => rfl) ?_
            refine T_iald 97 43 (m.2 43) rfl rfl rfl (by omega) (show d < (16 : Int) by omega) (show (m187.2 43) = (m.2 43) from ((fr2 Fm187 43 rfl).trans (fr2 Fm109 43 rfl))) ?_
            have e277 : 0 ≤ m.2 43 d ∧ m.2 43 d ≤ 1024 := hT.2.1 43 d
            refine T_call 100 266 [.ref 189, .int (i32 ((m.2 43) d))] [.int (i32 ((8 * d) + ((m.2 42) d))), .ref 260] rfl (fun _ => rfl) rfl (c_caseNumber w (mO m187 [] []) c N D (by omega) Tm187 ((m.2 43) d) (r32 (by omega) (by omega)) (show LxP (m187.1 7) (m187.1 8) (m187.1 9) (m187.1 6) (m187.1 10) by rewrite [(show (m187.1 6) = (m.1 6) from ((fr1 Fm187 6 rfl).trans (fr1 Fm109 6 rfl)))]; first | exact hLx | exact (fun _ => hLx (by omega)) | (intro h9; exfalso; omega)) (fun (h : (m187.1 10) = 0) => absurd h (by omega))) (fun rr278 k279 => ?_)
            obtain ⟨m280, x281, Tm280, Fm280, g282, h283, h284, c285, rfl⟩ := k279
            refine ⟨_, _, rfl, ?_⟩
            refine T_nb (st' := [.long (i64 x281), .int (i32 ((8 * d) + ((m.2 42) d))), .ref 260]) rfl ?_
            obtain ⟨g282a, g282b⟩ := g282
            have g286 : 0 ≤ m280.1 7 ∧ m280.1 7 ≤ 330 := Tm280.1 7
            have g287 : 0 ≤ m280.1 8 ∧ m280.1 8 ≤ 4000 := Tm280.1 8
            have g288 : 0 ≤ m280.1 9 ∧ m280.1 9 ≤ 4000 := Tm280.1 9
            have g289 : 0 ≤ m280.1 10 ∧ m280.1 10 ≤ 8 := Tm280.1 10
            have g290 : (-1) ≤ m280.1 11 ∧ m280.1 11 ≤ 4000 := Tm280.1 11
            replace h283 : (m280.1 10) = 0 → (m187.1 10) = 0 := h283
            replace h284 : LxP (m280.1 7) (m280.1 8) (m280.1 9) (m187.1 6) (m280.1 10) := h284
            rewrite [(show (m187.1 6) = (m.1 6) from ((fr1 Fm187 6 rfl).trans (fr1 Fm109 6 rfl)))] at h284
            have hf291 : 1 ≤ (m280.1 10) := by omega
            clear c285
            clear h283
            have hLx := h284
            clear g192 g193 g194 g195 g196 h188 hf276
            refine Tm_lv (a := [(0, .ref 189), (1, .int (i32 d)), (2, .int (i32 ((8 * d) + ((m.2 42) d))))]) rfl rfl ⟨rfl, rfl, rfl, trivial⟩ ?_
            exact J100_78 x281 (mO m280 [] []) (r64 (by omega) (by omega)) Tm280 (fr_m (fr_s Fm280 (fr_m (fr_s Fm187 (fr_m (fr_s Fm109 (fr_m fr_0 rfl rfl) rfl rfl) rfl rfl) rfl rfl) rfl rfl) rfl rfl) rfl rfl) (show ∀ k, (m.2 14) k + (m.2 15) k ≤ 4000 by first | exact hNM) (show (m.2 42) d ≤ 7 by omega) (show 0 ≤ ((8 * d) + ((m.2 42) d)) ∧ ((8 * d) + ((m.2 42) d)) ≤ 127 by omega) (show 0 ≤ (8 * d) + ((m.2 42) d) ∧ (8 * d) + ((m.2 42) d) ≤ 127 by omega) (show 1 ≤ (m280.1 10) by omega)
      · skip
        clear c114
        clear h112
        replace h113 : LxP (m109.1 7) (m109.1 8) (m109.1 9) (m.1 6) (m109.1 10) := h113
        have hLx := h113
        have hf292 : 1 ≤ (m109.1 10) := by omega
        have G293 : ∀ j, (-9223372036854775808) ≤ (upI (m.2 97) ((8 * d) + ((m.2 42) d)) x110) j ∧ (upI (m.2 97) ((8 * d) + ((m.2 42) d)) x110) j ≤ 9223372036854775807 := upI_rg (hT.2.1 97) ⟨by omega, by omega⟩
        refine T_last (a' := [(97, upI (m.2 97) ((8 * d) + ((m.2 42) d)) x110)]) 56 97 (m.2 97) rfl rfl rfl (by omega) (show ((8 * d) + ((m.2 42) d)) < (128 : Int) by omega) (show (m109.2 97) = (m.2 97) from (fr2 Fm109 97 rfl)) rfl ?_
        refine T_gf 60 (.ref 260) rfl rfl rfl rfl rfl rfl ?_
        refine T_ld 61 (.int (i32 ((8 * d) + ((m.2 42) d)))) rfl (fun _ => rfl) ?_
        refine T_ld 64 (.long (i64 (-1))) rfl (fun _ => rfl) ?_
        have G294 : ∀ j, (-9223372036854775808) ≤ (upI (m.2 98) ((8 * d) + ((m.2 42) d)) (-1)) j ∧ (upI (m.2 98) ((8 * d) + ((m.2 42) d)) (-1)) j ≤ 9223372036854775807 := upI_rg (hT.2.1 98) ⟨by omega, by omega⟩
        refine T_last (a' := [(97, upI (m.2 97) ((8 * d) + ((m.2 42) d)) x110), (98, upI (m.2 98) ((8 * d) + ((m.2 42) d)) (-1))]) 65 98 (m.2 98) rfl rfl rfl (by omega) (show ((8 * d) + ((m.2 42) d)) < (128 : Int) by omega) (show (m109.2 98) = (m.2 98) from (fr2 Fm109 98 rfl)) rfl ?_
        refine T_gf 69 (.int (i32 (m109.1 10))) rfl rfl rfl rfl rfl rfl ?_
        refine T_if 101 72 rfl rfl rfl (r32 (by omega) (by omega)) (fun (h295 : (m109.1 10) ≠ 0) => ?_) (fun (h295 : ¬ ((m109.1 10) ≠ 0)) => by exfalso; omega)
        refine T_ld 102 (.ref 189) rfl (fun _ => rfl) ?_
        refine T_ld 104 (.int (i32 58)) rfl (fun _ => rfl) ?_
        refine T_call 107 232 [.ref 189, .int (i32 58)] [] rfl (fun _ => rfl) rfl (d_need w (mO m109 [] [(97, upI (m.2 97) ((8 * d) + ((m.2 42) d)) x110), (98, upI (m.2 98) ((8 * d) + ((m.2 42) d)) (-1))]) c N D (by omega) (Ty_mO Tm109 rfl rfl trivial ⟨G293, G294, trivial⟩) 58 ⟨by decide, by decide⟩ (show 1 ≤ (58 : Int) by omega) (show LxP (m109.1 7) (m109.1 8) (m109.1 9) (m109.1 6) (m109.1 10) by rewrite [(show (m109.1 6) = (m.1 6) from (fr1 Fm109 6 rfl))]; first | exact hLx | (intro h9; exfalso; omega) | (intro h9; have h8 := hLx (by omega); omega))) (fun rr296 k297 => ?_)
        obtain ⟨m298, Tm298, Fm298, h299, h300, h301, h302, rfl⟩ := k297
        refine ⟨_, _, rfl, ?_⟩
        refine T_nb (st' := []) rfl ?_
        have g303 : 0 ≤ m298.1 7 ∧ m298.1 7 ≤ 330 := Tm298.1 7
        have g304 : 0 ≤ m298.1 8 ∧ m298.1 8 ≤ 4000 := Tm298.1 8
        have g305 : 0 ≤ m298.1 9 ∧ m298.1 9 ≤ 4000 := Tm298.1 9
        have g306 : 0 ≤ m298.1 10 ∧ m298.1 10 ≤ 8 := Tm298.1 10
        have g307 : (-1) ≤ m298.1 11 ∧ m298.1 11 ≤ 4000 := Tm298.1 11
        replace h299 : LxP (m298.1 7) (m298.1 8) (m298.1 9) (m109.1 6) (m298.1 10) := h299
        rewrite [(show (m109.1 6) = (m.1 6) from (fr1 Fm109 6 rfl))] at h299
        replace h300 : (m298.1 10) = 0 → (m109.1 10) = 0 ∧ (m109.1 7) = (58 : Int) := h300
        replace h301 : (m109.1 8) ≤ (m298.1 8) := h301
        replace h302 : (m298.1 10) = 0 → (m109.1 8) + (m109.1 9) ≤ (m298.1 8) := h302
        have hf308 : 1 ≤ (m298.1 10) := by omega
        clear h300
        clear h302
        have hLx := h299
        clear g115 g116 g117 g118 g119 h113 hf292 h295 h301
        refine Tm_lv (a := [(0, .ref 189), (1, .int (i32 d)), (2, .int (i32 ((8 * d) + ((m.2 42) d))))]) rfl rfl ⟨rfl, rfl, rfl, trivial⟩ ?_
        exact J107_51 (mO m298 [] []) Tm298 (fr_m (fr_s Fm298 (fr_m (fr_s Fm109 (fr_m fr_0 rfl rfl) rfl rfl) rfl rfl) rfl rfl) rfl rfl) (show ∀ k, (m.2 14) k + (m.2 15) k ≤ 4000 by first | exact hNM) (show (m.2 42) d ≤ 7 by omega) (show 0 ≤ ((8 * d) + ((m.2 42) d)) ∧ ((8 * d) + ((m.2 42) d)) ≤ 127 by omega) (show 1 ≤ (m298.1 10) by omega)
    · skip
      refine T_ld 12 (.ref 189) rfl (fun _ => rfl) ?_
      refine T_ld 13 (.int (i32 4)) rfl (fun _ => rfl) ?_
      refine T_gf 17 (.int (i32 (m.1 8))) rfl rfl rfl rfl rfl rfl ?_
      refine T_call 20 222 [.ref 189, .int (i32 4), .int (i32 (m.1 8))] [] rfl (fun _ => rfl) rfl (d_wrong w (mO m [] []) c N D (by omega) hT 4 (m.1 8) ⟨by decide, by decide⟩ (r32 (by omega) (by omega)) (show 1 ≤ (4 : Int) ∧ (4 : Int) ≤ 8 by omega) (show 0 ≤ (m.1 8) ∧ (m.1 8) ≤ 4000 by omega)) (fun rr309 k310 => ?_)
      obtain ⟨m311, Tm311, Fm311, h312, rfl⟩ := k310
      refine ⟨_, _, rfl, ?_⟩
      refine T_nb (st' := []) rfl ?_
      have g313 : 0 ≤ m311.1 10 ∧ m311.1 10 ≤ 8 := Tm311.1 10
      have g314 : (-1) ≤ m311.1 11 ∧ m311.1 11 ≤ 4000 := Tm311.1 11
      replace h312 : (0 < (m.1 10) → (m311.1 10) = (m.1 10) ∧ (m311.1 11) = (m.1 11)) ∧ ((m.1 10) ≤ 0 → (m311.1 10) = (4 : Int) ∧ (m311.1 11) = (m.1 8)) := h312
      have hf315 : 1 ≤ (m311.1 10) := by omega
      refine T_gf 24 (.int (i32 (m311.1 10))) rfl rfl rfl rfl rfl rfl ?_
      refine T_if 28 27 rfl rfl rfl (r32 (by omega) (by omega)) (fun (h316 : (m311.1 10) ≤ 0) => by exfalso; omega) (fun (h316 : ¬ ((m311.1 10) ≤ 0)) => ?_)
      refine T_ret rfl (fun _ => rfl) ?_
      exact ⟨(mO m311 [] []), Tm311, (fr_m (fr_s Fm311 (fr_m fr_0 rfl rfl) rfl rfl) rfl rfl), (show (m311.1 10) = 0 → (m.1 10) = 0 by omega), (show LxP (m311.1 7) (m311.1 8) (m311.1 9) (m.1 6) (m311.1 10) by rewrite [(show (m311.1 7) = (m.1 7) from (fr1 Fm311 7 rfl)), (show (m311.1 8) = (m.1 8) from (fr1 Fm311 8 rfl)), (show (m311.1 9) = (m.1 9) from (fr1 Fm311 9 rfl))]; first | (first | exact hLx | exact (fun _ => hLx (by omega)) | (intro h9; exfalso; omega)) | (exfalso; omega)), (show ∀ k, (m311.2 14) k + (m311.2 15) k ≤ 4000 by rewrite [(show (m311.2 14) = (m.2 14) from (fr2 Fm311 14 rfl)), (show (m311.2 15) = (m.2 15) from (fr2 Fm311 15 rfl))]; first | (first | exact hNM | (intro k; rw [hE1, hE2]; have := hNM k; have h7 := hLx0 hf0; unfold upI; split <;> omega)) | (exfalso; omega)), (fun (h : (m311.1 10) = 0) => absurd h (by omega)), rfl⟩
  · skip
    clear hC
    refine T_gf 4 (.ref 212) rfl rfl rfl rfl rfl rfl ?_
    refine T_ld 5 (.int (i32 d)) rfl (fun _ => rfl) ?_
    refine T_iald 6 42 (m.2 42) rfl rfl rfl (by omega) (show d < (16 : Int) by omega) rfl ?_
    have e317 : 0 ≤ (m.2 42) d ∧ (m.2 42) d ≤ 8 := (hT.2.1 42) d
    refine T_ld 8 (.int (i32 8)) rfl (fun _ => rfl) ?_
    refine T_icmp 20 11 rfl rfl rfl (r32 (by omega) (by omega)) ⟨by decide, by decide⟩ (fun (h318 : (m.2 42) d ≠ 8) => ?_) (fun (h318 : ¬ ((m.2 42) d ≠ 8)) => ?_)
    · skip
      refine T_gf 24 (.int (i32 (m.1 10))) rfl rfl rfl rfl rfl rfl ?_
      refine T_if 28 27 rfl rfl rfl (r32 (by omega) (by omega)) (fun (h319 : (m.1 10) ≤ 0) => by exfalso; omega) (fun (h319 : ¬ ((m.1 10) ≤ 0)) => ?_)
      refine T_ret rfl (fun _ => rfl) ?_
      exact ⟨(mO m [] []), hT, (fr_m fr_0 rfl rfl), (show (m.1 10) = 0 → (m.1 10) = 0 by omega), (show LxP (m.1 7) (m.1 8) (m.1 9) (m.1 6) (m.1 10) by first | (first | exact hLx | exact (fun _ => hLx (by omega)) | (intro h9; exfalso; omega)) | (exfalso; omega)), (show ∀ k, (m.2 14) k + (m.2 15) k ≤ 4000 by first | (first | exact hNM | (intro k; rw [hE1, hE2]; have := hNM k; have h7 := hLx0 hf0; unfold upI; split <;> omega)) | (exfalso; omega)), (fun (h : (m.1 10) = 0) => absurd h (by omega)), rfl⟩
    · skip
      refine T_ld 12 (.ref 189) rfl (fun _ => rfl) ?_
      refine T_ld 13 (.int (i32 4)) rfl (fun _ => rfl) ?_
      refine T_gf 17 (.int (i32 (m.1 8))) rfl rfl rfl rfl rfl rfl ?_
      refine T_call 20 222 [.ref 189, .int (i32 4), .int (i32 (m.1 8))] [] rfl (fun _ => rfl) rfl (d_wrong w (mO m [] []) c N D (by omega) hT 4 (m.1 8) ⟨by decide, by decide⟩ (r32 (by omega) (by omega)) (show 1 ≤ (4 : Int) ∧ (4 : Int) ≤ 8 by omega) (show 0 ≤ (m.1 8) ∧ (m.1 8) ≤ 4000 by omega)) (fun rr320 k321 => ?_)
      obtain ⟨m322, Tm322, Fm322, h323, rfl⟩ := k321
      refine ⟨_, _, rfl, ?_⟩
      refine T_nb (st' := []) rfl ?_
      have g324 : 0 ≤ m322.1 10 ∧ m322.1 10 ≤ 8 := Tm322.1 10
      have g325 : (-1) ≤ m322.1 11 ∧ m322.1 11 ≤ 4000 := Tm322.1 11
      replace h323 : (0 < (m.1 10) → (m322.1 10) = (m.1 10) ∧ (m322.1 11) = (m.1 11)) ∧ ((m.1 10) ≤ 0 → (m322.1 10) = (4 : Int) ∧ (m322.1 11) = (m.1 8)) := h323
      have hf326 : 1 ≤ (m322.1 10) := by omega
      refine T_gf 24 (.int (i32 (m322.1 10))) rfl rfl rfl rfl rfl rfl ?_
      refine T_if 28 27 rfl rfl rfl (r32 (by omega) (by omega)) (fun (h327 : (m322.1 10) ≤ 0) => by exfalso; omega) (fun (h327 : ¬ ((m322.1 10) ≤ 0)) => ?_)
      refine T_ret rfl (fun _ => rfl) ?_
      exact ⟨(mO m322 [] []), Tm322, (fr_m (fr_s Fm322 (fr_m fr_0 rfl rfl) rfl rfl) rfl rfl), (show (m322.1 10) = 0 → (m.1 10) = 0 by omega), (show LxP (m322.1 7) (m322.1 8) (m322.1 9) (m.1 6) (m322.1 10) by rewrite [(show (m322.1 7) = (m.1 7) from (fr1 Fm322 7 rfl)), (show (m322.1 8) = (m.1 8) from (fr1 Fm322 8 rfl)), (show (m322.1 9) = (m.1 9) from (fr1 Fm322 9 rfl))]; first | (first | exact hLx | exact (fun _ => hLx (by omega)) | (intro h9; exfalso; omega)) | (exfalso; omega)), (show ∀ k, (m322.2 14) k + (m322.2 15) k ≤ 4000 by rewrite [(show (m322.2 14) = (m.2 14) from (fr2 Fm322 14 rfl)), (show (m322.2 15) = (m.2 15) from (fr2 Fm322 15 rfl))]; first | (first | exact hNM | (intro k; rw [hE1, hE2]; have := hNM k; have h7 := hLx0 hf0; unfold upI; split <;> omega)) | (exfalso; omega)), (fun (h : (m322.1 10) = 0) => absurd h (by omega)), rfl⟩
