def fF_takeList : List Nat := [7, 8, 9, 10, 11, 12]
def fA_takeList : List Nat := [53, 114, 116]
def Q_takeList (m : mR) (c : Nat → Option am_C) (N : Nat) (t : Int) : ag_Re af_T → Prop := fun R => ∃ (M : mR), Ty M ∧ fr fF_takeList fA_takeList m M ∧ ((M.1 10) = 0 → (m.1 10) = 0) ∧ (LxP (M.1 7) (M.1 8) (M.1 9) (m.1 6) (M.1 10)) ∧ (M.1 10 = 0 → ((m.1 8) + 1 ≤ (M.1 8)) ∧ (agr (m.2 53) (M.2 53) t) ∧ (agr (m.2 114) (M.2 114) (8 * t)) ∧ (∀ k, 8 * t ≤ k → k < 8 * t + (M.2 53) t → (M.2 114) k < (m.1 25))) ∧ R = (.inl (none), (mhp M c, N), 0, 0)
set_option maxHeartbeats 3000000 in
theorem c_takeList (w : wX) (m : mR) (c : Nat → Option am_C) (N D : Nat) (hD : 7 ≤ D) (hT : Ty m) (t : Int) (qt : R32 t) (hLx0 : LxP (m.1 7) (m.1 8) (m.1 9) (m.1 6) (m.1 10)) (hNM0 : ∀ k, (m.2 14) k + (m.2 15) k ≤ 4000) (p2 : 0 ≤ t ∧ t ≤ 7) (hC : m.1 10 = 0 → (PN (m.1 13) (m.1 19) (m.1 20) (m.1 21) (m.1 22) (m.1 23) (m.1 25) (m.1 26) (m.2 16) (m.2 17)) ∧ ((m.2 53) t = 0)) : TC w D 276 [.ref 189, .int (i32 t)] (mhp m c, N) (Q_takeList m c N t) := by
  obtain ⟨D, rfl⟩ : ∃ k, D = k + 1 := ⟨D - 1, by omega⟩
  obtain ⟨qta, qtb⟩ := id qt
  have hLx := hLx0
  have hNM := hNM0
  have f7 : 0 ≤ m.1 7 ∧ m.1 7 ≤ 330 := hT.1 7
  have f8 : 0 ≤ m.1 8 ∧ m.1 8 ≤ 4000 := hT.1 8
  have f9 : 0 ≤ m.1 9 ∧ m.1 9 ≤ 4000 := hT.1 9
  have f10 : 0 ≤ m.1 10 ∧ m.1 10 ≤ 8 := hT.1 10
  have f11 : (-1) ≤ m.1 11 ∧ m.1 11 ≤ 4000 := hT.1 11
  have f25 : 0 ≤ m.1 25 ∧ m.1 25 ≤ 16 := hT.1 25
  have f22 : 0 ≤ m.1 22 ∧ m.1 22 ≤ 8 := hT.1 22
  have f19 : 0 ≤ m.1 19 ∧ m.1 19 ≤ 12 := hT.1 19
  have f20 : 0 ≤ m.1 20 ∧ m.1 20 ≤ 12 := hT.1 20
  have f21 : 0 ≤ m.1 21 ∧ m.1 21 ≤ 16 := hT.1 21
  have f13 : 0 ≤ m.1 13 ∧ m.1 13 ≤ 120 := hT.1 13
  have f6 : 0 ≤ m.1 6 ∧ m.1 6 ≤ 4000 := hT.1 6
  have f23 : 0 ≤ m.1 23 ∧ m.1 23 ≤ 16 := hT.1 23
  have f26 : 0 ≤ m.1 26 ∧ m.1 26 ≤ 8 := hT.1 26
  refine Tc_of rfl ?_
  show TT w D pm_276 (0, [(0, .ref 189), (1, .int (i32 t))], [], (mhp (mO m [] []) c, N), 0, 0) (Q_takeList m c N t)
  by_cases hf0 : m.1 10 = 0
  · skip
    obtain ⟨pPN, hta0⟩ := hC hf0
    have h7 := hLx (by omega)
    have hNM := hNM0
    have hK1 := agr_r (m.2 53) t
    have hK2 := agr_r (m.2 114) (8 * t)
    have hLI : ∀ k, 8 * t ≤ k → k < 8 * t + (m.2 53) t → (m.2 114) k < (m.1 25) := fun k k0 k1 => by rw [hta0] at k1; omega
    refine T_ld 1 (.ref 189) rfl (fun _ => rfl) ?_
    refine T_ld 4 (.int (i32 315)) rfl (fun _ => rfl) ?_
    refine T_call 7 232 [.ref 189, .int (i32 315)] [] rfl (fun _ => rfl) rfl (d_need w (mO m [] []) c N D (by omega) hT 315 ⟨by decide, by decide⟩ (show 1 ≤ (315 : Int) by omega) (show LxP (m.1 7) (m.1 8) (m.1 9) (m.1 6) (m.1 10) by first | exact hLx | (intro h9; exfalso; omega) | (intro h9; have h8 := hLx (by omega); omega))) (fun rr1 k2 => ?_)
    obtain ⟨m3, Tm3, Fm3, h4, h5, h6, h7, rfl⟩ := k2
    refine ⟨_, _, rfl, ?_⟩
    refine T_nb (st' := []) rfl ?_
    have g8 : 0 ≤ m3.1 7 ∧ m3.1 7 ≤ 330 := Tm3.1 7
    have g9 : 0 ≤ m3.1 8 ∧ m3.1 8 ≤ 4000 := Tm3.1 8
    have g10 : 0 ≤ m3.1 9 ∧ m3.1 9 ≤ 4000 := Tm3.1 9
    have g11 : 0 ≤ m3.1 10 ∧ m3.1 10 ≤ 8 := Tm3.1 10
    have g12 : (-1) ≤ m3.1 11 ∧ m3.1 11 ≤ 4000 := Tm3.1 11
    by_cases hf13 : (m3.1 10) = 0
    · skip
      replace h4 : LxP (m3.1 7) (m3.1 8) (m3.1 9) (m.1 6) (m3.1 10) := h4
      have hLx := h4
      replace h5 : (m.1 10) = 0 ∧ (m.1 7) = (315 : Int) := h5 hf13
      replace h6 : (m.1 8) ≤ (m3.1 8) := h6
      replace h7 : (m.1 8) + (m.1 9) ≤ (m3.1 8) := h7 hf13
      have u14 : (m.1 8) + 1 ≤ (m3.1 8) := by omega
      refine T_ld 8 (.int (i32 0)) rfl (fun _ => rfl) ?_
      refine T_sto 9 [(2, .int (i32 0)), (0, .ref 189), (1, .int (i32 t))] rfl (fun _ => rfl) ?_
      have L9_17 : ∀ (n23 : Nat) (v15 : Int) (m16 : mR), (R32 v15) → Ty m16 → fr [] [116] (mO m3 [] []) m16 → (0 ≤ v15) → (v15 ≤ 16) → 16 - v15 < (n23 : Int) → TT w D pm_276 (9, [(0, .ref 189), (1, .int (i32 t)), (2, .int (i32 v15))], [], (mhp (mO m16 [] []) c, N), 0, 0) (Q_takeList m c N t) := by
        intro n23
        induction n23 with
        | zero =>
          intro v15 m16 q20 Tm16 Fm16 ic18 ic19 hmu
          obtain ⟨q20a, q20b⟩ := id q20
          exfalso
          omega
        | succ n23 ih =>
          intro v15 m16 q20 Tm16 Fm16 ic18 ic19 hmu
          obtain ⟨q20a, q20b⟩ := id q20
          have ih24 := ih
          refine T_ld 10 (.int (i32 v15)) rfl (fun _ => rfl) ?_
          refine T_ld 12 (.int (i32 16)) rfl (fun _ => rfl) ?_
          refine T_icmp 28 15 rfl rfl rfl (r32 (by omega) (by omega)) ⟨by decide, by decide⟩ (fun (h25 : (16 : Int) ≤ v15) => ?_) (fun (h25 : ¬ ((16 : Int) ≤ v15)) => ?_)
          · skip
            refine T_ld 29 (.int (i32 1)) rfl (fun _ => rfl) ?_
            refine T_sto 30 [(2, .int (i32 1)), (0, .ref 189), (1, .int (i32 t))] rfl (fun _ => rfl) ?_
            have L30_28 : ∀ (n36 : Nat) (v26 : Int) (m27 : mR), (R32 v26) → Ty m27 → fr [7, 8, 9, 10, 11, 12] [53, 114, 116] (mO m16 [] []) m27 → (0 ≤ v26) → (v26 ≤ 1) → (LxP (m27.1 7) (m27.1 8) (m27.1 9) (m.1 6) (m27.1 10)) → (v26 = 0 ∨ v26 = 1) → ((m27.1 10) = 0 → ((m.1 8) + 1 ≤ (m27.1 8)) ∧ (agr (m.2 53) (m27.2 53) t) ∧ (agr (m.2 114) (m27.2 114) (8 * t)) ∧ (∀ k, 8 * t ≤ k → k < 8 * t + (m27.2 53) t → (m27.2 114) k < (m.1 25))) → 1000000 * (8 - (m27.1 10)) + 2 * (4000 - (m27.1 8)) + v26 < (n36 : Int) → TT w D pm_276 (30, [(0, .ref 189), (1, .int (i32 t)), (2, .int (i32 v26))], [], (mhp (mO m27 [] []) c, N), 0, 0) (Q_takeList m c N t) := by
              intro n36
              induction n36 with
              | zero =>
                intro v26 m27 q33 Tm27 Fm27 ic29 ic30 ic31 ic32 c35 hmu
                obtain ⟨q33a, q33b⟩ := id q33
                have q34_7 : 0 ≤ m27.1 7 ∧ m27.1 7 ≤ 330 := Tm27.1 7
                have q34_8 : 0 ≤ m27.1 8 ∧ m27.1 8 ≤ 4000 := Tm27.1 8
                have q34_9 : 0 ≤ m27.1 9 ∧ m27.1 9 ≤ 4000 := Tm27.1 9
                have q34_10 : 0 ≤ m27.1 10 ∧ m27.1 10 ≤ 8 := Tm27.1 10
                have q34_11 : (-1) ≤ m27.1 11 ∧ m27.1 11 ≤ 4000 := Tm27.1 11
                have hLx := ic31
                exfalso
                omega
              | succ n36 ih =>
                intro v26 m27 q33 Tm27 Fm27 ic29 ic30 ic31 ic32 c35 hmu
                obtain ⟨q33a, q33b⟩ := id q33
                have q34_7 : 0 ≤ m27.1 7 ∧ m27.1 7 ≤ 330 := Tm27.1 7
                have q34_8 : 0 ≤ m27.1 8 ∧ m27.1 8 ≤ 4000 := Tm27.1 8
                have q34_9 : 0 ≤ m27.1 9 ∧ m27.1 9 ≤ 4000 := Tm27.1 9
                have q34_10 : 0 ≤ m27.1 10 ∧ m27.1 10 ≤ 8 := Tm27.1 10
                have q34_11 : (-1) ≤ m27.1 11 ∧ m27.1 11 ≤ 4000 := Tm27.1 11
                have hLx := ic31
                have ih37 := ih
                by_cases hf38 : (m27.1 10) = 0
                · skip
                  obtain ⟨c39, c40, c41, c42⟩ := c35 hf38
                  clear c35
                  have hK1 := c40
                  have hK2 := c41
                  have hLI := c42
                  refine T_ld 31 (.int (i32 v26)) rfl (fun _ => rfl) ?_
                  refine T_if 183 34 rfl rfl rfl (r32 (by omega) (by omega)) (fun (h43 : v26 = 0) => ?_) (fun (h43 : ¬ (v26 = 0)) => ?_)
                  · skip
                    refine T_ld 184 (.ref 189) rfl (fun _ => rfl) ?_
                    refine T_ld 186 (.int (i32 59)) rfl (fun _ => rfl) ?_
                    refine T_call 189 232 [.ref 189, .int (i32 59)] [] rfl (fun _ => rfl) rfl (d_need w (mO m27 [] []) c N D (by omega) Tm27 59 ⟨by decide, by decide⟩ (show 1 ≤ (59 : Int) by omega) (show LxP (m27.1 7) (m27.1 8) (m27.1 9) (m27.1 6) (m27.1 10) by rewrite [(show (m27.1 6) = (m.1 6) from ((fr1 Fm27 6 rfl).trans ((fr1 Fm16 6 rfl).trans (fr1 Fm3 6 rfl))))]; first | exact hLx | (intro h9; exfalso; omega) | (intro h9; have h8 := hLx (by omega); omega))) (fun rr44 k45 => ?_)
                    obtain ⟨m46, Tm46, Fm46, h47, h48, h49, h50, rfl⟩ := k45
                    refine ⟨_, _, rfl, ?_⟩
                    refine T_nb (st' := []) rfl ?_
                    have g51 : 0 ≤ m46.1 7 ∧ m46.1 7 ≤ 330 := Tm46.1 7
                    have g52 : 0 ≤ m46.1 8 ∧ m46.1 8 ≤ 4000 := Tm46.1 8
                    have g53 : 0 ≤ m46.1 9 ∧ m46.1 9 ≤ 4000 := Tm46.1 9
                    have g54 : 0 ≤ m46.1 10 ∧ m46.1 10 ≤ 8 := Tm46.1 10
                    have g55 : (-1) ≤ m46.1 11 ∧ m46.1 11 ≤ 4000 := Tm46.1 11
                    by_cases hf56 : (m46.1 10) = 0
                    · skip
                      replace h47 : LxP (m46.1 7) (m46.1 8) (m46.1 9) (m27.1 6) (m46.1 10) := h47
                      rewrite [(show (m27.1 6) = (m.1 6) from ((fr1 Fm27 6 rfl).trans ((fr1 Fm16 6 rfl).trans (fr1 Fm3 6 rfl))))] at h47
                      have hLx := h47
                      replace h48 : (m27.1 10) = 0 ∧ (m27.1 7) = (59 : Int) := h48 hf56
                      replace h49 : (m27.1 8) ≤ (m46.1 8) := h49
                      replace h50 : (m27.1 8) + (m27.1 9) ≤ (m46.1 8) := h50 hf56
                      have u57 : (m27.1 8) ≤ (m46.1 8) := by omega
                      have u58 : (m.1 8) + 1 ≤ (m46.1 8) := by omega
                      refine T_ret rfl (fun _ => rfl) ?_
                      exact ⟨(mO m46 [] []), Tm46, (fr_m (fr_s Fm46 (fr_m (fr_s Fm27 (fr_m (fr_s Fm16 (fr_m (fr_s Fm3 (fr_m fr_0 rfl rfl) rfl rfl) rfl rfl) rfl rfl) rfl rfl) rfl rfl) rfl rfl) rfl rfl) rfl rfl), (show (m46.1 10) = 0 → (m.1 10) = 0 by omega), (show LxP (m46.1 7) (m46.1 8) (m46.1 9) (m.1 6) (m46.1 10) by first | (first | exact hLx | exact (fun _ => hLx (by omega)) | (intro h9; exfalso; omega)) | (exfalso; omega)), (fun _ => ⟨(show (m.1 8) + 1 ≤ (m46.1 8) by omega), (show agr (m.2 53) (m46.2 53) t by rewrite [(show (m46.2 53) = (m27.2 53) from (fr2 Fm46 53 rfl))]; first | (exact hK1) | (exfalso; omega)), (show agr (m.2 114) (m46.2 114) (8 * t) by rewrite [(show (m46.2 114) = (m27.2 114) from (fr2 Fm46 114 rfl))]; first | (exact hK2) | (exfalso; omega)), (show ∀ k, 8 * t ≤ k → k < 8 * t + (m46.2 53) t → (m46.2 114) k < (m.1 25) by rewrite [(show (m46.2 53) = (m27.2 53) from (fr2 Fm46 53 rfl)), (show (m46.2 114) = (m27.2 114) from (fr2 Fm46 114 rfl))]; first | (exact hLI) | (exfalso; omega))⟩), rfl⟩
                    · skip
                      replace h47 : LxP (m46.1 7) (m46.1 8) (m46.1 9) (m27.1 6) (m46.1 10) := h47
                      rewrite [(show (m27.1 6) = (m.1 6) from ((fr1 Fm27 6 rfl).trans ((fr1 Fm16 6 rfl).trans (fr1 Fm3 6 rfl))))] at h47
                      have hLx := h47
                      clear h48
                      replace h49 : (m27.1 8) ≤ (m46.1 8) := h49
                      clear h50
                      have hf59 : 1 ≤ (m46.1 10) := by omega
                      refine T_ret rfl (fun _ => rfl) ?_
                      exact ⟨(mO m46 [] []), Tm46, (fr_m (fr_s Fm46 (fr_m (fr_s Fm27 (fr_m (fr_s Fm16 (fr_m (fr_s Fm3 (fr_m fr_0 rfl rfl) rfl rfl) rfl rfl) rfl rfl) rfl rfl) rfl rfl) rfl rfl) rfl rfl) rfl rfl), (show (m46.1 10) = 0 → (m.1 10) = 0 by omega), (show LxP (m46.1 7) (m46.1 8) (m46.1 9) (m.1 6) (m46.1 10) by first | (first | exact hLx | exact (fun _ => hLx (by omega)) | (intro h9; exfalso; omega)) | (exfalso; omega)), (fun (h : (m46.1 10) = 0) => absurd h (by omega)), rfl⟩
                  · skip
                    refine T_gf 38 (.int (i32 (m27.1 10))) rfl rfl rfl rfl rfl rfl ?_
                    refine T_if 183 41 rfl rfl rfl (r32 (by omega) (by omega)) (fun (h60 : (m27.1 10) ≠ 0) => by exfalso; omega) (fun (h60 : ¬ ((m27.1 10) ≠ 0)) => ?_)
                    have h7 := hLx (by omega)
                    refine T_gf 45 (.int (i32 (m27.1 7))) rfl rfl rfl rfl rfl rfl ?_
                    refine T_ld 46 (.int (i32 1)) rfl (fun _ => rfl) ?_
                    refine T_icmp 69 49 rfl rfl rfl (r32 (by omega) (by omega)) ⟨by decide, by decide⟩ (fun (h61 : (m27.1 7) ≠ 1) => ?_) (fun (h61 : ¬ ((m27.1 7) ≠ 1)) => ?_)
                    · skip
                      refine T_gf 73 (.int (i32 (m27.1 8))) rfl rfl rfl rfl rfl rfl ?_
                      refine T_sto 74 [(3, .int (i32 (m27.1 8))), (0, .ref 189), (1, .int (i32 t)), (2, .int (i32 v26))] rfl (fun _ => rfl) ?_
                      refine T_ld 75 (.ref 189) rfl (fun _ => rfl) ?_
                      refine T_ld 77 (.int (i32 6)) rfl (fun _ => rfl) ?_
                      have hOL : (m27.1 10) = 0 → ∀ k, 0 ≤ k → k < (m.1 13) → (m.2 16) k = 6 → 0 ≤ (m.2 17) k ∧ (m.2 17) k < (m.1 25) := fun _ k h1 h2 h3 => by
                        have h4 := PNl_6 pPN k h1 h2 h3
                        omega
                      refine T_call 80 236 [.ref 189, .int (i32 6)] [] rfl (fun _ => rfl) rfl (d_oldName w (mO m27 [] []) c N D (by omega) Tm27 6 (m.1 25) ⟨by decide, by decide⟩ (show LxP (m27.1 7) (m27.1 8) (m27.1 9) (m27.1 6) (m27.1 10) by rewrite [(show (m27.1 6) = (m.1 6) from ((fr1 Fm27 6 rfl).trans ((fr1 Fm16 6 rfl).trans (fr1 Fm3 6 rfl))))]; first | exact hLx | (intro h9; exfalso; omega) | (intro h9; have h8 := hLx (by omega); omega)) (show ∀ k, (m27.2 14) k + (m27.2 15) k ≤ 4000 by rewrite [(show (m27.2 14) = (m.2 14) from ((fr2 Fm27 14 rfl).trans ((fr2 Fm16 14 rfl).trans (fr2 Fm3 14 rfl)))), (show (m27.2 15) = (m.2 15) from ((fr2 Fm27 15 rfl).trans ((fr2 Fm16 15 rfl).trans (fr2 Fm3 15 rfl))))]; first | exact p1 | exact hNM) (show 1 ≤ (6 : Int) ∧ (6 : Int) ≤ 7 ∧ (6 : Int) ≠ 5 by omega) (show (m.1 25) ≤ 16 by omega) (show (m27.1 10) = 0 → ∀ k, 0 ≤ k → k < (m27.1 13) → (m27.2 16) k = (6 : Int) → 0 ≤ (m27.2 17) k ∧ (m27.2 17) k < (m.1 25) by rewrite [(show (m27.1 13) = (m.1 13) from ((fr1 Fm27 13 rfl).trans ((fr1 Fm16 13 rfl).trans (fr1 Fm3 13 rfl)))), (show (m27.2 16) = (m.2 16) from ((fr2 Fm27 16 rfl).trans ((fr2 Fm16 16 rfl).trans (fr2 Fm3 16 rfl)))), (show (m27.2 17) = (m.2 17) from ((fr2 Fm27 17 rfl).trans ((fr2 Fm16 17 rfl).trans (fr2 Fm3 17 rfl))))]; first | exact hOL | (intro h; exfalso; omega)) (show (6 : Int) = 3 → 3 ≤ (m.1 25) by omega)) (fun rr62 k63 => ?_)
                      obtain ⟨m64, oo, Tm64, Fm64, g65, h66, h67, h68, h69, h70, h71, rfl⟩ := k63
                      refine ⟨_, _, rfl, ?_⟩
                      refine T_nb (st' := [.int (i32 oo)]) rfl ?_
                      obtain ⟨g65a, g65b⟩ := g65
                      have g72 : 0 ≤ m64.1 7 ∧ m64.1 7 ≤ 330 := Tm64.1 7
                      have g73 : 0 ≤ m64.1 8 ∧ m64.1 8 ≤ 4000 := Tm64.1 8
                      have g74 : 0 ≤ m64.1 9 ∧ m64.1 9 ≤ 4000 := Tm64.1 9
                      have g75 : 0 ≤ m64.1 10 ∧ m64.1 10 ≤ 8 := Tm64.1 10
                      have g76 : (-1) ≤ m64.1 11 ∧ m64.1 11 ≤ 4000 := Tm64.1 11
                      by_cases hf77 : (m64.1 10) = 0
                      · skip
                        replace h66 : LxP (m64.1 7) (m64.1 8) (m64.1 9) (m27.1 6) (m64.1 10) := h66
                        rewrite [(show (m27.1 6) = (m.1 6) from ((fr1 Fm27 6 rfl).trans ((fr1 Fm16 6 rfl).trans (fr1 Fm3 6 rfl))))] at h66
                        have hLx := h66
                        replace h67 : (m27.1 8) ≤ (m64.1 8) := h67
                        replace h68 : (m27.1 10) = 0 ∧ (m27.1 8) + (m27.1 9) ≤ (m64.1 8) := h68 hf77
                        replace h69 : (m27.1 7) = 1 := h69 hf77
                        replace h70 : 0 ≤ oo ∧ (oo < (m.1 25) ∨ oo = 0) := h70
                        replace h71 : oo < (m.1 25) := h71 hf77
                        have u78 : (m27.1 8) + 1 ≤ (m64.1 8) := by omega
                        have u79 : (m.1 8) + 1 ≤ (m64.1 8) := by omega
                        refine T_sto 82 [(4, .int (i32 oo)), (3, .int (i32 (m27.1 8))), (0, .ref 189), (1, .int (i32 t)), (2, .int (i32 v26))] rfl (fun _ => rfl) ?_
                        refine T_gf 86 (.int (i32 (m64.1 10))) rfl rfl rfl rfl rfl rfl ?_
                        refine T_if 106 89 rfl rfl rfl (r32 (by omega) (by omega)) (fun (h80 : (m64.1 10) ≠ 0) => by exfalso; omega) (fun (h80 : ¬ ((m64.1 10) ≠ 0)) => ?_)
                        refine T_gf 93 (.ref 276) rfl rfl rfl rfl rfl rfl ?_
                        refine T_ld 95 (.int (i32 oo)) rfl (fun _ => rfl) ?_
                        refine T_bald 96 116 (m27.2 116) rfl rfl rfl (by omega) (show oo < (16 : Int) by omega) (show (m64.2 116) = (m27.2 116) from (fr2 Fm64 116 rfl)) ?_
                        have e81 : 0 ≤ (m27.2 116) oo ∧ (m27.2 116) oo ≤ 1 := (Tm27.2.1 116) oo
                        refine T_if 106 99 rfl rfl rfl (r32 (by omega) (by omega)) (fun (h82 : (m27.2 116) oo = 0) => ?_) (fun (h82 : ¬ ((m27.2 116) oo = 0)) => ?_)
                        · skip
                          refine T_gf 110 (.int (i32 (m64.1 10))) rfl rfl rfl rfl rfl rfl ?_
                          refine T_if 114 113 rfl rfl rfl (r32 (by omega) (by omega)) (fun (h83 : (m64.1 10) ≤ 0) => ?_) (fun (h83 : ¬ ((m64.1 10) ≤ 0)) => by exfalso; omega)
                          refine T_gf 118 (.ref 276) rfl rfl rfl rfl rfl rfl ?_
                          refine T_ld 120 (.int (i32 oo)) rfl (fun _ => rfl) ?_
                          refine T_ld 121 (.int (i32 1)) rfl (fun _ => rfl) ?_
                          have G84 : ∀ j, 0 ≤ (upI (m27.2 116) oo 1) j ∧ (upI (m27.2 116) oo 1) j ≤ 1 := upI_rg (Tm27.2.1 116) ⟨by omega, by omega⟩
                          refine T_bast (a' := [(116, upI (m27.2 116) oo 1)]) 122 116 (m27.2 116) rfl rfl rfl (by omega) (show oo < (16 : Int) by omega) (by omega) (show (m64.2 116) = (m27.2 116) from (fr2 Fm64 116 rfl)) rfl ?_
                          refine T_gf 126 (.ref 274) rfl rfl rfl rfl rfl rfl ?_
                          refine T_ld 128 (.int (i32 8)) rfl (fun _ => rfl) ?_
                          refine T_ld 129 (.int (i32 t)) rfl (fun _ => rfl) ?_
                          refine T_imul 130 rfl rfl ?_
                          refine T_gf 134 (.ref 223) rfl rfl rfl rfl rfl rfl ?_
                          refine T_ld 135 (.int (i32 t)) rfl (fun _ => rfl) ?_
                          refine T_iald 136 53 (m27.2 53) rfl rfl rfl (by omega) (show t < (8 : Int) by omega) (show (m64.2 53) = (m27.2 53) from (fr2 Fm64 53 rfl)) ?_
                          have e85 : 0 ≤ (m27.2 53) t ∧ (m27.2 53) t ≤ 8 := (Tm27.2.1 53) t
                          refine T_iadd 137 rfl rfl ?_
                          refine T_ld 139 (.int (i32 oo)) rfl (fun _ => rfl) ?_
                          have G86 : ∀ j, 0 ≤ (upI (m27.2 114) ((8 * t) + ((m27.2 53) t)) oo) j ∧ (upI (m27.2 114) ((8 * t) + ((m27.2 53) t)) oo) j ≤ 15 := upI_rg (Tm27.2.1 114) ⟨by omega, by omega⟩
                          refine T_iast (a' := [(114, upI (m27.2 114) ((8 * t) + ((m27.2 53) t)) oo), (116, upI (m27.2 116) oo 1)]) 140 114 (m27.2 114) rfl rfl rfl (by omega) (show ((8 * t) + ((m27.2 53) t)) < (64 : Int) by omega) (show (m64.2 114) = (m27.2 114) from (fr2 Fm64 114 rfl)) rfl ?_
                          refine T_gf 144 (.ref 223) rfl rfl rfl rfl rfl rfl ?_
                          refine T_ld 145 (.int (i32 t)) rfl (fun _ => rfl) ?_
                          refine T_dup2 146 rfl (fun _ => rfl) ?_
                          refine T_iald 147 53 (m27.2 53) rfl rfl rfl (by omega) (show t < (8 : Int) by omega) (show (m64.2 53) = (m27.2 53) from (fr2 Fm64 53 rfl)) ?_
                          have e87 : 0 ≤ (m27.2 53) t ∧ (m27.2 53) t ≤ 8 := (Tm27.2.1 53) t
                          refine T_ld 148 (.int (i32 1)) rfl (fun _ => rfl) ?_
                          refine T_iadd 149 rfl rfl ?_
                          have G88 : ∀ j, 0 ≤ (upI (m27.2 53) t (((m27.2 53) t) + 1)) j ∧ (upI (m27.2 53) t (((m27.2 53) t) + 1)) j ≤ 8 := upI_rg (Tm27.2.1 53) ⟨by omega, by omega⟩
                          refine T_iast (a' := [(53, upI (m27.2 53) t (((m27.2 53) t) + 1)), (114, upI (m27.2 114) ((8 * t) + ((m27.2 53) t)) oo), (116, upI (m27.2 116) oo 1)]) 150 53 (m27.2 53) rfl rfl rfl (by omega) (show t < (8 : Int) by omega) (show (m64.2 53) = (m27.2 53) from (fr2 Fm64 53 rfl)) rfl ?_
                          have hLI : ∀ k, 8 * t ≤ k → k < 8 * t + (upI (m27.2 53) t (((m27.2 53) t) + 1)) t → (upI (m27.2 114) ((8 * t) + ((m27.2 53) t)) oo) k < (m.1 25) := by
                            intro k k0 k1
                            rw [upI_s] at k1
                            unfold upI
                            split
                            · omega
                            · exact hLI k k0 (by omega)
                          refine T_gf 154 (.int (i32 (m64.1 10))) rfl rfl rfl rfl rfl rfl ?_
                          refine T_if 170 157 rfl rfl rfl (r32 (by omega) (by omega)) (fun (h89 : (m64.1 10) ≠ 0) => by exfalso; omega) (fun (h89 : ¬ ((m64.1 10) ≠ 0)) => ?_)
                          refine T_gf 161 (.int (i32 (m64.1 7))) rfl rfl rfl rfl rfl rfl ?_
                          refine T_ld 163 (.int (i32 44)) rfl (fun _ => rfl) ?_
                          refine T_icmp 170 166 rfl rfl rfl (r32 (by omega) (by omega)) ⟨by decide, by decide⟩ (fun (h90 : (m64.1 7) ≠ 44) => ?_) (fun (h90 : ¬ ((m64.1 7) ≠ 44)) => ?_)
                          · skip
                            refine T_ld 171 (.int (i32 0)) rfl (fun _ => rfl) ?_
                            refine T_sto 172 [(2, .int (i32 0)), (4, .int (i32 oo)), (3, .int (i32 (m27.1 8))), (0, .ref 189), (1, .int (i32 t))] rfl (fun _ => rfl) ?_
                            refine T_ld 173 (.int (i32 0)) rfl (fun _ => rfl) ?_
                            refine T_if 180 176 rfl rfl rfl ⟨by decide, by decide⟩ (fun _ => ?_) (fun h91 => absurd (show (0 : Int) = 0 by decide) h91)
                            refine T_goto 30 rfl (fun _ => rfl) ?_
                            refine Tm_lv (a := [(0, .ref 189), (1, .int (i32 t)), (2, .int (i32 0))]) rfl rfl ⟨rfl, rfl, rfl, trivial⟩ ?_
                            exact ih37 0 (mO m64 [] [(53, upI (m27.2 53) t (((m27.2 53) t) + 1)), (114, upI (m27.2 114) ((8 * t) + ((m27.2 53) t)) oo), (116, upI (m27.2 116) oo 1)]) ⟨by decide, by decide⟩ (Ty_mO Tm64 rfl rfl trivial ⟨G88, G86, G84, trivial⟩) (fr_m (fr_s Fm64 (fr_m (fr_s Fm27 (fr_m fr_0 rfl rfl) rfl rfl) rfl rfl) rfl rfl) rfl rfl) (show 0 ≤ (0 : Int) by omega) (show (0 : Int) ≤ 1 by omega) (show LxP (m64.1 7) (m64.1 8) (m64.1 9) (m.1 6) (m64.1 10) by first | exact hLx | exact (fun _ => hLx (by omega)) | (intro h9; exfalso; omega)) (show (0 : Int) = 0 ∨ (0 : Int) = 1 by omega) (fun _ => ⟨(show (m.1 8) + 1 ≤ (m64.1 8) by omega), (show agr (m.2 53) (upI (m27.2 53) t (((m27.2 53) t) + 1)) t by first | exact hK1 | exact agr_t hK1 (agr_u (Int.le_refl _)) (Int.le_refl _)), (show agr (m.2 114) (upI (m27.2 114) ((8 * t) + ((m27.2 53) t)) oo) (8 * t) by first | exact hK2 | exact agr_t hK2 (agr_u (by omega)) (Int.le_refl _)), (show ∀ k, 8 * t ≤ k → k < 8 * t + (upI (m27.2 53) t (((m27.2 53) t) + 1)) t → (upI (m27.2 114) ((8 * t) + ((m27.2 53) t)) oo) k < (m.1 25) by exact hLI)⟩) (show 1000000 * (8 - (m64.1 10)) + 2 * (4000 - (m64.1 8)) + (0 : Int) < (n36 : Int) by omega)
                          · skip
                            refine T_ld 167 (.int (i32 1)) rfl (fun _ => rfl) ?_
                            refine T_goto 171 rfl (fun _ => rfl) ?_
                            refine T_sto 172 [(2, .int (i32 1)), (4, .int (i32 oo)), (3, .int (i32 (m27.1 8))), (0, .ref 189), (1, .int (i32 t))] rfl (fun _ => rfl) ?_
                            refine T_ld 173 (.int (i32 1)) rfl (fun _ => rfl) ?_
                            refine T_if 180 176 rfl rfl rfl ⟨by decide, by decide⟩ (fun h92 => absurd (show (1 : Int) = 0 from h92) (by decide)) (fun _ => ?_)
                            refine T_ld 177 (.ref 189) rfl (fun _ => rfl) ?_
                            have h7 := hLx (by omega)
                            refine T_call 180 212 [.ref 189] [] rfl (fun _ => rfl) rfl (d_next w (mO m64 [] [(53, upI (m27.2 53) t (((m27.2 53) t) + 1)), (114, upI (m27.2 114) ((8 * t) + ((m27.2 53) t)) oo), (116, upI (m27.2 116) oo 1)]) c N D (by omega) (Ty_mO Tm64 rfl rfl trivial ⟨G88, G86, G84, trivial⟩) (show (m64.1 10) = 0 → (m64.1 8) + (m64.1 9) ≤ (m64.1 6) by rewrite [(show (m64.1 6) = (m.1 6) from ((fr1 Fm64 6 rfl).trans ((fr1 Fm27 6 rfl).trans ((fr1 Fm16 6 rfl).trans (fr1 Fm3 6 rfl)))))]; first | omega | (intro h9; have h8 := hLx h9; omega))) (fun rr93 k94 => ?_)
                            obtain ⟨m95, Tm95, Fm95, h96, h97, h98, h99, rfl⟩ := k94
                            refine ⟨_, _, rfl, ?_⟩
                            refine T_nb (st' := []) rfl ?_
                            have g100 : 0 ≤ m95.1 7 ∧ m95.1 7 ≤ 330 := Tm95.1 7
                            have g101 : 0 ≤ m95.1 8 ∧ m95.1 8 ≤ 4000 := Tm95.1 8
                            have g102 : 0 ≤ m95.1 9 ∧ m95.1 9 ≤ 4000 := Tm95.1 9
                            have g103 : 0 ≤ m95.1 10 ∧ m95.1 10 ≤ 8 := Tm95.1 10
                            have g104 : (-1) ≤ m95.1 11 ∧ m95.1 11 ≤ 4000 := Tm95.1 11
                            by_cases hf105 : (m95.1 10) = 0
                            · skip
                              replace h96 : LxP (m95.1 7) (m95.1 8) (m95.1 9) (m64.1 6) (m95.1 10) := h96
                              rewrite [(show (m64.1 6) = (m.1 6) from ((fr1 Fm64 6 rfl).trans ((fr1 Fm27 6 rfl).trans ((fr1 Fm16 6 rfl).trans (fr1 Fm3 6 rfl)))))] at h96
                              have hLx := h96
                              replace h97 : (m64.1 10) = 0 := h97 hf105
                              replace h98 : (m64.1 8) ≤ (m95.1 8) := h98
                              replace h99 : (m64.1 8) + (m64.1 9) ≤ (m95.1 8) := h99 hf105
                              have u106 : (m27.1 8) + 1 ≤ (m95.1 8) := by omega
                              have u107 : (m.1 8) + 1 ≤ (m95.1 8) := by omega
                              refine T_goto 30 rfl (fun _ => rfl) ?_
                              refine Tm_lv (a := [(0, .ref 189), (1, .int (i32 t)), (2, .int (i32 1))]) rfl rfl ⟨rfl, rfl, rfl, trivial⟩ ?_
                              exact ih37 1 (mO m95 [] []) ⟨by decide, by decide⟩ Tm95 (fr_m (fr_s Fm95 (fr_m (fr_s Fm64 (fr_m (fr_s Fm27 (fr_m fr_0 rfl rfl) rfl rfl) rfl rfl) rfl rfl) rfl rfl) rfl rfl) rfl rfl) (show 0 ≤ (1 : Int) by omega) (show (1 : Int) ≤ 1 by omega) (show LxP (m95.1 7) (m95.1 8) (m95.1 9) (m.1 6) (m95.1 10) by first | exact hLx | exact (fun _ => hLx (by omega)) | (intro h9; exfalso; omega)) (show (1 : Int) = 0 ∨ (1 : Int) = 1 by omega) (fun _ => ⟨(show (m.1 8) + 1 ≤ (m95.1 8) by omega), (show agr (m.2 53) (m95.2 53) t by rewrite [(show (m95.2 53) = (upI (m27.2 53) t (((m27.2 53) t) + 1)) from (fr2 Fm95 53 rfl))]; first | exact hK1 | exact agr_t hK1 (agr_u (Int.le_refl _)) (Int.le_refl _)), (show agr (m.2 114) (m95.2 114) (8 * t) by rewrite [(show (m95.2 114) = (upI (m27.2 114) ((8 * t) + ((m27.2 53) t)) oo) from (fr2 Fm95 114 rfl))]; first | exact hK2 | exact agr_t hK2 (agr_u (by omega)) (Int.le_refl _)), (show ∀ k, 8 * t ≤ k → k < 8 * t + (m95.2 53) t → (m95.2 114) k < (m.1 25) by rewrite [(show (m95.2 53) = (upI (m27.2 53) t (((m27.2 53) t) + 1)) from (fr2 Fm95 53 rfl)), (show (m95.2 114) = (upI (m27.2 114) ((8 * t) + ((m27.2 53) t)) oo) from (fr2 Fm95 114 rfl))]; exact hLI)⟩) (show 1000000 * (8 - (m95.1 10)) + 2 * (4000 - (m95.1 8)) + (1 : Int) < (n36 : Int) by omega)
                            · skip
                              replace h96 : LxP (m95.1 7) (m95.1 8) (m95.1 9) (m64.1 6) (m95.1 10) := h96
                              rewrite [(show (m64.1 6) = (m.1 6) from ((fr1 Fm64 6 rfl).trans ((fr1 Fm27 6 rfl).trans ((fr1 Fm16 6 rfl).trans (fr1 Fm3 6 rfl)))))] at h96
                              have hLx := h96
                              clear h97
                              replace h98 : (m64.1 8) ≤ (m95.1 8) := h98
                              clear h99
                              have hf108 : 1 ≤ (m95.1 10) := by omega
                              refine T_goto 30 rfl (fun _ => rfl) ?_
                              refine Tm_lv (a := [(0, .ref 189), (1, .int (i32 t)), (2, .int (i32 1))]) rfl rfl ⟨rfl, rfl, rfl, trivial⟩ ?_
                              exact ih37 1 (mO m95 [] []) ⟨by decide, by decide⟩ Tm95 (fr_m (fr_s Fm95 (fr_m (fr_s Fm64 (fr_m (fr_s Fm27 (fr_m fr_0 rfl rfl) rfl rfl) rfl rfl) rfl rfl) rfl rfl) rfl rfl) rfl rfl) (show 0 ≤ (1 : Int) by omega) (show (1 : Int) ≤ 1 by omega) (show LxP (m95.1 7) (m95.1 8) (m95.1 9) (m.1 6) (m95.1 10) by first | exact hLx | exact (fun _ => hLx (by omega)) | (intro h9; exfalso; omega)) (show (1 : Int) = 0 ∨ (1 : Int) = 1 by omega) (fun (h : (m95.1 10) = 0) => absurd h (by omega)) (show 1000000 * (8 - (m95.1 10)) + 2 * (4000 - (m95.1 8)) + (1 : Int) < (n36 : Int) by omega)
                        · skip
                          refine T_ld 100 (.ref 189) rfl (fun _ => rfl) ?_
                          refine T_ld 102 (.int (i32 8)) rfl (fun _ => rfl) ?_
                          refine T_ld 103 (.int (i32 (m27.1 8))) rfl (fun _ => rfl) ?_
                          refine T_call 106 222 [.ref 189, .int (i32 8), .int (i32 (m27.1 8))] [] rfl (fun _ => rfl) rfl (d_wrong w (mO m64 [] []) c N D (by omega) Tm64 8 (m27.1 8) ⟨by decide, by decide⟩ (r32 (by omega) (by omega)) (show 1 ≤ (8 : Int) ∧ (8 : Int) ≤ 8 by omega) (show 0 ≤ (m27.1 8) ∧ (m27.1 8) ≤ 4000 by omega)) (fun rr109 k110 => ?_)
                          obtain ⟨m111, Tm111, Fm111, h112, rfl⟩ := k110
                          refine ⟨_, _, rfl, ?_⟩
                          refine T_nb (st' := []) rfl ?_
                          have g113 : 0 ≤ m111.1 10 ∧ m111.1 10 ≤ 8 := Tm111.1 10
                          have g114 : (-1) ≤ m111.1 11 ∧ m111.1 11 ≤ 4000 := Tm111.1 11
                          replace h112 : (0 < (m64.1 10) → (m111.1 10) = (m64.1 10) ∧ (m111.1 11) = (m64.1 11)) ∧ ((m64.1 10) ≤ 0 → (m111.1 10) = (8 : Int) ∧ (m111.1 11) = (m27.1 8)) := h112
                          have hf115 : 1 ≤ (m111.1 10) := by omega
                          refine T_gf 110 (.int (i32 (m111.1 10))) rfl rfl rfl rfl rfl rfl ?_
                          refine T_if 114 113 rfl rfl rfl (r32 (by omega) (by omega)) (fun (h116 : (m111.1 10) ≤ 0) => by exfalso; omega) (fun (h116 : ¬ ((m111.1 10) ≤ 0)) => ?_)
                          refine T_ret rfl (fun _ => rfl) ?_
                          exact ⟨(mO m111 [] []), Tm111, (fr_m (fr_s Fm111 (fr_m (fr_s Fm64 (fr_m (fr_s Fm27 (fr_m (fr_s Fm16 (fr_m (fr_s Fm3 (fr_m fr_0 rfl rfl) rfl rfl) rfl rfl) rfl rfl) rfl rfl) rfl rfl) rfl rfl) rfl rfl) rfl rfl) rfl rfl) rfl rfl), (show (m111.1 10) = 0 → (m.1 10) = 0 by omega), (show LxP (m111.1 7) (m111.1 8) (m111.1 9) (m.1 6) (m111.1 10) by rewrite [(show (m111.1 7) = (m64.1 7) from (fr1 Fm111 7 rfl)), (show (m111.1 8) = (m64.1 8) from (fr1 Fm111 8 rfl)), (show (m111.1 9) = (m64.1 9) from (fr1 Fm111 9 rfl))]; first | (first | exact hLx | exact (fun _ => hLx (by omega)) | (intro h9; exfalso; omega)) | (exfalso; omega)), (fun (h : (m111.1 10) = 0) => absurd h (by omega)), rfl⟩
                      · skip
                        replace h66 : LxP (m64.1 7) (m64.1 8) (m64.1 9) (m27.1 6) (m64.1 10) := h66
                        rewrite [(show (m27.1 6) = (m.1 6) from ((fr1 Fm27 6 rfl).trans ((fr1 Fm16 6 rfl).trans (fr1 Fm3 6 rfl))))] at h66
                        have hLx := h66
                        replace h67 : (m27.1 8) ≤ (m64.1 8) := h67
                        clear h68
                        clear h69
                        replace h70 : 0 ≤ oo ∧ (oo < (m.1 25) ∨ oo = 0) := h70
                        clear h71
                        have hf117 : 1 ≤ (m64.1 10) := by omega
                        refine T_sto 82 [(4, .int (i32 oo)), (3, .int (i32 (m27.1 8))), (0, .ref 189), (1, .int (i32 t)), (2, .int (i32 v26))] rfl (fun _ => rfl) ?_
                        refine T_gf 86 (.int (i32 (m64.1 10))) rfl rfl rfl rfl rfl rfl ?_
                        refine T_if 106 89 rfl rfl rfl (r32 (by omega) (by omega)) (fun (h118 : (m64.1 10) ≠ 0) => ?_) (fun (h118 : ¬ ((m64.1 10) ≠ 0)) => by exfalso; omega)
                        refine T_gf 110 (.int (i32 (m64.1 10))) rfl rfl rfl rfl rfl rfl ?_
                        refine T_if 114 113 rfl rfl rfl (r32 (by omega) (by omega)) (fun (h119 : (m64.1 10) ≤ 0) => by exfalso; omega) (fun (h119 : ¬ ((m64.1 10) ≤ 0)) => ?_)
                        refine T_ret rfl (fun _ => rfl) ?_
                        exact ⟨(mO m64 [] []), Tm64, (fr_m (fr_s Fm64 (fr_m (fr_s Fm27 (fr_m (fr_s Fm16 (fr_m (fr_s Fm3 (fr_m fr_0 rfl rfl) rfl rfl) rfl rfl) rfl rfl) rfl rfl) rfl rfl) rfl rfl) rfl rfl) rfl rfl), (show (m64.1 10) = 0 → (m.1 10) = 0 by omega), (show LxP (m64.1 7) (m64.1 8) (m64.1 9) (m.1 6) (m64.1 10) by first | (first | exact hLx | exact (fun _ => hLx (by omega)) | (intro h9; exfalso; omega)) | (exfalso; omega)), (fun (h : (m64.1 10) = 0) => absurd h (by omega)), rfl⟩
                    · skip
                      refine T_gf 53 (.ref 223) rfl rfl rfl rfl rfl rfl ?_
                      refine T_ld 54 (.int (i32 t)) rfl (fun _ => rfl) ?_
                      refine T_iald 55 53 (m27.2 53) rfl rfl rfl (by omega) (show t < (8 : Int) by omega) rfl ?_
                      have e120 : 0 ≤ (m27.2 53) t ∧ (m27.2 53) t ≤ 8 := (Tm27.2.1 53) t
                      refine T_ld 57 (.int (i32 8)) rfl (fun _ => rfl) ?_
                      refine T_icmp 69 60 rfl rfl rfl (r32 (by omega) (by omega)) ⟨by decide, by decide⟩ (fun (h121 : (m27.2 53) t ≠ 8) => ?_) (fun (h121 : ¬ ((m27.2 53) t ≠ 8)) => ?_)
                      · skip
                        refine T_gf 73 (.int (i32 (m27.1 8))) rfl rfl rfl rfl rfl rfl ?_
                        refine T_sto 74 [(3, .int (i32 (m27.1 8))), (0, .ref 189), (1, .int (i32 t)), (2, .int (i32 v26))] rfl (fun _ => rfl) ?_
                        refine T_ld 75 (.ref 189) rfl (fun _ => rfl) ?_
                        refine T_ld 77 (.int (i32 6)) rfl (fun _ => rfl) ?_
                        have hOL : (m27.1 10) = 0 → ∀ k, 0 ≤ k → k < (m.1 13) → (m.2 16) k = 6 → 0 ≤ (m.2 17) k ∧ (m.2 17) k < (m.1 25) := fun _ k h1 h2 h3 => by
                          have h4 := PNl_6 pPN k h1 h2 h3
                          omega
                        refine T_call 80 236 [.ref 189, .int (i32 6)] [] rfl (fun _ => rfl) rfl (d_oldName w (mO m27 [] []) c N D (by omega) Tm27 6 (m.1 25) ⟨by decide, by decide⟩ (show LxP (m27.1 7) (m27.1 8) (m27.1 9) (m27.1 6) (m27.1 10) by rewrite [(show (m27.1 6) = (m.1 6) from ((fr1 Fm27 6 rfl).trans ((fr1 Fm16 6 rfl).trans (fr1 Fm3 6 rfl))))]; first | exact hLx | (intro h9; exfalso; omega) | (intro h9; have h8 := hLx (by omega); omega)) (show ∀ k, (m27.2 14) k + (m27.2 15) k ≤ 4000 by rewrite [(show (m27.2 14) = (m.2 14) from ((fr2 Fm27 14 rfl).trans ((fr2 Fm16 14 rfl).trans (fr2 Fm3 14 rfl)))), (show (m27.2 15) = (m.2 15) from ((fr2 Fm27 15 rfl).trans ((fr2 Fm16 15 rfl).trans (fr2 Fm3 15 rfl))))]; first | exact p1 | exact hNM) (show 1 ≤ (6 : Int) ∧ (6 : Int) ≤ 7 ∧ (6 : Int) ≠ 5 by omega) (show (m.1 25) ≤ 16 by omega) (show (m27.1 10) = 0 → ∀ k, 0 ≤ k → k < (m27.1 13) → (m27.2 16) k = (6 : Int) → 0 ≤ (m27.2 17) k ∧ (m27.2 17) k < (m.1 25) by rewrite [(show (m27.1 13) = (m.1 13) from ((fr1 Fm27 13 rfl).trans ((fr1 Fm16 13 rfl).trans (fr1 Fm3 13 rfl)))), (show (m27.2 16) = (m.2 16) from ((fr2 Fm27 16 rfl).trans ((fr2 Fm16 16 rfl).trans (fr2 Fm3 16 rfl)))), (show (m27.2 17) = (m.2 17) from ((fr2 Fm27 17 rfl).trans ((fr2 Fm16 17 rfl).trans (fr2 Fm3 17 rfl))))]; first | exact hOL | (intro h; exfalso; omega)) (show (6 : Int) = 3 → 3 ≤ (m.1 25) by omega)) (fun rr122 k123 => ?_)
                        obtain ⟨m124, oo, Tm124, Fm124, g125, h126, h127, h128, h129, h130, h131, rfl⟩ := k123
                        refine ⟨_, _, rfl, ?_⟩
                        refine T_nb (st' := [.int (i32 oo)]) rfl ?_
                        obtain ⟨g125a, g125b⟩ := g125
                        have g132 : 0 ≤ m124.1 7 ∧ m124.1 7 ≤ 330 := Tm124.1 7
                        have g133 : 0 ≤ m124.1 8 ∧ m124.1 8 ≤ 4000 := Tm124.1 8
                        have g134 : 0 ≤ m124.1 9 ∧ m124.1 9 ≤ 4000 := Tm124.1 9
                        have g135 : 0 ≤ m124.1 10 ∧ m124.1 10 ≤ 8 := Tm124.1 10
                        have g136 : (-1) ≤ m124.1 11 ∧ m124.1 11 ≤ 4000 := Tm124.1 11
                        by_cases hf137 : (m124.1 10) = 0
                        · skip
                          replace h126 : LxP (m124.1 7) (m124.1 8) (m124.1 9) (m27.1 6) (m124.1 10) := h126
                          rewrite [(show (m27.1 6) = (m.1 6) from ((fr1 Fm27 6 rfl).trans ((fr1 Fm16 6 rfl).trans (fr1 Fm3 6 rfl))))] at h126
                          have hLx := h126
                          replace h127 : (m27.1 8) ≤ (m124.1 8) := h127
                          replace h128 : (m27.1 10) = 0 ∧ (m27.1 8) + (m27.1 9) ≤ (m124.1 8) := h128 hf137
                          replace h129 : (m27.1 7) = 1 := h129 hf137
                          replace h130 : 0 ≤ oo ∧ (oo < (m.1 25) ∨ oo = 0) := h130
                          replace h131 : oo < (m.1 25) := h131 hf137
                          have u138 : (m27.1 8) + 1 ≤ (m124.1 8) := by omega
                          have u139 : (m.1 8) + 1 ≤ (m124.1 8) := by omega
                          refine T_sto 82 [(4, .int (i32 oo)), (3, .int (i32 (m27.1 8))), (0, .ref 189), (1, .int (i32 t)), (2, .int (i32 v26))] rfl (fun _ => rfl) ?_
                          refine T_gf 86 (.int (i32 (m124.1 10))) rfl rfl rfl rfl rfl rfl ?_
                          refine T_if 106 89 rfl rfl rfl (r32 (by omega) (by omega)) (fun (h140 : (m124.1 10) ≠ 0) => by exfalso; omega) (fun (h140 : ¬ ((m124.1 10) ≠ 0)) => ?_)
                          refine T_gf 93 (.ref 276) rfl rfl rfl rfl rfl rfl ?_
                          refine T_ld 95 (.int (i32 oo)) rfl (fun _ => rfl) ?_
                          refine T_bald 96 116 (m27.2 116) rfl rfl rfl (by omega) (show oo < (16 : Int) by omega) (show (m124.2 116) = (m27.2 116) from (fr2 Fm124 116 rfl)) ?_
                          have e141 : 0 ≤ (m27.2 116) oo ∧ (m27.2 116) oo ≤ 1 := (Tm27.2.1 116) oo
                          refine T_if 106 99 rfl rfl rfl (r32 (by omega) (by omega)) (fun (h142 : (m27.2 116) oo = 0) => ?_) (fun (h142 : ¬ ((m27.2 116) oo = 0)) => ?_)
                          · skip
                            refine T_gf 110 (.int (i32 (m124.1 10))) rfl rfl rfl rfl rfl rfl ?_
                            refine T_if 114 113 rfl rfl rfl (r32 (by omega) (by omega)) (fun (h143 : (m124.1 10) ≤ 0) => ?_) (fun (h143 : ¬ ((m124.1 10) ≤ 0)) => by exfalso; omega)
                            refine T_gf 118 (.ref 276) rfl rfl rfl rfl rfl rfl ?_
                            refine T_ld 120 (.int (i32 oo)) rfl (fun _ => rfl) ?_
                            refine T_ld 121 (.int (i32 1)) rfl (fun _ => rfl) ?_
                            have G144 : ∀ j, 0 ≤ (upI (m27.2 116) oo 1) j ∧ (upI (m27.2 116) oo 1) j ≤ 1 := upI_rg (Tm27.2.1 116) ⟨by omega, by omega⟩
                            refine T_bast (a' := [(116, upI (m27.2 116) oo 1)]) 122 116 (m27.2 116) rfl rfl rfl (by omega) (show oo < (16 : Int) by omega) (by omega) (show (m124.2 116) = (m27.2 116) from (fr2 Fm124 116 rfl)) rfl ?_
                            refine T_gf 126 (.ref 274) rfl rfl rfl rfl rfl rfl ?_
                            refine T_ld 128 (.int (i32 8)) rfl (fun _ => rfl) ?_
                            refine T_ld 129 (.int (i32 t)) rfl (fun _ => rfl) ?_
                            refine T_imul 130 rfl rfl ?_
                            refine T_gf 134 (.ref 223) rfl rfl rfl rfl rfl rfl ?_
                            refine T_ld 135 (.int (i32 t)) rfl (fun _ => rfl) ?_
                            refine T_iald 136 53 (m27.2 53) rfl rfl rfl (by omega) (show t < (8 : Int) by omega) (show (m124.2 53) = (m27.2 53) from (fr2 Fm124 53 rfl)) ?_
                            have e145 : 0 ≤ (m27.2 53) t ∧ (m27.2 53) t ≤ 8 := (Tm27.2.1 53) t
                            refine T_iadd 137 rfl rfl ?_
                            refine T_ld 139 (.int (i32 oo)) rfl (fun _ => rfl) ?_
                            have G146 : ∀ j, 0 ≤ (upI (m27.2 114) ((8 * t) + ((m27.2 53) t)) oo) j ∧ (upI (m27.2 114) ((8 * t) + ((m27.2 53) t)) oo) j ≤ 15 := upI_rg (Tm27.2.1 114) ⟨by omega, by omega⟩
                            refine T_iast (a' := [(114, upI (m27.2 114) ((8 * t) + ((m27.2 53) t)) oo), (116, upI (m27.2 116) oo 1)]) 140 114 (m27.2 114) rfl rfl rfl (by omega) (show ((8 * t) + ((m27.2 53) t)) < (64 : Int) by omega) (show (m124.2 114) = (m27.2 114) from (fr2 Fm124 114 rfl)) rfl ?_
                            refine T_gf 144 (.ref 223) rfl rfl rfl rfl rfl rfl ?_
                            refine T_ld 145 (.int (i32 t)) rfl (fun _ => rfl) ?_
                            refine T_dup2 146 rfl (fun _ => rfl) ?_
                            refine T_iald 147 53 (m27.2 53) rfl rfl rfl (by omega) (show t < (8 : Int) by omega) (show (m124.2 53) = (m27.2 53) from (fr2 Fm124 53 rfl)) ?_
                            have e147 : 0 ≤ (m27.2 53) t ∧ (m27.2 53) t ≤ 8 := (Tm27.2.1 53) t
                            refine T_ld 148 (.int (i32 1)) rfl (fun _ => rfl) ?_
                            refine T_iadd 149 rfl rfl ?_
                            have G148 : ∀ j, 0 ≤ (upI (m27.2 53) t (((m27.2 53) t) + 1)) j ∧ (upI (m27.2 53) t (((m27.2 53) t) + 1)) j ≤ 8 := upI_rg (Tm27.2.1 53) ⟨by omega, by omega⟩
                            refine T_iast (a' := [(53, upI (m27.2 53) t (((m27.2 53) t) + 1)), (114, upI (m27.2 114) ((8 * t) + ((m27.2 53) t)) oo), (116, upI (m27.2 116) oo 1)]) 150 53 (m27.2 53) rfl rfl rfl (by omega) (show t < (8 : Int) by omega) (show (m124.2 53) = (m27.2 53) from (fr2 Fm124 53 rfl)) rfl ?_
                            have hLI : ∀ k, 8 * t ≤ k → k < 8 * t + (upI (m27.2 53) t (((m27.2 53) t) + 1)) t → (upI (m27.2 114) ((8 * t) + ((m27.2 53) t)) oo) k < (m.1 25) := by
                              intro k k0 k1
                              rw [upI_s] at k1
                              unfold upI
                              split
                              · omega
                              · exact hLI k k0 (by omega)
                            refine T_gf 154 (.int (i32 (m124.1 10))) rfl rfl rfl rfl rfl rfl ?_
                            refine T_if 170 157 rfl rfl rfl (r32 (by omega) (by omega)) (fun (h149 : (m124.1 10) ≠ 0) => by exfalso; omega) (fun (h149 : ¬ ((m124.1 10) ≠ 0)) => ?_)
                            refine T_gf 161 (.int (i32 (m124.1 7))) rfl rfl rfl rfl rfl rfl ?_
                            refine T_ld 163 (.int (i32 44)) rfl (fun _ => rfl) ?_
                            refine T_icmp 170 166 rfl rfl rfl (r32 (by omega) (by omega)) ⟨by decide, by decide⟩ (fun (h150 : (m124.1 7) ≠ 44) => ?_) (fun (h150 : ¬ ((m124.1 7) ≠ 44)) => ?_)
                            · skip
                              refine T_ld 171 (.int (i32 0)) rfl (fun _ => rfl) ?_
                              refine T_sto 172 [(2, .int (i32 0)), (4, .int (i32 oo)), (3, .int (i32 (m27.1 8))), (0, .ref 189), (1, .int (i32 t))] rfl (fun _ => rfl) ?_
                              refine T_ld 173 (.int (i32 0)) rfl (fun _ => rfl) ?_
                              refine T_if 180 176 rfl rfl rfl ⟨by decide, by decide⟩ (fun _ => ?_) (fun h151 => absurd (show (0 : Int) = 0 by decide) h151)
                              refine T_goto 30 rfl (fun _ => rfl) ?_
                              refine Tm_lv (a := [(0, .ref 189), (1, .int (i32 t)), (2, .int (i32 0))]) rfl rfl ⟨rfl, rfl, rfl, trivial⟩ ?_
                              exact ih37 0 (mO m124 [] [(53, upI (m27.2 53) t (((m27.2 53) t) + 1)), (114, upI (m27.2 114) ((8 * t) + ((m27.2 53) t)) oo), (116, upI (m27.2 116) oo 1)]) ⟨by decide, by decide⟩ (Ty_mO Tm124 rfl rfl trivial ⟨G148, G146, G144, trivial⟩) (fr_m (fr_s Fm124 (fr_m (fr_s Fm27 (fr_m fr_0 rfl rfl) rfl rfl) rfl rfl) rfl rfl) rfl rfl) (show 0 ≤ (0 : Int) by omega) (show (0 : Int) ≤ 1 by omega) (show LxP (m124.1 7) (m124.1 8) (m124.1 9) (m.1 6) (m124.1 10) by first | exact hLx | exact (fun _ => hLx (by omega)) | (intro h9; exfalso; omega)) (show (0 : Int) = 0 ∨ (0 : Int) = 1 by omega) (fun _ => ⟨(show (m.1 8) + 1 ≤ (m124.1 8) by omega), (show agr (m.2 53) (upI (m27.2 53) t (((m27.2 53) t) + 1)) t by first | exact hK1 | exact agr_t hK1 (agr_u (Int.le_refl _)) (Int.le_refl _)), (show agr (m.2 114) (upI (m27.2 114) ((8 * t) + ((m27.2 53) t)) oo) (8 * t) by first | exact hK2 | exact agr_t hK2 (agr_u (by omega)) (Int.le_refl _)), (show ∀ k, 8 * t ≤ k → k < 8 * t + (upI (m27.2 53) t (((m27.2 53) t) + 1)) t → (upI (m27.2 114) ((8 * t) + ((m27.2 53) t)) oo) k < (m.1 25) by exact hLI)⟩) (show 1000000 * (8 - (m124.1 10)) + 2 * (4000 - (m124.1 8)) + (0 : Int) < (n36 : Int) by omega)
                            · skip
                              refine T_ld 167 (.int (i32 1)) rfl (fun _ => rfl) ?_
                              refine T_goto 171 rfl (fun _ => rfl) ?_
                              refine T_sto 172 [(2, .int (i32 1)), (4, .int (i32 oo)), (3, .int (i32 (m27.1 8))), (0, .ref 189), (1, .int (i32 t))] rfl (fun _ => rfl) ?_
                              refine T_ld 173 (.int (i32 1)) rfl (fun _ => rfl) ?_
                              refine T_if 180 176 rfl rfl rfl ⟨by decide, by decide⟩ (fun h152 => absurd (show (1 : Int) = 0 from h152) (by decide)) (fun _ => ?_)
                              refine T_ld 177 (.ref 189) rfl (fun _ => rfl) ?_
                              have h7 := hLx (by omega)
                              refine T_call 180 212 [.ref 189] [] rfl (fun _ => rfl) rfl (d_next w (mO m124 [] [(53, upI (m27.2 53) t (((m27.2 53) t) + 1)), (114, upI (m27.2 114) ((8 * t) + ((m27.2 53) t)) oo), (116, upI (m27.2 116) oo 1)]) c N D (by omega) (Ty_mO Tm124 rfl rfl trivial ⟨G148, G146, G144, trivial⟩) (show (m124.1 10) = 0 → (m124.1 8) + (m124.1 9) ≤ (m124.1 6) by rewrite [(show (m124.1 6) = (m.1 6) from ((fr1 Fm124 6 rfl).trans ((fr1 Fm27 6 rfl).trans ((fr1 Fm16 6 rfl).trans (fr1 Fm3 6 rfl)))))]; first | omega | (intro h9; have h8 := hLx h9; omega))) (fun rr153 k154 => ?_)
                              obtain ⟨m155, Tm155, Fm155, h156, h157, h158, h159, rfl⟩ := k154
                              refine ⟨_, _, rfl, ?_⟩
                              refine T_nb (st' := []) rfl ?_
                              have g160 : 0 ≤ m155.1 7 ∧ m155.1 7 ≤ 330 := Tm155.1 7
                              have g161 : 0 ≤ m155.1 8 ∧ m155.1 8 ≤ 4000 := Tm155.1 8
                              have g162 : 0 ≤ m155.1 9 ∧ m155.1 9 ≤ 4000 := Tm155.1 9
                              have g163 : 0 ≤ m155.1 10 ∧ m155.1 10 ≤ 8 := Tm155.1 10
                              have g164 : (-1) ≤ m155.1 11 ∧ m155.1 11 ≤ 4000 := Tm155.1 11
                              by_cases hf165 : (m155.1 10) = 0
                              · skip
                                replace h156 : LxP (m155.1 7) (m155.1 8) (m155.1 9) (m124.1 6) (m155.1 10) := h156
                                rewrite [(show (m124.1 6) = (m.1 6) from ((fr1 Fm124 6 rfl).trans ((fr1 Fm27 6 rfl).trans ((fr1 Fm16 6 rfl).trans (fr1 Fm3 6 rfl)))))] at h156
                                have hLx := h156
                                replace h157 : (m124.1 10) = 0 := h157 hf165
                                replace h158 : (m124.1 8) ≤ (m155.1 8) := h158
                                replace h159 : (m124.1 8) + (m124.1 9) ≤ (m155.1 8) := h159 hf165
                                have u166 : (m27.1 8) + 1 ≤ (m155.1 8) := by omega
                                have u167 : (m.1 8) + 1 ≤ (m155.1 8) := by omega
                                refine T_goto 30 rfl (fun _ => rfl) ?_
                                refine Tm_lv (a := [(0, .ref 189), (1, .int (i32 t)), (2, .int (i32 1))]) rfl rfl ⟨rfl, rfl, rfl, trivial⟩ ?_
                                exact ih37 1 (mO m155 [] []) ⟨by decide, by decide⟩ Tm155 (fr_m (fr_s Fm155 (fr_m (fr_s Fm124 (fr_m (fr_s Fm27 (fr_m fr_0 rfl rfl) rfl rfl) rfl rfl) rfl rfl) rfl rfl) rfl rfl) rfl rfl) (show 0 ≤ (1 : Int) by omega) (show (1 : Int) ≤ 1 by omega) (show LxP (m155.1 7) (m155.1 8) (m155.1 9) (m.1 6) (m155.1 10) by first | exact hLx | exact (fun _ => hLx (by omega)) | (intro h9; exfalso; omega)) (show (1 : Int) = 0 ∨ (1 : Int) = 1 by omega) (fun _ => ⟨(show (m.1 8) + 1 ≤ (m155.1 8) by omega), (show agr (m.2 53) (m155.2 53) t by rewrite [(show (m155.2 53) = (upI (m27.2 53) t (((m27.2 53) t) + 1)) from (fr2 Fm155 53 rfl))]; first | exact hK1 | exact agr_t hK1 (agr_u (Int.le_refl _)) (Int.le_refl _)), (show agr (m.2 114) (m155.2 114) (8 * t) by rewrite [(show (m155.2 114) = (upI (m27.2 114) ((8 * t) + ((m27.2 53) t)) oo) from (fr2 Fm155 114 rfl))]; first | exact hK2 | exact agr_t hK2 (agr_u (by omega)) (Int.le_refl _)), (show ∀ k, 8 * t ≤ k → k < 8 * t + (m155.2 53) t → (m155.2 114) k < (m.1 25) by rewrite [(show (m155.2 53) = (upI (m27.2 53) t (((m27.2 53) t) + 1)) from (fr2 Fm155 53 rfl)), (show (m155.2 114) = (upI (m27.2 114) ((8 * t) + ((m27.2 53) t)) oo) from (fr2 Fm155 114 rfl))]; exact hLI)⟩) (show 1000000 * (8 - (m155.1 10)) + 2 * (4000 - (m155.1 8)) + (1 : Int) < (n36 : Int) by omega)
                              · skip
                                replace h156 : LxP (m155.1 7) (m155.1 8) (m155.1 9) (m124.1 6) (m155.1 10) := h156
                                rewrite [(show (m124.1 6) = (m.1 6) from ((fr1 Fm124 6 rfl).trans ((fr1 Fm27 6 rfl).trans ((fr1 Fm16 6 rfl).trans (fr1 Fm3 6 rfl)))))] at h156
                                have hLx := h156
                                clear h157
                                replace h158 : (m124.1 8) ≤ (m155.1 8) := h158
                                clear h159
                                have hf168 : 1 ≤ (m155.1 10) := by omega
                                refine T_goto 30 rfl (fun _ => rfl) ?_
                                refine Tm_lv (a := [(0, .ref 189), (1, .int (i32 t)), (2, .int (i32 1))]) rfl rfl ⟨rfl, rfl, rfl, trivial⟩ ?_
                                exact ih37 1 (mO m155 [] []) ⟨by decide, by decide⟩ Tm155 (fr_m (fr_s Fm155 (fr_m (fr_s Fm124 (fr_m (fr_s Fm27 (fr_m fr_0 rfl rfl) rfl rfl) rfl rfl) rfl rfl) rfl rfl) rfl rfl) rfl rfl) (show 0 ≤ (1 : Int) by omega) (show (1 : Int) ≤ 1 by omega) (show LxP (m155.1 7) (m155.1 8) (m155.1 9) (m.1 6) (m155.1 10) by first | exact hLx | exact (fun _ => hLx (by omega)) | (intro h9; exfalso; omega)) (show (1 : Int) = 0 ∨ (1 : Int) = 1 by omega) (fun (h : (m155.1 10) = 0) => absurd h (by omega)) (show 1000000 * (8 - (m155.1 10)) + 2 * (4000 - (m155.1 8)) + (1 : Int) < (n36 : Int) by omega)
                          · skip
                            refine T_ld 100 (.ref 189) rfl (fun _ => rfl) ?_
                            refine T_ld 102 (.int (i32 8)) rfl (fun _ => rfl) ?_
                            refine T_ld 103 (.int (i32 (m27.1 8))) rfl (fun _ => rfl) ?_
                            refine T_call 106 222 [.ref 189, .int (i32 8), .int (i32 (m27.1 8))] [] rfl (fun _ => rfl) rfl (d_wrong w (mO m124 [] []) c N D (by omega) Tm124 8 (m27.1 8) ⟨by decide, by decide⟩ (r32 (by omega) (by omega)) (show 1 ≤ (8 : Int) ∧ (8 : Int) ≤ 8 by omega) (show 0 ≤ (m27.1 8) ∧ (m27.1 8) ≤ 4000 by omega)) (fun rr169 k170 => ?_)
                            obtain ⟨m171, Tm171, Fm171, h172, rfl⟩ := k170
                            refine ⟨_, _, rfl, ?_⟩
                            refine T_nb (st' := []) rfl ?_
                            have g173 : 0 ≤ m171.1 10 ∧ m171.1 10 ≤ 8 := Tm171.1 10
                            have g174 : (-1) ≤ m171.1 11 ∧ m171.1 11 ≤ 4000 := Tm171.1 11
                            replace h172 : (0 < (m124.1 10) → (m171.1 10) = (m124.1 10) ∧ (m171.1 11) = (m124.1 11)) ∧ ((m124.1 10) ≤ 0 → (m171.1 10) = (8 : Int) ∧ (m171.1 11) = (m27.1 8)) := h172
                            have hf175 : 1 ≤ (m171.1 10) := by omega
                            refine T_gf 110 (.int (i32 (m171.1 10))) rfl rfl rfl rfl rfl rfl ?_
                            refine T_if 114 113 rfl rfl rfl (r32 (by omega) (by omega)) (fun (h176 : (m171.1 10) ≤ 0) => by exfalso; omega) (fun (h176 : ¬ ((m171.1 10) ≤ 0)) => ?_)
                            refine T_ret rfl (fun _ => rfl) ?_
                            exact ⟨(mO m171 [] []), Tm171, (fr_m (fr_s Fm171 (fr_m (fr_s Fm124 (fr_m (fr_s Fm27 (fr_m (fr_s Fm16 (fr_m (fr_s Fm3 (fr_m fr_0 rfl rfl) rfl rfl) rfl rfl) rfl rfl) rfl rfl) rfl rfl) rfl rfl) rfl rfl) rfl rfl) rfl rfl) rfl rfl), (show (m171.1 10) = 0 → (m.1 10) = 0 by omega), (show LxP (m171.1 7) (m171.1 8) (m171.1 9) (m.1 6) (m171.1 10) by rewrite [(show (m171.1 7) = (m124.1 7) from (fr1 Fm171 7 rfl)), (show (m171.1 8) = (m124.1 8) from (fr1 Fm171 8 rfl)), (show (m171.1 9) = (m124.1 9) from (fr1 Fm171 9 rfl))]; first | (first | exact hLx | exact (fun _ => hLx (by omega)) | (intro h9; exfalso; omega)) | (exfalso; omega)), (fun (h : (m171.1 10) = 0) => absurd h (by omega)), rfl⟩
                        · skip
                          replace h126 : LxP (m124.1 7) (m124.1 8) (m124.1 9) (m27.1 6) (m124.1 10) := h126
                          rewrite [(show (m27.1 6) = (m.1 6) from ((fr1 Fm27 6 rfl).trans ((fr1 Fm16 6 rfl).trans (fr1 Fm3 6 rfl))))] at h126
                          have hLx := h126
                          replace h127 : (m27.1 8) ≤ (m124.1 8) := h127
                          clear h128
                          clear h129
                          replace h130 : 0 ≤ oo ∧ (oo < (m.1 25) ∨ oo = 0) := h130
                          clear h131
                          have hf177 : 1 ≤ (m124.1 10) := by omega
                          refine T_sto 82 [(4, .int (i32 oo)), (3, .int (i32 (m27.1 8))), (0, .ref 189), (1, .int (i32 t)), (2, .int (i32 v26))] rfl (fun _ => rfl) ?_
                          refine T_gf 86 (.int (i32 (m124.1 10))) rfl rfl rfl rfl rfl rfl ?_
                          refine T_if 106 89 rfl rfl rfl (r32 (by omega) (by omega)) (fun (h178 : (m124.1 10) ≠ 0) => ?_) (fun (h178 : ¬ ((m124.1 10) ≠ 0)) => by exfalso; omega)
                          refine T_gf 110 (.int (i32 (m124.1 10))) rfl rfl rfl rfl rfl rfl ?_
                          refine T_if 114 113 rfl rfl rfl (r32 (by omega) (by omega)) (fun (h179 : (m124.1 10) ≤ 0) => by exfalso; omega) (fun (h179 : ¬ ((m124.1 10) ≤ 0)) => ?_)
                          refine T_ret rfl (fun _ => rfl) ?_
                          exact ⟨(mO m124 [] []), Tm124, (fr_m (fr_s Fm124 (fr_m (fr_s Fm27 (fr_m (fr_s Fm16 (fr_m (fr_s Fm3 (fr_m fr_0 rfl rfl) rfl rfl) rfl rfl) rfl rfl) rfl rfl) rfl rfl) rfl rfl) rfl rfl) rfl rfl), (show (m124.1 10) = 0 → (m.1 10) = 0 by omega), (show LxP (m124.1 7) (m124.1 8) (m124.1 9) (m.1 6) (m124.1 10) by first | (first | exact hLx | exact (fun _ => hLx (by omega)) | (intro h9; exfalso; omega)) | (exfalso; omega)), (fun (h : (m124.1 10) = 0) => absurd h (by omega)), rfl⟩
                      · skip
                        refine T_ld 61 (.ref 189) rfl (fun _ => rfl) ?_
                        refine T_ld 62 (.int (i32 4)) rfl (fun _ => rfl) ?_
                        refine T_gf 66 (.int (i32 (m27.1 8))) rfl rfl rfl rfl rfl rfl ?_
                        refine T_call 69 222 [.ref 189, .int (i32 4), .int (i32 (m27.1 8))] [] rfl (fun _ => rfl) rfl (d_wrong w (mO m27 [] []) c N D (by omega) Tm27 4 (m27.1 8) ⟨by decide, by decide⟩ (r32 (by omega) (by omega)) (show 1 ≤ (4 : Int) ∧ (4 : Int) ≤ 8 by omega) (show 0 ≤ (m27.1 8) ∧ (m27.1 8) ≤ 4000 by omega)) (fun rr180 k181 => ?_)
                        obtain ⟨m182, Tm182, Fm182, h183, rfl⟩ := k181
                        refine ⟨_, _, rfl, ?_⟩
                        refine T_nb (st' := []) rfl ?_
                        have g184 : 0 ≤ m182.1 10 ∧ m182.1 10 ≤ 8 := Tm182.1 10
                        have g185 : (-1) ≤ m182.1 11 ∧ m182.1 11 ≤ 4000 := Tm182.1 11
                        replace h183 : (0 < (m27.1 10) → (m182.1 10) = (m27.1 10) ∧ (m182.1 11) = (m27.1 11)) ∧ ((m27.1 10) ≤ 0 → (m182.1 10) = (4 : Int) ∧ (m182.1 11) = (m27.1 8)) := h183
                        have hf186 : 1 ≤ (m182.1 10) := by omega
                        refine T_gf 73 (.int (i32 (m27.1 8))) rfl rfl rfl rfl (mfv_c (F := fun x => .int (i32 x)) rfl (show (m182.1 8) = (m27.1 8) from (fr1 Fm182 8 rfl))) rfl ?_
                        refine T_sto 74 [(3, .int (i32 (m27.1 8))), (0, .ref 189), (1, .int (i32 t)), (2, .int (i32 v26))] rfl (fun _ => rfl) ?_
                        refine T_ld 75 (.ref 189) rfl (fun _ => rfl) ?_
                        refine T_ld 77 (.int (i32 6)) rfl (fun _ => rfl) ?_
                        refine T_call 80 236 [.ref 189, .int (i32 6)] [] rfl (fun _ => rfl) rfl (d_oldName w (mO m182 [] []) c N D (by omega) Tm182 6 (m.1 25) ⟨by decide, by decide⟩ (show LxP (m182.1 7) (m182.1 8) (m182.1 9) (m182.1 6) (m182.1 10) by rewrite [(show (m182.1 7) = (m27.1 7) from (fr1 Fm182 7 rfl)), (show (m182.1 8) = (m27.1 8) from (fr1 Fm182 8 rfl)), (show (m182.1 9) = (m27.1 9) from (fr1 Fm182 9 rfl)), (show (m182.1 6) = (m.1 6) from ((fr1 Fm182 6 rfl).trans ((fr1 Fm27 6 rfl).trans ((fr1 Fm16 6 rfl).trans (fr1 Fm3 6 rfl)))))]; first | exact hLx | (intro h9; exfalso; omega) | (intro h9; have h8 := hLx (by omega); omega)) (show ∀ k, (m182.2 14) k + (m182.2 15) k ≤ 4000 by rewrite [(show (m182.2 14) = (m.2 14) from ((fr2 Fm182 14 rfl).trans ((fr2 Fm27 14 rfl).trans ((fr2 Fm16 14 rfl).trans (fr2 Fm3 14 rfl))))), (show (m182.2 15) = (m.2 15) from ((fr2 Fm182 15 rfl).trans ((fr2 Fm27 15 rfl).trans ((fr2 Fm16 15 rfl).trans (fr2 Fm3 15 rfl)))))]; first | exact p1 | exact hNM) (show 1 ≤ (6 : Int) ∧ (6 : Int) ≤ 7 ∧ (6 : Int) ≠ 5 by omega) (show (m.1 25) ≤ 16 by omega) (show (m182.1 10) = 0 → ∀ k, 0 ≤ k → k < (m182.1 13) → (m182.2 16) k = (6 : Int) → 0 ≤ (m182.2 17) k ∧ (m182.2 17) k < (m.1 25) by rewrite [(show (m182.1 13) = (m.1 13) from ((fr1 Fm182 13 rfl).trans ((fr1 Fm27 13 rfl).trans ((fr1 Fm16 13 rfl).trans (fr1 Fm3 13 rfl))))), (show (m182.2 16) = (m.2 16) from ((fr2 Fm182 16 rfl).trans ((fr2 Fm27 16 rfl).trans ((fr2 Fm16 16 rfl).trans (fr2 Fm3 16 rfl))))), (show (m182.2 17) = (m.2 17) from ((fr2 Fm182 17 rfl).trans ((fr2 Fm27 17 rfl).trans ((fr2 Fm16 17 rfl).trans (fr2 Fm3 17 rfl)))))]; first | exact hOL | (intro h; exfalso; omega)) (show (6 : Int) = 3 → 3 ≤ (m.1 25) by omega)) (fun rr187 k188 => ?_)
                        obtain ⟨m189, oo, Tm189, Fm189, g190, h191, h192, h193, h194, h195, h196, rfl⟩ := k188
                        refine ⟨_, _, rfl, ?_⟩
                        refine T_nb (st' := [.int (i32 oo)]) rfl ?_
                        obtain ⟨g190a, g190b⟩ := g190
                        have g197 : 0 ≤ m189.1 7 ∧ m189.1 7 ≤ 330 := Tm189.1 7
                        have g198 : 0 ≤ m189.1 8 ∧ m189.1 8 ≤ 4000 := Tm189.1 8
                        have g199 : 0 ≤ m189.1 9 ∧ m189.1 9 ≤ 4000 := Tm189.1 9
                        have g200 : 0 ≤ m189.1 10 ∧ m189.1 10 ≤ 8 := Tm189.1 10
                        have g201 : (-1) ≤ m189.1 11 ∧ m189.1 11 ≤ 4000 := Tm189.1 11
                        replace h191 : LxP (m189.1 7) (m189.1 8) (m189.1 9) (m182.1 6) (m189.1 10) := h191
                        rewrite [(show (m182.1 6) = (m.1 6) from ((fr1 Fm182 6 rfl).trans ((fr1 Fm27 6 rfl).trans ((fr1 Fm16 6 rfl).trans (fr1 Fm3 6 rfl)))))] at h191
                        replace h192 : (m182.1 8) ≤ (m189.1 8) := h192
                        rewrite [(show (m182.1 8) = (m27.1 8) from (fr1 Fm182 8 rfl))] at h192
                        replace h193 : (m189.1 10) = 0 → (m182.1 10) = 0 ∧ (m182.1 8) + (m182.1 9) ≤ (m189.1 8) := h193
                        rewrite [(show (m182.1 8) = (m27.1 8) from (fr1 Fm182 8 rfl)), (show (m182.1 9) = (m27.1 9) from (fr1 Fm182 9 rfl))] at h193
                        replace h194 : (m189.1 10) = 0 → (m182.1 7) = 1 := h194
                        rewrite [(show (m182.1 7) = (m27.1 7) from (fr1 Fm182 7 rfl))] at h194
                        replace h195 : 0 ≤ oo ∧ (oo < (m.1 25) ∨ oo = 0) := h195
                        replace h196 : (m189.1 10) = 0 → oo < (m.1 25) := h196
                        have hf202 : 1 ≤ (m189.1 10) := by omega
                        clear h193
                        clear h194
                        clear h196
                        have hLx := h191
                        refine T_sto 82 [(4, .int (i32 oo)), (3, .int (i32 (m27.1 8))), (0, .ref 189), (1, .int (i32 t)), (2, .int (i32 v26))] rfl (fun _ => rfl) ?_
                        refine T_gf 86 (.int (i32 (m189.1 10))) rfl rfl rfl rfl rfl rfl ?_
                        refine T_if 106 89 rfl rfl rfl (r32 (by omega) (by omega)) (fun (h203 : (m189.1 10) ≠ 0) => ?_) (fun (h203 : ¬ ((m189.1 10) ≠ 0)) => by exfalso; omega)
                        refine T_gf 110 (.int (i32 (m189.1 10))) rfl rfl rfl rfl rfl rfl ?_
                        refine T_if 114 113 rfl rfl rfl (r32 (by omega) (by omega)) (fun (h204 : (m189.1 10) ≤ 0) => by exfalso; omega) (fun (h204 : ¬ ((m189.1 10) ≤ 0)) => ?_)
                        refine T_ret rfl (fun _ => rfl) ?_
                        exact ⟨(mO m189 [] []), Tm189, (fr_m (fr_s Fm189 (fr_m (fr_s Fm182 (fr_m (fr_s Fm27 (fr_m (fr_s Fm16 (fr_m (fr_s Fm3 (fr_m fr_0 rfl rfl) rfl rfl) rfl rfl) rfl rfl) rfl rfl) rfl rfl) rfl rfl) rfl rfl) rfl rfl) rfl rfl) rfl rfl), (show (m189.1 10) = 0 → (m.1 10) = 0 by omega), (show LxP (m189.1 7) (m189.1 8) (m189.1 9) (m.1 6) (m189.1 10) by first | (first | exact hLx | exact (fun _ => hLx (by omega)) | (intro h9; exfalso; omega)) | (exfalso; omega)), (fun (h : (m189.1 10) = 0) => absurd h (by omega)), rfl⟩
                · skip
                  clear c35
                  have hf205 : 1 ≤ (m27.1 10) := by omega
                  refine T_ld 31 (.int (i32 v26)) rfl (fun _ => rfl) ?_
                  refine T_if 183 34 rfl rfl rfl (r32 (by omega) (by omega)) (fun (h206 : v26 = 0) => ?_) (fun (h206 : ¬ (v26 = 0)) => ?_)
                  · skip
                    refine T_ld 184 (.ref 189) rfl (fun _ => rfl) ?_
                    refine T_ld 186 (.int (i32 59)) rfl (fun _ => rfl) ?_
                    refine T_call 189 232 [.ref 189, .int (i32 59)] [] rfl (fun _ => rfl) rfl (d_need w (mO m27 [] []) c N D (by omega) Tm27 59 ⟨by decide, by decide⟩ (show 1 ≤ (59 : Int) by omega) (show LxP (m27.1 7) (m27.1 8) (m27.1 9) (m27.1 6) (m27.1 10) by rewrite [(show (m27.1 6) = (m.1 6) from ((fr1 Fm27 6 rfl).trans ((fr1 Fm16 6 rfl).trans (fr1 Fm3 6 rfl))))]; first | exact hLx | (intro h9; exfalso; omega) | (intro h9; have h8 := hLx (by omega); omega))) (fun rr207 k208 => ?_)
                    obtain ⟨m209, Tm209, Fm209, h210, h211, h212, h213, rfl⟩ := k208
                    refine ⟨_, _, rfl, ?_⟩
                    refine T_nb (st' := []) rfl ?_
                    have g214 : 0 ≤ m209.1 7 ∧ m209.1 7 ≤ 330 := Tm209.1 7
                    have g215 : 0 ≤ m209.1 8 ∧ m209.1 8 ≤ 4000 := Tm209.1 8
                    have g216 : 0 ≤ m209.1 9 ∧ m209.1 9 ≤ 4000 := Tm209.1 9
                    have g217 : 0 ≤ m209.1 10 ∧ m209.1 10 ≤ 8 := Tm209.1 10
                    have g218 : (-1) ≤ m209.1 11 ∧ m209.1 11 ≤ 4000 := Tm209.1 11
                    replace h210 : LxP (m209.1 7) (m209.1 8) (m209.1 9) (m27.1 6) (m209.1 10) := h210
                    rewrite [(show (m27.1 6) = (m.1 6) from ((fr1 Fm27 6 rfl).trans ((fr1 Fm16 6 rfl).trans (fr1 Fm3 6 rfl))))] at h210
                    replace h211 : (m209.1 10) = 0 → (m27.1 10) = 0 ∧ (m27.1 7) = (59 : Int) := h211
                    replace h212 : (m27.1 8) ≤ (m209.1 8) := h212
                    replace h213 : (m209.1 10) = 0 → (m27.1 8) + (m27.1 9) ≤ (m209.1 8) := h213
                    have hf219 : 1 ≤ (m209.1 10) := by omega
                    clear h211
                    clear h213
                    have hLx := h210
                    refine T_ret rfl (fun _ => rfl) ?_
                    exact ⟨(mO m209 [] []), Tm209, (fr_m (fr_s Fm209 (fr_m (fr_s Fm27 (fr_m (fr_s Fm16 (fr_m (fr_s Fm3 (fr_m fr_0 rfl rfl) rfl rfl) rfl rfl) rfl rfl) rfl rfl) rfl rfl) rfl rfl) rfl rfl) rfl rfl), (show (m209.1 10) = 0 → (m.1 10) = 0 by omega), (show LxP (m209.1 7) (m209.1 8) (m209.1 9) (m.1 6) (m209.1 10) by first | (first | exact hLx | exact (fun _ => hLx (by omega)) | (intro h9; exfalso; omega)) | (exfalso; omega)), (fun (h : (m209.1 10) = 0) => absurd h (by omega)), rfl⟩
                  · skip
                    refine T_gf 38 (.int (i32 (m27.1 10))) rfl rfl rfl rfl rfl rfl ?_
                    refine T_if 183 41 rfl rfl rfl (r32 (by omega) (by omega)) (fun (h220 : (m27.1 10) ≠ 0) => ?_) (fun (h220 : ¬ ((m27.1 10) ≠ 0)) => by exfalso; omega)
                    refine T_ld 184 (.ref 189) rfl (fun _ => rfl) ?_
                    refine T_ld 186 (.int (i32 59)) rfl (fun _ => rfl) ?_
                    refine T_call 189 232 [.ref 189, .int (i32 59)] [] rfl (fun _ => rfl) rfl (d_need w (mO m27 [] []) c N D (by omega) Tm27 59 ⟨by decide, by decide⟩ (show 1 ≤ (59 : Int) by omega) (show LxP (m27.1 7) (m27.1 8) (m27.1 9) (m27.1 6) (m27.1 10) by rewrite [(show (m27.1 6) = (m.1 6) from ((fr1 Fm27 6 rfl).trans ((fr1 Fm16 6 rfl).trans (fr1 Fm3 6 rfl))))]; first | exact hLx | (intro h9; exfalso; omega) | (intro h9; have h8 := hLx (by omega); omega))) (fun rr221 k222 => ?_)
                    obtain ⟨m223, Tm223, Fm223, h224, h225, h226, h227, rfl⟩ := k222
                    refine ⟨_, _, rfl, ?_⟩
                    refine T_nb (st' := []) rfl ?_
                    have g228 : 0 ≤ m223.1 7 ∧ m223.1 7 ≤ 330 := Tm223.1 7
                    have g229 : 0 ≤ m223.1 8 ∧ m223.1 8 ≤ 4000 := Tm223.1 8
                    have g230 : 0 ≤ m223.1 9 ∧ m223.1 9 ≤ 4000 := Tm223.1 9
                    have g231 : 0 ≤ m223.1 10 ∧ m223.1 10 ≤ 8 := Tm223.1 10
                    have g232 : (-1) ≤ m223.1 11 ∧ m223.1 11 ≤ 4000 := Tm223.1 11
                    replace h224 : LxP (m223.1 7) (m223.1 8) (m223.1 9) (m27.1 6) (m223.1 10) := h224
                    rewrite [(show (m27.1 6) = (m.1 6) from ((fr1 Fm27 6 rfl).trans ((fr1 Fm16 6 rfl).trans (fr1 Fm3 6 rfl))))] at h224
                    replace h225 : (m223.1 10) = 0 → (m27.1 10) = 0 ∧ (m27.1 7) = (59 : Int) := h225
                    replace h226 : (m27.1 8) ≤ (m223.1 8) := h226
                    replace h227 : (m223.1 10) = 0 → (m27.1 8) + (m27.1 9) ≤ (m223.1 8) := h227
                    have hf233 : 1 ≤ (m223.1 10) := by omega
                    clear h225
                    clear h227
                    have hLx := h224
                    refine T_ret rfl (fun _ => rfl) ?_
                    exact ⟨(mO m223 [] []), Tm223, (fr_m (fr_s Fm223 (fr_m (fr_s Fm27 (fr_m (fr_s Fm16 (fr_m (fr_s Fm3 (fr_m fr_0 rfl rfl) rfl rfl) rfl rfl) rfl rfl) rfl rfl) rfl rfl) rfl rfl) rfl rfl) rfl rfl), (show (m223.1 10) = 0 → (m.1 10) = 0 by omega), (show LxP (m223.1 7) (m223.1 8) (m223.1 9) (m.1 6) (m223.1 10) by first | (first | exact hLx | exact (fun _ => hLx (by omega)) | (intro h9; exfalso; omega)) | (exfalso; omega)), (fun (h : (m223.1 10) = 0) => absurd h (by omega)), rfl⟩
            refine Tm_lv (a := [(0, .ref 189), (1, .int (i32 t)), (2, .int (i32 1))]) rfl rfl ⟨rfl, rfl, rfl, trivial⟩ ?_
            exact L30_28 ((1000000 * (8 - (m3.1 10)) + 2 * (4000 - (m3.1 8)) + (1 : Int) : Int) + 1).toNat 1 (mO m16 [] []) ⟨by decide, by decide⟩ Tm16 (fr_m fr_0 rfl rfl) (show 0 ≤ (1 : Int) by omega) (show (1 : Int) ≤ 1 by omega) (show LxP (m16.1 7) (m16.1 8) (m16.1 9) (m.1 6) (m16.1 10) by rewrite [(show (m16.1 7) = (m3.1 7) from (fr1 Fm16 7 rfl)), (show (m16.1 8) = (m3.1 8) from (fr1 Fm16 8 rfl)), (show (m16.1 9) = (m3.1 9) from (fr1 Fm16 9 rfl)), (show (m16.1 10) = (m3.1 10) from (fr1 Fm16 10 rfl))]; first | exact hLx | exact (fun _ => hLx (by omega)) | (intro h9; exfalso; omega)) (show (1 : Int) = 0 ∨ (1 : Int) = 1 by omega) (fun _ => ⟨(show (m.1 8) + 1 ≤ (m16.1 8) by rewrite [(show (m16.1 8) = (m3.1 8) from (fr1 Fm16 8 rfl))]; omega), (show agr (m.2 53) (m16.2 53) t by rewrite [(show (m16.2 53) = (m.2 53) from ((fr2 Fm16 53 rfl).trans (fr2 Fm3 53 rfl)))]; first | exact hK1 | exact agr_t hK1 (agr_u (Int.le_refl _)) (Int.le_refl _)), (show agr (m.2 114) (m16.2 114) (8 * t) by rewrite [(show (m16.2 114) = (m.2 114) from ((fr2 Fm16 114 rfl).trans (fr2 Fm3 114 rfl)))]; first | exact hK2 | exact agr_t hK2 (agr_u (by omega)) (Int.le_refl _)), (show ∀ k, 8 * t ≤ k → k < 8 * t + (m16.2 53) t → (m16.2 114) k < (m.1 25) by rewrite [(show (m16.2 53) = (m.2 53) from ((fr2 Fm16 53 rfl).trans (fr2 Fm3 53 rfl))), (show (m16.2 114) = (m.2 114) from ((fr2 Fm16 114 rfl).trans (fr2 Fm3 114 rfl)))]; exact hLI)⟩) (show 1000000 * (8 - (m16.1 10)) + 2 * (4000 - (m16.1 8)) + (1 : Int) < ((((1000000 * (8 - (m3.1 10)) + 2 * (4000 - (m3.1 8)) + (1 : Int) : Int) + 1).toNat : Nat) : Int) by rewrite [(show (m16.1 10) = (m3.1 10) from (fr1 Fm16 10 rfl)), (show (m16.1 8) = (m3.1 8) from (fr1 Fm16 8 rfl))]; omega)
          · skip
            refine T_gf 19 (.ref 276) rfl rfl rfl rfl rfl rfl ?_
            refine T_ld 20 (.int (i32 v15)) rfl (fun _ => rfl) ?_
            refine T_ld 21 (.int (i32 0)) rfl (fun _ => rfl) ?_
            have G234 : ∀ j, 0 ≤ (upI (m16.2 116) v15 0) j ∧ (upI (m16.2 116) v15 0) j ≤ 1 := upI_rg (Tm16.2.1 116) ⟨by omega, by omega⟩
            refine T_bast (a' := [(116, upI (m16.2 116) v15 0)]) 22 116 (m16.2 116) rfl rfl rfl (by omega) (show v15 < (16 : Int) by omega) (by omega) rfl rfl ?_
            refine T_iinc 25 [(2, .int (i32 (v15 + 1))), (0, .ref 189), (1, .int (i32 t))] rfl rfl (by decide) rfl rfl ?_
            refine T_goto 9 rfl (fun _ => rfl) ?_
            refine Tm_lv (a := [(0, .ref 189), (1, .int (i32 t)), (2, .int (i32 (v15 + 1)))]) rfl rfl ⟨rfl, rfl, rfl, trivial⟩ ?_
            exact ih24 (v15 + 1) (mO m16 [] [(116, upI (m16.2 116) v15 0)]) (r32 (by omega) (by omega)) (Ty_mO Tm16 rfl rfl trivial ⟨G234, trivial⟩) (fr_m (fr_s Fm16 (fr_m fr_0 rfl rfl) rfl rfl) rfl rfl) (show 0 ≤ (v15 + 1) by omega) (show (v15 + 1) ≤ 16 by omega) (show 16 - (v15 + 1) < (n23 : Int) by omega)
      refine Tm_lv (a := [(0, .ref 189), (1, .int (i32 t)), (2, .int (i32 0))]) rfl rfl ⟨rfl, rfl, rfl, trivial⟩ ?_
      exact L9_17 ((16 - (0 : Int) : Int) + 1).toNat 0 (mO m3 [] []) ⟨by decide, by decide⟩ Tm3 (fr_m fr_0 rfl rfl) (show 0 ≤ (0 : Int) by omega) (show (0 : Int) ≤ 16 by omega) (show 16 - (0 : Int) < ((((16 - (0 : Int) : Int) + 1).toNat : Nat) : Int) by omega)
    · skip
      replace h4 : LxP (m3.1 7) (m3.1 8) (m3.1 9) (m.1 6) (m3.1 10) := h4
      have hLx := h4
      clear h5
      replace h6 : (m.1 8) ≤ (m3.1 8) := h6
      clear h7
      have hf235 : 1 ≤ (m3.1 10) := by omega
      refine T_ld 8 (.int (i32 0)) rfl (fun _ => rfl) ?_
      refine T_sto 9 [(2, .int (i32 0)), (0, .ref 189), (1, .int (i32 t))] rfl (fun _ => rfl) ?_
      have L9_238 : ∀ (n244 : Nat) (v236 : Int) (m237 : mR), (R32 v236) → Ty m237 → fr [] [116] (mO m3 [] []) m237 → (0 ≤ v236) → (v236 ≤ 16) → 16 - v236 < (n244 : Int) → TT w D pm_276 (9, [(0, .ref 189), (1, .int (i32 t)), (2, .int (i32 v236))], [], (mhp (mO m237 [] []) c, N), 0, 0) (Q_takeList m c N t) := by
        intro n244
        induction n244 with
        | zero =>
          intro v236 m237 q241 Tm237 Fm237 ic239 ic240 hmu
          obtain ⟨q241a, q241b⟩ := id q241
          exfalso
          omega
        | succ n244 ih =>
          intro v236 m237 q241 Tm237 Fm237 ic239 ic240 hmu
          obtain ⟨q241a, q241b⟩ := id q241
          have ih245 := ih
          refine T_ld 10 (.int (i32 v236)) rfl (fun _ => rfl) ?_
          refine T_ld 12 (.int (i32 16)) rfl (fun _ => rfl) ?_
          refine T_icmp 28 15 rfl rfl rfl (r32 (by omega) (by omega)) ⟨by decide, by decide⟩ (fun (h246 : (16 : Int) ≤ v236) => ?_) (fun (h246 : ¬ ((16 : Int) ≤ v236)) => ?_)
          · skip
            refine T_ld 29 (.int (i32 1)) rfl (fun _ => rfl) ?_
            refine T_sto 30 [(2, .int (i32 1)), (0, .ref 189), (1, .int (i32 t))] rfl (fun _ => rfl) ?_
            refine T_ld 31 (.int (i32 1)) rfl (fun _ => rfl) ?_
            refine T_if 183 34 rfl rfl rfl ⟨by decide, by decide⟩ (fun h247 => absurd (show (1 : Int) = 0 from h247) (by decide)) (fun _ => ?_)
            refine T_gf 38 (.int (i32 (m3.1 10))) rfl rfl rfl rfl (mfv_c (F := fun x => .int (i32 x)) rfl (show (m237.1 10) = (m3.1 10) from (fr1 Fm237 10 rfl))) rfl ?_
            refine T_if 183 41 rfl rfl rfl (r32 (by omega) (by omega)) (fun (h248 : (m3.1 10) ≠ 0) => ?_) (fun (h248 : ¬ ((m3.1 10) ≠ 0)) => by exfalso; omega)
            refine T_ld 184 (.ref 189) rfl (fun _ => rfl) ?_
            refine T_ld 186 (.int (i32 59)) rfl (fun _ => rfl) ?_
            refine T_call 189 232 [.ref 189, .int (i32 59)] [] rfl (fun _ => rfl) rfl (d_need w (mO m237 [] []) c N D (by omega) Tm237 59 ⟨by decide, by decide⟩ (show 1 ≤ (59 : Int) by omega) (show LxP (m237.1 7) (m237.1 8) (m237.1 9) (m237.1 6) (m237.1 10) by rewrite [(show (m237.1 7) = (m3.1 7) from (fr1 Fm237 7 rfl)), (show (m237.1 8) = (m3.1 8) from (fr1 Fm237 8 rfl)), (show (m237.1 9) = (m3.1 9) from (fr1 Fm237 9 rfl)), (show (m237.1 6) = (m.1 6) from ((fr1 Fm237 6 rfl).trans (fr1 Fm3 6 rfl))), (show (m237.1 10) = (m3.1 10) from (fr1 Fm237 10 rfl))]; first | exact hLx | (intro h9; exfalso; omega) | (intro h9; have h8 := hLx (by omega); omega))) (fun rr249 k250 => ?_)
            obtain ⟨m251, Tm251, Fm251, h252, h253, h254, h255, rfl⟩ := k250
            refine ⟨_, _, rfl, ?_⟩
            refine T_nb (st' := []) rfl ?_
            have g256 : 0 ≤ m251.1 7 ∧ m251.1 7 ≤ 330 := Tm251.1 7
            have g257 : 0 ≤ m251.1 8 ∧ m251.1 8 ≤ 4000 := Tm251.1 8
            have g258 : 0 ≤ m251.1 9 ∧ m251.1 9 ≤ 4000 := Tm251.1 9
            have g259 : 0 ≤ m251.1 10 ∧ m251.1 10 ≤ 8 := Tm251.1 10
            have g260 : (-1) ≤ m251.1 11 ∧ m251.1 11 ≤ 4000 := Tm251.1 11
            replace h252 : LxP (m251.1 7) (m251.1 8) (m251.1 9) (m237.1 6) (m251.1 10) := h252
            rewrite [(show (m237.1 6) = (m.1 6) from ((fr1 Fm237 6 rfl).trans (fr1 Fm3 6 rfl)))] at h252
            replace h253 : (m251.1 10) = 0 → (m237.1 10) = 0 ∧ (m237.1 7) = (59 : Int) := h253
            rewrite [(show (m237.1 10) = (m3.1 10) from (fr1 Fm237 10 rfl)), (show (m237.1 7) = (m3.1 7) from (fr1 Fm237 7 rfl))] at h253
            replace h254 : (m237.1 8) ≤ (m251.1 8) := h254
            rewrite [(show (m237.1 8) = (m3.1 8) from (fr1 Fm237 8 rfl))] at h254
            replace h255 : (m251.1 10) = 0 → (m237.1 8) + (m237.1 9) ≤ (m251.1 8) := h255
            rewrite [(show (m237.1 8) = (m3.1 8) from (fr1 Fm237 8 rfl)), (show (m237.1 9) = (m3.1 9) from (fr1 Fm237 9 rfl))] at h255
            have hf261 : 1 ≤ (m251.1 10) := by omega
            clear h253
            clear h255
            have hLx := h252
            refine T_ret rfl (fun _ => rfl) ?_
            exact ⟨(mO m251 [] []), Tm251, (fr_m (fr_s Fm251 (fr_m (fr_s Fm237 (fr_m (fr_s Fm3 (fr_m fr_0 rfl rfl) rfl rfl) rfl rfl) rfl rfl) rfl rfl) rfl rfl) rfl rfl), (show (m251.1 10) = 0 → (m.1 10) = 0 by omega), (show LxP (m251.1 7) (m251.1 8) (m251.1 9) (m.1 6) (m251.1 10) by first | (first | exact hLx | exact (fun _ => hLx (by omega)) | (intro h9; exfalso; omega)) | (exfalso; omega)), (fun (h : (m251.1 10) = 0) => absurd h (by omega)), rfl⟩
          · skip
            refine T_gf 19 (.ref 276) rfl rfl rfl rfl rfl rfl ?_
            refine T_ld 20 (.int (i32 v236)) rfl (fun _ => rfl) ?_
            refine T_ld 21 (.int (i32 0)) rfl (fun _ => rfl) ?_
            have G262 : ∀ j, 0 ≤ (upI (m237.2 116) v236 0) j ∧ (upI (m237.2 116) v236 0) j ≤ 1 := upI_rg (Tm237.2.1 116) ⟨by omega, by omega⟩
            refine T_bast (a' := [(116, upI (m237.2 116) v236 0)]) 22 116 (m237.2 116) rfl rfl rfl (by omega) (show v236 < (16 : Int) by omega) (by omega) rfl rfl ?_
            refine T_iinc 25 [(2, .int (i32 (v236 + 1))), (0, .ref 189), (1, .int (i32 t))] rfl rfl (by decide) rfl rfl ?_
            refine T_goto 9 rfl (fun _ => rfl) ?_
            refine Tm_lv (a := [(0, .ref 189), (1, .int (i32 t)), (2, .int (i32 (v236 + 1)))]) rfl rfl ⟨rfl, rfl, rfl, trivial⟩ ?_
            exact ih245 (v236 + 1) (mO m237 [] [(116, upI (m237.2 116) v236 0)]) (r32 (by omega) (by omega)) (Ty_mO Tm237 rfl rfl trivial ⟨G262, trivial⟩) (fr_m (fr_s Fm237 (fr_m fr_0 rfl rfl) rfl rfl) rfl rfl) (show 0 ≤ (v236 + 1) by omega) (show (v236 + 1) ≤ 16 by omega) (show 16 - (v236 + 1) < (n244 : Int) by omega)
      refine Tm_lv (a := [(0, .ref 189), (1, .int (i32 t)), (2, .int (i32 0))]) rfl rfl ⟨rfl, rfl, rfl, trivial⟩ ?_
      exact L9_238 ((16 - (0 : Int) : Int) + 1).toNat 0 (mO m3 [] []) ⟨by decide, by decide⟩ Tm3 (fr_m fr_0 rfl rfl) (show 0 ≤ (0 : Int) by omega) (show (0 : Int) ≤ 16 by omega) (show 16 - (0 : Int) < ((((16 - (0 : Int) : Int) + 1).toNat : Nat) : Int) by omega)
  · skip
    clear hC
    refine T_ld 1 (.ref 189) rfl (fun _ => rfl) ?_
    refine T_ld 4 (.int (i32 315)) rfl (fun _ => rfl) ?_
    refine T_call 7 232 [.ref 189, .int (i32 315)] [] rfl (fun _ => rfl) rfl (d_need w (mO m [] []) c N D (by omega) hT 315 ⟨by decide, by decide⟩ (show 1 ≤ (315 : Int) by omega) (show LxP (m.1 7) (m.1 8) (m.1 9) (m.1 6) (m.1 10) by first | exact hLx | (intro h9; exfalso; omega) | (intro h9; have h8 := hLx (by omega); omega))) (fun rr263 k264 => ?_)
    obtain ⟨m265, Tm265, Fm265, h266, h267, h268, h269, rfl⟩ := k264
    refine ⟨_, _, rfl, ?_⟩
    refine T_nb (st' := []) rfl ?_
    have g270 : 0 ≤ m265.1 7 ∧ m265.1 7 ≤ 330 := Tm265.1 7
    have g271 : 0 ≤ m265.1 8 ∧ m265.1 8 ≤ 4000 := Tm265.1 8
    have g272 : 0 ≤ m265.1 9 ∧ m265.1 9 ≤ 4000 := Tm265.1 9
    have g273 : 0 ≤ m265.1 10 ∧ m265.1 10 ≤ 8 := Tm265.1 10
    have g274 : (-1) ≤ m265.1 11 ∧ m265.1 11 ≤ 4000 := Tm265.1 11
    replace h266 : LxP (m265.1 7) (m265.1 8) (m265.1 9) (m.1 6) (m265.1 10) := h266
    replace h267 : (m265.1 10) = 0 → (m.1 10) = 0 ∧ (m.1 7) = (315 : Int) := h267
    replace h268 : (m.1 8) ≤ (m265.1 8) := h268
    replace h269 : (m265.1 10) = 0 → (m.1 8) + (m.1 9) ≤ (m265.1 8) := h269
    have hf275 : 1 ≤ (m265.1 10) := by omega
    clear h267
    clear h269
    have hLx := h266
    refine T_ld 8 (.int (i32 0)) rfl (fun _ => rfl) ?_
    refine T_sto 9 [(2, .int (i32 0)), (0, .ref 189), (1, .int (i32 t))] rfl (fun _ => rfl) ?_
    have L9_278 : ∀ (n284 : Nat) (v276 : Int) (m277 : mR), (R32 v276) → Ty m277 → fr [] [116] (mO m265 [] []) m277 → (0 ≤ v276) → (v276 ≤ 16) → 16 - v276 < (n284 : Int) → TT w D pm_276 (9, [(0, .ref 189), (1, .int (i32 t)), (2, .int (i32 v276))], [], (mhp (mO m277 [] []) c, N), 0, 0) (Q_takeList m c N t) := by
      intro n284
      induction n284 with
      | zero =>
        intro v276 m277 q281 Tm277 Fm277 ic279 ic280 hmu
        obtain ⟨q281a, q281b⟩ := id q281
        exfalso
        omega
      | succ n284 ih =>
        intro v276 m277 q281 Tm277 Fm277 ic279 ic280 hmu
        obtain ⟨q281a, q281b⟩ := id q281
        have ih285 := ih
        refine T_ld 10 (.int (i32 v276)) rfl (fun _ => rfl) ?_
        refine T_ld 12 (.int (i32 16)) rfl (fun _ => rfl) ?_
        refine T_icmp 28 15 rfl rfl rfl (r32 (by omega) (by omega)) ⟨by decide, by decide⟩ (fun (h286 : (16 : Int) ≤ v276) => ?_) (fun (h286 : ¬ ((16 : Int) ≤ v276)) => ?_)
        · skip
          refine T_ld 29 (.int (i32 1)) rfl (fun _ => rfl) ?_
          refine T_sto 30 [(2, .int (i32 1)), (0, .ref 189), (1, .int (i32 t))] rfl (fun _ => rfl) ?_
          refine T_ld 31 (.int (i32 1)) rfl (fun _ => rfl) ?_
          refine T_if 183 34 rfl rfl rfl ⟨by decide, by decide⟩ (fun h287 => absurd (show (1 : Int) = 0 from h287) (by decide)) (fun _ => ?_)
          refine T_gf 38 (.int (i32 (m265.1 10))) rfl rfl rfl rfl (mfv_c (F := fun x => .int (i32 x)) rfl (show (m277.1 10) = (m265.1 10) from (fr1 Fm277 10 rfl))) rfl ?_
          refine T_if 183 41 rfl rfl rfl (r32 (by omega) (by omega)) (fun (h288 : (m265.1 10) ≠ 0) => ?_) (fun (h288 : ¬ ((m265.1 10) ≠ 0)) => by exfalso; omega)
          refine T_ld 184 (.ref 189) rfl (fun _ => rfl) ?_
          refine T_ld 186 (.int (i32 59)) rfl (fun _ => rfl) ?_
          refine T_call 189 232 [.ref 189, .int (i32 59)] [] rfl (fun _ => rfl) rfl (d_need w (mO m277 [] []) c N D (by omega) Tm277 59 ⟨by decide, by decide⟩ (show 1 ≤ (59 : Int) by omega) (show LxP (m277.1 7) (m277.1 8) (m277.1 9) (m277.1 6) (m277.1 10) by rewrite [(show (m277.1 7) = (m265.1 7) from (fr1 Fm277 7 rfl)), (show (m277.1 8) = (m265.1 8) from (fr1 Fm277 8 rfl)), (show (m277.1 9) = (m265.1 9) from (fr1 Fm277 9 rfl)), (show (m277.1 6) = (m.1 6) from ((fr1 Fm277 6 rfl).trans (fr1 Fm265 6 rfl))), (show (m277.1 10) = (m265.1 10) from (fr1 Fm277 10 rfl))]; first | exact hLx | (intro h9; exfalso; omega) | (intro h9; have h8 := hLx (by omega); omega))) (fun rr289 k290 => ?_)
          obtain ⟨m291, Tm291, Fm291, h292, h293, h294, h295, rfl⟩ := k290
          refine ⟨_, _, rfl, ?_⟩
          refine T_nb (st' := []) rfl ?_
          have g296 : 0 ≤ m291.1 7 ∧ m291.1 7 ≤ 330 := Tm291.1 7
          have g297 : 0 ≤ m291.1 8 ∧ m291.1 8 ≤ 4000 := Tm291.1 8
          have g298 : 0 ≤ m291.1 9 ∧ m291.1 9 ≤ 4000 := Tm291.1 9
          have g299 : 0 ≤ m291.1 10 ∧ m291.1 10 ≤ 8 := Tm291.1 10
          have g300 : (-1) ≤ m291.1 11 ∧ m291.1 11 ≤ 4000 := Tm291.1 11
          replace h292 : LxP (m291.1 7) (m291.1 8) (m291.1 9) (m277.1 6) (m291.1 10) := h292
          rewrite [(show (m277.1 6) = (m.1 6) from ((fr1 Fm277 6 rfl).trans (fr1 Fm265 6 rfl)))] at h292
          replace h293 : (m291.1 10) = 0 → (m277.1 10) = 0 ∧ (m277.1 7) = (59 : Int) := h293
          rewrite [(show (m277.1 10) = (m265.1 10) from (fr1 Fm277 10 rfl)), (show (m277.1 7) = (m265.1 7) from (fr1 Fm277 7 rfl))] at h293
          replace h294 : (m277.1 8) ≤ (m291.1 8) := h294
          rewrite [(show (m277.1 8) = (m265.1 8) from (fr1 Fm277 8 rfl))] at h294
          replace h295 : (m291.1 10) = 0 → (m277.1 8) + (m277.1 9) ≤ (m291.1 8) := h295
          rewrite [(show (m277.1 8) = (m265.1 8) from (fr1 Fm277 8 rfl)), (show (m277.1 9) = (m265.1 9) from (fr1 Fm277 9 rfl))] at h295
          have hf301 : 1 ≤ (m291.1 10) := by omega
          clear h293
          clear h295
          have hLx := h292
          refine T_ret rfl (fun _ => rfl) ?_
          exact ⟨(mO m291 [] []), Tm291, (fr_m (fr_s Fm291 (fr_m (fr_s Fm277 (fr_m (fr_s Fm265 (fr_m fr_0 rfl rfl) rfl rfl) rfl rfl) rfl rfl) rfl rfl) rfl rfl) rfl rfl), (show (m291.1 10) = 0 → (m.1 10) = 0 by omega), (show LxP (m291.1 7) (m291.1 8) (m291.1 9) (m.1 6) (m291.1 10) by first | (first | exact hLx | exact (fun _ => hLx (by omega)) | (intro h9; exfalso; omega)) | (exfalso; omega)), (fun (h : (m291.1 10) = 0) => absurd h (by omega)), rfl⟩
        · skip
          refine T_gf 19 (.ref 276) rfl rfl rfl rfl rfl rfl ?_
          refine T_ld 20 (.int (i32 v276)) rfl (fun _ => rfl) ?_
          refine T_ld 21 (.int (i32 0)) rfl (fun _ => rfl) ?_
          have G302 : ∀ j, 0 ≤ (upI (m277.2 116) v276 0) j ∧ (upI (m277.2 116) v276 0) j ≤ 1 := upI_rg (Tm277.2.1 116) ⟨by omega, by omega⟩
          refine T_bast (a' := [(116, upI (m277.2 116) v276 0)]) 22 116 (m277.2 116) rfl rfl rfl (by omega) (show v276 < (16 : Int) by omega) (by omega) rfl rfl ?_
          refine T_iinc 25 [(2, .int (i32 (v276 + 1))), (0, .ref 189), (1, .int (i32 t))] rfl rfl (by decide) rfl rfl ?_
          refine T_goto 9 rfl (fun _ => rfl) ?_
          refine Tm_lv (a := [(0, .ref 189), (1, .int (i32 t)), (2, .int (i32 (v276 + 1)))]) rfl rfl ⟨rfl, rfl, rfl, trivial⟩ ?_
          exact ih285 (v276 + 1) (mO m277 [] [(116, upI (m277.2 116) v276 0)]) (r32 (by omega) (by omega)) (Ty_mO Tm277 rfl rfl trivial ⟨G302, trivial⟩) (fr_m (fr_s Fm277 (fr_m fr_0 rfl rfl) rfl rfl) rfl rfl) (show 0 ≤ (v276 + 1) by omega) (show (v276 + 1) ≤ 16 by omega) (show 16 - (v276 + 1) < (n284 : Int) by omega)
    refine Tm_lv (a := [(0, .ref 189), (1, .int (i32 t)), (2, .int (i32 0))]) rfl rfl ⟨rfl, rfl, rfl, trivial⟩ ?_
    exact L9_278 ((16 - (0 : Int) : Int) + 1).toNat 0 (mO m265 [] []) ⟨by decide, by decide⟩ Tm265 (fr_m fr_0 rfl rfl) (show 0 ≤ (0 : Int) by omega) (show (0 : Int) ≤ 16 by omega) (show 16 - (0 : Int) < ((((16 - (0 : Int) : Int) + 1).toNat : Nat) : Int) by omega)
def fF_takeElse : List Nat := [7, 8, 9, 10, 11, 12]
def fA_takeElse : List Nat := [57, 115]
def Q_takeElse (m : mR) (c : Nat → Option am_C) (N : Nat) (t : Int) : ag_Re af_T → Prop := fun R => ∃ (M : mR), Ty M ∧ fr fF_takeElse fA_takeElse m M ∧ ((M.1 10) = 0 → (m.1 10) = 0) ∧ (LxP (M.1 7) (M.1 8) (M.1 9) (m.1 6) (M.1 10)) ∧ (M.1 10 = 0 → ((m.1 8) + 1 ≤ (M.1 8)) ∧ ((M.2 57) t < (m.1 25)) ∧ (agr (m.2 57) (M.2 57) t)) ∧ R = (.inl (none), (mhp M c, N), 0, 0)
set_option maxHeartbeats 3000000 in
theorem c_takeElse (w : wX) (m : mR) (c : Nat → Option am_C) (N D : Nat) (hD : 7 ≤ D) (hT : Ty m) (t : Int) (qt : R32 t) (hLx0 : LxP (m.1 7) (m.1 8) (m.1 9) (m.1 6) (m.1 10)) (hNM0 : ∀ k, (m.2 14) k + (m.2 15) k ≤ 4000) (p2 : 0 ≤ t ∧ t ≤ 7) (hC : m.1 10 = 0 → (PN (m.1 13) (m.1 19) (m.1 20) (m.1 21) (m.1 22) (m.1 23) (m.1 25) (m.1 26) (m.2 16) (m.2 17))) : TC w D 277 [.ref 189, .int (i32 t)] (mhp m c, N) (Q_takeElse m c N t) := by
  obtain ⟨D, rfl⟩ : ∃ k, D = k + 1 := ⟨D - 1, by omega⟩
  obtain ⟨qta, qtb⟩ := id qt
  have hLx := hLx0
  have hNM := hNM0
  have f7 : 0 ≤ m.1 7 ∧ m.1 7 ≤ 330 := hT.1 7
  have f8 : 0 ≤ m.1 8 ∧ m.1 8 ≤ 4000 := hT.1 8
  have f9 : 0 ≤ m.1 9 ∧ m.1 9 ≤ 4000 := hT.1 9
  have f10 : 0 ≤ m.1 10 ∧ m.1 10 ≤ 8 := hT.1 10
  have f11 : (-1) ≤ m.1 11 ∧ m.1 11 ≤ 4000 := hT.1 11
  have f25 : 0 ≤ m.1 25 ∧ m.1 25 ≤ 16 := hT.1 25
  have f22 : 0 ≤ m.1 22 ∧ m.1 22 ≤ 8 := hT.1 22
  have f19 : 0 ≤ m.1 19 ∧ m.1 19 ≤ 12 := hT.1 19
  have f20 : 0 ≤ m.1 20 ∧ m.1 20 ≤ 12 := hT.1 20
  have f21 : 0 ≤ m.1 21 ∧ m.1 21 ≤ 16 := hT.1 21
  have f13 : 0 ≤ m.1 13 ∧ m.1 13 ≤ 120 := hT.1 13
  have f6 : 0 ≤ m.1 6 ∧ m.1 6 ≤ 4000 := hT.1 6
  have f23 : 0 ≤ m.1 23 ∧ m.1 23 ≤ 16 := hT.1 23
  have f26 : 0 ≤ m.1 26 ∧ m.1 26 ≤ 8 := hT.1 26
  refine Tc_of rfl ?_
  show TT w D pm_277 (0, [(0, .ref 189), (1, .int (i32 t))], [], (mhp (mO m [] []) c, N), 0, 0) (Q_takeElse m c N t)
  by_cases hf0 : m.1 10 = 0
  · skip
    have pPN := hC hf0
    have h7 := hLx (by omega)
    have hNM := hNM0
    refine T_ld 1 (.ref 189) rfl (fun _ => rfl) ?_
    refine T_ld 4 (.int (i32 308)) rfl (fun _ => rfl) ?_
    refine T_call 7 232 [.ref 189, .int (i32 308)] [] rfl (fun _ => rfl) rfl (d_need w (mO m [] []) c N D (by omega) hT 308 ⟨by decide, by decide⟩ (show 1 ≤ (308 : Int) by omega) (show LxP (m.1 7) (m.1 8) (m.1 9) (m.1 6) (m.1 10) by first | exact hLx | (intro h9; exfalso; omega) | (intro h9; have h8 := hLx (by omega); omega))) (fun rr1 k2 => ?_)
    obtain ⟨m3, Tm3, Fm3, h4, h5, h6, h7, rfl⟩ := k2
    refine ⟨_, _, rfl, ?_⟩
    refine T_nb (st' := []) rfl ?_
    have g8 : 0 ≤ m3.1 7 ∧ m3.1 7 ≤ 330 := Tm3.1 7
    have g9 : 0 ≤ m3.1 8 ∧ m3.1 8 ≤ 4000 := Tm3.1 8
    have g10 : 0 ≤ m3.1 9 ∧ m3.1 9 ≤ 4000 := Tm3.1 9
    have g11 : 0 ≤ m3.1 10 ∧ m3.1 10 ≤ 8 := Tm3.1 10
    have g12 : (-1) ≤ m3.1 11 ∧ m3.1 11 ≤ 4000 := Tm3.1 11
    by_cases hf13 : (m3.1 10) = 0
    · skip
      replace h4 : LxP (m3.1 7) (m3.1 8) (m3.1 9) (m.1 6) (m3.1 10) := h4
      have hLx := h4
      replace h5 : (m.1 10) = 0 ∧ (m.1 7) = (308 : Int) := h5 hf13
      replace h6 : (m.1 8) ≤ (m3.1 8) := h6
      replace h7 : (m.1 8) + (m.1 9) ≤ (m3.1 8) := h7 hf13
      have u14 : (m.1 8) + 1 ≤ (m3.1 8) := by omega
      refine T_gf 11 (.int (i32 (m3.1 8))) rfl rfl rfl rfl rfl rfl ?_
      refine T_sto 12 [(2, .int (i32 (m3.1 8))), (0, .ref 189), (1, .int (i32 t))] rfl (fun _ => rfl) ?_
      refine T_ld 13 (.ref 189) rfl (fun _ => rfl) ?_
      refine T_ld 15 (.int (i32 6)) rfl (fun _ => rfl) ?_
      have hOL : (m3.1 10) = 0 → ∀ k, 0 ≤ k → k < (m.1 13) → (m.2 16) k = 6 → 0 ≤ (m.2 17) k ∧ (m.2 17) k < (m.1 25) := fun _ k h1 h2 h3 => by
        have h4 := PNl_6 pPN k h1 h2 h3
        omega
      refine T_call 18 236 [.ref 189, .int (i32 6)] [] rfl (fun _ => rfl) rfl (d_oldName w (mO m3 [] []) c N D (by omega) Tm3 6 (m.1 25) ⟨by decide, by decide⟩ (show LxP (m3.1 7) (m3.1 8) (m3.1 9) (m3.1 6) (m3.1 10) by rewrite [(show (m3.1 6) = (m.1 6) from (fr1 Fm3 6 rfl))]; first | exact hLx | (intro h9; exfalso; omega) | (intro h9; have h8 := hLx (by omega); omega)) (show ∀ k, (m3.2 14) k + (m3.2 15) k ≤ 4000 by rewrite [(show (m3.2 14) = (m.2 14) from (fr2 Fm3 14 rfl)), (show (m3.2 15) = (m.2 15) from (fr2 Fm3 15 rfl))]; first | exact p1 | exact hNM) (show 1 ≤ (6 : Int) ∧ (6 : Int) ≤ 7 ∧ (6 : Int) ≠ 5 by omega) (show (m.1 25) ≤ 16 by omega) (show (m3.1 10) = 0 → ∀ k, 0 ≤ k → k < (m3.1 13) → (m3.2 16) k = (6 : Int) → 0 ≤ (m3.2 17) k ∧ (m3.2 17) k < (m.1 25) by rewrite [(show (m3.1 13) = (m.1 13) from (fr1 Fm3 13 rfl)), (show (m3.2 16) = (m.2 16) from (fr2 Fm3 16 rfl)), (show (m3.2 17) = (m.2 17) from (fr2 Fm3 17 rfl))]; first | exact hOL | (intro h; exfalso; omega)) (show (6 : Int) = 3 → 3 ≤ (m.1 25) by omega)) (fun rr15 k16 => ?_)
      obtain ⟨m17, oo, Tm17, Fm17, g18, h19, h20, h21, h22, h23, h24, rfl⟩ := k16
      refine ⟨_, _, rfl, ?_⟩
      refine T_nb (st' := [.int (i32 oo)]) rfl ?_
      obtain ⟨g18a, g18b⟩ := g18
      have g25 : 0 ≤ m17.1 7 ∧ m17.1 7 ≤ 330 := Tm17.1 7
      have g26 : 0 ≤ m17.1 8 ∧ m17.1 8 ≤ 4000 := Tm17.1 8
      have g27 : 0 ≤ m17.1 9 ∧ m17.1 9 ≤ 4000 := Tm17.1 9
      have g28 : 0 ≤ m17.1 10 ∧ m17.1 10 ≤ 8 := Tm17.1 10
      have g29 : (-1) ≤ m17.1 11 ∧ m17.1 11 ≤ 4000 := Tm17.1 11
      by_cases hf30 : (m17.1 10) = 0
      · skip
        replace h19 : LxP (m17.1 7) (m17.1 8) (m17.1 9) (m3.1 6) (m17.1 10) := h19
        rewrite [(show (m3.1 6) = (m.1 6) from (fr1 Fm3 6 rfl))] at h19
        have hLx := h19
        replace h20 : (m3.1 8) ≤ (m17.1 8) := h20
        replace h21 : (m3.1 10) = 0 ∧ (m3.1 8) + (m3.1 9) ≤ (m17.1 8) := h21 hf30
        replace h22 : (m3.1 7) = 1 := h22 hf30
        replace h23 : 0 ≤ oo ∧ (oo < (m.1 25) ∨ oo = 0) := h23
        replace h24 : oo < (m.1 25) := h24 hf30
        have u31 : (m.1 8) + 1 ≤ (m17.1 8) := by omega
        clear g8 g10 g11 g12 h4 h21 h22
        refine T_sto 19 [(3, .int (i32 oo)), (2, .int (i32 (m3.1 8))), (0, .ref 189), (1, .int (i32 t))] rfl (fun _ => rfl) ?_
        refine T_ld 20 (.ref 189) rfl (fun _ => rfl) ?_
        refine T_ld 22 (.int (i32 40)) rfl (fun _ => rfl) ?_
        refine T_call 25 232 [.ref 189, .int (i32 40)] [] rfl (fun _ => rfl) rfl (d_need w (mO m17 [] []) c N D (by omega) Tm17 40 ⟨by decide, by decide⟩ (show 1 ≤ (40 : Int) by omega) (show LxP (m17.1 7) (m17.1 8) (m17.1 9) (m17.1 6) (m17.1 10) by rewrite [(show (m17.1 6) = (m.1 6) from ((fr1 Fm17 6 rfl).trans (fr1 Fm3 6 rfl)))]; first | exact hLx | (intro h9; exfalso; omega) | (intro h9; have h8 := hLx (by omega); omega))) (fun rr32 k33 => ?_)
        obtain ⟨m34, Tm34, Fm34, h35, h36, h37, h38, rfl⟩ := k33
        refine ⟨_, _, rfl, ?_⟩
        refine T_nb (st' := []) rfl ?_
        have g39 : 0 ≤ m34.1 7 ∧ m34.1 7 ≤ 330 := Tm34.1 7
        have g40 : 0 ≤ m34.1 8 ∧ m34.1 8 ≤ 4000 := Tm34.1 8
        have g41 : 0 ≤ m34.1 9 ∧ m34.1 9 ≤ 4000 := Tm34.1 9
        have g42 : 0 ≤ m34.1 10 ∧ m34.1 10 ≤ 8 := Tm34.1 10
        have g43 : (-1) ≤ m34.1 11 ∧ m34.1 11 ≤ 4000 := Tm34.1 11
        by_cases hf44 : (m34.1 10) = 0
        · skip
          replace h35 : LxP (m34.1 7) (m34.1 8) (m34.1 9) (m17.1 6) (m34.1 10) := h35
          rewrite [(show (m17.1 6) = (m.1 6) from ((fr1 Fm17 6 rfl).trans (fr1 Fm3 6 rfl)))] at h35
          have hLx := h35
          replace h36 : (m17.1 10) = 0 ∧ (m17.1 7) = (40 : Int) := h36 hf44
          replace h37 : (m17.1 8) ≤ (m34.1 8) := h37
          replace h38 : (m17.1 8) + (m17.1 9) ≤ (m34.1 8) := h38 hf44
          have u45 : (m.1 8) + 1 ≤ (m34.1 8) := by omega
          clear g25 g26 g27 g28 g29 h19 h20 u31 h36 h37 h38
          refine T_ld 26 (.int (i32 0)) rfl (fun _ => rfl) ?_
          refine T_sto 28 [(4, .int (i32 0)), (3, .int (i32 oo)), (2, .int (i32 (m3.1 8))), (0, .ref 189), (1, .int (i32 t))] rfl (fun _ => rfl) ?_
          refine T_gf 32 (.int (i32 (m34.1 10))) rfl rfl rfl rfl rfl rfl ?_
          refine T_if 48 35 rfl rfl rfl (r32 (by omega) (by omega)) (fun (h46 : (m34.1 10) ≠ 0) => by exfalso; omega) (fun (h46 : ¬ ((m34.1 10) ≠ 0)) => ?_)
          refine T_gf 39 (.int (i32 (m34.1 7))) rfl rfl rfl rfl rfl rfl ?_
          refine T_ld 41 (.int (i32 41)) rfl (fun _ => rfl) ?_
          refine T_icmp 48 44 rfl rfl rfl (r32 (by omega) (by omega)) ⟨by decide, by decide⟩ (fun (h47 : (m34.1 7) = 41) => ?_) (fun (h47 : ¬ ((m34.1 7) = 41)) => ?_)
          · skip
            refine T_ld 49 (.int (i32 0)) rfl (fun _ => rfl) ?_
            refine T_sto 51 [(5, .int (i32 0)), (4, .int (i32 0)), (3, .int (i32 oo)), (2, .int (i32 (m3.1 8))), (0, .ref 189), (1, .int (i32 t))] rfl (fun _ => rfl) ?_
            have L51_51 : ∀ (n63 : Nat) (v48 : Int) (v49 : Int) (m50 : mR), (R32 v48) → (R32 v49) → Ty m50 → fr [7, 8, 9, 10, 11, 12] [115] (mO m34 [] []) m50 → (0 ≤ v48) → (v48 ≤ 0) → (0 ≤ v49) → (v49 ≤ 0) → (LxP (m50.1 7) (m50.1 8) (m50.1 9) (m.1 6) (m50.1 10)) → (v49 = 0 ∨ v49 = 1) → (0 ≤ v48 ∧ v48 ≤ 5000) → ((m50.1 10) = 0 → ((m.1 8) + 1 ≤ (m50.1 8)) ∧ (v48 ≤ (m50.1 8))) → 1000000 * (8 - (m50.1 10)) + 2 * (4000 - (m50.1 8)) + v49 < (n63 : Int) → TT w D pm_277 (51, [(0, .ref 189), (1, .int (i32 t)), (2, .int (i32 (m3.1 8))), (3, .int (i32 oo)), (4, .int (i32 v48)), (5, .int (i32 v49))], [], (mhp (mO m50 [] []) c, N), 0, 0) (Q_takeElse m c N t) := by
              intro n63
              induction n63 with
              | zero =>
                intro v48 v49 m50 q59 q60 Tm50 Fm50 ic52 ic53 ic54 ic55 ic56 ic57 ic58 c62 hmu
                obtain ⟨q59a, q59b⟩ := id q59
                obtain ⟨q60a, q60b⟩ := id q60
                have q61_7 : 0 ≤ m50.1 7 ∧ m50.1 7 ≤ 330 := Tm50.1 7
                have q61_8 : 0 ≤ m50.1 8 ∧ m50.1 8 ≤ 4000 := Tm50.1 8
                have q61_9 : 0 ≤ m50.1 9 ∧ m50.1 9 ≤ 4000 := Tm50.1 9
                have q61_10 : 0 ≤ m50.1 10 ∧ m50.1 10 ≤ 8 := Tm50.1 10
                have q61_11 : (-1) ≤ m50.1 11 ∧ m50.1 11 ≤ 4000 := Tm50.1 11
                have hLx := ic56
                exfalso
                omega
              | succ n63 ih =>
                intro v48 v49 m50 q59 q60 Tm50 Fm50 ic52 ic53 ic54 ic55 ic56 ic57 ic58 c62 hmu
                obtain ⟨q59a, q59b⟩ := id q59
                obtain ⟨q60a, q60b⟩ := id q60
                have q61_7 : 0 ≤ m50.1 7 ∧ m50.1 7 ≤ 330 := Tm50.1 7
                have q61_8 : 0 ≤ m50.1 8 ∧ m50.1 8 ≤ 4000 := Tm50.1 8
                have q61_9 : 0 ≤ m50.1 9 ∧ m50.1 9 ≤ 4000 := Tm50.1 9
                have q61_10 : 0 ≤ m50.1 10 ∧ m50.1 10 ≤ 8 := Tm50.1 10
                have q61_11 : (-1) ≤ m50.1 11 ∧ m50.1 11 ≤ 4000 := Tm50.1 11
                have hLx := ic56
                have ih64 := ih
                by_cases hf65 : (m50.1 10) = 0
                · skip
                  obtain ⟨c66, c67⟩ := c62 hf65
                  clear c62
                  refine T_ld 53 (.int (i32 v49)) rfl (fun _ => rfl) ?_
                  refine T_if 153 56 rfl rfl rfl (r32 (by omega) (by omega)) (fun (h68 : v49 = 0) => ?_) (fun (h68 : ¬ (v49 = 0)) => by exfalso; omega)
                  refine T_gf 157 (.int (i32 (m50.1 10))) rfl rfl rfl rfl rfl rfl ?_
                  refine T_if 187 160 rfl rfl rfl (r32 (by omega) (by omega)) (fun (h69 : (m50.1 10) ≠ 0) => by exfalso; omega) (fun (h69 : ¬ ((m50.1 10) ≠ 0)) => ?_)
                  refine T_gf 164 (.int (i32 (m50.1 7))) rfl rfl rfl rfl rfl rfl ?_
                  refine T_ld 166 (.int (i32 41)) rfl (fun _ => rfl) ?_
                  refine T_icmp 187 169 rfl rfl rfl (r32 (by omega) (by omega)) ⟨by decide, by decide⟩ (fun (h70 : (m50.1 7) ≠ 41) => ?_) (fun (h70 : ¬ ((m50.1 7) ≠ 41)) => ?_)
                  · skip
                    refine T_ld 188 (.ref 189) rfl (fun _ => rfl) ?_
                    refine T_ld 190 (.int (i32 41)) rfl (fun _ => rfl) ?_
                    refine T_call 193 232 [.ref 189, .int (i32 41)] [] rfl (fun _ => rfl) rfl (d_need w (mO m50 [] []) c N D (by omega) Tm50 41 ⟨by decide, by decide⟩ (show 1 ≤ (41 : Int) by omega) (show LxP (m50.1 7) (m50.1 8) (m50.1 9) (m50.1 6) (m50.1 10) by rewrite [(show (m50.1 6) = (m.1 6) from ((fr1 Fm50 6 rfl).trans ((fr1 Fm34 6 rfl).trans ((fr1 Fm17 6 rfl).trans (fr1 Fm3 6 rfl)))))]; first | exact hLx | (intro h9; exfalso; omega) | (intro h9; have h8 := hLx (by omega); omega))) (fun rr71 k72 => ?_)
                    obtain ⟨m73, Tm73, Fm73, h74, h75, h76, h77, rfl⟩ := k72
                    refine ⟨_, _, rfl, ?_⟩
                    refine T_nb (st' := []) rfl ?_
                    have g78 : 0 ≤ m73.1 7 ∧ m73.1 7 ≤ 330 := Tm73.1 7
                    have g79 : 0 ≤ m73.1 8 ∧ m73.1 8 ≤ 4000 := Tm73.1 8
                    have g80 : 0 ≤ m73.1 9 ∧ m73.1 9 ≤ 4000 := Tm73.1 9
                    have g81 : 0 ≤ m73.1 10 ∧ m73.1 10 ≤ 8 := Tm73.1 10
                    have g82 : (-1) ≤ m73.1 11 ∧ m73.1 11 ≤ 4000 := Tm73.1 11
                    by_cases hf83 : (m73.1 10) = 0
                    · skip
                      replace h74 : LxP (m73.1 7) (m73.1 8) (m73.1 9) (m50.1 6) (m73.1 10) := h74
                      rewrite [(show (m50.1 6) = (m.1 6) from ((fr1 Fm50 6 rfl).trans ((fr1 Fm34 6 rfl).trans ((fr1 Fm17 6 rfl).trans (fr1 Fm3 6 rfl)))))] at h74
                      have hLx := h74
                      replace h75 : (m50.1 10) = 0 ∧ (m50.1 7) = (41 : Int) := h75 hf83
                      replace h76 : (m50.1 8) ≤ (m73.1 8) := h76
                      replace h77 : (m50.1 8) + (m50.1 9) ≤ (m73.1 8) := h77 hf83
                      have u84 : (m50.1 8) ≤ (m73.1 8) := by omega
                      have u85 : (m.1 8) + 1 ≤ (m73.1 8) := by omega
                      clear g39 g40 g41 g42 g43 h35 u45 h46 h47 q61_7 q61_9 q61_11 ic56 h70 h75 h77
                      refine T_ld 194 (.ref 189) rfl (fun _ => rfl) ?_
                      refine T_ld 196 (.int (i32 59)) rfl (fun _ => rfl) ?_
                      refine T_call 199 232 [.ref 189, .int (i32 59)] [] rfl (fun _ => rfl) rfl (d_need w (mO m73 [] []) c N D (by omega) Tm73 59 ⟨by decide, by decide⟩ (show 1 ≤ (59 : Int) by omega) (show LxP (m73.1 7) (m73.1 8) (m73.1 9) (m73.1 6) (m73.1 10) by rewrite [(show (m73.1 6) = (m.1 6) from ((fr1 Fm73 6 rfl).trans ((fr1 Fm50 6 rfl).trans ((fr1 Fm34 6 rfl).trans ((fr1 Fm17 6 rfl).trans (fr1 Fm3 6 rfl))))))]; first | exact hLx | (intro h9; exfalso; omega) | (intro h9; have h8 := hLx (by omega); omega))) (fun rr86 k87 => ?_)
                      obtain ⟨m88, Tm88, Fm88, h89, h90, h91, h92, rfl⟩ := k87
                      refine ⟨_, _, rfl, ?_⟩
                      refine T_nb (st' := []) rfl ?_
                      have g93 : 0 ≤ m88.1 7 ∧ m88.1 7 ≤ 330 := Tm88.1 7
                      have g94 : 0 ≤ m88.1 8 ∧ m88.1 8 ≤ 4000 := Tm88.1 8
                      have g95 : 0 ≤ m88.1 9 ∧ m88.1 9 ≤ 4000 := Tm88.1 9
                      have g96 : 0 ≤ m88.1 10 ∧ m88.1 10 ≤ 8 := Tm88.1 10
                      have g97 : (-1) ≤ m88.1 11 ∧ m88.1 11 ≤ 4000 := Tm88.1 11
                      by_cases hf98 : (m88.1 10) = 0
                      · skip
                        replace h89 : LxP (m88.1 7) (m88.1 8) (m88.1 9) (m73.1 6) (m88.1 10) := h89
                        rewrite [(show (m73.1 6) = (m.1 6) from ((fr1 Fm73 6 rfl).trans ((fr1 Fm50 6 rfl).trans ((fr1 Fm34 6 rfl).trans ((fr1 Fm17 6 rfl).trans (fr1 Fm3 6 rfl))))))] at h89
                        have hLx := h89
                        replace h90 : (m73.1 10) = 0 ∧ (m73.1 7) = (59 : Int) := h90 hf98
                        replace h91 : (m73.1 8) ≤ (m88.1 8) := h91
                        replace h92 : (m73.1 8) + (m73.1 9) ≤ (m88.1 8) := h92 hf98
                        have u99 : (m50.1 8) ≤ (m88.1 8) := by omega
                        have u100 : (m.1 8) + 1 ≤ (m88.1 8) := by omega
                        clear g78 g79 g80 g81 g82 h74 h76 u85 u84 h90 h91 h92
                        refine T_gf 203 (.ref 227) rfl rfl rfl rfl rfl rfl ?_
                        refine T_ld 204 (.int (i32 t)) rfl (fun _ => rfl) ?_
                        refine T_ld 205 (.int (i32 oo)) rfl (fun _ => rfl) ?_
                        have G101 : ∀ j, 0 ≤ (upI (m.2 57) t oo) j ∧ (upI (m.2 57) t oo) j ≤ 15 := upI_rg (hT.2.1 57) ⟨by omega, by omega⟩
                        refine T_iast (a' := [(57, upI (m.2 57) t oo)]) 206 57 (m.2 57) rfl rfl rfl (by omega) (show t < (8 : Int) by omega) (show (m88.2 57) = (m.2 57) from ((fr2 Fm88 57 rfl).trans ((fr2 Fm73 57 rfl).trans ((fr2 Fm50 57 rfl).trans ((fr2 Fm34 57 rfl).trans ((fr2 Fm17 57 rfl).trans (fr2 Fm3 57 rfl))))))) rfl ?_
                        refine T_ret rfl (fun _ => rfl) ?_
                        exact ⟨(mO m88 [] [(57, upI (m.2 57) t oo)]), (Ty_mO Tm88 rfl rfl trivial ⟨G101, trivial⟩), (fr_m (fr_s Fm88 (fr_m (fr_s Fm73 (fr_m (fr_s Fm50 (fr_m (fr_s Fm34 (fr_m (fr_s Fm17 (fr_m (fr_s Fm3 (fr_m fr_0 rfl rfl) rfl rfl) rfl rfl) rfl rfl) rfl rfl) rfl rfl) rfl rfl) rfl rfl) rfl rfl) rfl rfl) rfl rfl) rfl rfl) rfl rfl), (show (m88.1 10) = 0 → (m.1 10) = 0 by omega), (show LxP (m88.1 7) (m88.1 8) (m88.1 9) (m.1 6) (m88.1 10) by first | (first | exact hLx | exact (fun _ => hLx (by omega)) | (intro h9; exfalso; omega)) | (exfalso; omega)), (fun _ => ⟨(show (m.1 8) + 1 ≤ (m88.1 8) by omega), (show (upI (m.2 57) t oo) t < (m.1 25) by first | (rw [upI_s]; omega) | (exfalso; omega)), (show agr (m.2 57) (upI (m.2 57) t oo) t by first | (exact agr_u (Int.le_refl _)) | (exfalso; omega))⟩), rfl⟩
                      · skip
                        replace h89 : LxP (m88.1 7) (m88.1 8) (m88.1 9) (m73.1 6) (m88.1 10) := h89
                        rewrite [(show (m73.1 6) = (m.1 6) from ((fr1 Fm73 6 rfl).trans ((fr1 Fm50 6 rfl).trans ((fr1 Fm34 6 rfl).trans ((fr1 Fm17 6 rfl).trans (fr1 Fm3 6 rfl))))))] at h89
                        have hLx := h89
                        clear h90
                        replace h91 : (m73.1 8) ≤ (m88.1 8) := h91
                        clear h92
                        have hf102 : 1 ≤ (m88.1 10) := by omega
                        clear g78 g79 g80 g81 g82 h74 h76 u85 u84 h91
                        refine T_gf 203 (.ref 227) rfl rfl rfl rfl rfl rfl ?_
                        refine T_ld 204 (.int (i32 t)) rfl (fun _ => rfl) ?_
                        refine T_ld 205 (.int (i32 oo)) rfl (fun _ => rfl) ?_
                        have G103 : ∀ j, 0 ≤ (upI (m.2 57) t oo) j ∧ (upI (m.2 57) t oo) j ≤ 15 := upI_rg (hT.2.1 57) ⟨by omega, by omega⟩
                        refine T_iast (a' := [(57, upI (m.2 57) t oo)]) 206 57 (m.2 57) rfl rfl rfl (by omega) (show t < (8 : Int) by omega) (show (m88.2 57) = (m.2 57) from ((fr2 Fm88 57 rfl).trans ((fr2 Fm73 57 rfl).trans ((fr2 Fm50 57 rfl).trans ((fr2 Fm34 57 rfl).trans ((fr2 Fm17 57 rfl).trans (fr2 Fm3 57 rfl))))))) rfl ?_
                        refine T_ret rfl (fun _ => rfl) ?_
                        exact ⟨(mO m88 [] [(57, upI (m.2 57) t oo)]), (Ty_mO Tm88 rfl rfl trivial ⟨G103, trivial⟩), (fr_m (fr_s Fm88 (fr_m (fr_s Fm73 (fr_m (fr_s Fm50 (fr_m (fr_s Fm34 (fr_m (fr_s Fm17 (fr_m (fr_s Fm3 (fr_m fr_0 rfl rfl) rfl rfl) rfl rfl) rfl rfl) rfl rfl) rfl rfl) rfl rfl) rfl rfl) rfl rfl) rfl rfl) rfl rfl) rfl rfl) rfl rfl), (show (m88.1 10) = 0 → (m.1 10) = 0 by omega), (show LxP (m88.1 7) (m88.1 8) (m88.1 9) (m.1 6) (m88.1 10) by first | (first | exact hLx | exact (fun _ => hLx (by omega)) | (intro h9; exfalso; omega)) | (exfalso; omega)), (fun (h : (m88.1 10) = 0) => absurd h (by omega)), rfl⟩
                    · skip
                      replace h74 : LxP (m73.1 7) (m73.1 8) (m73.1 9) (m50.1 6) (m73.1 10) := h74
                      rewrite [(show (m50.1 6) = (m.1 6) from ((fr1 Fm50 6 rfl).trans ((fr1 Fm34 6 rfl).trans ((fr1 Fm17 6 rfl).trans (fr1 Fm3 6 rfl)))))] at h74
                      have hLx := h74
                      clear h75
                      replace h76 : (m50.1 8) ≤ (m73.1 8) := h76
                      clear h77
                      have hf104 : 1 ≤ (m73.1 10) := by omega
                      clear g39 g40 g41 g42 g43 h35 u45 h46 h47 q61_7 q61_9 q61_11 ic56 h70
                      refine T_ld 194 (.ref 189) rfl (fun _ => rfl) ?_
                      refine T_ld 196 (.int (i32 59)) rfl (fun _ => rfl) ?_
                      refine T_call 199 232 [.ref 189, .int (i32 59)] [] rfl (fun _ => rfl) rfl (d_need w (mO m73 [] []) c N D (by omega) Tm73 59 ⟨by decide, by decide⟩ (show 1 ≤ (59 : Int) by omega) (show LxP (m73.1 7) (m73.1 8) (m73.1 9) (m73.1 6) (m73.1 10) by rewrite [(show (m73.1 6) = (m.1 6) from ((fr1 Fm73 6 rfl).trans ((fr1 Fm50 6 rfl).trans ((fr1 Fm34 6 rfl).trans ((fr1 Fm17 6 rfl).trans (fr1 Fm3 6 rfl))))))]; first | exact hLx | (intro h9; exfalso; omega) | (intro h9; have h8 := hLx (by omega); omega))) (fun rr105 k106 => ?_)
                      obtain ⟨m107, Tm107, Fm107, h108, h109, h110, h111, rfl⟩ := k106
                      refine ⟨_, _, rfl, ?_⟩
                      refine T_nb (st' := []) rfl ?_
                      have g112 : 0 ≤ m107.1 7 ∧ m107.1 7 ≤ 330 := Tm107.1 7
                      have g113 : 0 ≤ m107.1 8 ∧ m107.1 8 ≤ 4000 := Tm107.1 8
                      have g114 : 0 ≤ m107.1 9 ∧ m107.1 9 ≤ 4000 := Tm107.1 9
                      have g115 : 0 ≤ m107.1 10 ∧ m107.1 10 ≤ 8 := Tm107.1 10
                      have g116 : (-1) ≤ m107.1 11 ∧ m107.1 11 ≤ 4000 := Tm107.1 11
                      replace h108 : LxP (m107.1 7) (m107.1 8) (m107.1 9) (m73.1 6) (m107.1 10) := h108
                      rewrite [(show (m73.1 6) = (m.1 6) from ((fr1 Fm73 6 rfl).trans ((fr1 Fm50 6 rfl).trans ((fr1 Fm34 6 rfl).trans ((fr1 Fm17 6 rfl).trans (fr1 Fm3 6 rfl))))))] at h108
                      replace h109 : (m107.1 10) = 0 → (m73.1 10) = 0 ∧ (m73.1 7) = (59 : Int) := h109
                      replace h110 : (m73.1 8) ≤ (m107.1 8) := h110
                      replace h111 : (m107.1 10) = 0 → (m73.1 8) + (m73.1 9) ≤ (m107.1 8) := h111
                      have hf117 : 1 ≤ (m107.1 10) := by omega
                      clear h109
                      clear h111
                      have hLx := h108
                      clear g78 g79 g80 g81 g82 h74 h76 hf104 h110
                      refine T_gf 203 (.ref 227) rfl rfl rfl rfl rfl rfl ?_
                      refine T_ld 204 (.int (i32 t)) rfl (fun _ => rfl) ?_
                      refine T_ld 205 (.int (i32 oo)) rfl (fun _ => rfl) ?_
                      have G118 : ∀ j, 0 ≤ (upI (m.2 57) t oo) j ∧ (upI (m.2 57) t oo) j ≤ 15 := upI_rg (hT.2.1 57) ⟨by omega, by omega⟩
                      refine T_iast (a' := [(57, upI (m.2 57) t oo)]) 206 57 (m.2 57) rfl rfl rfl (by omega) (show t < (8 : Int) by omega) (show (m107.2 57) = (m.2 57) from ((fr2 Fm107 57 rfl).trans ((fr2 Fm73 57 rfl).trans ((fr2 Fm50 57 rfl).trans ((fr2 Fm34 57 rfl).trans ((fr2 Fm17 57 rfl).trans (fr2 Fm3 57 rfl))))))) rfl ?_
                      refine T_ret rfl (fun _ => rfl) ?_
                      exact ⟨(mO m107 [] [(57, upI (m.2 57) t oo)]), (Ty_mO Tm107 rfl rfl trivial ⟨G118, trivial⟩), (fr_m (fr_s Fm107 (fr_m (fr_s Fm73 (fr_m (fr_s Fm50 (fr_m (fr_s Fm34 (fr_m (fr_s Fm17 (fr_m (fr_s Fm3 (fr_m fr_0 rfl rfl) rfl rfl) rfl rfl) rfl rfl) rfl rfl) rfl rfl) rfl rfl) rfl rfl) rfl rfl) rfl rfl) rfl rfl) rfl rfl) rfl rfl), (show (m107.1 10) = 0 → (m.1 10) = 0 by omega), (show LxP (m107.1 7) (m107.1 8) (m107.1 9) (m.1 6) (m107.1 10) by first | (first | exact hLx | exact (fun _ => hLx (by omega)) | (intro h9; exfalso; omega)) | (exfalso; omega)), (fun (h : (m107.1 10) = 0) => absurd h (by omega)), rfl⟩
                  · skip
                    refine T_ld 171 (.int (i32 v48)) rfl (fun _ => rfl) ?_
                    refine T_gf 175 (.ref 216) rfl rfl rfl rfl rfl rfl ?_
                    refine T_ld 176 (.int (i32 oo)) rfl (fun _ => rfl) ?_
                    refine T_iald 177 46 (m.2 46) rfl rfl rfl (by omega) (show oo < (16 : Int) by omega) (show (m50.2 46) = (m.2 46) from ((fr2 Fm50 46 rfl).trans ((fr2 Fm34 46 rfl).trans ((fr2 Fm17 46 rfl).trans (fr2 Fm3 46 rfl))))) ?_
                    have e119 : 0 ≤ m.2 46 oo ∧ m.2 46 oo ≤ 4 := hT.2.1 46 oo
                    refine T_icmp 187 180 rfl rfl rfl (r32 (by omega) (by omega)) (r32 (by omega) (by omega)) (fun (h120 : v48 = (m.2 46) oo) => ?_) (fun (h120 : ¬ (v48 = (m.2 46) oo)) => ?_)
                    · skip
                      refine T_ld 188 (.ref 189) rfl (fun _ => rfl) ?_
                      refine T_ld 190 (.int (i32 41)) rfl (fun _ => rfl) ?_
                      refine T_call 193 232 [.ref 189, .int (i32 41)] [] rfl (fun _ => rfl) rfl (d_need w (mO m50 [] []) c N D (by omega) Tm50 41 ⟨by decide, by decide⟩ (show 1 ≤ (41 : Int) by omega) (show LxP (m50.1 7) (m50.1 8) (m50.1 9) (m50.1 6) (m50.1 10) by rewrite [(show (m50.1 6) = (m.1 6) from ((fr1 Fm50 6 rfl).trans ((fr1 Fm34 6 rfl).trans ((fr1 Fm17 6 rfl).trans (fr1 Fm3 6 rfl)))))]; first | exact hLx | (intro h9; exfalso; omega) | (intro h9; have h8 := hLx (by omega); omega))) (fun rr121 k122 => ?_)
                      obtain ⟨m123, Tm123, Fm123, h124, h125, h126, h127, rfl⟩ := k122
                      refine ⟨_, _, rfl, ?_⟩
                      refine T_nb (st' := []) rfl ?_
                      have g128 : 0 ≤ m123.1 7 ∧ m123.1 7 ≤ 330 := Tm123.1 7
                      have g129 : 0 ≤ m123.1 8 ∧ m123.1 8 ≤ 4000 := Tm123.1 8
                      have g130 : 0 ≤ m123.1 9 ∧ m123.1 9 ≤ 4000 := Tm123.1 9
                      have g131 : 0 ≤ m123.1 10 ∧ m123.1 10 ≤ 8 := Tm123.1 10
                      have g132 : (-1) ≤ m123.1 11 ∧ m123.1 11 ≤ 4000 := Tm123.1 11
                      by_cases hf133 : (m123.1 10) = 0
                      · skip
                        replace h124 : LxP (m123.1 7) (m123.1 8) (m123.1 9) (m50.1 6) (m123.1 10) := h124
                        rewrite [(show (m50.1 6) = (m.1 6) from ((fr1 Fm50 6 rfl).trans ((fr1 Fm34 6 rfl).trans ((fr1 Fm17 6 rfl).trans (fr1 Fm3 6 rfl)))))] at h124
                        have hLx := h124
                        replace h125 : (m50.1 10) = 0 ∧ (m50.1 7) = (41 : Int) := h125 hf133
                        replace h126 : (m50.1 8) ≤ (m123.1 8) := h126
                        replace h127 : (m50.1 8) + (m50.1 9) ≤ (m123.1 8) := h127 hf133
                        have u134 : (m50.1 8) ≤ (m123.1 8) := by omega
                        have u135 : (m.1 8) + 1 ≤ (m123.1 8) := by omega
                        clear g39 g40 g41 g42 g43 h35 u45 h46 h47 q61_7 q61_9 q61_11 ic56 h70 h125 h127
                        refine T_ld 194 (.ref 189) rfl (fun _ => rfl) ?_
                        refine T_ld 196 (.int (i32 59)) rfl (fun _ => rfl) ?_
                        refine T_call 199 232 [.ref 189, .int (i32 59)] [] rfl (fun _ => rfl) rfl (d_need w (mO m123 [] []) c N D (by omega) Tm123 59 ⟨by decide, by decide⟩ (show 1 ≤ (59 : Int) by omega) (show LxP (m123.1 7) (m123.1 8) (m123.1 9) (m123.1 6) (m123.1 10) by rewrite [(show (m123.1 6) = (m.1 6) from ((fr1 Fm123 6 rfl).trans ((fr1 Fm50 6 rfl).trans ((fr1 Fm34 6 rfl).trans ((fr1 Fm17 6 rfl).trans (fr1 Fm3 6 rfl))))))]; first | exact hLx | (intro h9; exfalso; omega) | (intro h9; have h8 := hLx (by omega); omega))) (fun rr136 k137 => ?_)
                        obtain ⟨m138, Tm138, Fm138, h139, h140, h141, h142, rfl⟩ := k137
                        refine ⟨_, _, rfl, ?_⟩
                        refine T_nb (st' := []) rfl ?_
                        have g143 : 0 ≤ m138.1 7 ∧ m138.1 7 ≤ 330 := Tm138.1 7
                        have g144 : 0 ≤ m138.1 8 ∧ m138.1 8 ≤ 4000 := Tm138.1 8
                        have g145 : 0 ≤ m138.1 9 ∧ m138.1 9 ≤ 4000 := Tm138.1 9
                        have g146 : 0 ≤ m138.1 10 ∧ m138.1 10 ≤ 8 := Tm138.1 10
                        have g147 : (-1) ≤ m138.1 11 ∧ m138.1 11 ≤ 4000 := Tm138.1 11
                        by_cases hf148 : (m138.1 10) = 0
                        · skip
                          replace h139 : LxP (m138.1 7) (m138.1 8) (m138.1 9) (m123.1 6) (m138.1 10) := h139
                          rewrite [(show (m123.1 6) = (m.1 6) from ((fr1 Fm123 6 rfl).trans ((fr1 Fm50 6 rfl).trans ((fr1 Fm34 6 rfl).trans ((fr1 Fm17 6 rfl).trans (fr1 Fm3 6 rfl))))))] at h139
                          have hLx := h139
                          replace h140 : (m123.1 10) = 0 ∧ (m123.1 7) = (59 : Int) := h140 hf148
                          replace h141 : (m123.1 8) ≤ (m138.1 8) := h141
                          replace h142 : (m123.1 8) + (m123.1 9) ≤ (m138.1 8) := h142 hf148
                          have u149 : (m50.1 8) ≤ (m138.1 8) := by omega
                          have u150 : (m.1 8) + 1 ≤ (m138.1 8) := by omega
                          clear g128 g129 g130 g131 g132 h124 h126 u135 u134 h140 h141 h142
                          refine T_gf 203 (.ref 227) rfl rfl rfl rfl rfl rfl ?_
                          refine T_ld 204 (.int (i32 t)) rfl (fun _ => rfl) ?_
                          refine T_ld 205 (.int (i32 oo)) rfl (fun _ => rfl) ?_
                          have G151 : ∀ j, 0 ≤ (upI (m.2 57) t oo) j ∧ (upI (m.2 57) t oo) j ≤ 15 := upI_rg (hT.2.1 57) ⟨by omega, by omega⟩
                          refine T_iast (a' := [(57, upI (m.2 57) t oo)]) 206 57 (m.2 57) rfl rfl rfl (by omega) (show t < (8 : Int) by omega) (show (m138.2 57) = (m.2 57) from ((fr2 Fm138 57 rfl).trans ((fr2 Fm123 57 rfl).trans ((fr2 Fm50 57 rfl).trans ((fr2 Fm34 57 rfl).trans ((fr2 Fm17 57 rfl).trans (fr2 Fm3 57 rfl))))))) rfl ?_
                          refine T_ret rfl (fun _ => rfl) ?_
                          exact ⟨(mO m138 [] [(57, upI (m.2 57) t oo)]), (Ty_mO Tm138 rfl rfl trivial ⟨G151, trivial⟩), (fr_m (fr_s Fm138 (fr_m (fr_s Fm123 (fr_m (fr_s Fm50 (fr_m (fr_s Fm34 (fr_m (fr_s Fm17 (fr_m (fr_s Fm3 (fr_m fr_0 rfl rfl) rfl rfl) rfl rfl) rfl rfl) rfl rfl) rfl rfl) rfl rfl) rfl rfl) rfl rfl) rfl rfl) rfl rfl) rfl rfl) rfl rfl), (show (m138.1 10) = 0 → (m.1 10) = 0 by omega), (show LxP (m138.1 7) (m138.1 8) (m138.1 9) (m.1 6) (m138.1 10) by first | (first | exact hLx | exact (fun _ => hLx (by omega)) | (intro h9; exfalso; omega)) | (exfalso; omega)), (fun _ => ⟨(show (m.1 8) + 1 ≤ (m138.1 8) by omega), (show (upI (m.2 57) t oo) t < (m.1 25) by first | (rw [upI_s]; omega) | (exfalso; omega)), (show agr (m.2 57) (upI (m.2 57) t oo) t by first | (exact agr_u (Int.le_refl _)) | (exfalso; omega))⟩), rfl⟩
                        · skip
                          replace h139 : LxP (m138.1 7) (m138.1 8) (m138.1 9) (m123.1 6) (m138.1 10) := h139
                          rewrite [(show (m123.1 6) = (m.1 6) from ((fr1 Fm123 6 rfl).trans ((fr1 Fm50 6 rfl).trans ((fr1 Fm34 6 rfl).trans ((fr1 Fm17 6 rfl).trans (fr1 Fm3 6 rfl))))))] at h139
                          have hLx := h139
                          clear h140
                          replace h141 : (m123.1 8) ≤ (m138.1 8) := h141
                          clear h142
                          have hf152 : 1 ≤ (m138.1 10) := by omega
                          clear g128 g129 g130 g131 g132 h124 h126 u135 u134 h141
                          refine T_gf 203 (.ref 227) rfl rfl rfl rfl rfl rfl ?_
                          refine T_ld 204 (.int (i32 t)) rfl (fun _ => rfl) ?_
                          refine T_ld 205 (.int (i32 oo)) rfl (fun _ => rfl) ?_
                          have G153 : ∀ j, 0 ≤ (upI (m.2 57) t oo) j ∧ (upI (m.2 57) t oo) j ≤ 15 := upI_rg (hT.2.1 57) ⟨by omega, by omega⟩
                          refine T_iast (a' := [(57, upI (m.2 57) t oo)]) 206 57 (m.2 57) rfl rfl rfl (by omega) (show t < (8 : Int) by omega) (show (m138.2 57) = (m.2 57) from ((fr2 Fm138 57 rfl).trans ((fr2 Fm123 57 rfl).trans ((fr2 Fm50 57 rfl).trans ((fr2 Fm34 57 rfl).trans ((fr2 Fm17 57 rfl).trans (fr2 Fm3 57 rfl))))))) rfl ?_
                          refine T_ret rfl (fun _ => rfl) ?_
                          exact ⟨(mO m138 [] [(57, upI (m.2 57) t oo)]), (Ty_mO Tm138 rfl rfl trivial ⟨G153, trivial⟩), (fr_m (fr_s Fm138 (fr_m (fr_s Fm123 (fr_m (fr_s Fm50 (fr_m (fr_s Fm34 (fr_m (fr_s Fm17 (fr_m (fr_s Fm3 (fr_m fr_0 rfl rfl) rfl rfl) rfl rfl) rfl rfl) rfl rfl) rfl rfl) rfl rfl) rfl rfl) rfl rfl) rfl rfl) rfl rfl) rfl rfl) rfl rfl), (show (m138.1 10) = 0 → (m.1 10) = 0 by omega), (show LxP (m138.1 7) (m138.1 8) (m138.1 9) (m.1 6) (m138.1 10) by first | (first | exact hLx | exact (fun _ => hLx (by omega)) | (intro h9; exfalso; omega)) | (exfalso; omega)), (fun (h : (m138.1 10) = 0) => absurd h (by omega)), rfl⟩
                      · skip
                        replace h124 : LxP (m123.1 7) (m123.1 8) (m123.1 9) (m50.1 6) (m123.1 10) := h124
                        rewrite [(show (m50.1 6) = (m.1 6) from ((fr1 Fm50 6 rfl).trans ((fr1 Fm34 6 rfl).trans ((fr1 Fm17 6 rfl).trans (fr1 Fm3 6 rfl)))))] at h124
                        have hLx := h124
                        clear h125
                        replace h126 : (m50.1 8) ≤ (m123.1 8) := h126
                        clear h127
                        have hf154 : 1 ≤ (m123.1 10) := by omega
                        clear g39 g40 g41 g42 g43 h35 u45 h46 h47 q61_7 q61_9 q61_11 ic56 h70
                        refine T_ld 194 (.ref 189) rfl (fun _ => rfl) ?_
                        refine T_ld 196 (.int (i32 59)) rfl (fun _ => rfl) ?_
                        refine T_call 199 232 [.ref 189, .int (i32 59)] [] rfl (fun _ => rfl) rfl (d_need w (mO m123 [] []) c N D (by omega) Tm123 59 ⟨by decide, by decide⟩ (show 1 ≤ (59 : Int) by omega) (show LxP (m123.1 7) (m123.1 8) (m123.1 9) (m123.1 6) (m123.1 10) by rewrite [(show (m123.1 6) = (m.1 6) from ((fr1 Fm123 6 rfl).trans ((fr1 Fm50 6 rfl).trans ((fr1 Fm34 6 rfl).trans ((fr1 Fm17 6 rfl).trans (fr1 Fm3 6 rfl))))))]; first | exact hLx | (intro h9; exfalso; omega) | (intro h9; have h8 := hLx (by omega); omega))) (fun rr155 k156 => ?_)
                        obtain ⟨m157, Tm157, Fm157, h158, h159, h160, h161, rfl⟩ := k156
                        refine ⟨_, _, rfl, ?_⟩
                        refine T_nb (st' := []) rfl ?_
                        have g162 : 0 ≤ m157.1 7 ∧ m157.1 7 ≤ 330 := Tm157.1 7
                        have g163 : 0 ≤ m157.1 8 ∧ m157.1 8 ≤ 4000 := Tm157.1 8
                        have g164 : 0 ≤ m157.1 9 ∧ m157.1 9 ≤ 4000 := Tm157.1 9
                        have g165 : 0 ≤ m157.1 10 ∧ m157.1 10 ≤ 8 := Tm157.1 10
                        have g166 : (-1) ≤ m157.1 11 ∧ m157.1 11 ≤ 4000 := Tm157.1 11
                        replace h158 : LxP (m157.1 7) (m157.1 8) (m157.1 9) (m123.1 6) (m157.1 10) := h158
                        rewrite [(show (m123.1 6) = (m.1 6) from ((fr1 Fm123 6 rfl).trans ((fr1 Fm50 6 rfl).trans ((fr1 Fm34 6 rfl).trans ((fr1 Fm17 6 rfl).trans (fr1 Fm3 6 rfl))))))] at h158
                        replace h159 : (m157.1 10) = 0 → (m123.1 10) = 0 ∧ (m123.1 7) = (59 : Int) := h159
                        replace h160 : (m123.1 8) ≤ (m157.1 8) := h160
                        replace h161 : (m157.1 10) = 0 → (m123.1 8) + (m123.1 9) ≤ (m157.1 8) := h161
                        have hf167 : 1 ≤ (m157.1 10) := by omega
                        clear h159
                        clear h161
                        have hLx := h158
                        clear g128 g129 g130 g131 g132 h124 h126 hf154 h160
                        refine T_gf 203 (.ref 227) rfl rfl rfl rfl rfl rfl ?_
                        refine T_ld 204 (.int (i32 t)) rfl (fun _ => rfl) ?_
                        refine T_ld 205 (.int (i32 oo)) rfl (fun _ => rfl) ?_
                        have G168 : ∀ j, 0 ≤ (upI (m.2 57) t oo) j ∧ (upI (m.2 57) t oo) j ≤ 15 := upI_rg (hT.2.1 57) ⟨by omega, by omega⟩
                        refine T_iast (a' := [(57, upI (m.2 57) t oo)]) 206 57 (m.2 57) rfl rfl rfl (by omega) (show t < (8 : Int) by omega) (show (m157.2 57) = (m.2 57) from ((fr2 Fm157 57 rfl).trans ((fr2 Fm123 57 rfl).trans ((fr2 Fm50 57 rfl).trans ((fr2 Fm34 57 rfl).trans ((fr2 Fm17 57 rfl).trans (fr2 Fm3 57 rfl))))))) rfl ?_
                        refine T_ret rfl (fun _ => rfl) ?_
                        exact ⟨(mO m157 [] [(57, upI (m.2 57) t oo)]), (Ty_mO Tm157 rfl rfl trivial ⟨G168, trivial⟩), (fr_m (fr_s Fm157 (fr_m (fr_s Fm123 (fr_m (fr_s Fm50 (fr_m (fr_s Fm34 (fr_m (fr_s Fm17 (fr_m (fr_s Fm3 (fr_m fr_0 rfl rfl) rfl rfl) rfl rfl) rfl rfl) rfl rfl) rfl rfl) rfl rfl) rfl rfl) rfl rfl) rfl rfl) rfl rfl) rfl rfl) rfl rfl), (show (m157.1 10) = 0 → (m.1 10) = 0 by omega), (show LxP (m157.1 7) (m157.1 8) (m157.1 9) (m.1 6) (m157.1 10) by first | (first | exact hLx | exact (fun _ => hLx (by omega)) | (intro h9; exfalso; omega)) | (exfalso; omega)), (fun (h : (m157.1 10) = 0) => absurd h (by omega)), rfl⟩
                    · skip
                      refine T_ld 181 (.ref 189) rfl (fun _ => rfl) ?_
                      refine T_ld 183 (.int (i32 8)) rfl (fun _ => rfl) ?_
                      refine T_ld 184 (.int (i32 (m3.1 8))) rfl (fun _ => rfl) ?_
                      refine T_call 187 222 [.ref 189, .int (i32 8), .int (i32 (m3.1 8))] [] rfl (fun _ => rfl) rfl (d_wrong w (mO m50 [] []) c N D (by omega) Tm50 8 (m3.1 8) ⟨by decide, by decide⟩ (r32 (by omega) (by omega)) (show 1 ≤ (8 : Int) ∧ (8 : Int) ≤ 8 by omega) (show 0 ≤ (m3.1 8) ∧ (m3.1 8) ≤ 4000 by omega)) (fun rr169 k170 => ?_)
                      obtain ⟨m171, Tm171, Fm171, h172, rfl⟩ := k170
                      refine ⟨_, _, rfl, ?_⟩
                      refine T_nb (st' := []) rfl ?_
                      have g173 : 0 ≤ m171.1 10 ∧ m171.1 10 ≤ 8 := Tm171.1 10
                      have g174 : (-1) ≤ m171.1 11 ∧ m171.1 11 ≤ 4000 := Tm171.1 11
                      replace h172 : (0 < (m50.1 10) → (m171.1 10) = (m50.1 10) ∧ (m171.1 11) = (m50.1 11)) ∧ ((m50.1 10) ≤ 0 → (m171.1 10) = (8 : Int) ∧ (m171.1 11) = (m3.1 8)) := h172
                      have hf175 : 1 ≤ (m171.1 10) := by omega
                      clear g39 g40 g41 g42 g43 h35 u45 h46 h47 q61_11 h172
                      refine T_ld 188 (.ref 189) rfl (fun _ => rfl) ?_
                      refine T_ld 190 (.int (i32 41)) rfl (fun _ => rfl) ?_
                      refine T_call 193 232 [.ref 189, .int (i32 41)] [] rfl (fun _ => rfl) rfl (d_need w (mO m171 [] []) c N D (by omega) Tm171 41 ⟨by decide, by decide⟩ (show 1 ≤ (41 : Int) by omega) (show LxP (m171.1 7) (m171.1 8) (m171.1 9) (m171.1 6) (m171.1 10) by rewrite [(show (m171.1 7) = (m50.1 7) from (fr1 Fm171 7 rfl)), (show (m171.1 8) = (m50.1 8) from (fr1 Fm171 8 rfl)), (show (m171.1 9) = (m50.1 9) from (fr1 Fm171 9 rfl)), (show (m171.1 6) = (m.1 6) from ((fr1 Fm171 6 rfl).trans ((fr1 Fm50 6 rfl).trans ((fr1 Fm34 6 rfl).trans ((fr1 Fm17 6 rfl).trans (fr1 Fm3 6 rfl))))))]; first | exact hLx | (intro h9; exfalso; omega) | (intro h9; have h8 := hLx (by omega); omega))) (fun rr176 k177 => ?_)
                      obtain ⟨m178, Tm178, Fm178, h179, h180, h181, h182, rfl⟩ := k177
                      refine ⟨_, _, rfl, ?_⟩
                      refine T_nb (st' := []) rfl ?_
                      have g183 : 0 ≤ m178.1 7 ∧ m178.1 7 ≤ 330 := Tm178.1 7
                      have g184 : 0 ≤ m178.1 8 ∧ m178.1 8 ≤ 4000 := Tm178.1 8
                      have g185 : 0 ≤ m178.1 9 ∧ m178.1 9 ≤ 4000 := Tm178.1 9
                      have g186 : 0 ≤ m178.1 10 ∧ m178.1 10 ≤ 8 := Tm178.1 10
                      have g187 : (-1) ≤ m178.1 11 ∧ m178.1 11 ≤ 4000 := Tm178.1 11
                      replace h179 : LxP (m178.1 7) (m178.1 8) (m178.1 9) (m171.1 6) (m178.1 10) := h179
                      rewrite [(show (m171.1 6) = (m.1 6) from ((fr1 Fm171 6 rfl).trans ((fr1 Fm50 6 rfl).trans ((fr1 Fm34 6 rfl).trans ((fr1 Fm17 6 rfl).trans (fr1 Fm3 6 rfl))))))] at h179
                      replace h180 : (m178.1 10) = 0 → (m171.1 10) = 0 ∧ (m171.1 7) = (41 : Int) := h180
                      rewrite [(show (m171.1 7) = (m50.1 7) from (fr1 Fm171 7 rfl))] at h180
                      replace h181 : (m171.1 8) ≤ (m178.1 8) := h181
                      rewrite [(show (m171.1 8) = (m50.1 8) from (fr1 Fm171 8 rfl))] at h181
                      replace h182 : (m178.1 10) = 0 → (m171.1 8) + (m171.1 9) ≤ (m178.1 8) := h182
                      rewrite [(show (m171.1 8) = (m50.1 8) from (fr1 Fm171 8 rfl)), (show (m171.1 9) = (m50.1 9) from (fr1 Fm171 9 rfl))] at h182
                      have hf188 : 1 ≤ (m178.1 10) := by omega
                      clear h180
                      clear h182
                      have hLx := h179
                      clear q61_7 q61_9 ic56 h70 g173 g174 hf175
                      refine T_ld 194 (.ref 189) rfl (fun _ => rfl) ?_
                      refine T_ld 196 (.int (i32 59)) rfl (fun _ => rfl) ?_
                      refine T_call 199 232 [.ref 189, .int (i32 59)] [] rfl (fun _ => rfl) rfl (d_need w (mO m178 [] []) c N D (by omega) Tm178 59 ⟨by decide, by decide⟩ (show 1 ≤ (59 : Int) by omega) (show LxP (m178.1 7) (m178.1 8) (m178.1 9) (m178.1 6) (m178.1 10) by rewrite [(show (m178.1 6) = (m.1 6) from ((fr1 Fm178 6 rfl).trans ((fr1 Fm171 6 rfl).trans ((fr1 Fm50 6 rfl).trans ((fr1 Fm34 6 rfl).trans ((fr1 Fm17 6 rfl).trans (fr1 Fm3 6 rfl)))))))]; first | exact hLx | (intro h9; exfalso; omega) | (intro h9; have h8 := hLx (by omega); omega))) (fun rr189 k190 => ?_)
                      obtain ⟨m191, Tm191, Fm191, h192, h193, h194, h195, rfl⟩ := k190
                      refine ⟨_, _, rfl, ?_⟩
                      refine T_nb (st' := []) rfl ?_
                      have g196 : 0 ≤ m191.1 7 ∧ m191.1 7 ≤ 330 := Tm191.1 7
                      have g197 : 0 ≤ m191.1 8 ∧ m191.1 8 ≤ 4000 := Tm191.1 8
                      have g198 : 0 ≤ m191.1 9 ∧ m191.1 9 ≤ 4000 := Tm191.1 9
                      have g199 : 0 ≤ m191.1 10 ∧ m191.1 10 ≤ 8 := Tm191.1 10
                      have g200 : (-1) ≤ m191.1 11 ∧ m191.1 11 ≤ 4000 := Tm191.1 11
                      replace h192 : LxP (m191.1 7) (m191.1 8) (m191.1 9) (m178.1 6) (m191.1 10) := h192
                      rewrite [(show (m178.1 6) = (m.1 6) from ((fr1 Fm178 6 rfl).trans ((fr1 Fm171 6 rfl).trans ((fr1 Fm50 6 rfl).trans ((fr1 Fm34 6 rfl).trans ((fr1 Fm17 6 rfl).trans (fr1 Fm3 6 rfl)))))))] at h192
                      replace h193 : (m191.1 10) = 0 → (m178.1 10) = 0 ∧ (m178.1 7) = (59 : Int) := h193
                      replace h194 : (m178.1 8) ≤ (m191.1 8) := h194
                      replace h195 : (m191.1 10) = 0 → (m178.1 8) + (m178.1 9) ≤ (m191.1 8) := h195
                      have hf201 : 1 ≤ (m191.1 10) := by omega
                      clear h193
                      clear h195
                      have hLx := h192
                      clear g183 g184 g185 g186 g187 hf188 h179 h181 h194
                      refine T_gf 203 (.ref 227) rfl rfl rfl rfl rfl rfl ?_
                      refine T_ld 204 (.int (i32 t)) rfl (fun _ => rfl) ?_
                      refine T_ld 205 (.int (i32 oo)) rfl (fun _ => rfl) ?_
                      have G202 : ∀ j, 0 ≤ (upI (m.2 57) t oo) j ∧ (upI (m.2 57) t oo) j ≤ 15 := upI_rg (hT.2.1 57) ⟨by omega, by omega⟩
                      refine T_iast (a' := [(57, upI (m.2 57) t oo)]) 206 57 (m.2 57) rfl rfl rfl (by omega) (show t < (8 : Int) by omega) (show (m191.2 57) = (m.2 57) from ((fr2 Fm191 57 rfl).trans ((fr2 Fm178 57 rfl).trans ((fr2 Fm171 57 rfl).trans ((fr2 Fm50 57 rfl).trans ((fr2 Fm34 57 rfl).trans ((fr2 Fm17 57 rfl).trans (fr2 Fm3 57 rfl)))))))) rfl ?_
                      refine T_ret rfl (fun _ => rfl) ?_
                      exact ⟨(mO m191 [] [(57, upI (m.2 57) t oo)]), (Ty_mO Tm191 rfl rfl trivial ⟨G202, trivial⟩), (fr_m (fr_s Fm191 (fr_m (fr_s Fm178 (fr_m (fr_s Fm171 (fr_m (fr_s Fm50 (fr_m (fr_s Fm34 (fr_m (fr_s Fm17 (fr_m (fr_s Fm3 (fr_m fr_0 rfl rfl) rfl rfl) rfl rfl) rfl rfl) rfl rfl) rfl rfl) rfl rfl) rfl rfl) rfl rfl) rfl rfl) rfl rfl) rfl rfl) rfl rfl) rfl rfl) rfl rfl), (show (m191.1 10) = 0 → (m.1 10) = 0 by omega), (show LxP (m191.1 7) (m191.1 8) (m191.1 9) (m.1 6) (m191.1 10) by first | (first | exact hLx | exact (fun _ => hLx (by omega)) | (intro h9; exfalso; omega)) | (exfalso; omega)), (fun (h : (m191.1 10) = 0) => absurd h (by omega)), rfl⟩
                · skip
                  clear c62
                  have hf203 : 1 ≤ (m50.1 10) := by omega
                  refine T_ld 53 (.int (i32 v49)) rfl (fun _ => rfl) ?_
                  refine T_if 153 56 rfl rfl rfl (r32 (by omega) (by omega)) (fun (h204 : v49 = 0) => ?_) (fun (h204 : ¬ (v49 = 0)) => by exfalso; omega)
                  refine T_gf 157 (.int (i32 (m50.1 10))) rfl rfl rfl rfl rfl rfl ?_
                  refine T_if 187 160 rfl rfl rfl (r32 (by omega) (by omega)) (fun (h205 : (m50.1 10) ≠ 0) => ?_) (fun (h205 : ¬ ((m50.1 10) ≠ 0)) => by exfalso; omega)
                  refine T_ld 188 (.ref 189) rfl (fun _ => rfl) ?_
                  refine T_ld 190 (.int (i32 41)) rfl (fun _ => rfl) ?_
                  refine T_call 193 232 [.ref 189, .int (i32 41)] [] rfl (fun _ => rfl) rfl (d_need w (mO m50 [] []) c N D (by omega) Tm50 41 ⟨by decide, by decide⟩ (show 1 ≤ (41 : Int) by omega) (show LxP (m50.1 7) (m50.1 8) (m50.1 9) (m50.1 6) (m50.1 10) by rewrite [(show (m50.1 6) = (m.1 6) from ((fr1 Fm50 6 rfl).trans ((fr1 Fm34 6 rfl).trans ((fr1 Fm17 6 rfl).trans (fr1 Fm3 6 rfl)))))]; first | exact hLx | (intro h9; exfalso; omega) | (intro h9; have h8 := hLx (by omega); omega))) (fun rr206 k207 => ?_)
                  obtain ⟨m208, Tm208, Fm208, h209, h210, h211, h212, rfl⟩ := k207
                  refine ⟨_, _, rfl, ?_⟩
                  refine T_nb (st' := []) rfl ?_
                  have g213 : 0 ≤ m208.1 7 ∧ m208.1 7 ≤ 330 := Tm208.1 7
                  have g214 : 0 ≤ m208.1 8 ∧ m208.1 8 ≤ 4000 := Tm208.1 8
                  have g215 : 0 ≤ m208.1 9 ∧ m208.1 9 ≤ 4000 := Tm208.1 9
                  have g216 : 0 ≤ m208.1 10 ∧ m208.1 10 ≤ 8 := Tm208.1 10
                  have g217 : (-1) ≤ m208.1 11 ∧ m208.1 11 ≤ 4000 := Tm208.1 11
                  replace h209 : LxP (m208.1 7) (m208.1 8) (m208.1 9) (m50.1 6) (m208.1 10) := h209
                  rewrite [(show (m50.1 6) = (m.1 6) from ((fr1 Fm50 6 rfl).trans ((fr1 Fm34 6 rfl).trans ((fr1 Fm17 6 rfl).trans (fr1 Fm3 6 rfl)))))] at h209
                  replace h210 : (m208.1 10) = 0 → (m50.1 10) = 0 ∧ (m50.1 7) = (41 : Int) := h210
                  replace h211 : (m50.1 8) ≤ (m208.1 8) := h211
                  replace h212 : (m208.1 10) = 0 → (m50.1 8) + (m50.1 9) ≤ (m208.1 8) := h212
                  have hf218 : 1 ≤ (m208.1 10) := by omega
                  clear h210
                  clear h212
                  have hLx := h209
                  clear g39 g40 g41 g42 g43 h35 u45 h46 h47 q61_7 q61_9 q61_11 ic56
                  refine T_ld 194 (.ref 189) rfl (fun _ => rfl) ?_
                  refine T_ld 196 (.int (i32 59)) rfl (fun _ => rfl) ?_
                  refine T_call 199 232 [.ref 189, .int (i32 59)] [] rfl (fun _ => rfl) rfl (d_need w (mO m208 [] []) c N D (by omega) Tm208 59 ⟨by decide, by decide⟩ (show 1 ≤ (59 : Int) by omega) (show LxP (m208.1 7) (m208.1 8) (m208.1 9) (m208.1 6) (m208.1 10) by rewrite [(show (m208.1 6) = (m.1 6) from ((fr1 Fm208 6 rfl).trans ((fr1 Fm50 6 rfl).trans ((fr1 Fm34 6 rfl).trans ((fr1 Fm17 6 rfl).trans (fr1 Fm3 6 rfl))))))]; first | exact hLx | (intro h9; exfalso; omega) | (intro h9; have h8 := hLx (by omega); omega))) (fun rr219 k220 => ?_)
                  obtain ⟨m221, Tm221, Fm221, h222, h223, h224, h225, rfl⟩ := k220
                  refine ⟨_, _, rfl, ?_⟩
                  refine T_nb (st' := []) rfl ?_
                  have g226 : 0 ≤ m221.1 7 ∧ m221.1 7 ≤ 330 := Tm221.1 7
                  have g227 : 0 ≤ m221.1 8 ∧ m221.1 8 ≤ 4000 := Tm221.1 8
                  have g228 : 0 ≤ m221.1 9 ∧ m221.1 9 ≤ 4000 := Tm221.1 9
                  have g229 : 0 ≤ m221.1 10 ∧ m221.1 10 ≤ 8 := Tm221.1 10
                  have g230 : (-1) ≤ m221.1 11 ∧ m221.1 11 ≤ 4000 := Tm221.1 11
                  replace h222 : LxP (m221.1 7) (m221.1 8) (m221.1 9) (m208.1 6) (m221.1 10) := h222
                  rewrite [(show (m208.1 6) = (m.1 6) from ((fr1 Fm208 6 rfl).trans ((fr1 Fm50 6 rfl).trans ((fr1 Fm34 6 rfl).trans ((fr1 Fm17 6 rfl).trans (fr1 Fm3 6 rfl))))))] at h222
                  replace h223 : (m221.1 10) = 0 → (m208.1 10) = 0 ∧ (m208.1 7) = (59 : Int) := h223
                  replace h224 : (m208.1 8) ≤ (m221.1 8) := h224
                  replace h225 : (m221.1 10) = 0 → (m208.1 8) + (m208.1 9) ≤ (m221.1 8) := h225
                  have hf231 : 1 ≤ (m221.1 10) := by omega
                  clear h223
                  clear h225
                  have hLx := h222
                  clear g213 g214 g215 g216 g217 hf218 h209 h211 h224
                  refine T_gf 203 (.ref 227) rfl rfl rfl rfl rfl rfl ?_
                  refine T_ld 204 (.int (i32 t)) rfl (fun _ => rfl) ?_
                  refine T_ld 205 (.int (i32 oo)) rfl (fun _ => rfl) ?_
                  have G232 : ∀ j, 0 ≤ (upI (m.2 57) t oo) j ∧ (upI (m.2 57) t oo) j ≤ 15 := upI_rg (hT.2.1 57) ⟨by omega, by omega⟩
                  refine T_iast (a' := [(57, upI (m.2 57) t oo)]) 206 57 (m.2 57) rfl rfl rfl (by omega) (show t < (8 : Int) by omega) (show (m221.2 57) = (m.2 57) from ((fr2 Fm221 57 rfl).trans ((fr2 Fm208 57 rfl).trans ((fr2 Fm50 57 rfl).trans ((fr2 Fm34 57 rfl).trans ((fr2 Fm17 57 rfl).trans (fr2 Fm3 57 rfl))))))) rfl ?_
                  refine T_ret rfl (fun _ => rfl) ?_
                  exact ⟨(mO m221 [] [(57, upI (m.2 57) t oo)]), (Ty_mO Tm221 rfl rfl trivial ⟨G232, trivial⟩), (fr_m (fr_s Fm221 (fr_m (fr_s Fm208 (fr_m (fr_s Fm50 (fr_m (fr_s Fm34 (fr_m (fr_s Fm17 (fr_m (fr_s Fm3 (fr_m fr_0 rfl rfl) rfl rfl) rfl rfl) rfl rfl) rfl rfl) rfl rfl) rfl rfl) rfl rfl) rfl rfl) rfl rfl) rfl rfl) rfl rfl) rfl rfl), (show (m221.1 10) = 0 → (m.1 10) = 0 by omega), (show LxP (m221.1 7) (m221.1 8) (m221.1 9) (m.1 6) (m221.1 10) by first | (first | exact hLx | exact (fun _ => hLx (by omega)) | (intro h9; exfalso; omega)) | (exfalso; omega)), (fun (h : (m221.1 10) = 0) => absurd h (by omega)), rfl⟩
            refine Tm_lv (a := [(0, .ref 189), (1, .int (i32 t)), (2, .int (i32 (m3.1 8))), (3, .int (i32 oo)), (4, .int (i32 0)), (5, .int (i32 0))]) rfl rfl ⟨rfl, rfl, rfl, rfl, rfl, rfl, trivial⟩ ?_
            exact L51_51 ((1000000 * (8 - (m34.1 10)) + 2 * (4000 - (m34.1 8)) + (0 : Int) : Int) + 1).toNat 0 0 (mO m34 [] []) ⟨by decide, by decide⟩ ⟨by decide, by decide⟩ Tm34 (fr_m fr_0 rfl rfl) (show 0 ≤ (0 : Int) by omega) (show (0 : Int) ≤ 0 by omega) (show 0 ≤ (0 : Int) by omega) (show (0 : Int) ≤ 0 by omega) (show LxP (m34.1 7) (m34.1 8) (m34.1 9) (m.1 6) (m34.1 10) by first | exact hLx | exact (fun _ => hLx (by omega)) | (intro h9; exfalso; omega)) (show (0 : Int) = 0 ∨ (0 : Int) = 1 by omega) (show 0 ≤ (0 : Int) ∧ (0 : Int) ≤ 5000 by omega) (fun _ => ⟨(show (m.1 8) + 1 ≤ (m34.1 8) by omega), (show (0 : Int) ≤ (m34.1 8) by omega)⟩) (show 1000000 * (8 - (m34.1 10)) + 2 * (4000 - (m34.1 8)) + (0 : Int) < ((((1000000 * (8 - (m34.1 10)) + 2 * (4000 - (m34.1 8)) + (0 : Int) : Int) + 1).toNat : Nat) : Int) by omega)
          · skip
            refine T_ld 45 (.int (i32 1)) rfl (fun _ => rfl) ?_
            refine T_goto 49 rfl (fun _ => rfl) ?_
            refine T_sto 51 [(5, .int (i32 1)), (4, .int (i32 0)), (3, .int (i32 oo)), (2, .int (i32 (m3.1 8))), (0, .ref 189), (1, .int (i32 t))] rfl (fun _ => rfl) ?_
            have L51_236 : ∀ (n247 : Nat) (v233 : Int) (v234 : Int) (m235 : mR), (R32 v233) → (R32 v234) → Ty m235 → fr [7, 8, 9, 10, 11, 12] [115] (mO m34 [] []) m235 → (0 ≤ v233) → (0 ≤ v234) → (v234 ≤ 1) → (LxP (m235.1 7) (m235.1 8) (m235.1 9) (m.1 6) (m235.1 10)) → (v234 = 0 ∨ v234 = 1) → (0 ≤ v233 ∧ v233 ≤ 5000) → ((m235.1 10) = 0 → ((m.1 8) + 1 ≤ (m235.1 8)) ∧ (v233 ≤ (m235.1 8))) → 1000000 * (8 - (m235.1 10)) + 2 * (4000 - (m235.1 8)) + v234 < (n247 : Int) → TT w D pm_277 (51, [(0, .ref 189), (1, .int (i32 t)), (2, .int (i32 (m3.1 8))), (3, .int (i32 oo)), (4, .int (i32 v233)), (5, .int (i32 v234))], [], (mhp (mO m235 [] []) c, N), 0, 0) (Q_takeElse m c N t) := by
              intro n247
              induction n247 with
              | zero =>
                intro v233 v234 m235 q243 q244 Tm235 Fm235 ic237 ic238 ic239 ic240 ic241 ic242 c246 hmu
                obtain ⟨q243a, q243b⟩ := id q243
                obtain ⟨q244a, q244b⟩ := id q244
                have q245_7 : 0 ≤ m235.1 7 ∧ m235.1 7 ≤ 330 := Tm235.1 7
                have q245_8 : 0 ≤ m235.1 8 ∧ m235.1 8 ≤ 4000 := Tm235.1 8
                have q245_9 : 0 ≤ m235.1 9 ∧ m235.1 9 ≤ 4000 := Tm235.1 9
                have q245_10 : 0 ≤ m235.1 10 ∧ m235.1 10 ≤ 8 := Tm235.1 10
                have q245_11 : (-1) ≤ m235.1 11 ∧ m235.1 11 ≤ 4000 := Tm235.1 11
                have hLx := ic240
                exfalso
                omega
              | succ n247 ih =>
                intro v233 v234 m235 q243 q244 Tm235 Fm235 ic237 ic238 ic239 ic240 ic241 ic242 c246 hmu
                obtain ⟨q243a, q243b⟩ := id q243
                obtain ⟨q244a, q244b⟩ := id q244
                have q245_7 : 0 ≤ m235.1 7 ∧ m235.1 7 ≤ 330 := Tm235.1 7
                have q245_8 : 0 ≤ m235.1 8 ∧ m235.1 8 ≤ 4000 := Tm235.1 8
                have q245_9 : 0 ≤ m235.1 9 ∧ m235.1 9 ≤ 4000 := Tm235.1 9
                have q245_10 : 0 ≤ m235.1 10 ∧ m235.1 10 ≤ 8 := Tm235.1 10
                have q245_11 : (-1) ≤ m235.1 11 ∧ m235.1 11 ≤ 4000 := Tm235.1 11
                have hLx := ic240
                have ih248 := ih
                by_cases hf249 : (m235.1 10) = 0
                · skip
                  obtain ⟨c250, c251⟩ := c246 hf249
                  clear c246
                  refine T_ld 53 (.int (i32 v234)) rfl (fun _ => rfl) ?_
                  refine T_if 153 56 rfl rfl rfl (r32 (by omega) (by omega)) (fun (h252 : v234 = 0) => ?_) (fun (h252 : ¬ (v234 = 0)) => ?_)
                  · skip
                    refine T_gf 157 (.int (i32 (m235.1 10))) rfl rfl rfl rfl rfl rfl ?_
                    refine T_if 187 160 rfl rfl rfl (r32 (by omega) (by omega)) (fun (h253 : (m235.1 10) ≠ 0) => by exfalso; omega) (fun (h253 : ¬ ((m235.1 10) ≠ 0)) => ?_)
                    refine T_gf 164 (.int (i32 (m235.1 7))) rfl rfl rfl rfl rfl rfl ?_
                    refine T_ld 166 (.int (i32 41)) rfl (fun _ => rfl) ?_
                    refine T_icmp 187 169 rfl rfl rfl (r32 (by omega) (by omega)) ⟨by decide, by decide⟩ (fun (h254 : (m235.1 7) ≠ 41) => ?_) (fun (h254 : ¬ ((m235.1 7) ≠ 41)) => ?_)
                    · skip
                      refine T_ld 188 (.ref 189) rfl (fun _ => rfl) ?_
                      refine T_ld 190 (.int (i32 41)) rfl (fun _ => rfl) ?_
                      refine T_call 193 232 [.ref 189, .int (i32 41)] [] rfl (fun _ => rfl) rfl (d_need w (mO m235 [] []) c N D (by omega) Tm235 41 ⟨by decide, by decide⟩ (show 1 ≤ (41 : Int) by omega) (show LxP (m235.1 7) (m235.1 8) (m235.1 9) (m235.1 6) (m235.1 10) by rewrite [(show (m235.1 6) = (m.1 6) from ((fr1 Fm235 6 rfl).trans ((fr1 Fm34 6 rfl).trans ((fr1 Fm17 6 rfl).trans (fr1 Fm3 6 rfl)))))]; first | exact hLx | (intro h9; exfalso; omega) | (intro h9; have h8 := hLx (by omega); omega))) (fun rr255 k256 => ?_)
                      obtain ⟨m257, Tm257, Fm257, h258, h259, h260, h261, rfl⟩ := k256
                      refine ⟨_, _, rfl, ?_⟩
                      refine T_nb (st' := []) rfl ?_
                      have g262 : 0 ≤ m257.1 7 ∧ m257.1 7 ≤ 330 := Tm257.1 7
                      have g263 : 0 ≤ m257.1 8 ∧ m257.1 8 ≤ 4000 := Tm257.1 8
                      have g264 : 0 ≤ m257.1 9 ∧ m257.1 9 ≤ 4000 := Tm257.1 9
                      have g265 : 0 ≤ m257.1 10 ∧ m257.1 10 ≤ 8 := Tm257.1 10
                      have g266 : (-1) ≤ m257.1 11 ∧ m257.1 11 ≤ 4000 := Tm257.1 11
                      by_cases hf267 : (m257.1 10) = 0
                      · skip
                        replace h258 : LxP (m257.1 7) (m257.1 8) (m257.1 9) (m235.1 6) (m257.1 10) := h258
                        rewrite [(show (m235.1 6) = (m.1 6) from ((fr1 Fm235 6 rfl).trans ((fr1 Fm34 6 rfl).trans ((fr1 Fm17 6 rfl).trans (fr1 Fm3 6 rfl)))))] at h258
                        have hLx := h258
                        replace h259 : (m235.1 10) = 0 ∧ (m235.1 7) = (41 : Int) := h259 hf267
                        replace h260 : (m235.1 8) ≤ (m257.1 8) := h260
                        replace h261 : (m235.1 8) + (m235.1 9) ≤ (m257.1 8) := h261 hf267
                        have u268 : (m235.1 8) ≤ (m257.1 8) := by omega
                        have u269 : (m.1 8) + 1 ≤ (m257.1 8) := by omega
                        clear g39 g40 g41 g42 g43 h35 u45 h46 h47 q245_7 q245_9 q245_11 ic240 h254 h259 h261
                        refine T_ld 194 (.ref 189) rfl (fun _ => rfl) ?_
                        refine T_ld 196 (.int (i32 59)) rfl (fun _ => rfl) ?_
                        refine T_call 199 232 [.ref 189, .int (i32 59)] [] rfl (fun _ => rfl) rfl (d_need w (mO m257 [] []) c N D (by omega) Tm257 59 ⟨by decide, by decide⟩ (show 1 ≤ (59 : Int) by omega) (show LxP (m257.1 7) (m257.1 8) (m257.1 9) (m257.1 6) (m257.1 10) by rewrite [(show (m257.1 6) = (m.1 6) from ((fr1 Fm257 6 rfl).trans ((fr1 Fm235 6 rfl).trans ((fr1 Fm34 6 rfl).trans ((fr1 Fm17 6 rfl).trans (fr1 Fm3 6 rfl))))))]; first | exact hLx | (intro h9; exfalso; omega) | (intro h9; have h8 := hLx (by omega); omega))) (fun rr270 k271 => ?_)
                        obtain ⟨m272, Tm272, Fm272, h273, h274, h275, h276, rfl⟩ := k271
                        refine ⟨_, _, rfl, ?_⟩
                        refine T_nb (st' := []) rfl ?_
                        have g277 : 0 ≤ m272.1 7 ∧ m272.1 7 ≤ 330 := Tm272.1 7
                        have g278 : 0 ≤ m272.1 8 ∧ m272.1 8 ≤ 4000 := Tm272.1 8
                        have g279 : 0 ≤ m272.1 9 ∧ m272.1 9 ≤ 4000 := Tm272.1 9
                        have g280 : 0 ≤ m272.1 10 ∧ m272.1 10 ≤ 8 := Tm272.1 10
                        have g281 : (-1) ≤ m272.1 11 ∧ m272.1 11 ≤ 4000 := Tm272.1 11
                        by_cases hf282 : (m272.1 10) = 0
                        · skip
                          replace h273 : LxP (m272.1 7) (m272.1 8) (m272.1 9) (m257.1 6) (m272.1 10) := h273
                          rewrite [(show (m257.1 6) = (m.1 6) from ((fr1 Fm257 6 rfl).trans ((fr1 Fm235 6 rfl).trans ((fr1 Fm34 6 rfl).trans ((fr1 Fm17 6 rfl).trans (fr1 Fm3 6 rfl))))))] at h273
                          have hLx := h273
                          replace h274 : (m257.1 10) = 0 ∧ (m257.1 7) = (59 : Int) := h274 hf282
                          replace h275 : (m257.1 8) ≤ (m272.1 8) := h275
                          replace h276 : (m257.1 8) + (m257.1 9) ≤ (m272.1 8) := h276 hf282
                          have u283 : (m235.1 8) ≤ (m272.1 8) := by omega
                          have u284 : (m.1 8) + 1 ≤ (m272.1 8) := by omega
                          clear g262 g263 g264 g265 g266 h258 h260 u269 u268 h274 h275 h276
                          refine T_gf 203 (.ref 227) rfl rfl rfl rfl rfl rfl ?_
                          refine T_ld 204 (.int (i32 t)) rfl (fun _ => rfl) ?_
                          refine T_ld 205 (.int (i32 oo)) rfl (fun _ => rfl) ?_
                          have G285 : ∀ j, 0 ≤ (upI (m.2 57) t oo) j ∧ (upI (m.2 57) t oo) j ≤ 15 := upI_rg (hT.2.1 57) ⟨by omega, by omega⟩
                          refine T_iast (a' := [(57, upI (m.2 57) t oo)]) 206 57 (m.2 57) rfl rfl rfl (by omega) (show t < (8 : Int) by omega) (show (m272.2 57) = (m.2 57) from ((fr2 Fm272 57 rfl).trans ((fr2 Fm257 57 rfl).trans ((fr2 Fm235 57 rfl).trans ((fr2 Fm34 57 rfl).trans ((fr2 Fm17 57 rfl).trans (fr2 Fm3 57 rfl))))))) rfl ?_
                          refine T_ret rfl (fun _ => rfl) ?_
                          exact ⟨(mO m272 [] [(57, upI (m.2 57) t oo)]), (Ty_mO Tm272 rfl rfl trivial ⟨G285, trivial⟩), (fr_m (fr_s Fm272 (fr_m (fr_s Fm257 (fr_m (fr_s Fm235 (fr_m (fr_s Fm34 (fr_m (fr_s Fm17 (fr_m (fr_s Fm3 (fr_m fr_0 rfl rfl) rfl rfl) rfl rfl) rfl rfl) rfl rfl) rfl rfl) rfl rfl) rfl rfl) rfl rfl) rfl rfl) rfl rfl) rfl rfl) rfl rfl), (show (m272.1 10) = 0 → (m.1 10) = 0 by omega), (show LxP (m272.1 7) (m272.1 8) (m272.1 9) (m.1 6) (m272.1 10) by first | (first | exact hLx | exact (fun _ => hLx (by omega)) | (intro h9; exfalso; omega)) | (exfalso; omega)), (fun _ => ⟨(show (m.1 8) + 1 ≤ (m272.1 8) by omega), (show (upI (m.2 57) t oo) t < (m.1 25) by first | (rw [upI_s]; omega) | (exfalso; omega)), (show agr (m.2 57) (upI (m.2 57) t oo) t by first | (exact agr_u (Int.le_refl _)) | (exfalso; omega))⟩), rfl⟩
                        · skip
                          replace h273 : LxP (m272.1 7) (m272.1 8) (m272.1 9) (m257.1 6) (m272.1 10) := h273
                          rewrite [(show (m257.1 6) = (m.1 6) from ((fr1 Fm257 6 rfl).trans ((fr1 Fm235 6 rfl).trans ((fr1 Fm34 6 rfl).trans ((fr1 Fm17 6 rfl).trans (fr1 Fm3 6 rfl))))))] at h273
                          have hLx := h273
                          clear h274
                          replace h275 : (m257.1 8) ≤ (m272.1 8) := h275
                          clear h276
                          have hf286 : 1 ≤ (m272.1 10) := by omega
                          clear g262 g263 g264 g265 g266 h258 h260 u269 u268 h275
                          refine T_gf 203 (.ref 227) rfl rfl rfl rfl rfl rfl ?_
                          refine T_ld 204 (.int (i32 t)) rfl (fun _ => rfl) ?_
                          refine T_ld 205 (.int (i32 oo)) rfl (fun _ => rfl) ?_
                          have G287 : ∀ j, 0 ≤ (upI (m.2 57) t oo) j ∧ (upI (m.2 57) t oo) j ≤ 15 := upI_rg (hT.2.1 57) ⟨by omega, by omega⟩
                          refine T_iast (a' := [(57, upI (m.2 57) t oo)]) 206 57 (m.2 57) rfl rfl rfl (by omega) (show t < (8 : Int) by omega) (show (m272.2 57) = (m.2 57) from ((fr2 Fm272 57 rfl).trans ((fr2 Fm257 57 rfl).trans ((fr2 Fm235 57 rfl).trans ((fr2 Fm34 57 rfl).trans ((fr2 Fm17 57 rfl).trans (fr2 Fm3 57 rfl))))))) rfl ?_
                          refine T_ret rfl (fun _ => rfl) ?_
                          exact ⟨(mO m272 [] [(57, upI (m.2 57) t oo)]), (Ty_mO Tm272 rfl rfl trivial ⟨G287, trivial⟩), (fr_m (fr_s Fm272 (fr_m (fr_s Fm257 (fr_m (fr_s Fm235 (fr_m (fr_s Fm34 (fr_m (fr_s Fm17 (fr_m (fr_s Fm3 (fr_m fr_0 rfl rfl) rfl rfl) rfl rfl) rfl rfl) rfl rfl) rfl rfl) rfl rfl) rfl rfl) rfl rfl) rfl rfl) rfl rfl) rfl rfl) rfl rfl), (show (m272.1 10) = 0 → (m.1 10) = 0 by omega), (show LxP (m272.1 7) (m272.1 8) (m272.1 9) (m.1 6) (m272.1 10) by first | (first | exact hLx | exact (fun _ => hLx (by omega)) | (intro h9; exfalso; omega)) | (exfalso; omega)), (fun (h : (m272.1 10) = 0) => absurd h (by omega)), rfl⟩
                      · skip
                        replace h258 : LxP (m257.1 7) (m257.1 8) (m257.1 9) (m235.1 6) (m257.1 10) := h258
                        rewrite [(show (m235.1 6) = (m.1 6) from ((fr1 Fm235 6 rfl).trans ((fr1 Fm34 6 rfl).trans ((fr1 Fm17 6 rfl).trans (fr1 Fm3 6 rfl)))))] at h258
                        have hLx := h258
                        clear h259
                        replace h260 : (m235.1 8) ≤ (m257.1 8) := h260
                        clear h261
                        have hf288 : 1 ≤ (m257.1 10) := by omega
                        clear g39 g40 g41 g42 g43 h35 u45 h46 h47 q245_7 q245_9 q245_11 ic240 h254
                        refine T_ld 194 (.ref 189) rfl (fun _ => rfl) ?_
                        refine T_ld 196 (.int (i32 59)) rfl (fun _ => rfl) ?_
                        refine T_call 199 232 [.ref 189, .int (i32 59)] [] rfl (fun _ => rfl) rfl (d_need w (mO m257 [] []) c N D (by omega) Tm257 59 ⟨by decide, by decide⟩ (show 1 ≤ (59 : Int) by omega) (show LxP (m257.1 7) (m257.1 8) (m257.1 9) (m257.1 6) (m257.1 10) by rewrite [(show (m257.1 6) = (m.1 6) from ((fr1 Fm257 6 rfl).trans ((fr1 Fm235 6 rfl).trans ((fr1 Fm34 6 rfl).trans ((fr1 Fm17 6 rfl).trans (fr1 Fm3 6 rfl))))))]; first | exact hLx | (intro h9; exfalso; omega) | (intro h9; have h8 := hLx (by omega); omega))) (fun rr289 k290 => ?_)
                        obtain ⟨m291, Tm291, Fm291, h292, h293, h294, h295, rfl⟩ := k290
                        refine ⟨_, _, rfl, ?_⟩
                        refine T_nb (st' := []) rfl ?_
                        have g296 : 0 ≤ m291.1 7 ∧ m291.1 7 ≤ 330 := Tm291.1 7
                        have g297 : 0 ≤ m291.1 8 ∧ m291.1 8 ≤ 4000 := Tm291.1 8
                        have g298 : 0 ≤ m291.1 9 ∧ m291.1 9 ≤ 4000 := Tm291.1 9
                        have g299 : 0 ≤ m291.1 10 ∧ m291.1 10 ≤ 8 := Tm291.1 10
                        have g300 : (-1) ≤ m291.1 11 ∧ m291.1 11 ≤ 4000 := Tm291.1 11
                        replace h292 : LxP (m291.1 7) (m291.1 8) (m291.1 9) (m257.1 6) (m291.1 10) := h292
                        rewrite [(show (m257.1 6) = (m.1 6) from ((fr1 Fm257 6 rfl).trans ((fr1 Fm235 6 rfl).trans ((fr1 Fm34 6 rfl).trans ((fr1 Fm17 6 rfl).trans (fr1 Fm3 6 rfl))))))] at h292
                        replace h293 : (m291.1 10) = 0 → (m257.1 10) = 0 ∧ (m257.1 7) = (59 : Int) := h293
                        replace h294 : (m257.1 8) ≤ (m291.1 8) := h294
                        replace h295 : (m291.1 10) = 0 → (m257.1 8) + (m257.1 9) ≤ (m291.1 8) := h295
                        have hf301 : 1 ≤ (m291.1 10) := by omega
                        clear h293
                        clear h295
                        have hLx := h292
                        clear g262 g263 g264 g265 g266 h258 h260 hf288 h294
                        refine T_gf 203 (.ref 227) rfl rfl rfl rfl rfl rfl ?_
                        refine T_ld 204 (.int (i32 t)) rfl (fun _ => rfl) ?_
                        refine T_ld 205 (.int (i32 oo)) rfl (fun _ => rfl) ?_
                        have G302 : ∀ j, 0 ≤ (upI (m.2 57) t oo) j ∧ (upI (m.2 57) t oo) j ≤ 15 := upI_rg (hT.2.1 57) ⟨by omega, by omega⟩
                        refine T_iast (a' := [(57, upI (m.2 57) t oo)]) 206 57 (m.2 57) rfl rfl rfl (by omega) (show t < (8 : Int) by omega) (show (m291.2 57) = (m.2 57) from ((fr2 Fm291 57 rfl).trans ((fr2 Fm257 57 rfl).trans ((fr2 Fm235 57 rfl).trans ((fr2 Fm34 57 rfl).trans ((fr2 Fm17 57 rfl).trans (fr2 Fm3 57 rfl))))))) rfl ?_
                        refine T_ret rfl (fun _ => rfl) ?_
                        exact ⟨(mO m291 [] [(57, upI (m.2 57) t oo)]), (Ty_mO Tm291 rfl rfl trivial ⟨G302, trivial⟩), (fr_m (fr_s Fm291 (fr_m (fr_s Fm257 (fr_m (fr_s Fm235 (fr_m (fr_s Fm34 (fr_m (fr_s Fm17 (fr_m (fr_s Fm3 (fr_m fr_0 rfl rfl) rfl rfl) rfl rfl) rfl rfl) rfl rfl) rfl rfl) rfl rfl) rfl rfl) rfl rfl) rfl rfl) rfl rfl) rfl rfl) rfl rfl), (show (m291.1 10) = 0 → (m.1 10) = 0 by omega), (show LxP (m291.1 7) (m291.1 8) (m291.1 9) (m.1 6) (m291.1 10) by first | (first | exact hLx | exact (fun _ => hLx (by omega)) | (intro h9; exfalso; omega)) | (exfalso; omega)), (fun (h : (m291.1 10) = 0) => absurd h (by omega)), rfl⟩
                    · skip
                      refine T_ld 171 (.int (i32 v233)) rfl (fun _ => rfl) ?_
                      refine T_gf 175 (.ref 216) rfl rfl rfl rfl rfl rfl ?_
                      refine T_ld 176 (.int (i32 oo)) rfl (fun _ => rfl) ?_
                      refine T_iald 177 46 (m.2 46) rfl rfl rfl (by omega) (show oo < (16 : Int) by omega) (show (m235.2 46) = (m.2 46) from ((fr2 Fm235 46 rfl).trans ((fr2 Fm34 46 rfl).trans ((fr2 Fm17 46 rfl).trans (fr2 Fm3 46 rfl))))) ?_
                      have e303 : 0 ≤ m.2 46 oo ∧ m.2 46 oo ≤ 4 := hT.2.1 46 oo
                      refine T_icmp 187 180 rfl rfl rfl (r32 (by omega) (by omega)) (r32 (by omega) (by omega)) (fun (h304 : v233 = (m.2 46) oo) => ?_) (fun (h304 : ¬ (v233 = (m.2 46) oo)) => ?_)
                      · skip
                        refine T_ld 188 (.ref 189) rfl (fun _ => rfl) ?_
                        refine T_ld 190 (.int (i32 41)) rfl (fun _ => rfl) ?_
                        refine T_call 193 232 [.ref 189, .int (i32 41)] [] rfl (fun _ => rfl) rfl (d_need w (mO m235 [] []) c N D (by omega) Tm235 41 ⟨by decide, by decide⟩ (show 1 ≤ (41 : Int) by omega) (show LxP (m235.1 7) (m235.1 8) (m235.1 9) (m235.1 6) (m235.1 10) by rewrite [(show (m235.1 6) = (m.1 6) from ((fr1 Fm235 6 rfl).trans ((fr1 Fm34 6 rfl).trans ((fr1 Fm17 6 rfl).trans (fr1 Fm3 6 rfl)))))]; first | exact hLx | (intro h9; exfalso; omega) | (intro h9; have h8 := hLx (by omega); omega))) (fun rr305 k306 => ?_)
                        obtain ⟨m307, Tm307, Fm307, h308, h309, h310, h311, rfl⟩ := k306
                        refine ⟨_, _, rfl, ?_⟩
                        refine T_nb (st' := []) rfl ?_
                        have g312 : 0 ≤ m307.1 7 ∧ m307.1 7 ≤ 330 := Tm307.1 7
                        have g313 : 0 ≤ m307.1 8 ∧ m307.1 8 ≤ 4000 := Tm307.1 8
                        have g314 : 0 ≤ m307.1 9 ∧ m307.1 9 ≤ 4000 := Tm307.1 9
                        have g315 : 0 ≤ m307.1 10 ∧ m307.1 10 ≤ 8 := Tm307.1 10
                        have g316 : (-1) ≤ m307.1 11 ∧ m307.1 11 ≤ 4000 := Tm307.1 11
                        by_cases hf317 : (m307.1 10) = 0
                        · skip
                          replace h308 : LxP (m307.1 7) (m307.1 8) (m307.1 9) (m235.1 6) (m307.1 10) := h308
                          rewrite [(show (m235.1 6) = (m.1 6) from ((fr1 Fm235 6 rfl).trans ((fr1 Fm34 6 rfl).trans ((fr1 Fm17 6 rfl).trans (fr1 Fm3 6 rfl)))))] at h308
                          have hLx := h308
                          replace h309 : (m235.1 10) = 0 ∧ (m235.1 7) = (41 : Int) := h309 hf317
                          replace h310 : (m235.1 8) ≤ (m307.1 8) := h310
                          replace h311 : (m235.1 8) + (m235.1 9) ≤ (m307.1 8) := h311 hf317
                          have u318 : (m235.1 8) ≤ (m307.1 8) := by omega
                          have u319 : (m.1 8) + 1 ≤ (m307.1 8) := by omega
                          clear g39 g40 g41 g42 g43 h35 u45 h46 h47 q245_7 q245_9 q245_11 ic240 h254 h309 h311
                          refine T_ld 194 (.ref 189) rfl (fun _ => rfl) ?_
                          refine T_ld 196 (.int (i32 59)) rfl (fun _ => rfl) ?_
                          refine T_call 199 232 [.ref 189, .int (i32 59)] [] rfl (fun _ => rfl) rfl (d_need w (mO m307 [] []) c N D (by omega) Tm307 59 ⟨by decide, by decide⟩ (show 1 ≤ (59 : Int) by omega) (show LxP (m307.1 7) (m307.1 8) (m307.1 9) (m307.1 6) (m307.1 10) by rewrite [(show (m307.1 6) = (m.1 6) from ((fr1 Fm307 6 rfl).trans ((fr1 Fm235 6 rfl).trans ((fr1 Fm34 6 rfl).trans ((fr1 Fm17 6 rfl).trans (fr1 Fm3 6 rfl))))))]; first | exact hLx | (intro h9; exfalso; omega) | (intro h9; have h8 := hLx (by omega); omega))) (fun rr320 k321 => ?_)
                          obtain ⟨m322, Tm322, Fm322, h323, h324, h325, h326, rfl⟩ := k321
                          refine ⟨_, _, rfl, ?_⟩
                          refine T_nb (st' := []) rfl ?_
                          have g327 : 0 ≤ m322.1 7 ∧ m322.1 7 ≤ 330 := Tm322.1 7
                          have g328 : 0 ≤ m322.1 8 ∧ m322.1 8 ≤ 4000 := Tm322.1 8
                          have g329 : 0 ≤ m322.1 9 ∧ m322.1 9 ≤ 4000 := Tm322.1 9
                          have g330 : 0 ≤ m322.1 10 ∧ m322.1 10 ≤ 8 := Tm322.1 10
                          have g331 : (-1) ≤ m322.1 11 ∧ m322.1 11 ≤ 4000 := Tm322.1 11
                          by_cases hf332 : (m322.1 10) = 0
                          · skip
                            replace h323 : LxP (m322.1 7) (m322.1 8) (m322.1 9) (m307.1 6) (m322.1 10) := h323
                            rewrite [(show (m307.1 6) = (m.1 6) from ((fr1 Fm307 6 rfl).trans ((fr1 Fm235 6 rfl).trans ((fr1 Fm34 6 rfl).trans ((fr1 Fm17 6 rfl).trans (fr1 Fm3 6 rfl))))))] at h323
                            have hLx := h323
                            replace h324 : (m307.1 10) = 0 ∧ (m307.1 7) = (59 : Int) := h324 hf332
                            replace h325 : (m307.1 8) ≤ (m322.1 8) := h325
                            replace h326 : (m307.1 8) + (m307.1 9) ≤ (m322.1 8) := h326 hf332
                            have u333 : (m235.1 8) ≤ (m322.1 8) := by omega
                            have u334 : (m.1 8) + 1 ≤ (m322.1 8) := by omega
                            clear g312 g313 g314 g315 g316 h308 h310 u319 u318 h324 h325 h326
                            refine T_gf 203 (.ref 227) rfl rfl rfl rfl rfl rfl ?_
                            refine T_ld 204 (.int (i32 t)) rfl (fun _ => rfl) ?_
                            refine T_ld 205 (.int (i32 oo)) rfl (fun _ => rfl) ?_
                            have G335 : ∀ j, 0 ≤ (upI (m.2 57) t oo) j ∧ (upI (m.2 57) t oo) j ≤ 15 := upI_rg (hT.2.1 57) ⟨by omega, by omega⟩
                            refine T_iast (a' := [(57, upI (m.2 57) t oo)]) 206 57 (m.2 57) rfl rfl rfl (by omega) (show t < (8 : Int) by omega) (show (m322.2 57) = (m.2 57) from ((fr2 Fm322 57 rfl).trans ((fr2 Fm307 57 rfl).trans ((fr2 Fm235 57 rfl).trans ((fr2 Fm34 57 rfl).trans ((fr2 Fm17 57 rfl).trans (fr2 Fm3 57 rfl))))))) rfl ?_
                            refine T_ret rfl (fun _ => rfl) ?_
                            exact ⟨(mO m322 [] [(57, upI (m.2 57) t oo)]), (Ty_mO Tm322 rfl rfl trivial ⟨G335, trivial⟩), (fr_m (fr_s Fm322 (fr_m (fr_s Fm307 (fr_m (fr_s Fm235 (fr_m (fr_s Fm34 (fr_m (fr_s Fm17 (fr_m (fr_s Fm3 (fr_m fr_0 rfl rfl) rfl rfl) rfl rfl) rfl rfl) rfl rfl) rfl rfl) rfl rfl) rfl rfl) rfl rfl) rfl rfl) rfl rfl) rfl rfl) rfl rfl), (show (m322.1 10) = 0 → (m.1 10) = 0 by omega), (show LxP (m322.1 7) (m322.1 8) (m322.1 9) (m.1 6) (m322.1 10) by first | (first | exact hLx | exact (fun _ => hLx (by omega)) | (intro h9; exfalso; omega)) | (exfalso; omega)), (fun _ => ⟨(show (m.1 8) + 1 ≤ (m322.1 8) by omega), (show (upI (m.2 57) t oo) t < (m.1 25) by first | (rw [upI_s]; omega) | (exfalso; omega)), (show agr (m.2 57) (upI (m.2 57) t oo) t by first | (exact agr_u (Int.le_refl _)) | (exfalso; omega))⟩), rfl⟩
                          · skip
                            replace h323 : LxP (m322.1 7) (m322.1 8) (m322.1 9) (m307.1 6) (m322.1 10) := h323
                            rewrite [(show (m307.1 6) = (m.1 6) from ((fr1 Fm307 6 rfl).trans ((fr1 Fm235 6 rfl).trans ((fr1 Fm34 6 rfl).trans ((fr1 Fm17 6 rfl).trans (fr1 Fm3 6 rfl))))))] at h323
                            have hLx := h323
                            clear h324
                            replace h325 : (m307.1 8) ≤ (m322.1 8) := h325
                            clear h326
                            have hf336 : 1 ≤ (m322.1 10) := by omega
                            clear g312 g313 g314 g315 g316 h308 h310 u319 u318 h325
                            refine T_gf 203 (.ref 227) rfl rfl rfl rfl rfl rfl ?_
                            refine T_ld 204 (.int (i32 t)) rfl (fun _ => rfl) ?_
                            refine T_ld 205 (.int (i32 oo)) rfl (fun _ => rfl) ?_
                            have G337 : ∀ j, 0 ≤ (upI (m.2 57) t oo) j ∧ (upI (m.2 57) t oo) j ≤ 15 := upI_rg (hT.2.1 57) ⟨by omega, by omega⟩
                            refine T_iast (a' := [(57, upI (m.2 57) t oo)]) 206 57 (m.2 57) rfl rfl rfl (by omega) (show t < (8 : Int) by omega) (show (m322.2 57) = (m.2 57) from ((fr2 Fm322 57 rfl).trans ((fr2 Fm307 57 rfl).trans ((fr2 Fm235 57 rfl).trans ((fr2 Fm34 57 rfl).trans ((fr2 Fm17 57 rfl).trans (fr2 Fm3 57 rfl))))))) rfl ?_
                            refine T_ret rfl (fun _ => rfl) ?_
                            exact ⟨(mO m322 [] [(57, upI (m.2 57) t oo)]), (Ty_mO Tm322 rfl rfl trivial ⟨G337, trivial⟩), (fr_m (fr_s Fm322 (fr_m (fr_s Fm307 (fr_m (fr_s Fm235 (fr_m (fr_s Fm34 (fr_m (fr_s Fm17 (fr_m (fr_s Fm3 (fr_m fr_0 rfl rfl) rfl rfl) rfl rfl) rfl rfl) rfl rfl) rfl rfl) rfl rfl) rfl rfl) rfl rfl) rfl rfl) rfl rfl) rfl rfl) rfl rfl), (show (m322.1 10) = 0 → (m.1 10) = 0 by omega), (show LxP (m322.1 7) (m322.1 8) (m322.1 9) (m.1 6) (m322.1 10) by first | (first | exact hLx | exact (fun _ => hLx (by omega)) | (intro h9; exfalso; omega)) | (exfalso; omega)), (fun (h : (m322.1 10) = 0) => absurd h (by omega)), rfl⟩
                        · skip
                          replace h308 : LxP (m307.1 7) (m307.1 8) (m307.1 9) (m235.1 6) (m307.1 10) := h308
                          rewrite [(show (m235.1 6) = (m.1 6) from ((fr1 Fm235 6 rfl).trans ((fr1 Fm34 6 rfl).trans ((fr1 Fm17 6 rfl).trans (fr1 Fm3 6 rfl)))))] at h308
                          have hLx := h308
                          clear h309
                          replace h310 : (m235.1 8) ≤ (m307.1 8) := h310
                          clear h311
                          have hf338 : 1 ≤ (m307.1 10) := by omega
                          clear g39 g40 g41 g42 g43 h35 u45 h46 h47 q245_7 q245_9 q245_11 ic240 h254
                          refine T_ld 194 (.ref 189) rfl (fun _ => rfl) ?_
                          refine T_ld 196 (.int (i32 59)) rfl (fun _ => rfl) ?_
                          refine T_call 199 232 [.ref 189, .int (i32 59)] [] rfl (fun _ => rfl) rfl (d_need w (mO m307 [] []) c N D (by omega) Tm307 59 ⟨by decide, by decide⟩ (show 1 ≤ (59 : Int) by omega) (show LxP (m307.1 7) (m307.1 8) (m307.1 9) (m307.1 6) (m307.1 10) by rewrite [(show (m307.1 6) = (m.1 6) from ((fr1 Fm307 6 rfl).trans ((fr1 Fm235 6 rfl).trans ((fr1 Fm34 6 rfl).trans ((fr1 Fm17 6 rfl).trans (fr1 Fm3 6 rfl))))))]; first | exact hLx | (intro h9; exfalso; omega) | (intro h9; have h8 := hLx (by omega); omega))) (fun rr339 k340 => ?_)
                          obtain ⟨m341, Tm341, Fm341, h342, h343, h344, h345, rfl⟩ := k340
                          refine ⟨_, _, rfl, ?_⟩
                          refine T_nb (st' := []) rfl ?_
                          have g346 : 0 ≤ m341.1 7 ∧ m341.1 7 ≤ 330 := Tm341.1 7
                          have g347 : 0 ≤ m341.1 8 ∧ m341.1 8 ≤ 4000 := Tm341.1 8
                          have g348 : 0 ≤ m341.1 9 ∧ m341.1 9 ≤ 4000 := Tm341.1 9
                          have g349 : 0 ≤ m341.1 10 ∧ m341.1 10 ≤ 8 := Tm341.1 10
                          have g350 : (-1) ≤ m341.1 11 ∧ m341.1 11 ≤ 4000 := Tm341.1 11
                          replace h342 : LxP (m341.1 7) (m341.1 8) (m341.1 9) (m307.1 6) (m341.1 10) := h342
                          rewrite [(show (m307.1 6) = (m.1 6) from ((fr1 Fm307 6 rfl).trans ((fr1 Fm235 6 rfl).trans ((fr1 Fm34 6 rfl).trans ((fr1 Fm17 6 rfl).trans (fr1 Fm3 6 rfl))))))] at h342
                          replace h343 : (m341.1 10) = 0 → (m307.1 10) = 0 ∧ (m307.1 7) = (59 : Int) := h343
                          replace h344 : (m307.1 8) ≤ (m341.1 8) := h344
                          replace h345 : (m341.1 10) = 0 → (m307.1 8) + (m307.1 9) ≤ (m341.1 8) := h345
                          have hf351 : 1 ≤ (m341.1 10) := by omega
                          clear h343
                          clear h345
                          have hLx := h342
                          clear g312 g313 g314 g315 g316 h308 h310 hf338 h344
                          refine T_gf 203 (.ref 227) rfl rfl rfl rfl rfl rfl ?_
                          refine T_ld 204 (.int (i32 t)) rfl (fun _ => rfl) ?_
                          refine T_ld 205 (.int (i32 oo)) rfl (fun _ => rfl) ?_
                          have G352 : ∀ j, 0 ≤ (upI (m.2 57) t oo) j ∧ (upI (m.2 57) t oo) j ≤ 15 := upI_rg (hT.2.1 57) ⟨by omega, by omega⟩
                          refine T_iast (a' := [(57, upI (m.2 57) t oo)]) 206 57 (m.2 57) rfl rfl rfl (by omega) (show t < (8 : Int) by omega) (show (m341.2 57) = (m.2 57) from ((fr2 Fm341 57 rfl).trans ((fr2 Fm307 57 rfl).trans ((fr2 Fm235 57 rfl).trans ((fr2 Fm34 57 rfl).trans ((fr2 Fm17 57 rfl).trans (fr2 Fm3 57 rfl))))))) rfl ?_
                          refine T_ret rfl (fun _ => rfl) ?_
                          exact ⟨(mO m341 [] [(57, upI (m.2 57) t oo)]), (Ty_mO Tm341 rfl rfl trivial ⟨G352, trivial⟩), (fr_m (fr_s Fm341 (fr_m (fr_s Fm307 (fr_m (fr_s Fm235 (fr_m (fr_s Fm34 (fr_m (fr_s Fm17 (fr_m (fr_s Fm3 (fr_m fr_0 rfl rfl) rfl rfl) rfl rfl) rfl rfl) rfl rfl) rfl rfl) rfl rfl) rfl rfl) rfl rfl) rfl rfl) rfl rfl) rfl rfl) rfl rfl), (show (m341.1 10) = 0 → (m.1 10) = 0 by omega), (show LxP (m341.1 7) (m341.1 8) (m341.1 9) (m.1 6) (m341.1 10) by first | (first | exact hLx | exact (fun _ => hLx (by omega)) | (intro h9; exfalso; omega)) | (exfalso; omega)), (fun (h : (m341.1 10) = 0) => absurd h (by omega)), rfl⟩
                      · skip
                        refine T_ld 181 (.ref 189) rfl (fun _ => rfl) ?_
                        refine T_ld 183 (.int (i32 8)) rfl (fun _ => rfl) ?_
                        refine T_ld 184 (.int (i32 (m3.1 8))) rfl (fun _ => rfl) ?_
                        refine T_call 187 222 [.ref 189, .int (i32 8), .int (i32 (m3.1 8))] [] rfl (fun _ => rfl) rfl (d_wrong w (mO m235 [] []) c N D (by omega) Tm235 8 (m3.1 8) ⟨by decide, by decide⟩ (r32 (by omega) (by omega)) (show 1 ≤ (8 : Int) ∧ (8 : Int) ≤ 8 by omega) (show 0 ≤ (m3.1 8) ∧ (m3.1 8) ≤ 4000 by omega)) (fun rr353 k354 => ?_)
                        obtain ⟨m355, Tm355, Fm355, h356, rfl⟩ := k354
                        refine ⟨_, _, rfl, ?_⟩
                        refine T_nb (st' := []) rfl ?_
                        have g357 : 0 ≤ m355.1 10 ∧ m355.1 10 ≤ 8 := Tm355.1 10
                        have g358 : (-1) ≤ m355.1 11 ∧ m355.1 11 ≤ 4000 := Tm355.1 11
                        replace h356 : (0 < (m235.1 10) → (m355.1 10) = (m235.1 10) ∧ (m355.1 11) = (m235.1 11)) ∧ ((m235.1 10) ≤ 0 → (m355.1 10) = (8 : Int) ∧ (m355.1 11) = (m3.1 8)) := h356
                        have hf359 : 1 ≤ (m355.1 10) := by omega
                        clear g39 g40 g41 g42 g43 h35 u45 h46 h47 q245_11 h356
                        refine T_ld 188 (.ref 189) rfl (fun _ => rfl) ?_
                        refine T_ld 190 (.int (i32 41)) rfl (fun _ => rfl) ?_
                        refine T_call 193 232 [.ref 189, .int (i32 41)] [] rfl (fun _ => rfl) rfl (d_need w (mO m355 [] []) c N D (by omega) Tm355 41 ⟨by decide, by decide⟩ (show 1 ≤ (41 : Int) by omega) (show LxP (m355.1 7) (m355.1 8) (m355.1 9) (m355.1 6) (m355.1 10) by rewrite [(show (m355.1 7) = (m235.1 7) from (fr1 Fm355 7 rfl)), (show (m355.1 8) = (m235.1 8) from (fr1 Fm355 8 rfl)), (show (m355.1 9) = (m235.1 9) from (fr1 Fm355 9 rfl)), (show (m355.1 6) = (m.1 6) from ((fr1 Fm355 6 rfl).trans ((fr1 Fm235 6 rfl).trans ((fr1 Fm34 6 rfl).trans ((fr1 Fm17 6 rfl).trans (fr1 Fm3 6 rfl))))))]; first | exact hLx | (intro h9; exfalso; omega) | (intro h9; have h8 := hLx (by omega); omega))) (fun rr360 k361 => ?_)
                        obtain ⟨m362, Tm362, Fm362, h363, h364, h365, h366, rfl⟩ := k361
                        refine ⟨_, _, rfl, ?_⟩
                        refine T_nb (st' := []) rfl ?_
                        have g367 : 0 ≤ m362.1 7 ∧ m362.1 7 ≤ 330 := Tm362.1 7
                        have g368 : 0 ≤ m362.1 8 ∧ m362.1 8 ≤ 4000 := Tm362.1 8
                        have g369 : 0 ≤ m362.1 9 ∧ m362.1 9 ≤ 4000 := Tm362.1 9
                        have g370 : 0 ≤ m362.1 10 ∧ m362.1 10 ≤ 8 := Tm362.1 10
                        have g371 : (-1) ≤ m362.1 11 ∧ m362.1 11 ≤ 4000 := Tm362.1 11
                        replace h363 : LxP (m362.1 7) (m362.1 8) (m362.1 9) (m355.1 6) (m362.1 10) := h363
                        rewrite [(show (m355.1 6) = (m.1 6) from ((fr1 Fm355 6 rfl).trans ((fr1 Fm235 6 rfl).trans ((fr1 Fm34 6 rfl).trans ((fr1 Fm17 6 rfl).trans (fr1 Fm3 6 rfl))))))] at h363
                        replace h364 : (m362.1 10) = 0 → (m355.1 10) = 0 ∧ (m355.1 7) = (41 : Int) := h364
                        rewrite [(show (m355.1 7) = (m235.1 7) from (fr1 Fm355 7 rfl))] at h364
                        replace h365 : (m355.1 8) ≤ (m362.1 8) := h365
                        rewrite [(show (m355.1 8) = (m235.1 8) from (fr1 Fm355 8 rfl))] at h365
                        replace h366 : (m362.1 10) = 0 → (m355.1 8) + (m355.1 9) ≤ (m362.1 8) := h366
                        rewrite [(show (m355.1 8) = (m235.1 8) from (fr1 Fm355 8 rfl)), (show (m355.1 9) = (m235.1 9) from (fr1 Fm355 9 rfl))] at h366
                        have hf372 : 1 ≤ (m362.1 10) := by omega
                        clear h364
                        clear h366
                        have hLx := h363
                        clear q245_7 q245_9 ic240 h254 g357 g358 hf359
                        refine T_ld 194 (.ref 189) rfl (fun _ => rfl) ?_
                        refine T_ld 196 (.int (i32 59)) rfl (fun _ => rfl) ?_
                        refine T_call 199 232 [.ref 189, .int (i32 59)] [] rfl (fun _ => rfl) rfl (d_need w (mO m362 [] []) c N D (by omega) Tm362 59 ⟨by decide, by decide⟩ (show 1 ≤ (59 : Int) by omega) (show LxP (m362.1 7) (m362.1 8) (m362.1 9) (m362.1 6) (m362.1 10) by rewrite [(show (m362.1 6) = (m.1 6) from ((fr1 Fm362 6 rfl).trans ((fr1 Fm355 6 rfl).trans ((fr1 Fm235 6 rfl).trans ((fr1 Fm34 6 rfl).trans ((fr1 Fm17 6 rfl).trans (fr1 Fm3 6 rfl)))))))]; first | exact hLx | (intro h9; exfalso; omega) | (intro h9; have h8 := hLx (by omega); omega))) (fun rr373 k374 => ?_)
                        obtain ⟨m375, Tm375, Fm375, h376, h377, h378, h379, rfl⟩ := k374
                        refine ⟨_, _, rfl, ?_⟩
                        refine T_nb (st' := []) rfl ?_
                        have g380 : 0 ≤ m375.1 7 ∧ m375.1 7 ≤ 330 := Tm375.1 7
                        have g381 : 0 ≤ m375.1 8 ∧ m375.1 8 ≤ 4000 := Tm375.1 8
                        have g382 : 0 ≤ m375.1 9 ∧ m375.1 9 ≤ 4000 := Tm375.1 9
                        have g383 : 0 ≤ m375.1 10 ∧ m375.1 10 ≤ 8 := Tm375.1 10
                        have g384 : (-1) ≤ m375.1 11 ∧ m375.1 11 ≤ 4000 := Tm375.1 11
                        replace h376 : LxP (m375.1 7) (m375.1 8) (m375.1 9) (m362.1 6) (m375.1 10) := h376
                        rewrite [(show (m362.1 6) = (m.1 6) from ((fr1 Fm362 6 rfl).trans ((fr1 Fm355 6 rfl).trans ((fr1 Fm235 6 rfl).trans ((fr1 Fm34 6 rfl).trans ((fr1 Fm17 6 rfl).trans (fr1 Fm3 6 rfl)))))))] at h376
                        replace h377 : (m375.1 10) = 0 → (m362.1 10) = 0 ∧ (m362.1 7) = (59 : Int) := h377
                        replace h378 : (m362.1 8) ≤ (m375.1 8) := h378
                        replace h379 : (m375.1 10) = 0 → (m362.1 8) + (m362.1 9) ≤ (m375.1 8) := h379
                        have hf385 : 1 ≤ (m375.1 10) := by omega
                        clear h377
                        clear h379
                        have hLx := h376
                        clear g367 g368 g369 g370 g371 hf372 h363 h365 h378
                        refine T_gf 203 (.ref 227) rfl rfl rfl rfl rfl rfl ?_
                        refine T_ld 204 (.int (i32 t)) rfl (fun _ => rfl) ?_
                        refine T_ld 205 (.int (i32 oo)) rfl (fun _ => rfl) ?_
                        have G386 : ∀ j, 0 ≤ (upI (m.2 57) t oo) j ∧ (upI (m.2 57) t oo) j ≤ 15 := upI_rg (hT.2.1 57) ⟨by omega, by omega⟩
                        refine T_iast (a' := [(57, upI (m.2 57) t oo)]) 206 57 (m.2 57) rfl rfl rfl (by omega) (show t < (8 : Int) by omega) (show (m375.2 57) = (m.2 57) from ((fr2 Fm375 57 rfl).trans ((fr2 Fm362 57 rfl).trans ((fr2 Fm355 57 rfl).trans ((fr2 Fm235 57 rfl).trans ((fr2 Fm34 57 rfl).trans ((fr2 Fm17 57 rfl).trans (fr2 Fm3 57 rfl)))))))) rfl ?_
                        refine T_ret rfl (fun _ => rfl) ?_
                        exact ⟨(mO m375 [] [(57, upI (m.2 57) t oo)]), (Ty_mO Tm375 rfl rfl trivial ⟨G386, trivial⟩), (fr_m (fr_s Fm375 (fr_m (fr_s Fm362 (fr_m (fr_s Fm355 (fr_m (fr_s Fm235 (fr_m (fr_s Fm34 (fr_m (fr_s Fm17 (fr_m (fr_s Fm3 (fr_m fr_0 rfl rfl) rfl rfl) rfl rfl) rfl rfl) rfl rfl) rfl rfl) rfl rfl) rfl rfl) rfl rfl) rfl rfl) rfl rfl) rfl rfl) rfl rfl) rfl rfl) rfl rfl), (show (m375.1 10) = 0 → (m.1 10) = 0 by omega), (show LxP (m375.1 7) (m375.1 8) (m375.1 9) (m.1 6) (m375.1 10) by first | (first | exact hLx | exact (fun _ => hLx (by omega)) | (intro h9; exfalso; omega)) | (exfalso; omega)), (fun (h : (m375.1 10) = 0) => absurd h (by omega)), rfl⟩
                  · skip
                    refine T_gf 60 (.int (i32 (m235.1 10))) rfl rfl rfl rfl rfl rfl ?_
                    refine T_if 153 63 rfl rfl rfl (r32 (by omega) (by omega)) (fun (h387 : (m235.1 10) ≠ 0) => by exfalso; omega) (fun (h387 : ¬ ((m235.1 10) ≠ 0)) => ?_)
                    have h7 := hLx (by omega)
                    refine T_ld 64 (.ref 189) rfl (fun _ => rfl) ?_
                    refine T_ld 66 (.int (i32 v233)) rfl (fun _ => rfl) ?_
                    refine T_gf 70 (.ref 216) rfl rfl rfl rfl rfl rfl ?_
                    refine T_ld 71 (.int (i32 oo)) rfl (fun _ => rfl) ?_
                    refine T_iald 72 46 (m.2 46) rfl rfl rfl (by omega) (show oo < (16 : Int) by omega) (show (m235.2 46) = (m.2 46) from ((fr2 Fm235 46 rfl).trans ((fr2 Fm34 46 rfl).trans ((fr2 Fm17 46 rfl).trans (fr2 Fm3 46 rfl))))) ?_
                    have e388 : 0 ≤ m.2 46 oo ∧ m.2 46 oo ≤ 4 := hT.2.1 46 oo
                    refine T_icmp 89 75 rfl rfl rfl (r32 (by omega) (by omega)) (r32 (by omega) (by omega)) (fun (h389 : (m.2 46) oo ≤ v233) => ?_) (fun (h389 : ¬ ((m.2 46) oo ≤ v233)) => ?_)
                    · skip
                      refine T_ld 91 (.int (i32 64)) rfl (fun _ => rfl) ?_
                      refine T_call 94 266 [.ref 189, .int (i32 64)] [] rfl (fun _ => rfl) rfl (c_caseNumber w (mO m235 [] []) c N D (by omega) Tm235 64 ⟨by decide, by decide⟩ (show LxP (m235.1 7) (m235.1 8) (m235.1 9) (m235.1 6) (m235.1 10) by rewrite [(show (m235.1 6) = (m.1 6) from ((fr1 Fm235 6 rfl).trans ((fr1 Fm34 6 rfl).trans ((fr1 Fm17 6 rfl).trans (fr1 Fm3 6 rfl)))))]; first | exact hLx | exact (fun _ => hLx (by omega)) | (intro h9; exfalso; omega)) (fun _ => trivial)) (fun rr390 k391 => ?_)
                      obtain ⟨m392, x393, Tm392, Fm392, g394, h395, h396, c397, rfl⟩ := k391
                      refine ⟨_, _, rfl, ?_⟩
                      refine T_nb (st' := [.long (i64 x393)]) rfl ?_
                      obtain ⟨g394a, g394b⟩ := g394
                      have g398 : 0 ≤ m392.1 7 ∧ m392.1 7 ≤ 330 := Tm392.1 7
                      have g399 : 0 ≤ m392.1 8 ∧ m392.1 8 ≤ 4000 := Tm392.1 8
                      have g400 : 0 ≤ m392.1 9 ∧ m392.1 9 ≤ 4000 := Tm392.1 9
                      have g401 : 0 ≤ m392.1 10 ∧ m392.1 10 ≤ 8 := Tm392.1 10
                      have g402 : (-1) ≤ m392.1 11 ∧ m392.1 11 ≤ 4000 := Tm392.1 11
                      by_cases hf403 : (m392.1 10) = 0
                      · skip
                        replace h395 : (m235.1 10) = 0 := h395 hf403
                        replace h396 : LxP (m392.1 7) (m392.1 8) (m392.1 9) (m235.1 6) (m392.1 10) := h396
                        rewrite [(show (m235.1 6) = (m.1 6) from ((fr1 Fm235 6 rfl).trans ((fr1 Fm34 6 rfl).trans ((fr1 Fm17 6 rfl).trans (fr1 Fm3 6 rfl)))))] at h396
                        have hLx := h396
                        obtain ⟨c404, c405⟩ := c397 hf403
                        replace c404 : (m235.1 8) + 1 ≤ (m392.1 8) := c404
                        replace c405 : (m235.1 7) = 2 := c405
                        clear c397
                        have u406 : (m235.1 8) + 1 ≤ (m392.1 8) := by omega
                        have u407 : (m.1 8) + 1 ≤ (m392.1 8) := by omega
                        clear g39 g40 g41 g42 g43 h35 u45 h46 h47 q245_7 q245_9 q245_11 ic240 c405
                        refine T_sto 96 [(6, .long (i64 x393)), (0, .ref 189), (1, .int (i32 t)), (2, .int (i32 (m3.1 8))), (3, .int (i32 oo)), (4, .int (i32 v233)), (5, .int (i32 v234))] rfl (fun _ => rfl) ?_
                        refine T_ld 98 (.int (i32 v233)) rfl (fun _ => rfl) ?_
                        refine T_ld 99 (.int (i32 4)) rfl (fun _ => rfl) ?_
                        refine T_icmp 115 102 rfl rfl rfl (r32 (by omega) (by omega)) ⟨by decide, by decide⟩ (fun (h408 : (4 : Int) ≤ v233) => ?_) (fun (h408 : ¬ ((4 : Int) ≤ v233)) => ?_)
                        · skip
                          refine T_iinc 118 [(4, .int (i32 (v233 + 1))), (6, .long (i64 x393)), (0, .ref 189), (1, .int (i32 t)), (2, .int (i32 (m3.1 8))), (3, .int (i32 oo)), (5, .int (i32 v234))] rfl rfl (by decide) rfl rfl ?_
                          refine T_gf 122 (.int (i32 (m392.1 10))) rfl rfl rfl rfl rfl rfl ?_
                          refine T_if 138 125 rfl rfl rfl (r32 (by omega) (by omega)) (fun (h409 : (m392.1 10) ≠ 0) => by exfalso; omega) (fun (h409 : ¬ ((m392.1 10) ≠ 0)) => ?_)
                          refine T_gf 129 (.int (i32 (m392.1 7))) rfl rfl rfl rfl rfl rfl ?_
                          refine T_ld 131 (.int (i32 44)) rfl (fun _ => rfl) ?_
                          refine T_icmp 138 134 rfl rfl rfl (r32 (by omega) (by omega)) ⟨by decide, by decide⟩ (fun (h410 : (m392.1 7) ≠ 44) => ?_) (fun (h410 : ¬ ((m392.1 7) ≠ 44)) => ?_)
                          · skip
                            refine T_ld 139 (.int (i32 0)) rfl (fun _ => rfl) ?_
                            refine T_sto 141 [(5, .int (i32 0)), (4, .int (i32 (v233 + 1))), (6, .long (i64 x393)), (0, .ref 189), (1, .int (i32 t)), (2, .int (i32 (m3.1 8))), (3, .int (i32 oo))] rfl (fun _ => rfl) ?_
                            refine T_ld 143 (.int (i32 0)) rfl (fun _ => rfl) ?_
                            refine T_if 150 146 rfl rfl rfl ⟨by decide, by decide⟩ (fun _ => ?_) (fun h411 => absurd (show (0 : Int) = 0 by decide) h411)
                            refine T_goto 51 rfl (fun _ => rfl) ?_
                            refine Tm_lv (a := [(0, .ref 189), (1, .int (i32 t)), (2, .int (i32 (m3.1 8))), (3, .int (i32 oo)), (4, .int (i32 (v233 + 1))), (5, .int (i32 0))]) rfl rfl ⟨rfl, rfl, rfl, rfl, rfl, rfl, trivial⟩ ?_
                            exact ih248 (v233 + 1) 0 (mO m392 [] []) (r32 (by omega) (by omega)) ⟨by decide, by decide⟩ Tm392 (fr_m (fr_s Fm392 (fr_m (fr_s Fm235 (fr_m fr_0 rfl rfl) rfl rfl) rfl rfl) rfl rfl) rfl rfl) (show 0 ≤ (v233 + 1) by omega) (show 0 ≤ (0 : Int) by omega) (show (0 : Int) ≤ 1 by omega) (show LxP (m392.1 7) (m392.1 8) (m392.1 9) (m.1 6) (m392.1 10) by first | exact hLx | exact (fun _ => hLx (by omega)) | (intro h9; exfalso; omega)) (show (0 : Int) = 0 ∨ (0 : Int) = 1 by omega) (show 0 ≤ (v233 + 1) ∧ (v233 + 1) ≤ 5000 by omega) (fun _ => ⟨(show (m.1 8) + 1 ≤ (m392.1 8) by omega), (show (v233 + 1) ≤ (m392.1 8) by omega)⟩) (show 1000000 * (8 - (m392.1 10)) + 2 * (4000 - (m392.1 8)) + (0 : Int) < (n247 : Int) by omega)
                          · skip
                            refine T_ld 135 (.int (i32 1)) rfl (fun _ => rfl) ?_
                            refine T_goto 139 rfl (fun _ => rfl) ?_
                            refine T_sto 141 [(5, .int (i32 1)), (4, .int (i32 (v233 + 1))), (6, .long (i64 x393)), (0, .ref 189), (1, .int (i32 t)), (2, .int (i32 (m3.1 8))), (3, .int (i32 oo))] rfl (fun _ => rfl) ?_
                            refine T_ld 143 (.int (i32 1)) rfl (fun _ => rfl) ?_
                            refine T_if 150 146 rfl rfl rfl ⟨by decide, by decide⟩ (fun h412 => absurd (show (1 : Int) = 0 from h412) (by decide)) (fun _ => ?_)
                            refine T_ld 147 (.ref 189) rfl (fun _ => rfl) ?_
                            have h7 := hLx (by omega)
                            refine T_call 150 212 [.ref 189] [] rfl (fun _ => rfl) rfl (d_next w (mO m392 [] []) c N D (by omega) Tm392 (show (m392.1 10) = 0 → (m392.1 8) + (m392.1 9) ≤ (m392.1 6) by rewrite [(show (m392.1 6) = (m.1 6) from ((fr1 Fm392 6 rfl).trans ((fr1 Fm235 6 rfl).trans ((fr1 Fm34 6 rfl).trans ((fr1 Fm17 6 rfl).trans (fr1 Fm3 6 rfl))))))]; first | omega | (intro h9; have h8 := hLx h9; omega))) (fun rr413 k414 => ?_)
                            obtain ⟨m415, Tm415, Fm415, h416, h417, h418, h419, rfl⟩ := k414
                            refine ⟨_, _, rfl, ?_⟩
                            refine T_nb (st' := []) rfl ?_
                            have g420 : 0 ≤ m415.1 7 ∧ m415.1 7 ≤ 330 := Tm415.1 7
                            have g421 : 0 ≤ m415.1 8 ∧ m415.1 8 ≤ 4000 := Tm415.1 8
                            have g422 : 0 ≤ m415.1 9 ∧ m415.1 9 ≤ 4000 := Tm415.1 9
                            have g423 : 0 ≤ m415.1 10 ∧ m415.1 10 ≤ 8 := Tm415.1 10
                            have g424 : (-1) ≤ m415.1 11 ∧ m415.1 11 ≤ 4000 := Tm415.1 11
                            by_cases hf425 : (m415.1 10) = 0
                            · skip
                              replace h416 : LxP (m415.1 7) (m415.1 8) (m415.1 9) (m392.1 6) (m415.1 10) := h416
                              rewrite [(show (m392.1 6) = (m.1 6) from ((fr1 Fm392 6 rfl).trans ((fr1 Fm235 6 rfl).trans ((fr1 Fm34 6 rfl).trans ((fr1 Fm17 6 rfl).trans (fr1 Fm3 6 rfl))))))] at h416
                              have hLx := h416
                              replace h417 : (m392.1 10) = 0 := h417 hf425
                              replace h418 : (m392.1 8) ≤ (m415.1 8) := h418
                              replace h419 : (m392.1 8) + (m392.1 9) ≤ (m415.1 8) := h419 hf425
                              have u426 : (m235.1 8) + 1 ≤ (m415.1 8) := by omega
                              have u427 : (m.1 8) + 1 ≤ (m415.1 8) := by omega
                              clear g398 g399 g400 g401 g402 h396 c404 u407 u406 h409 h410 h417 h418 h419
                              refine T_goto 51 rfl (fun _ => rfl) ?_
                              refine Tm_lv (a := [(0, .ref 189), (1, .int (i32 t)), (2, .int (i32 (m3.1 8))), (3, .int (i32 oo)), (4, .int (i32 (v233 + 1))), (5, .int (i32 1))]) rfl rfl ⟨rfl, rfl, rfl, rfl, rfl, rfl, trivial⟩ ?_
                              exact ih248 (v233 + 1) 1 (mO m415 [] []) (r32 (by omega) (by omega)) ⟨by decide, by decide⟩ Tm415 (fr_m (fr_s Fm415 (fr_m (fr_s Fm392 (fr_m (fr_s Fm235 (fr_m fr_0 rfl rfl) rfl rfl) rfl rfl) rfl rfl) rfl rfl) rfl rfl) rfl rfl) (show 0 ≤ (v233 + 1) by omega) (show 0 ≤ (1 : Int) by omega) (show (1 : Int) ≤ 1 by omega) (show LxP (m415.1 7) (m415.1 8) (m415.1 9) (m.1 6) (m415.1 10) by first | exact hLx | exact (fun _ => hLx (by omega)) | (intro h9; exfalso; omega)) (show (1 : Int) = 0 ∨ (1 : Int) = 1 by omega) (show 0 ≤ (v233 + 1) ∧ (v233 + 1) ≤ 5000 by omega) (fun _ => ⟨(show (m.1 8) + 1 ≤ (m415.1 8) by omega), (show (v233 + 1) ≤ (m415.1 8) by omega)⟩) (show 1000000 * (8 - (m415.1 10)) + 2 * (4000 - (m415.1 8)) + (1 : Int) < (n247 : Int) by omega)
                            · skip
                              replace h416 : LxP (m415.1 7) (m415.1 8) (m415.1 9) (m392.1 6) (m415.1 10) := h416
                              rewrite [(show (m392.1 6) = (m.1 6) from ((fr1 Fm392 6 rfl).trans ((fr1 Fm235 6 rfl).trans ((fr1 Fm34 6 rfl).trans ((fr1 Fm17 6 rfl).trans (fr1 Fm3 6 rfl))))))] at h416
                              have hLx := h416
                              clear h417
                              replace h418 : (m392.1 8) ≤ (m415.1 8) := h418
                              clear h419
                              have hf428 : 1 ≤ (m415.1 10) := by omega
                              clear g398 g399 g400 g401 g402 h396 c404 u407 u406 h409 h410 h418
                              refine T_goto 51 rfl (fun _ => rfl) ?_
                              refine Tm_lv (a := [(0, .ref 189), (1, .int (i32 t)), (2, .int (i32 (m3.1 8))), (3, .int (i32 oo)), (4, .int (i32 (v233 + 1))), (5, .int (i32 1))]) rfl rfl ⟨rfl, rfl, rfl, rfl, rfl, rfl, trivial⟩ ?_
                              exact ih248 (v233 + 1) 1 (mO m415 [] []) (r32 (by omega) (by omega)) ⟨by decide, by decide⟩ Tm415 (fr_m (fr_s Fm415 (fr_m (fr_s Fm392 (fr_m (fr_s Fm235 (fr_m fr_0 rfl rfl) rfl rfl) rfl rfl) rfl rfl) rfl rfl) rfl rfl) rfl rfl) (show 0 ≤ (v233 + 1) by omega) (show 0 ≤ (1 : Int) by omega) (show (1 : Int) ≤ 1 by omega) (show LxP (m415.1 7) (m415.1 8) (m415.1 9) (m.1 6) (m415.1 10) by first | exact hLx | exact (fun _ => hLx (by omega)) | (intro h9; exfalso; omega)) (show (1 : Int) = 0 ∨ (1 : Int) = 1 by omega) (show 0 ≤ (v233 + 1) ∧ (v233 + 1) ≤ 5000 by omega) (fun (h : (m415.1 10) = 0) => absurd h (by omega)) (show 1000000 * (8 - (m415.1 10)) + 2 * (4000 - (m415.1 8)) + (1 : Int) < (n247 : Int) by omega)
                        · skip
                          refine T_gf 106 (.ref 275) rfl rfl rfl rfl rfl rfl ?_
                          refine T_ld 107 (.int (i32 4)) rfl (fun _ => rfl) ?_
                          refine T_ld 108 (.int (i32 t)) rfl (fun _ => rfl) ?_
                          refine T_imul 109 rfl rfl ?_
                          refine T_ld 111 (.int (i32 v233)) rfl (fun _ => rfl) ?_
                          refine T_iadd 112 rfl rfl ?_
                          refine T_ld 114 (.long (i64 x393)) rfl (fun _ => rfl) ?_
                          have G429 : ∀ j, (-9223372036854775808) ≤ (upI (m235.2 115) ((4 * t) + v233) x393) j ∧ (upI (m235.2 115) ((4 * t) + v233) x393) j ≤ 9223372036854775807 := upI_rg (Tm235.2.1 115) ⟨by omega, by omega⟩
                          refine T_last (a' := [(115, upI (m235.2 115) ((4 * t) + v233) x393)]) 115 115 (m235.2 115) rfl rfl rfl (by omega) (show ((4 * t) + v233) < (32 : Int) by omega) (show (m392.2 115) = (m235.2 115) from (fr2 Fm392 115 rfl)) rfl ?_
                          refine T_iinc 118 [(4, .int (i32 (v233 + 1))), (6, .long (i64 x393)), (0, .ref 189), (1, .int (i32 t)), (2, .int (i32 (m3.1 8))), (3, .int (i32 oo)), (5, .int (i32 v234))] rfl rfl (by decide) rfl rfl ?_
                          refine T_gf 122 (.int (i32 (m392.1 10))) rfl rfl rfl rfl rfl rfl ?_
                          refine T_if 138 125 rfl rfl rfl (r32 (by omega) (by omega)) (fun (h430 : (m392.1 10) ≠ 0) => by exfalso; omega) (fun (h430 : ¬ ((m392.1 10) ≠ 0)) => ?_)
                          refine T_gf 129 (.int (i32 (m392.1 7))) rfl rfl rfl rfl rfl rfl ?_
                          refine T_ld 131 (.int (i32 44)) rfl (fun _ => rfl) ?_
                          refine T_icmp 138 134 rfl rfl rfl (r32 (by omega) (by omega)) ⟨by decide, by decide⟩ (fun (h431 : (m392.1 7) ≠ 44) => ?_) (fun (h431 : ¬ ((m392.1 7) ≠ 44)) => ?_)
                          · skip
                            refine T_ld 139 (.int (i32 0)) rfl (fun _ => rfl) ?_
                            refine T_sto 141 [(5, .int (i32 0)), (4, .int (i32 (v233 + 1))), (6, .long (i64 x393)), (0, .ref 189), (1, .int (i32 t)), (2, .int (i32 (m3.1 8))), (3, .int (i32 oo))] rfl (fun _ => rfl) ?_
                            refine T_ld 143 (.int (i32 0)) rfl (fun _ => rfl) ?_
                            refine T_if 150 146 rfl rfl rfl ⟨by decide, by decide⟩ (fun _ => ?_) (fun h432 => absurd (show (0 : Int) = 0 by decide) h432)
                            refine T_goto 51 rfl (fun _ => rfl) ?_
                            refine Tm_lv (a := [(0, .ref 189), (1, .int (i32 t)), (2, .int (i32 (m3.1 8))), (3, .int (i32 oo)), (4, .int (i32 (v233 + 1))), (5, .int (i32 0))]) rfl rfl ⟨rfl, rfl, rfl, rfl, rfl, rfl, trivial⟩ ?_
                            exact ih248 (v233 + 1) 0 (mO m392 [] [(115, upI (m235.2 115) ((4 * t) + v233) x393)]) (r32 (by omega) (by omega)) ⟨by decide, by decide⟩ (Ty_mO Tm392 rfl rfl trivial ⟨G429, trivial⟩) (fr_m (fr_s Fm392 (fr_m (fr_s Fm235 (fr_m fr_0 rfl rfl) rfl rfl) rfl rfl) rfl rfl) rfl rfl) (show 0 ≤ (v233 + 1) by omega) (show 0 ≤ (0 : Int) by omega) (show (0 : Int) ≤ 1 by omega) (show LxP (m392.1 7) (m392.1 8) (m392.1 9) (m.1 6) (m392.1 10) by first | exact hLx | exact (fun _ => hLx (by omega)) | (intro h9; exfalso; omega)) (show (0 : Int) = 0 ∨ (0 : Int) = 1 by omega) (show 0 ≤ (v233 + 1) ∧ (v233 + 1) ≤ 5000 by omega) (fun _ => ⟨(show (m.1 8) + 1 ≤ (m392.1 8) by omega), (show (v233 + 1) ≤ (m392.1 8) by omega)⟩) (show 1000000 * (8 - (m392.1 10)) + 2 * (4000 - (m392.1 8)) + (0 : Int) < (n247 : Int) by omega)
                          · skip
                            refine T_ld 135 (.int (i32 1)) rfl (fun _ => rfl) ?_
                            refine T_goto 139 rfl (fun _ => rfl) ?_
                            refine T_sto 141 [(5, .int (i32 1)), (4, .int (i32 (v233 + 1))), (6, .long (i64 x393)), (0, .ref 189), (1, .int (i32 t)), (2, .int (i32 (m3.1 8))), (3, .int (i32 oo))] rfl (fun _ => rfl) ?_
                            refine T_ld 143 (.int (i32 1)) rfl (fun _ => rfl) ?_
                            refine T_if 150 146 rfl rfl rfl ⟨by decide, by decide⟩ (fun h433 => absurd (show (1 : Int) = 0 from h433) (by decide)) (fun _ => ?_)
                            refine T_ld 147 (.ref 189) rfl (fun _ => rfl) ?_
                            have h7 := hLx (by omega)
                            refine T_call 150 212 [.ref 189] [] rfl (fun _ => rfl) rfl (d_next w (mO m392 [] [(115, upI (m235.2 115) ((4 * t) + v233) x393)]) c N D (by omega) (Ty_mO Tm392 rfl rfl trivial ⟨G429, trivial⟩) (show (m392.1 10) = 0 → (m392.1 8) + (m392.1 9) ≤ (m392.1 6) by rewrite [(show (m392.1 6) = (m.1 6) from ((fr1 Fm392 6 rfl).trans ((fr1 Fm235 6 rfl).trans ((fr1 Fm34 6 rfl).trans ((fr1 Fm17 6 rfl).trans (fr1 Fm3 6 rfl))))))]; first | omega | (intro h9; have h8 := hLx h9; omega))) (fun rr434 k435 => ?_)
                            obtain ⟨m436, Tm436, Fm436, h437, h438, h439, h440, rfl⟩ := k435
                            refine ⟨_, _, rfl, ?_⟩
                            refine T_nb (st' := []) rfl ?_
                            have g441 : 0 ≤ m436.1 7 ∧ m436.1 7 ≤ 330 := Tm436.1 7
                            have g442 : 0 ≤ m436.1 8 ∧ m436.1 8 ≤ 4000 := Tm436.1 8
                            have g443 : 0 ≤ m436.1 9 ∧ m436.1 9 ≤ 4000 := Tm436.1 9
                            have g444 : 0 ≤ m436.1 10 ∧ m436.1 10 ≤ 8 := Tm436.1 10
                            have g445 : (-1) ≤ m436.1 11 ∧ m436.1 11 ≤ 4000 := Tm436.1 11
                            by_cases hf446 : (m436.1 10) = 0
                            · skip
                              replace h437 : LxP (m436.1 7) (m436.1 8) (m436.1 9) (m392.1 6) (m436.1 10) := h437
                              rewrite [(show (m392.1 6) = (m.1 6) from ((fr1 Fm392 6 rfl).trans ((fr1 Fm235 6 rfl).trans ((fr1 Fm34 6 rfl).trans ((fr1 Fm17 6 rfl).trans (fr1 Fm3 6 rfl))))))] at h437
                              have hLx := h437
                              replace h438 : (m392.1 10) = 0 := h438 hf446
                              replace h439 : (m392.1 8) ≤ (m436.1 8) := h439
                              replace h440 : (m392.1 8) + (m392.1 9) ≤ (m436.1 8) := h440 hf446
                              have u447 : (m235.1 8) + 1 ≤ (m436.1 8) := by omega
                              have u448 : (m.1 8) + 1 ≤ (m436.1 8) := by omega
                              clear g398 g399 g400 g401 g402 h396 c404 u407 u406 h430 h431 h438 h439 h440
                              refine T_goto 51 rfl (fun _ => rfl) ?_
                              refine Tm_lv (a := [(0, .ref 189), (1, .int (i32 t)), (2, .int (i32 (m3.1 8))), (3, .int (i32 oo)), (4, .int (i32 (v233 + 1))), (5, .int (i32 1))]) rfl rfl ⟨rfl, rfl, rfl, rfl, rfl, rfl, trivial⟩ ?_
                              exact ih248 (v233 + 1) 1 (mO m436 [] []) (r32 (by omega) (by omega)) ⟨by decide, by decide⟩ Tm436 (fr_m (fr_s Fm436 (fr_m (fr_s Fm392 (fr_m (fr_s Fm235 (fr_m fr_0 rfl rfl) rfl rfl) rfl rfl) rfl rfl) rfl rfl) rfl rfl) rfl rfl) (show 0 ≤ (v233 + 1) by omega) (show 0 ≤ (1 : Int) by omega) (show (1 : Int) ≤ 1 by omega) (show LxP (m436.1 7) (m436.1 8) (m436.1 9) (m.1 6) (m436.1 10) by first | exact hLx | exact (fun _ => hLx (by omega)) | (intro h9; exfalso; omega)) (show (1 : Int) = 0 ∨ (1 : Int) = 1 by omega) (show 0 ≤ (v233 + 1) ∧ (v233 + 1) ≤ 5000 by omega) (fun _ => ⟨(show (m.1 8) + 1 ≤ (m436.1 8) by omega), (show (v233 + 1) ≤ (m436.1 8) by omega)⟩) (show 1000000 * (8 - (m436.1 10)) + 2 * (4000 - (m436.1 8)) + (1 : Int) < (n247 : Int) by omega)
                            · skip
                              replace h437 : LxP (m436.1 7) (m436.1 8) (m436.1 9) (m392.1 6) (m436.1 10) := h437
                              rewrite [(show (m392.1 6) = (m.1 6) from ((fr1 Fm392 6 rfl).trans ((fr1 Fm235 6 rfl).trans ((fr1 Fm34 6 rfl).trans ((fr1 Fm17 6 rfl).trans (fr1 Fm3 6 rfl))))))] at h437
                              have hLx := h437
                              clear h438
                              replace h439 : (m392.1 8) ≤ (m436.1 8) := h439
                              clear h440
                              have hf449 : 1 ≤ (m436.1 10) := by omega
                              clear g398 g399 g400 g401 g402 h396 c404 u407 u406 h430 h431 h439
                              refine T_goto 51 rfl (fun _ => rfl) ?_
                              refine Tm_lv (a := [(0, .ref 189), (1, .int (i32 t)), (2, .int (i32 (m3.1 8))), (3, .int (i32 oo)), (4, .int (i32 (v233 + 1))), (5, .int (i32 1))]) rfl rfl ⟨rfl, rfl, rfl, rfl, rfl, rfl, trivial⟩ ?_
                              exact ih248 (v233 + 1) 1 (mO m436 [] []) (r32 (by omega) (by omega)) ⟨by decide, by decide⟩ Tm436 (fr_m (fr_s Fm436 (fr_m (fr_s Fm392 (fr_m (fr_s Fm235 (fr_m fr_0 rfl rfl) rfl rfl) rfl rfl) rfl rfl) rfl rfl) rfl rfl) rfl rfl) (show 0 ≤ (v233 + 1) by omega) (show 0 ≤ (1 : Int) by omega) (show (1 : Int) ≤ 1 by omega) (show LxP (m436.1 7) (m436.1 8) (m436.1 9) (m.1 6) (m436.1 10) by first | exact hLx | exact (fun _ => hLx (by omega)) | (intro h9; exfalso; omega)) (show (1 : Int) = 0 ∨ (1 : Int) = 1 by omega) (show 0 ≤ (v233 + 1) ∧ (v233 + 1) ≤ 5000 by omega) (fun (h : (m436.1 10) = 0) => absurd h (by omega)) (show 1000000 * (8 - (m436.1 10)) + 2 * (4000 - (m436.1 8)) + (1 : Int) < (n247 : Int) by omega)
                      · skip
                        clear c397
                        clear h395
                        replace h396 : LxP (m392.1 7) (m392.1 8) (m392.1 9) (m235.1 6) (m392.1 10) := h396
                        rewrite [(show (m235.1 6) = (m.1 6) from ((fr1 Fm235 6 rfl).trans ((fr1 Fm34 6 rfl).trans ((fr1 Fm17 6 rfl).trans (fr1 Fm3 6 rfl)))))] at h396
                        have hLx := h396
                        have hf450 : 1 ≤ (m392.1 10) := by omega
                        clear g39 g40 g41 g42 g43 h35 u45 h46 h47 q245_7 q245_9 q245_11 ic240
                        refine T_sto 96 [(6, .long (i64 x393)), (0, .ref 189), (1, .int (i32 t)), (2, .int (i32 (m3.1 8))), (3, .int (i32 oo)), (4, .int (i32 v233)), (5, .int (i32 v234))] rfl (fun _ => rfl) ?_
                        refine T_ld 98 (.int (i32 v233)) rfl (fun _ => rfl) ?_
                        refine T_ld 99 (.int (i32 4)) rfl (fun _ => rfl) ?_
                        refine T_icmp 115 102 rfl rfl rfl (r32 (by omega) (by omega)) ⟨by decide, by decide⟩ (fun (h451 : (4 : Int) ≤ v233) => ?_) (fun (h451 : ¬ ((4 : Int) ≤ v233)) => ?_)
                        · skip
                          refine T_iinc 118 [(4, .int (i32 (v233 + 1))), (6, .long (i64 x393)), (0, .ref 189), (1, .int (i32 t)), (2, .int (i32 (m3.1 8))), (3, .int (i32 oo)), (5, .int (i32 v234))] rfl rfl (by decide) rfl rfl ?_
                          refine T_gf 122 (.int (i32 (m392.1 10))) rfl rfl rfl rfl rfl rfl ?_
                          refine T_if 138 125 rfl rfl rfl (r32 (by omega) (by omega)) (fun (h452 : (m392.1 10) ≠ 0) => ?_) (fun (h452 : ¬ ((m392.1 10) ≠ 0)) => by exfalso; omega)
                          refine T_ld 139 (.int (i32 0)) rfl (fun _ => rfl) ?_
                          refine T_sto 141 [(5, .int (i32 0)), (4, .int (i32 (v233 + 1))), (6, .long (i64 x393)), (0, .ref 189), (1, .int (i32 t)), (2, .int (i32 (m3.1 8))), (3, .int (i32 oo))] rfl (fun _ => rfl) ?_
                          refine T_ld 143 (.int (i32 0)) rfl (fun _ => rfl) ?_
                          refine T_if 150 146 rfl rfl rfl ⟨by decide, by decide⟩ (fun _ => ?_) (fun h453 => absurd (show (0 : Int) = 0 by decide) h453)
                          refine T_goto 51 rfl (fun _ => rfl) ?_
                          refine Tm_lv (a := [(0, .ref 189), (1, .int (i32 t)), (2, .int (i32 (m3.1 8))), (3, .int (i32 oo)), (4, .int (i32 (v233 + 1))), (5, .int (i32 0))]) rfl rfl ⟨rfl, rfl, rfl, rfl, rfl, rfl, trivial⟩ ?_
                          exact ih248 (v233 + 1) 0 (mO m392 [] []) (r32 (by omega) (by omega)) ⟨by decide, by decide⟩ Tm392 (fr_m (fr_s Fm392 (fr_m (fr_s Fm235 (fr_m fr_0 rfl rfl) rfl rfl) rfl rfl) rfl rfl) rfl rfl) (show 0 ≤ (v233 + 1) by omega) (show 0 ≤ (0 : Int) by omega) (show (0 : Int) ≤ 1 by omega) (show LxP (m392.1 7) (m392.1 8) (m392.1 9) (m.1 6) (m392.1 10) by first | exact hLx | exact (fun _ => hLx (by omega)) | (intro h9; exfalso; omega)) (show (0 : Int) = 0 ∨ (0 : Int) = 1 by omega) (show 0 ≤ (v233 + 1) ∧ (v233 + 1) ≤ 5000 by omega) (fun (h : (m392.1 10) = 0) => absurd h (by omega)) (show 1000000 * (8 - (m392.1 10)) + 2 * (4000 - (m392.1 8)) + (0 : Int) < (n247 : Int) by omega)
                        · skip
                          refine T_gf 106 (.ref 275) rfl rfl rfl rfl rfl rfl ?_
                          refine T_ld 107 (.int (i32 4)) rfl (fun _ => rfl) ?_
                          refine T_ld 108 (.int (i32 t)) rfl (fun _ => rfl) ?_
                          refine T_imul 109 rfl rfl ?_
                          refine T_ld 111 (.int (i32 v233)) rfl (fun _ => rfl) ?_
                          refine T_iadd 112 rfl rfl ?_
                          refine T_ld 114 (.long (i64 x393)) rfl (fun _ => rfl) ?_
                          have G454 : ∀ j, (-9223372036854775808) ≤ (upI (m235.2 115) ((4 * t) + v233) x393) j ∧ (upI (m235.2 115) ((4 * t) + v233) x393) j ≤ 9223372036854775807 := upI_rg (Tm235.2.1 115) ⟨by omega, by omega⟩
                          refine T_last (a' := [(115, upI (m235.2 115) ((4 * t) + v233) x393)]) 115 115 (m235.2 115) rfl rfl rfl (by omega) (show ((4 * t) + v233) < (32 : Int) by omega) (show (m392.2 115) = (m235.2 115) from (fr2 Fm392 115 rfl)) rfl ?_
                          refine T_iinc 118 [(4, .int (i32 (v233 + 1))), (6, .long (i64 x393)), (0, .ref 189), (1, .int (i32 t)), (2, .int (i32 (m3.1 8))), (3, .int (i32 oo)), (5, .int (i32 v234))] rfl rfl (by decide) rfl rfl ?_
                          refine T_gf 122 (.int (i32 (m392.1 10))) rfl rfl rfl rfl rfl rfl ?_
                          refine T_if 138 125 rfl rfl rfl (r32 (by omega) (by omega)) (fun (h455 : (m392.1 10) ≠ 0) => ?_) (fun (h455 : ¬ ((m392.1 10) ≠ 0)) => by exfalso; omega)
                          refine T_ld 139 (.int (i32 0)) rfl (fun _ => rfl) ?_
                          refine T_sto 141 [(5, .int (i32 0)), (4, .int (i32 (v233 + 1))), (6, .long (i64 x393)), (0, .ref 189), (1, .int (i32 t)), (2, .int (i32 (m3.1 8))), (3, .int (i32 oo))] rfl (fun _ => rfl) ?_
                          refine T_ld 143 (.int (i32 0)) rfl (fun _ => rfl) ?_
                          refine T_if 150 146 rfl rfl rfl ⟨by decide, by decide⟩ (fun _ => ?_) (fun h456 => absurd (show (0 : Int) = 0 by decide) h456)
                          refine T_goto 51 rfl (fun _ => rfl) ?_
                          refine Tm_lv (a := [(0, .ref 189), (1, .int (i32 t)), (2, .int (i32 (m3.1 8))), (3, .int (i32 oo)), (4, .int (i32 (v233 + 1))), (5, .int (i32 0))]) rfl rfl ⟨rfl, rfl, rfl, rfl, rfl, rfl, trivial⟩ ?_
                          exact ih248 (v233 + 1) 0 (mO m392 [] [(115, upI (m235.2 115) ((4 * t) + v233) x393)]) (r32 (by omega) (by omega)) ⟨by decide, by decide⟩ (Ty_mO Tm392 rfl rfl trivial ⟨G454, trivial⟩) (fr_m (fr_s Fm392 (fr_m (fr_s Fm235 (fr_m fr_0 rfl rfl) rfl rfl) rfl rfl) rfl rfl) rfl rfl) (show 0 ≤ (v233 + 1) by omega) (show 0 ≤ (0 : Int) by omega) (show (0 : Int) ≤ 1 by omega) (show LxP (m392.1 7) (m392.1 8) (m392.1 9) (m.1 6) (m392.1 10) by first | exact hLx | exact (fun _ => hLx (by omega)) | (intro h9; exfalso; omega)) (show (0 : Int) = 0 ∨ (0 : Int) = 1 by omega) (show 0 ≤ (v233 + 1) ∧ (v233 + 1) ≤ 5000 by omega) (fun (h : (m392.1 10) = 0) => absurd h (by omega)) (show 1000000 * (8 - (m392.1 10)) + 2 * (4000 - (m392.1 8)) + (0 : Int) < (n247 : Int) by omega)
                    · skip
                      refine T_gf 79 (.ref 219) rfl rfl rfl rfl rfl rfl ?_
                      refine T_ld 80 (.int (i32 4)) rfl (fun _ => rfl) ?_
                      refine T_ld 81 (.int (i32 oo)) rfl (fun _ => rfl) ?_
                      refine T_imul 82 rfl rfl ?_
                      refine T_ld 84 (.int (i32 v233)) rfl (fun _ => rfl) ?_
                      refine T_iadd 85 rfl rfl ?_
                      refine T_iald 86 49 (m.2 49) rfl rfl rfl (by omega) (show ((4 * oo) + v233) < (64 : Int) by omega) (show (m235.2 49) = (m.2 49) from ((fr2 Fm235 49 rfl).trans ((fr2 Fm34 49 rfl).trans ((fr2 Fm17 49 rfl).trans (fr2 Fm3 49 rfl))))) ?_
                      have e457 : 0 ≤ m.2 49 ((4 * oo) + v233) ∧ m.2 49 ((4 * oo) + v233) ≤ 64 := hT.2.1 49 ((4 * oo) + v233)
                      refine T_goto 91 rfl (fun _ => rfl) ?_
                      refine T_call 94 266 [.ref 189, .int (i32 ((m.2 49) ((4 * oo) + v233)))] [] rfl (fun _ => rfl) rfl (c_caseNumber w (mO m235 [] []) c N D (by omega) Tm235 ((m.2 49) ((4 * oo) + v233)) (r32 (by omega) (by omega)) (show LxP (m235.1 7) (m235.1 8) (m235.1 9) (m235.1 6) (m235.1 10) by rewrite [(show (m235.1 6) = (m.1 6) from ((fr1 Fm235 6 rfl).trans ((fr1 Fm34 6 rfl).trans ((fr1 Fm17 6 rfl).trans (fr1 Fm3 6 rfl)))))]; first | exact hLx | exact (fun _ => hLx (by omega)) | (intro h9; exfalso; omega)) (fun _ => trivial)) (fun rr458 k459 => ?_)
                      obtain ⟨m460, x461, Tm460, Fm460, g462, h463, h464, c465, rfl⟩ := k459
                      refine ⟨_, _, rfl, ?_⟩
                      refine T_nb (st' := [.long (i64 x461)]) rfl ?_
                      obtain ⟨g462a, g462b⟩ := g462
                      have g466 : 0 ≤ m460.1 7 ∧ m460.1 7 ≤ 330 := Tm460.1 7
                      have g467 : 0 ≤ m460.1 8 ∧ m460.1 8 ≤ 4000 := Tm460.1 8
                      have g468 : 0 ≤ m460.1 9 ∧ m460.1 9 ≤ 4000 := Tm460.1 9
                      have g469 : 0 ≤ m460.1 10 ∧ m460.1 10 ≤ 8 := Tm460.1 10
                      have g470 : (-1) ≤ m460.1 11 ∧ m460.1 11 ≤ 4000 := Tm460.1 11
                      by_cases hf471 : (m460.1 10) = 0
                      · skip
                        replace h463 : (m235.1 10) = 0 := h463 hf471
                        replace h464 : LxP (m460.1 7) (m460.1 8) (m460.1 9) (m235.1 6) (m460.1 10) := h464
                        rewrite [(show (m235.1 6) = (m.1 6) from ((fr1 Fm235 6 rfl).trans ((fr1 Fm34 6 rfl).trans ((fr1 Fm17 6 rfl).trans (fr1 Fm3 6 rfl)))))] at h464
                        have hLx := h464
                        obtain ⟨c472, c473⟩ := c465 hf471
                        replace c472 : (m235.1 8) + 1 ≤ (m460.1 8) := c472
                        replace c473 : (m235.1 7) = 2 := c473
                        clear c465
                        have u474 : (m235.1 8) + 1 ≤ (m460.1 8) := by omega
                        have u475 : (m.1 8) + 1 ≤ (m460.1 8) := by omega
                        clear g39 g40 g41 g42 g43 h35 u45 h46 h47 q245_7 q245_9 q245_11 ic240 c473
                        refine T_sto 96 [(6, .long (i64 x461)), (0, .ref 189), (1, .int (i32 t)), (2, .int (i32 (m3.1 8))), (3, .int (i32 oo)), (4, .int (i32 v233)), (5, .int (i32 v234))] rfl (fun _ => rfl) ?_
                        refine T_ld 98 (.int (i32 v233)) rfl (fun _ => rfl) ?_
                        refine T_ld 99 (.int (i32 4)) rfl (fun _ => rfl) ?_
                        refine T_icmp 115 102 rfl rfl rfl (r32 (by omega) (by omega)) ⟨by decide, by decide⟩ (fun (h476 : (4 : Int) ≤ v233) => by exfalso; omega) (fun (h476 : ¬ ((4 : Int) ≤ v233)) => ?_)
                        refine T_gf 106 (.ref 275) rfl rfl rfl rfl rfl rfl ?_
                        refine T_ld 107 (.int (i32 4)) rfl (fun _ => rfl) ?_
                        refine T_ld 108 (.int (i32 t)) rfl (fun _ => rfl) ?_
                        refine T_imul 109 rfl rfl ?_
                        refine T_ld 111 (.int (i32 v233)) rfl (fun _ => rfl) ?_
                        refine T_iadd 112 rfl rfl ?_
                        refine T_ld 114 (.long (i64 x461)) rfl (fun _ => rfl) ?_
                        have G477 : ∀ j, (-9223372036854775808) ≤ (upI (m235.2 115) ((4 * t) + v233) x461) j ∧ (upI (m235.2 115) ((4 * t) + v233) x461) j ≤ 9223372036854775807 := upI_rg (Tm235.2.1 115) ⟨by omega, by omega⟩
                        refine T_last (a' := [(115, upI (m235.2 115) ((4 * t) + v233) x461)]) 115 115 (m235.2 115) rfl rfl rfl (by omega) (show ((4 * t) + v233) < (32 : Int) by omega) (show (m460.2 115) = (m235.2 115) from (fr2 Fm460 115 rfl)) rfl ?_
                        refine T_iinc 118 [(4, .int (i32 (v233 + 1))), (6, .long (i64 x461)), (0, .ref 189), (1, .int (i32 t)), (2, .int (i32 (m3.1 8))), (3, .int (i32 oo)), (5, .int (i32 v234))] rfl rfl (by decide) rfl rfl ?_
                        refine T_gf 122 (.int (i32 (m460.1 10))) rfl rfl rfl rfl rfl rfl ?_
                        refine T_if 138 125 rfl rfl rfl (r32 (by omega) (by omega)) (fun (h478 : (m460.1 10) ≠ 0) => by exfalso; omega) (fun (h478 : ¬ ((m460.1 10) ≠ 0)) => ?_)
                        refine T_gf 129 (.int (i32 (m460.1 7))) rfl rfl rfl rfl rfl rfl ?_
                        refine T_ld 131 (.int (i32 44)) rfl (fun _ => rfl) ?_
                        refine T_icmp 138 134 rfl rfl rfl (r32 (by omega) (by omega)) ⟨by decide, by decide⟩ (fun (h479 : (m460.1 7) ≠ 44) => ?_) (fun (h479 : ¬ ((m460.1 7) ≠ 44)) => ?_)
                        · skip
                          refine T_ld 139 (.int (i32 0)) rfl (fun _ => rfl) ?_
                          refine T_sto 141 [(5, .int (i32 0)), (4, .int (i32 (v233 + 1))), (6, .long (i64 x461)), (0, .ref 189), (1, .int (i32 t)), (2, .int (i32 (m3.1 8))), (3, .int (i32 oo))] rfl (fun _ => rfl) ?_
                          refine T_ld 143 (.int (i32 0)) rfl (fun _ => rfl) ?_
                          refine T_if 150 146 rfl rfl rfl ⟨by decide, by decide⟩ (fun _ => ?_) (fun h480 => absurd (show (0 : Int) = 0 by decide) h480)
                          refine T_goto 51 rfl (fun _ => rfl) ?_
                          refine Tm_lv (a := [(0, .ref 189), (1, .int (i32 t)), (2, .int (i32 (m3.1 8))), (3, .int (i32 oo)), (4, .int (i32 (v233 + 1))), (5, .int (i32 0))]) rfl rfl ⟨rfl, rfl, rfl, rfl, rfl, rfl, trivial⟩ ?_
                          exact ih248 (v233 + 1) 0 (mO m460 [] [(115, upI (m235.2 115) ((4 * t) + v233) x461)]) (r32 (by omega) (by omega)) ⟨by decide, by decide⟩ (Ty_mO Tm460 rfl rfl trivial ⟨G477, trivial⟩) (fr_m (fr_s Fm460 (fr_m (fr_s Fm235 (fr_m fr_0 rfl rfl) rfl rfl) rfl rfl) rfl rfl) rfl rfl) (show 0 ≤ (v233 + 1) by omega) (show 0 ≤ (0 : Int) by omega) (show (0 : Int) ≤ 1 by omega) (show LxP (m460.1 7) (m460.1 8) (m460.1 9) (m.1 6) (m460.1 10) by first | exact hLx | exact (fun _ => hLx (by omega)) | (intro h9; exfalso; omega)) (show (0 : Int) = 0 ∨ (0 : Int) = 1 by omega) (show 0 ≤ (v233 + 1) ∧ (v233 + 1) ≤ 5000 by omega) (fun _ => ⟨(show (m.1 8) + 1 ≤ (m460.1 8) by omega), (show (v233 + 1) ≤ (m460.1 8) by omega)⟩) (show 1000000 * (8 - (m460.1 10)) + 2 * (4000 - (m460.1 8)) + (0 : Int) < (n247 : Int) by omega)
                        · skip
                          refine T_ld 135 (.int (i32 1)) rfl (fun _ => rfl) ?_
                          refine T_goto 139 rfl (fun _ => rfl) ?_
                          refine T_sto 141 [(5, .int (i32 1)), (4, .int (i32 (v233 + 1))), (6, .long (i64 x461)), (0, .ref 189), (1, .int (i32 t)), (2, .int (i32 (m3.1 8))), (3, .int (i32 oo))] rfl (fun _ => rfl) ?_
                          refine T_ld 143 (.int (i32 1)) rfl (fun _ => rfl) ?_
                          refine T_if 150 146 rfl rfl rfl ⟨by decide, by decide⟩ (fun h481 => absurd (show (1 : Int) = 0 from h481) (by decide)) (fun _ => ?_)
                          refine T_ld 147 (.ref 189) rfl (fun _ => rfl) ?_
                          have h7 := hLx (by omega)
                          refine T_call 150 212 [.ref 189] [] rfl (fun _ => rfl) rfl (d_next w (mO m460 [] [(115, upI (m235.2 115) ((4 * t) + v233) x461)]) c N D (by omega) (Ty_mO Tm460 rfl rfl trivial ⟨G477, trivial⟩) (show (m460.1 10) = 0 → (m460.1 8) + (m460.1 9) ≤ (m460.1 6) by rewrite [(show (m460.1 6) = (m.1 6) from ((fr1 Fm460 6 rfl).trans ((fr1 Fm235 6 rfl).trans ((fr1 Fm34 6 rfl).trans ((fr1 Fm17 6 rfl).trans (fr1 Fm3 6 rfl))))))]; first | omega | (intro h9; have h8 := hLx h9; omega))) (fun rr482 k483 => ?_)
                          obtain ⟨m484, Tm484, Fm484, h485, h486, h487, h488, rfl⟩ := k483
                          refine ⟨_, _, rfl, ?_⟩
                          refine T_nb (st' := []) rfl ?_
                          have g489 : 0 ≤ m484.1 7 ∧ m484.1 7 ≤ 330 := Tm484.1 7
                          have g490 : 0 ≤ m484.1 8 ∧ m484.1 8 ≤ 4000 := Tm484.1 8
                          have g491 : 0 ≤ m484.1 9 ∧ m484.1 9 ≤ 4000 := Tm484.1 9
                          have g492 : 0 ≤ m484.1 10 ∧ m484.1 10 ≤ 8 := Tm484.1 10
                          have g493 : (-1) ≤ m484.1 11 ∧ m484.1 11 ≤ 4000 := Tm484.1 11
                          by_cases hf494 : (m484.1 10) = 0
                          · skip
                            replace h485 : LxP (m484.1 7) (m484.1 8) (m484.1 9) (m460.1 6) (m484.1 10) := h485
                            rewrite [(show (m460.1 6) = (m.1 6) from ((fr1 Fm460 6 rfl).trans ((fr1 Fm235 6 rfl).trans ((fr1 Fm34 6 rfl).trans ((fr1 Fm17 6 rfl).trans (fr1 Fm3 6 rfl))))))] at h485
                            have hLx := h485
                            replace h486 : (m460.1 10) = 0 := h486 hf494
                            replace h487 : (m460.1 8) ≤ (m484.1 8) := h487
                            replace h488 : (m460.1 8) + (m460.1 9) ≤ (m484.1 8) := h488 hf494
                            have u495 : (m235.1 8) + 1 ≤ (m484.1 8) := by omega
                            have u496 : (m.1 8) + 1 ≤ (m484.1 8) := by omega
                            clear g466 g467 g468 g469 g470 h464 c472 u475 u474 h478 h479 h486 h487 h488
                            refine T_goto 51 rfl (fun _ => rfl) ?_
                            refine Tm_lv (a := [(0, .ref 189), (1, .int (i32 t)), (2, .int (i32 (m3.1 8))), (3, .int (i32 oo)), (4, .int (i32 (v233 + 1))), (5, .int (i32 1))]) rfl rfl ⟨rfl, rfl, rfl, rfl, rfl, rfl, trivial⟩ ?_
                            exact ih248 (v233 + 1) 1 (mO m484 [] []) (r32 (by omega) (by omega)) ⟨by decide, by decide⟩ Tm484 (fr_m (fr_s Fm484 (fr_m (fr_s Fm460 (fr_m (fr_s Fm235 (fr_m fr_0 rfl rfl) rfl rfl) rfl rfl) rfl rfl) rfl rfl) rfl rfl) rfl rfl) (show 0 ≤ (v233 + 1) by omega) (show 0 ≤ (1 : Int) by omega) (show (1 : Int) ≤ 1 by omega) (show LxP (m484.1 7) (m484.1 8) (m484.1 9) (m.1 6) (m484.1 10) by first | exact hLx | exact (fun _ => hLx (by omega)) | (intro h9; exfalso; omega)) (show (1 : Int) = 0 ∨ (1 : Int) = 1 by omega) (show 0 ≤ (v233 + 1) ∧ (v233 + 1) ≤ 5000 by omega) (fun _ => ⟨(show (m.1 8) + 1 ≤ (m484.1 8) by omega), (show (v233 + 1) ≤ (m484.1 8) by omega)⟩) (show 1000000 * (8 - (m484.1 10)) + 2 * (4000 - (m484.1 8)) + (1 : Int) < (n247 : Int) by omega)
                          · skip
                            replace h485 : LxP (m484.1 7) (m484.1 8) (m484.1 9) (m460.1 6) (m484.1 10) := h485
                            rewrite [(show (m460.1 6) = (m.1 6) from ((fr1 Fm460 6 rfl).trans ((fr1 Fm235 6 rfl).trans ((fr1 Fm34 6 rfl).trans ((fr1 Fm17 6 rfl).trans (fr1 Fm3 6 rfl))))))] at h485
                            have hLx := h485
                            clear h486
                            replace h487 : (m460.1 8) ≤ (m484.1 8) := h487
                            clear h488
                            have hf497 : 1 ≤ (m484.1 10) := by omega
                            clear g466 g467 g468 g469 g470 h464 c472 u475 u474 h478 h479 h487
                            refine T_goto 51 rfl (fun _ => rfl) ?_
                            refine Tm_lv (a := [(0, .ref 189), (1, .int (i32 t)), (2, .int (i32 (m3.1 8))), (3, .int (i32 oo)), (4, .int (i32 (v233 + 1))), (5, .int (i32 1))]) rfl rfl ⟨rfl, rfl, rfl, rfl, rfl, rfl, trivial⟩ ?_
                            exact ih248 (v233 + 1) 1 (mO m484 [] []) (r32 (by omega) (by omega)) ⟨by decide, by decide⟩ Tm484 (fr_m (fr_s Fm484 (fr_m (fr_s Fm460 (fr_m (fr_s Fm235 (fr_m fr_0 rfl rfl) rfl rfl) rfl rfl) rfl rfl) rfl rfl) rfl rfl) rfl rfl) (show 0 ≤ (v233 + 1) by omega) (show 0 ≤ (1 : Int) by omega) (show (1 : Int) ≤ 1 by omega) (show LxP (m484.1 7) (m484.1 8) (m484.1 9) (m.1 6) (m484.1 10) by first | exact hLx | exact (fun _ => hLx (by omega)) | (intro h9; exfalso; omega)) (show (1 : Int) = 0 ∨ (1 : Int) = 1 by omega) (show 0 ≤ (v233 + 1) ∧ (v233 + 1) ≤ 5000 by omega) (fun (h : (m484.1 10) = 0) => absurd h (by omega)) (show 1000000 * (8 - (m484.1 10)) + 2 * (4000 - (m484.1 8)) + (1 : Int) < (n247 : Int) by omega)
                      · skip
                        clear c465
                        clear h463
                        replace h464 : LxP (m460.1 7) (m460.1 8) (m460.1 9) (m235.1 6) (m460.1 10) := h464
                        rewrite [(show (m235.1 6) = (m.1 6) from ((fr1 Fm235 6 rfl).trans ((fr1 Fm34 6 rfl).trans ((fr1 Fm17 6 rfl).trans (fr1 Fm3 6 rfl)))))] at h464
                        have hLx := h464
                        have hf498 : 1 ≤ (m460.1 10) := by omega
                        clear g39 g40 g41 g42 g43 h35 u45 h46 h47 q245_7 q245_9 q245_11 ic240
                        refine T_sto 96 [(6, .long (i64 x461)), (0, .ref 189), (1, .int (i32 t)), (2, .int (i32 (m3.1 8))), (3, .int (i32 oo)), (4, .int (i32 v233)), (5, .int (i32 v234))] rfl (fun _ => rfl) ?_
                        refine T_ld 98 (.int (i32 v233)) rfl (fun _ => rfl) ?_
                        refine T_ld 99 (.int (i32 4)) rfl (fun _ => rfl) ?_
                        refine T_icmp 115 102 rfl rfl rfl (r32 (by omega) (by omega)) ⟨by decide, by decide⟩ (fun (h499 : (4 : Int) ≤ v233) => by exfalso; omega) (fun (h499 : ¬ ((4 : Int) ≤ v233)) => ?_)
                        refine T_gf 106 (.ref 275) rfl rfl rfl rfl rfl rfl ?_
                        refine T_ld 107 (.int (i32 4)) rfl (fun _ => rfl) ?_
                        refine T_ld 108 (.int (i32 t)) rfl (fun _ => rfl) ?_
                        refine T_imul 109 rfl rfl ?_
                        refine T_ld 111 (.int (i32 v233)) rfl (fun _ => rfl) ?_
                        refine T_iadd 112 rfl rfl ?_
                        refine T_ld 114 (.long (i64 x461)) rfl (fun _ => rfl) ?_
                        have G500 : ∀ j, (-9223372036854775808) ≤ (upI (m235.2 115) ((4 * t) + v233) x461) j ∧ (upI (m235.2 115) ((4 * t) + v233) x461) j ≤ 9223372036854775807 := upI_rg (Tm235.2.1 115) ⟨by omega, by omega⟩
                        refine T_last (a' := [(115, upI (m235.2 115) ((4 * t) + v233) x461)]) 115 115 (m235.2 115) rfl rfl rfl (by omega) (show ((4 * t) + v233) < (32 : Int) by omega) (show (m460.2 115) = (m235.2 115) from (fr2 Fm460 115 rfl)) rfl ?_
                        refine T_iinc 118 [(4, .int (i32 (v233 + 1))), (6, .long (i64 x461)), (0, .ref 189), (1, .int (i32 t)), (2, .int (i32 (m3.1 8))), (3, .int (i32 oo)), (5, .int (i32 v234))] rfl rfl (by decide) rfl rfl ?_
                        refine T_gf 122 (.int (i32 (m460.1 10))) rfl rfl rfl rfl rfl rfl ?_
                        refine T_if 138 125 rfl rfl rfl (r32 (by omega) (by omega)) (fun (h501 : (m460.1 10) ≠ 0) => ?_) (fun (h501 : ¬ ((m460.1 10) ≠ 0)) => by exfalso; omega)
                        refine T_ld 139 (.int (i32 0)) rfl (fun _ => rfl) ?_
                        refine T_sto 141 [(5, .int (i32 0)), (4, .int (i32 (v233 + 1))), (6, .long (i64 x461)), (0, .ref 189), (1, .int (i32 t)), (2, .int (i32 (m3.1 8))), (3, .int (i32 oo))] rfl (fun _ => rfl) ?_
                        refine T_ld 143 (.int (i32 0)) rfl (fun _ => rfl) ?_
                        refine T_if 150 146 rfl rfl rfl ⟨by decide, by decide⟩ (fun _ => ?_) (fun h502 => absurd (show (0 : Int) = 0 by decide) h502)
                        refine T_goto 51 rfl (fun _ => rfl) ?_
                        refine Tm_lv (a := [(0, .ref 189), (1, .int (i32 t)), (2, .int (i32 (m3.1 8))), (3, .int (i32 oo)), (4, .int (i32 (v233 + 1))), (5, .int (i32 0))]) rfl rfl ⟨rfl, rfl, rfl, rfl, rfl, rfl, trivial⟩ ?_
                        exact ih248 (v233 + 1) 0 (mO m460 [] [(115, upI (m235.2 115) ((4 * t) + v233) x461)]) (r32 (by omega) (by omega)) ⟨by decide, by decide⟩ (Ty_mO Tm460 rfl rfl trivial ⟨G500, trivial⟩) (fr_m (fr_s Fm460 (fr_m (fr_s Fm235 (fr_m fr_0 rfl rfl) rfl rfl) rfl rfl) rfl rfl) rfl rfl) (show 0 ≤ (v233 + 1) by omega) (show 0 ≤ (0 : Int) by omega) (show (0 : Int) ≤ 1 by omega) (show LxP (m460.1 7) (m460.1 8) (m460.1 9) (m.1 6) (m460.1 10) by first | exact hLx | exact (fun _ => hLx (by omega)) | (intro h9; exfalso; omega)) (show (0 : Int) = 0 ∨ (0 : Int) = 1 by omega) (show 0 ≤ (v233 + 1) ∧ (v233 + 1) ≤ 5000 by omega) (fun (h : (m460.1 10) = 0) => absurd h (by omega)) (show 1000000 * (8 - (m460.1 10)) + 2 * (4000 - (m460.1 8)) + (0 : Int) < (n247 : Int) by omega)
                · skip
                  clear c246
                  have hf503 : 1 ≤ (m235.1 10) := by omega
                  refine T_ld 53 (.int (i32 v234)) rfl (fun _ => rfl) ?_
                  refine T_if 153 56 rfl rfl rfl (r32 (by omega) (by omega)) (fun (h504 : v234 = 0) => ?_) (fun (h504 : ¬ (v234 = 0)) => ?_)
                  · skip
                    refine T_gf 157 (.int (i32 (m235.1 10))) rfl rfl rfl rfl rfl rfl ?_
                    refine T_if 187 160 rfl rfl rfl (r32 (by omega) (by omega)) (fun (h505 : (m235.1 10) ≠ 0) => ?_) (fun (h505 : ¬ ((m235.1 10) ≠ 0)) => by exfalso; omega)
                    refine T_ld 188 (.ref 189) rfl (fun _ => rfl) ?_
                    refine T_ld 190 (.int (i32 41)) rfl (fun _ => rfl) ?_
                    refine T_call 193 232 [.ref 189, .int (i32 41)] [] rfl (fun _ => rfl) rfl (d_need w (mO m235 [] []) c N D (by omega) Tm235 41 ⟨by decide, by decide⟩ (show 1 ≤ (41 : Int) by omega) (show LxP (m235.1 7) (m235.1 8) (m235.1 9) (m235.1 6) (m235.1 10) by rewrite [(show (m235.1 6) = (m.1 6) from ((fr1 Fm235 6 rfl).trans ((fr1 Fm34 6 rfl).trans ((fr1 Fm17 6 rfl).trans (fr1 Fm3 6 rfl)))))]; first | exact hLx | (intro h9; exfalso; omega) | (intro h9; have h8 := hLx (by omega); omega))) (fun rr506 k507 => ?_)
                    obtain ⟨m508, Tm508, Fm508, h509, h510, h511, h512, rfl⟩ := k507
                    refine ⟨_, _, rfl, ?_⟩
                    refine T_nb (st' := []) rfl ?_
                    have g513 : 0 ≤ m508.1 7 ∧ m508.1 7 ≤ 330 := Tm508.1 7
                    have g514 : 0 ≤ m508.1 8 ∧ m508.1 8 ≤ 4000 := Tm508.1 8
                    have g515 : 0 ≤ m508.1 9 ∧ m508.1 9 ≤ 4000 := Tm508.1 9
                    have g516 : 0 ≤ m508.1 10 ∧ m508.1 10 ≤ 8 := Tm508.1 10
                    have g517 : (-1) ≤ m508.1 11 ∧ m508.1 11 ≤ 4000 := Tm508.1 11
                    replace h509 : LxP (m508.1 7) (m508.1 8) (m508.1 9) (m235.1 6) (m508.1 10) := h509
                    rewrite [(show (m235.1 6) = (m.1 6) from ((fr1 Fm235 6 rfl).trans ((fr1 Fm34 6 rfl).trans ((fr1 Fm17 6 rfl).trans (fr1 Fm3 6 rfl)))))] at h509
                    replace h510 : (m508.1 10) = 0 → (m235.1 10) = 0 ∧ (m235.1 7) = (41 : Int) := h510
                    replace h511 : (m235.1 8) ≤ (m508.1 8) := h511
                    replace h512 : (m508.1 10) = 0 → (m235.1 8) + (m235.1 9) ≤ (m508.1 8) := h512
                    have hf518 : 1 ≤ (m508.1 10) := by omega
                    clear h510
                    clear h512
                    have hLx := h509
                    clear g39 g40 g41 g42 g43 h35 u45 h46 h47 q245_7 q245_9 q245_11 ic240
                    refine T_ld 194 (.ref 189) rfl (fun _ => rfl) ?_
                    refine T_ld 196 (.int (i32 59)) rfl (fun _ => rfl) ?_
                    refine T_call 199 232 [.ref 189, .int (i32 59)] [] rfl (fun _ => rfl) rfl (d_need w (mO m508 [] []) c N D (by omega) Tm508 59 ⟨by decide, by decide⟩ (show 1 ≤ (59 : Int) by omega) (show LxP (m508.1 7) (m508.1 8) (m508.1 9) (m508.1 6) (m508.1 10) by rewrite [(show (m508.1 6) = (m.1 6) from ((fr1 Fm508 6 rfl).trans ((fr1 Fm235 6 rfl).trans ((fr1 Fm34 6 rfl).trans ((fr1 Fm17 6 rfl).trans (fr1 Fm3 6 rfl))))))]; first | exact hLx | (intro h9; exfalso; omega) | (intro h9; have h8 := hLx (by omega); omega))) (fun rr519 k520 => ?_)
                    obtain ⟨m521, Tm521, Fm521, h522, h523, h524, h525, rfl⟩ := k520
                    refine ⟨_, _, rfl, ?_⟩
                    refine T_nb (st' := []) rfl ?_
                    have g526 : 0 ≤ m521.1 7 ∧ m521.1 7 ≤ 330 := Tm521.1 7
                    have g527 : 0 ≤ m521.1 8 ∧ m521.1 8 ≤ 4000 := Tm521.1 8
                    have g528 : 0 ≤ m521.1 9 ∧ m521.1 9 ≤ 4000 := Tm521.1 9
                    have g529 : 0 ≤ m521.1 10 ∧ m521.1 10 ≤ 8 := Tm521.1 10
                    have g530 : (-1) ≤ m521.1 11 ∧ m521.1 11 ≤ 4000 := Tm521.1 11
                    replace h522 : LxP (m521.1 7) (m521.1 8) (m521.1 9) (m508.1 6) (m521.1 10) := h522
                    rewrite [(show (m508.1 6) = (m.1 6) from ((fr1 Fm508 6 rfl).trans ((fr1 Fm235 6 rfl).trans ((fr1 Fm34 6 rfl).trans ((fr1 Fm17 6 rfl).trans (fr1 Fm3 6 rfl))))))] at h522
                    replace h523 : (m521.1 10) = 0 → (m508.1 10) = 0 ∧ (m508.1 7) = (59 : Int) := h523
                    replace h524 : (m508.1 8) ≤ (m521.1 8) := h524
                    replace h525 : (m521.1 10) = 0 → (m508.1 8) + (m508.1 9) ≤ (m521.1 8) := h525
                    have hf531 : 1 ≤ (m521.1 10) := by omega
                    clear h523
                    clear h525
                    have hLx := h522
                    clear g513 g514 g515 g516 g517 hf518 h509 h511 h524
                    refine T_gf 203 (.ref 227) rfl rfl rfl rfl rfl rfl ?_
                    refine T_ld 204 (.int (i32 t)) rfl (fun _ => rfl) ?_
                    refine T_ld 205 (.int (i32 oo)) rfl (fun _ => rfl) ?_
                    have G532 : ∀ j, 0 ≤ (upI (m.2 57) t oo) j ∧ (upI (m.2 57) t oo) j ≤ 15 := upI_rg (hT.2.1 57) ⟨by omega, by omega⟩
                    refine T_iast (a' := [(57, upI (m.2 57) t oo)]) 206 57 (m.2 57) rfl rfl rfl (by omega) (show t < (8 : Int) by omega) (show (m521.2 57) = (m.2 57) from ((fr2 Fm521 57 rfl).trans ((fr2 Fm508 57 rfl).trans ((fr2 Fm235 57 rfl).trans ((fr2 Fm34 57 rfl).trans ((fr2 Fm17 57 rfl).trans (fr2 Fm3 57 rfl))))))) rfl ?_
                    refine T_ret rfl (fun _ => rfl) ?_
                    exact ⟨(mO m521 [] [(57, upI (m.2 57) t oo)]), (Ty_mO Tm521 rfl rfl trivial ⟨G532, trivial⟩), (fr_m (fr_s Fm521 (fr_m (fr_s Fm508 (fr_m (fr_s Fm235 (fr_m (fr_s Fm34 (fr_m (fr_s Fm17 (fr_m (fr_s Fm3 (fr_m fr_0 rfl rfl) rfl rfl) rfl rfl) rfl rfl) rfl rfl) rfl rfl) rfl rfl) rfl rfl) rfl rfl) rfl rfl) rfl rfl) rfl rfl) rfl rfl), (show (m521.1 10) = 0 → (m.1 10) = 0 by omega), (show LxP (m521.1 7) (m521.1 8) (m521.1 9) (m.1 6) (m521.1 10) by first | (first | exact hLx | exact (fun _ => hLx (by omega)) | (intro h9; exfalso; omega)) | (exfalso; omega)), (fun (h : (m521.1 10) = 0) => absurd h (by omega)), rfl⟩
                  · skip
                    refine T_gf 60 (.int (i32 (m235.1 10))) rfl rfl rfl rfl rfl rfl ?_
                    refine T_if 153 63 rfl rfl rfl (r32 (by omega) (by omega)) (fun (h533 : (m235.1 10) ≠ 0) => ?_) (fun (h533 : ¬ ((m235.1 10) ≠ 0)) => by exfalso; omega)
                    refine T_gf 157 (.int (i32 (m235.1 10))) rfl rfl rfl rfl rfl rfl ?_
                    refine T_if 187 160 rfl rfl rfl (r32 (by omega) (by omega)) (fun (h534 : (m235.1 10) ≠ 0) => ?_) (fun (h534 : ¬ ((m235.1 10) ≠ 0)) => by exfalso; omega)
                    refine T_ld 188 (.ref 189) rfl (fun _ => rfl) ?_
                    refine T_ld 190 (.int (i32 41)) rfl (fun _ => rfl) ?_
                    refine T_call 193 232 [.ref 189, .int (i32 41)] [] rfl (fun _ => rfl) rfl (d_need w (mO m235 [] []) c N D (by omega) Tm235 41 ⟨by decide, by decide⟩ (show 1 ≤ (41 : Int) by omega) (show LxP (m235.1 7) (m235.1 8) (m235.1 9) (m235.1 6) (m235.1 10) by rewrite [(show (m235.1 6) = (m.1 6) from ((fr1 Fm235 6 rfl).trans ((fr1 Fm34 6 rfl).trans ((fr1 Fm17 6 rfl).trans (fr1 Fm3 6 rfl)))))]; first | exact hLx | (intro h9; exfalso; omega) | (intro h9; have h8 := hLx (by omega); omega))) (fun rr535 k536 => ?_)
                    obtain ⟨m537, Tm537, Fm537, h538, h539, h540, h541, rfl⟩ := k536
                    refine ⟨_, _, rfl, ?_⟩
                    refine T_nb (st' := []) rfl ?_
                    have g542 : 0 ≤ m537.1 7 ∧ m537.1 7 ≤ 330 := Tm537.1 7
                    have g543 : 0 ≤ m537.1 8 ∧ m537.1 8 ≤ 4000 := Tm537.1 8
                    have g544 : 0 ≤ m537.1 9 ∧ m537.1 9 ≤ 4000 := Tm537.1 9
                    have g545 : 0 ≤ m537.1 10 ∧ m537.1 10 ≤ 8 := Tm537.1 10
                    have g546 : (-1) ≤ m537.1 11 ∧ m537.1 11 ≤ 4000 := Tm537.1 11
                    replace h538 : LxP (m537.1 7) (m537.1 8) (m537.1 9) (m235.1 6) (m537.1 10) := h538
                    rewrite [(show (m235.1 6) = (m.1 6) from ((fr1 Fm235 6 rfl).trans ((fr1 Fm34 6 rfl).trans ((fr1 Fm17 6 rfl).trans (fr1 Fm3 6 rfl)))))] at h538
                    replace h539 : (m537.1 10) = 0 → (m235.1 10) = 0 ∧ (m235.1 7) = (41 : Int) := h539
                    replace h540 : (m235.1 8) ≤ (m537.1 8) := h540
                    replace h541 : (m537.1 10) = 0 → (m235.1 8) + (m235.1 9) ≤ (m537.1 8) := h541
                    have hf547 : 1 ≤ (m537.1 10) := by omega
                    clear h539
                    clear h541
                    have hLx := h538
                    clear g39 g40 g41 g42 g43 h35 u45 h46 h47 q245_7 q245_9 q245_11 ic240
                    refine T_ld 194 (.ref 189) rfl (fun _ => rfl) ?_
                    refine T_ld 196 (.int (i32 59)) rfl (fun _ => rfl) ?_
                    refine T_call 199 232 [.ref 189, .int (i32 59)] [] rfl (fun _ => rfl) rfl (d_need w (mO m537 [] []) c N D (by omega) Tm537 59 ⟨by decide, by decide⟩ (show 1 ≤ (59 : Int) by omega) (show LxP (m537.1 7) (m537.1 8) (m537.1 9) (m537.1 6) (m537.1 10) by rewrite [(show (m537.1 6) = (m.1 6) from ((fr1 Fm537 6 rfl).trans ((fr1 Fm235 6 rfl).trans ((fr1 Fm34 6 rfl).trans ((fr1 Fm17 6 rfl).trans (fr1 Fm3 6 rfl))))))]; first | exact hLx | (intro h9; exfalso; omega) | (intro h9; have h8 := hLx (by omega); omega))) (fun rr548 k549 => ?_)
                    obtain ⟨m550, Tm550, Fm550, h551, h552, h553, h554, rfl⟩ := k549
                    refine ⟨_, _, rfl, ?_⟩
                    refine T_nb (st' := []) rfl ?_
                    have g555 : 0 ≤ m550.1 7 ∧ m550.1 7 ≤ 330 := Tm550.1 7
                    have g556 : 0 ≤ m550.1 8 ∧ m550.1 8 ≤ 4000 := Tm550.1 8
                    have g557 : 0 ≤ m550.1 9 ∧ m550.1 9 ≤ 4000 := Tm550.1 9
                    have g558 : 0 ≤ m550.1 10 ∧ m550.1 10 ≤ 8 := Tm550.1 10
                    have g559 : (-1) ≤ m550.1 11 ∧ m550.1 11 ≤ 4000 := Tm550.1 11
                    replace h551 : LxP (m550.1 7) (m550.1 8) (m550.1 9) (m537.1 6) (m550.1 10) := h551
                    rewrite [(show (m537.1 6) = (m.1 6) from ((fr1 Fm537 6 rfl).trans ((fr1 Fm235 6 rfl).trans ((fr1 Fm34 6 rfl).trans ((fr1 Fm17 6 rfl).trans (fr1 Fm3 6 rfl))))))] at h551
                    replace h552 : (m550.1 10) = 0 → (m537.1 10) = 0 ∧ (m537.1 7) = (59 : Int) := h552
                    replace h553 : (m537.1 8) ≤ (m550.1 8) := h553
                    replace h554 : (m550.1 10) = 0 → (m537.1 8) + (m537.1 9) ≤ (m550.1 8) := h554
                    have hf560 : 1 ≤ (m550.1 10) := by omega
                    clear h552
                    clear h554
                    have hLx := h551
                    clear g542 g543 g544 g545 g546 hf547 h538 h540 h553
                    refine T_gf 203 (.ref 227) rfl rfl rfl rfl rfl rfl ?_
                    refine T_ld 204 (.int (i32 t)) rfl (fun _ => rfl) ?_
                    refine T_ld 205 (.int (i32 oo)) rfl (fun _ => rfl) ?_
                    have G561 : ∀ j, 0 ≤ (upI (m.2 57) t oo) j ∧ (upI (m.2 57) t oo) j ≤ 15 := upI_rg (hT.2.1 57) ⟨by omega, by omega⟩
                    refine T_iast (a' := [(57, upI (m.2 57) t oo)]) 206 57 (m.2 57) rfl rfl rfl (by omega) (show t < (8 : Int) by omega) (show (m550.2 57) = (m.2 57) from ((fr2 Fm550 57 rfl).trans ((fr2 Fm537 57 rfl).trans ((fr2 Fm235 57 rfl).trans ((fr2 Fm34 57 rfl).trans ((fr2 Fm17 57 rfl).trans (fr2 Fm3 57 rfl))))))) rfl ?_
                    refine T_ret rfl (fun _ => rfl) ?_
                    exact ⟨(mO m550 [] [(57, upI (m.2 57) t oo)]), (Ty_mO Tm550 rfl rfl trivial ⟨G561, trivial⟩), (fr_m (fr_s Fm550 (fr_m (fr_s Fm537 (fr_m (fr_s Fm235 (fr_m (fr_s Fm34 (fr_m (fr_s Fm17 (fr_m (fr_s Fm3 (fr_m fr_0 rfl rfl) rfl rfl) rfl rfl) rfl rfl) rfl rfl) rfl rfl) rfl rfl) rfl rfl) rfl rfl) rfl rfl) rfl rfl) rfl rfl) rfl rfl), (show (m550.1 10) = 0 → (m.1 10) = 0 by omega), (show LxP (m550.1 7) (m550.1 8) (m550.1 9) (m.1 6) (m550.1 10) by first | (first | exact hLx | exact (fun _ => hLx (by omega)) | (intro h9; exfalso; omega)) | (exfalso; omega)), (fun (h : (m550.1 10) = 0) => absurd h (by omega)), rfl⟩
            refine Tm_lv (a := [(0, .ref 189), (1, .int (i32 t)), (2, .int (i32 (m3.1 8))), (3, .int (i32 oo)), (4, .int (i32 0)), (5, .int (i32 1))]) rfl rfl ⟨rfl, rfl, rfl, rfl, rfl, rfl, trivial⟩ ?_
            exact L51_236 ((1000000 * (8 - (m34.1 10)) + 2 * (4000 - (m34.1 8)) + (1 : Int) : Int) + 1).toNat 0 1 (mO m34 [] []) ⟨by decide, by decide⟩ ⟨by decide, by decide⟩ Tm34 (fr_m fr_0 rfl rfl) (show 0 ≤ (0 : Int) by omega) (show 0 ≤ (1 : Int) by omega) (show (1 : Int) ≤ 1 by omega) (show LxP (m34.1 7) (m34.1 8) (m34.1 9) (m.1 6) (m34.1 10) by first | exact hLx | exact (fun _ => hLx (by omega)) | (intro h9; exfalso; omega)) (show (1 : Int) = 0 ∨ (1 : Int) = 1 by omega) (show 0 ≤ (0 : Int) ∧ (0 : Int) ≤ 5000 by omega) (fun _ => ⟨(show (m.1 8) + 1 ≤ (m34.1 8) by omega), (show (0 : Int) ≤ (m34.1 8) by omega)⟩) (show 1000000 * (8 - (m34.1 10)) + 2 * (4000 - (m34.1 8)) + (1 : Int) < ((((1000000 * (8 - (m34.1 10)) + 2 * (4000 - (m34.1 8)) + (1 : Int) : Int) + 1).toNat : Nat) : Int) by omega)
        · skip
          replace h35 : LxP (m34.1 7) (m34.1 8) (m34.1 9) (m17.1 6) (m34.1 10) := h35
          rewrite [(show (m17.1 6) = (m.1 6) from ((fr1 Fm17 6 rfl).trans (fr1 Fm3 6 rfl)))] at h35
          have hLx := h35
          clear h36
          replace h37 : (m17.1 8) ≤ (m34.1 8) := h37
          clear h38
          have hf562 : 1 ≤ (m34.1 10) := by omega
          clear g25 g26 g27 g28 g29 h19 h20 u31 h37
          refine T_ld 26 (.int (i32 0)) rfl (fun _ => rfl) ?_
          refine T_sto 28 [(4, .int (i32 0)), (3, .int (i32 oo)), (2, .int (i32 (m3.1 8))), (0, .ref 189), (1, .int (i32 t))] rfl (fun _ => rfl) ?_
          refine T_gf 32 (.int (i32 (m34.1 10))) rfl rfl rfl rfl rfl rfl ?_
          refine T_if 48 35 rfl rfl rfl (r32 (by omega) (by omega)) (fun (h563 : (m34.1 10) ≠ 0) => ?_) (fun (h563 : ¬ ((m34.1 10) ≠ 0)) => by exfalso; omega)
          refine T_ld 49 (.int (i32 0)) rfl (fun _ => rfl) ?_
          refine T_sto 51 [(5, .int (i32 0)), (4, .int (i32 0)), (3, .int (i32 oo)), (2, .int (i32 (m3.1 8))), (0, .ref 189), (1, .int (i32 t))] rfl (fun _ => rfl) ?_
          refine T_ld 53 (.int (i32 0)) rfl (fun _ => rfl) ?_
          refine T_if 153 56 rfl rfl rfl ⟨by decide, by decide⟩ (fun _ => ?_) (fun h564 => absurd (show (0 : Int) = 0 by decide) h564)
          refine T_gf 157 (.int (i32 (m34.1 10))) rfl rfl rfl rfl rfl rfl ?_
          refine T_if 187 160 rfl rfl rfl (r32 (by omega) (by omega)) (fun (h565 : (m34.1 10) ≠ 0) => ?_) (fun (h565 : ¬ ((m34.1 10) ≠ 0)) => by exfalso; omega)
          refine T_ld 188 (.ref 189) rfl (fun _ => rfl) ?_
          refine T_ld 190 (.int (i32 41)) rfl (fun _ => rfl) ?_
          refine T_call 193 232 [.ref 189, .int (i32 41)] [] rfl (fun _ => rfl) rfl (d_need w (mO m34 [] []) c N D (by omega) Tm34 41 ⟨by decide, by decide⟩ (show 1 ≤ (41 : Int) by omega) (show LxP (m34.1 7) (m34.1 8) (m34.1 9) (m34.1 6) (m34.1 10) by rewrite [(show (m34.1 6) = (m.1 6) from ((fr1 Fm34 6 rfl).trans ((fr1 Fm17 6 rfl).trans (fr1 Fm3 6 rfl))))]; first | exact hLx | (intro h9; exfalso; omega) | (intro h9; have h8 := hLx (by omega); omega))) (fun rr566 k567 => ?_)
          obtain ⟨m568, Tm568, Fm568, h569, h570, h571, h572, rfl⟩ := k567
          refine ⟨_, _, rfl, ?_⟩
          refine T_nb (st' := []) rfl ?_
          have g573 : 0 ≤ m568.1 7 ∧ m568.1 7 ≤ 330 := Tm568.1 7
          have g574 : 0 ≤ m568.1 8 ∧ m568.1 8 ≤ 4000 := Tm568.1 8
          have g575 : 0 ≤ m568.1 9 ∧ m568.1 9 ≤ 4000 := Tm568.1 9
          have g576 : 0 ≤ m568.1 10 ∧ m568.1 10 ≤ 8 := Tm568.1 10
          have g577 : (-1) ≤ m568.1 11 ∧ m568.1 11 ≤ 4000 := Tm568.1 11
          replace h569 : LxP (m568.1 7) (m568.1 8) (m568.1 9) (m34.1 6) (m568.1 10) := h569
          rewrite [(show (m34.1 6) = (m.1 6) from ((fr1 Fm34 6 rfl).trans ((fr1 Fm17 6 rfl).trans (fr1 Fm3 6 rfl))))] at h569
          replace h570 : (m568.1 10) = 0 → (m34.1 10) = 0 ∧ (m34.1 7) = (41 : Int) := h570
          replace h571 : (m34.1 8) ≤ (m568.1 8) := h571
          replace h572 : (m568.1 10) = 0 → (m34.1 8) + (m34.1 9) ≤ (m568.1 8) := h572
          have hf578 : 1 ≤ (m568.1 10) := by omega
          clear h570
          clear h572
          have hLx := h569
          clear g39 g40 g41 g42 g43 h35 hf562 h563 h565 h571
          refine T_ld 194 (.ref 189) rfl (fun _ => rfl) ?_
          refine T_ld 196 (.int (i32 59)) rfl (fun _ => rfl) ?_
          refine T_call 199 232 [.ref 189, .int (i32 59)] [] rfl (fun _ => rfl) rfl (d_need w (mO m568 [] []) c N D (by omega) Tm568 59 ⟨by decide, by decide⟩ (show 1 ≤ (59 : Int) by omega) (show LxP (m568.1 7) (m568.1 8) (m568.1 9) (m568.1 6) (m568.1 10) by rewrite [(show (m568.1 6) = (m.1 6) from ((fr1 Fm568 6 rfl).trans ((fr1 Fm34 6 rfl).trans ((fr1 Fm17 6 rfl).trans (fr1 Fm3 6 rfl)))))]; first | exact hLx | (intro h9; exfalso; omega) | (intro h9; have h8 := hLx (by omega); omega))) (fun rr579 k580 => ?_)
          obtain ⟨m581, Tm581, Fm581, h582, h583, h584, h585, rfl⟩ := k580
          refine ⟨_, _, rfl, ?_⟩
          refine T_nb (st' := []) rfl ?_
          have g586 : 0 ≤ m581.1 7 ∧ m581.1 7 ≤ 330 := Tm581.1 7
          have g587 : 0 ≤ m581.1 8 ∧ m581.1 8 ≤ 4000 := Tm581.1 8
          have g588 : 0 ≤ m581.1 9 ∧ m581.1 9 ≤ 4000 := Tm581.1 9
          have g589 : 0 ≤ m581.1 10 ∧ m581.1 10 ≤ 8 := Tm581.1 10
          have g590 : (-1) ≤ m581.1 11 ∧ m581.1 11 ≤ 4000 := Tm581.1 11
          replace h582 : LxP (m581.1 7) (m581.1 8) (m581.1 9) (m568.1 6) (m581.1 10) := h582
          rewrite [(show (m568.1 6) = (m.1 6) from ((fr1 Fm568 6 rfl).trans ((fr1 Fm34 6 rfl).trans ((fr1 Fm17 6 rfl).trans (fr1 Fm3 6 rfl)))))] at h582
          replace h583 : (m581.1 10) = 0 → (m568.1 10) = 0 ∧ (m568.1 7) = (59 : Int) := h583
          replace h584 : (m568.1 8) ≤ (m581.1 8) := h584
          replace h585 : (m581.1 10) = 0 → (m568.1 8) + (m568.1 9) ≤ (m581.1 8) := h585
          have hf591 : 1 ≤ (m581.1 10) := by omega
          clear h583
          clear h585
          have hLx := h582
          clear g573 g574 g575 g576 g577 hf578 h569 h584
          refine T_gf 203 (.ref 227) rfl rfl rfl rfl rfl rfl ?_
          refine T_ld 204 (.int (i32 t)) rfl (fun _ => rfl) ?_
          refine T_ld 205 (.int (i32 oo)) rfl (fun _ => rfl) ?_
          have G592 : ∀ j, 0 ≤ (upI (m.2 57) t oo) j ∧ (upI (m.2 57) t oo) j ≤ 15 := upI_rg (hT.2.1 57) ⟨by omega, by omega⟩
          refine T_iast (a' := [(57, upI (m.2 57) t oo)]) 206 57 (m.2 57) rfl rfl rfl (by omega) (show t < (8 : Int) by omega) (show (m581.2 57) = (m.2 57) from ((fr2 Fm581 57 rfl).trans ((fr2 Fm568 57 rfl).trans ((fr2 Fm34 57 rfl).trans ((fr2 Fm17 57 rfl).trans (fr2 Fm3 57 rfl)))))) rfl ?_
          refine T_ret rfl (fun _ => rfl) ?_
          exact ⟨(mO m581 [] [(57, upI (m.2 57) t oo)]), (Ty_mO Tm581 rfl rfl trivial ⟨G592, trivial⟩), (fr_m (fr_s Fm581 (fr_m (fr_s Fm568 (fr_m (fr_s Fm34 (fr_m (fr_s Fm17 (fr_m (fr_s Fm3 (fr_m fr_0 rfl rfl) rfl rfl) rfl rfl) rfl rfl) rfl rfl) rfl rfl) rfl rfl) rfl rfl) rfl rfl) rfl rfl) rfl rfl), (show (m581.1 10) = 0 → (m.1 10) = 0 by omega), (show LxP (m581.1 7) (m581.1 8) (m581.1 9) (m.1 6) (m581.1 10) by first | (first | exact hLx | exact (fun _ => hLx (by omega)) | (intro h9; exfalso; omega)) | (exfalso; omega)), (fun (h : (m581.1 10) = 0) => absurd h (by omega)), rfl⟩
      · skip
        replace h19 : LxP (m17.1 7) (m17.1 8) (m17.1 9) (m3.1 6) (m17.1 10) := h19
        rewrite [(show (m3.1 6) = (m.1 6) from (fr1 Fm3 6 rfl))] at h19
        have hLx := h19
        replace h20 : (m3.1 8) ≤ (m17.1 8) := h20
        clear h21
        clear h22
        replace h23 : 0 ≤ oo ∧ (oo < (m.1 25) ∨ oo = 0) := h23
        clear h24
        have hf593 : 1 ≤ (m17.1 10) := by omega
        clear g8 g10 g11 g12 h4
        refine T_sto 19 [(3, .int (i32 oo)), (2, .int (i32 (m3.1 8))), (0, .ref 189), (1, .int (i32 t))] rfl (fun _ => rfl) ?_
        refine T_ld 20 (.ref 189) rfl (fun _ => rfl) ?_
        refine T_ld 22 (.int (i32 40)) rfl (fun _ => rfl) ?_
        refine T_call 25 232 [.ref 189, .int (i32 40)] [] rfl (fun _ => rfl) rfl (d_need w (mO m17 [] []) c N D (by omega) Tm17 40 ⟨by decide, by decide⟩ (show 1 ≤ (40 : Int) by omega) (show LxP (m17.1 7) (m17.1 8) (m17.1 9) (m17.1 6) (m17.1 10) by rewrite [(show (m17.1 6) = (m.1 6) from ((fr1 Fm17 6 rfl).trans (fr1 Fm3 6 rfl)))]; first | exact hLx | (intro h9; exfalso; omega) | (intro h9; have h8 := hLx (by omega); omega))) (fun rr594 k595 => ?_)
        obtain ⟨m596, Tm596, Fm596, h597, h598, h599, h600, rfl⟩ := k595
        refine ⟨_, _, rfl, ?_⟩
        refine T_nb (st' := []) rfl ?_
        have g601 : 0 ≤ m596.1 7 ∧ m596.1 7 ≤ 330 := Tm596.1 7
        have g602 : 0 ≤ m596.1 8 ∧ m596.1 8 ≤ 4000 := Tm596.1 8
        have g603 : 0 ≤ m596.1 9 ∧ m596.1 9 ≤ 4000 := Tm596.1 9
        have g604 : 0 ≤ m596.1 10 ∧ m596.1 10 ≤ 8 := Tm596.1 10
        have g605 : (-1) ≤ m596.1 11 ∧ m596.1 11 ≤ 4000 := Tm596.1 11
        replace h597 : LxP (m596.1 7) (m596.1 8) (m596.1 9) (m17.1 6) (m596.1 10) := h597
        rewrite [(show (m17.1 6) = (m.1 6) from ((fr1 Fm17 6 rfl).trans (fr1 Fm3 6 rfl)))] at h597
        replace h598 : (m596.1 10) = 0 → (m17.1 10) = 0 ∧ (m17.1 7) = (40 : Int) := h598
        replace h599 : (m17.1 8) ≤ (m596.1 8) := h599
        replace h600 : (m596.1 10) = 0 → (m17.1 8) + (m17.1 9) ≤ (m596.1 8) := h600
        have hf606 : 1 ≤ (m596.1 10) := by omega
        clear h598
        clear h600
        have hLx := h597
        clear g25 g26 g27 g28 g29 h19 h20 hf593 h599
        refine T_ld 26 (.int (i32 0)) rfl (fun _ => rfl) ?_
        refine T_sto 28 [(4, .int (i32 0)), (3, .int (i32 oo)), (2, .int (i32 (m3.1 8))), (0, .ref 189), (1, .int (i32 t))] rfl (fun _ => rfl) ?_
        refine T_gf 32 (.int (i32 (m596.1 10))) rfl rfl rfl rfl rfl rfl ?_
        refine T_if 48 35 rfl rfl rfl (r32 (by omega) (by omega)) (fun (h607 : (m596.1 10) ≠ 0) => ?_) (fun (h607 : ¬ ((m596.1 10) ≠ 0)) => by exfalso; omega)
        refine T_ld 49 (.int (i32 0)) rfl (fun _ => rfl) ?_
        refine T_sto 51 [(5, .int (i32 0)), (4, .int (i32 0)), (3, .int (i32 oo)), (2, .int (i32 (m3.1 8))), (0, .ref 189), (1, .int (i32 t))] rfl (fun _ => rfl) ?_
        refine T_ld 53 (.int (i32 0)) rfl (fun _ => rfl) ?_
        refine T_if 153 56 rfl rfl rfl ⟨by decide, by decide⟩ (fun _ => ?_) (fun h608 => absurd (show (0 : Int) = 0 by decide) h608)
        refine T_gf 157 (.int (i32 (m596.1 10))) rfl rfl rfl rfl rfl rfl ?_
        refine T_if 187 160 rfl rfl rfl (r32 (by omega) (by omega)) (fun (h609 : (m596.1 10) ≠ 0) => ?_) (fun (h609 : ¬ ((m596.1 10) ≠ 0)) => by exfalso; omega)
        refine T_ld 188 (.ref 189) rfl (fun _ => rfl) ?_
        refine T_ld 190 (.int (i32 41)) rfl (fun _ => rfl) ?_
        refine T_call 193 232 [.ref 189, .int (i32 41)] [] rfl (fun _ => rfl) rfl (d_need w (mO m596 [] []) c N D (by omega) Tm596 41 ⟨by decide, by decide⟩ (show 1 ≤ (41 : Int) by omega) (show LxP (m596.1 7) (m596.1 8) (m596.1 9) (m596.1 6) (m596.1 10) by rewrite [(show (m596.1 6) = (m.1 6) from ((fr1 Fm596 6 rfl).trans ((fr1 Fm17 6 rfl).trans (fr1 Fm3 6 rfl))))]; first | exact hLx | (intro h9; exfalso; omega) | (intro h9; have h8 := hLx (by omega); omega))) (fun rr610 k611 => ?_)
        obtain ⟨m612, Tm612, Fm612, h613, h614, h615, h616, rfl⟩ := k611
        refine ⟨_, _, rfl, ?_⟩
        refine T_nb (st' := []) rfl ?_
        have g617 : 0 ≤ m612.1 7 ∧ m612.1 7 ≤ 330 := Tm612.1 7
        have g618 : 0 ≤ m612.1 8 ∧ m612.1 8 ≤ 4000 := Tm612.1 8
        have g619 : 0 ≤ m612.1 9 ∧ m612.1 9 ≤ 4000 := Tm612.1 9
        have g620 : 0 ≤ m612.1 10 ∧ m612.1 10 ≤ 8 := Tm612.1 10
        have g621 : (-1) ≤ m612.1 11 ∧ m612.1 11 ≤ 4000 := Tm612.1 11
        replace h613 : LxP (m612.1 7) (m612.1 8) (m612.1 9) (m596.1 6) (m612.1 10) := h613
        rewrite [(show (m596.1 6) = (m.1 6) from ((fr1 Fm596 6 rfl).trans ((fr1 Fm17 6 rfl).trans (fr1 Fm3 6 rfl))))] at h613
        replace h614 : (m612.1 10) = 0 → (m596.1 10) = 0 ∧ (m596.1 7) = (41 : Int) := h614
        replace h615 : (m596.1 8) ≤ (m612.1 8) := h615
        replace h616 : (m612.1 10) = 0 → (m596.1 8) + (m596.1 9) ≤ (m612.1 8) := h616
        have hf622 : 1 ≤ (m612.1 10) := by omega
        clear h614
        clear h616
        have hLx := h613
        clear g601 g602 g603 g604 g605 hf606 h597 h607 h609 h615
        refine T_ld 194 (.ref 189) rfl (fun _ => rfl) ?_
        refine T_ld 196 (.int (i32 59)) rfl (fun _ => rfl) ?_
        refine T_call 199 232 [.ref 189, .int (i32 59)] [] rfl (fun _ => rfl) rfl (d_need w (mO m612 [] []) c N D (by omega) Tm612 59 ⟨by decide, by decide⟩ (show 1 ≤ (59 : Int) by omega) (show LxP (m612.1 7) (m612.1 8) (m612.1 9) (m612.1 6) (m612.1 10) by rewrite [(show (m612.1 6) = (m.1 6) from ((fr1 Fm612 6 rfl).trans ((fr1 Fm596 6 rfl).trans ((fr1 Fm17 6 rfl).trans (fr1 Fm3 6 rfl)))))]; first | exact hLx | (intro h9; exfalso; omega) | (intro h9; have h8 := hLx (by omega); omega))) (fun rr623 k624 => ?_)
        obtain ⟨m625, Tm625, Fm625, h626, h627, h628, h629, rfl⟩ := k624
        refine ⟨_, _, rfl, ?_⟩
        refine T_nb (st' := []) rfl ?_
        have g630 : 0 ≤ m625.1 7 ∧ m625.1 7 ≤ 330 := Tm625.1 7
        have g631 : 0 ≤ m625.1 8 ∧ m625.1 8 ≤ 4000 := Tm625.1 8
        have g632 : 0 ≤ m625.1 9 ∧ m625.1 9 ≤ 4000 := Tm625.1 9
        have g633 : 0 ≤ m625.1 10 ∧ m625.1 10 ≤ 8 := Tm625.1 10
        have g634 : (-1) ≤ m625.1 11 ∧ m625.1 11 ≤ 4000 := Tm625.1 11
        replace h626 : LxP (m625.1 7) (m625.1 8) (m625.1 9) (m612.1 6) (m625.1 10) := h626
        rewrite [(show (m612.1 6) = (m.1 6) from ((fr1 Fm612 6 rfl).trans ((fr1 Fm596 6 rfl).trans ((fr1 Fm17 6 rfl).trans (fr1 Fm3 6 rfl)))))] at h626
        replace h627 : (m625.1 10) = 0 → (m612.1 10) = 0 ∧ (m612.1 7) = (59 : Int) := h627
        replace h628 : (m612.1 8) ≤ (m625.1 8) := h628
        replace h629 : (m625.1 10) = 0 → (m612.1 8) + (m612.1 9) ≤ (m625.1 8) := h629
        have hf635 : 1 ≤ (m625.1 10) := by omega
        clear h627
        clear h629
        have hLx := h626
        clear g617 g618 g619 g620 g621 hf622 h613 h628
        refine T_gf 203 (.ref 227) rfl rfl rfl rfl rfl rfl ?_
        refine T_ld 204 (.int (i32 t)) rfl (fun _ => rfl) ?_
        refine T_ld 205 (.int (i32 oo)) rfl (fun _ => rfl) ?_
        have G636 : ∀ j, 0 ≤ (upI (m.2 57) t oo) j ∧ (upI (m.2 57) t oo) j ≤ 15 := upI_rg (hT.2.1 57) ⟨by omega, by omega⟩
        refine T_iast (a' := [(57, upI (m.2 57) t oo)]) 206 57 (m.2 57) rfl rfl rfl (by omega) (show t < (8 : Int) by omega) (show (m625.2 57) = (m.2 57) from ((fr2 Fm625 57 rfl).trans ((fr2 Fm612 57 rfl).trans ((fr2 Fm596 57 rfl).trans ((fr2 Fm17 57 rfl).trans (fr2 Fm3 57 rfl)))))) rfl ?_
        refine T_ret rfl (fun _ => rfl) ?_
        exact ⟨(mO m625 [] [(57, upI (m.2 57) t oo)]), (Ty_mO Tm625 rfl rfl trivial ⟨G636, trivial⟩), (fr_m (fr_s Fm625 (fr_m (fr_s Fm612 (fr_m (fr_s Fm596 (fr_m (fr_s Fm17 (fr_m (fr_s Fm3 (fr_m fr_0 rfl rfl) rfl rfl) rfl rfl) rfl rfl) rfl rfl) rfl rfl) rfl rfl) rfl rfl) rfl rfl) rfl rfl) rfl rfl), (show (m625.1 10) = 0 → (m.1 10) = 0 by omega), (show LxP (m625.1 7) (m625.1 8) (m625.1 9) (m.1 6) (m625.1 10) by first | (first | exact hLx | exact (fun _ => hLx (by omega)) | (intro h9; exfalso; omega)) | (exfalso; omega)), (fun (h : (m625.1 10) = 0) => absurd h (by omega)), rfl⟩
    · skip
      replace h4 : LxP (m3.1 7) (m3.1 8) (m3.1 9) (m.1 6) (m3.1 10) := h4
      have hLx := h4
      clear h5
      replace h6 : (m.1 8) ≤ (m3.1 8) := h6
      clear h7
      have hf637 : 1 ≤ (m3.1 10) := by omega
      refine T_gf 11 (.int (i32 (m3.1 8))) rfl rfl rfl rfl rfl rfl ?_
      refine T_sto 12 [(2, .int (i32 (m3.1 8))), (0, .ref 189), (1, .int (i32 t))] rfl (fun _ => rfl) ?_
      refine T_ld 13 (.ref 189) rfl (fun _ => rfl) ?_
      refine T_ld 15 (.int (i32 6)) rfl (fun _ => rfl) ?_
      refine T_call 18 236 [.ref 189, .int (i32 6)] [] rfl (fun _ => rfl) rfl (d_oldName w (mO m3 [] []) c N D (by omega) Tm3 6 (m.1 25) ⟨by decide, by decide⟩ (show LxP (m3.1 7) (m3.1 8) (m3.1 9) (m3.1 6) (m3.1 10) by rewrite [(show (m3.1 6) = (m.1 6) from (fr1 Fm3 6 rfl))]; first | exact hLx | (intro h9; exfalso; omega) | (intro h9; have h8 := hLx (by omega); omega)) (show ∀ k, (m3.2 14) k + (m3.2 15) k ≤ 4000 by rewrite [(show (m3.2 14) = (m.2 14) from (fr2 Fm3 14 rfl)), (show (m3.2 15) = (m.2 15) from (fr2 Fm3 15 rfl))]; first | exact p1 | exact hNM) (show 1 ≤ (6 : Int) ∧ (6 : Int) ≤ 7 ∧ (6 : Int) ≠ 5 by omega) (show (m.1 25) ≤ 16 by omega) (show (m3.1 10) = 0 → ∀ k, 0 ≤ k → k < (m3.1 13) → (m3.2 16) k = (6 : Int) → 0 ≤ (m3.2 17) k ∧ (m3.2 17) k < (m.1 25) by rewrite [(show (m3.1 13) = (m.1 13) from (fr1 Fm3 13 rfl)), (show (m3.2 16) = (m.2 16) from (fr2 Fm3 16 rfl)), (show (m3.2 17) = (m.2 17) from (fr2 Fm3 17 rfl))]; first | exact hOL | (intro h; exfalso; omega)) (show (6 : Int) = 3 → 3 ≤ (m.1 25) by omega)) (fun rr638 k639 => ?_)
      obtain ⟨m640, oo, Tm640, Fm640, g641, h642, h643, h644, h645, h646, h647, rfl⟩ := k639
      refine ⟨_, _, rfl, ?_⟩
      refine T_nb (st' := [.int (i32 oo)]) rfl ?_
      obtain ⟨g641a, g641b⟩ := g641
      have g648 : 0 ≤ m640.1 7 ∧ m640.1 7 ≤ 330 := Tm640.1 7
      have g649 : 0 ≤ m640.1 8 ∧ m640.1 8 ≤ 4000 := Tm640.1 8
      have g650 : 0 ≤ m640.1 9 ∧ m640.1 9 ≤ 4000 := Tm640.1 9
      have g651 : 0 ≤ m640.1 10 ∧ m640.1 10 ≤ 8 := Tm640.1 10
      have g652 : (-1) ≤ m640.1 11 ∧ m640.1 11 ≤ 4000 := Tm640.1 11
      replace h642 : LxP (m640.1 7) (m640.1 8) (m640.1 9) (m3.1 6) (m640.1 10) := h642
      rewrite [(show (m3.1 6) = (m.1 6) from (fr1 Fm3 6 rfl))] at h642
      replace h643 : (m3.1 8) ≤ (m640.1 8) := h643
      replace h644 : (m640.1 10) = 0 → (m3.1 10) = 0 ∧ (m3.1 8) + (m3.1 9) ≤ (m640.1 8) := h644
      replace h645 : (m640.1 10) = 0 → (m3.1 7) = 1 := h645
      replace h646 : 0 ≤ oo ∧ (oo < (m.1 25) ∨ oo = 0) := h646
      replace h647 : (m640.1 10) = 0 → oo < (m.1 25) := h647
      have hf653 : 1 ≤ (m640.1 10) := by omega
      clear h644
      clear h645
      clear h647
      have hLx := h642
      clear g8 g10 g11 g12 h4 hf637
      refine T_sto 19 [(3, .int (i32 oo)), (2, .int (i32 (m3.1 8))), (0, .ref 189), (1, .int (i32 t))] rfl (fun _ => rfl) ?_
      refine T_ld 20 (.ref 189) rfl (fun _ => rfl) ?_
      refine T_ld 22 (.int (i32 40)) rfl (fun _ => rfl) ?_
      refine T_call 25 232 [.ref 189, .int (i32 40)] [] rfl (fun _ => rfl) rfl (d_need w (mO m640 [] []) c N D (by omega) Tm640 40 ⟨by decide, by decide⟩ (show 1 ≤ (40 : Int) by omega) (show LxP (m640.1 7) (m640.1 8) (m640.1 9) (m640.1 6) (m640.1 10) by rewrite [(show (m640.1 6) = (m.1 6) from ((fr1 Fm640 6 rfl).trans (fr1 Fm3 6 rfl)))]; first | exact hLx | (intro h9; exfalso; omega) | (intro h9; have h8 := hLx (by omega); omega))) (fun rr654 k655 => ?_)
      obtain ⟨m656, Tm656, Fm656, h657, h658, h659, h660, rfl⟩ := k655
      refine ⟨_, _, rfl, ?_⟩
      refine T_nb (st' := []) rfl ?_
      have g661 : 0 ≤ m656.1 7 ∧ m656.1 7 ≤ 330 := Tm656.1 7
      have g662 : 0 ≤ m656.1 8 ∧ m656.1 8 ≤ 4000 := Tm656.1 8
      have g663 : 0 ≤ m656.1 9 ∧ m656.1 9 ≤ 4000 := Tm656.1 9
      have g664 : 0 ≤ m656.1 10 ∧ m656.1 10 ≤ 8 := Tm656.1 10
      have g665 : (-1) ≤ m656.1 11 ∧ m656.1 11 ≤ 4000 := Tm656.1 11
      replace h657 : LxP (m656.1 7) (m656.1 8) (m656.1 9) (m640.1 6) (m656.1 10) := h657
      rewrite [(show (m640.1 6) = (m.1 6) from ((fr1 Fm640 6 rfl).trans (fr1 Fm3 6 rfl)))] at h657
      replace h658 : (m656.1 10) = 0 → (m640.1 10) = 0 ∧ (m640.1 7) = (40 : Int) := h658
      replace h659 : (m640.1 8) ≤ (m656.1 8) := h659
      replace h660 : (m656.1 10) = 0 → (m640.1 8) + (m640.1 9) ≤ (m656.1 8) := h660
      have hf666 : 1 ≤ (m656.1 10) := by omega
      clear h658
      clear h660
      have hLx := h657
      clear g648 g649 g650 g651 g652 hf653 h642 h643 h659
      refine T_ld 26 (.int (i32 0)) rfl (fun _ => rfl) ?_
      refine T_sto 28 [(4, .int (i32 0)), (3, .int (i32 oo)), (2, .int (i32 (m3.1 8))), (0, .ref 189), (1, .int (i32 t))] rfl (fun _ => rfl) ?_
      refine T_gf 32 (.int (i32 (m656.1 10))) rfl rfl rfl rfl rfl rfl ?_
      refine T_if 48 35 rfl rfl rfl (r32 (by omega) (by omega)) (fun (h667 : (m656.1 10) ≠ 0) => ?_) (fun (h667 : ¬ ((m656.1 10) ≠ 0)) => by exfalso; omega)
      refine T_ld 49 (.int (i32 0)) rfl (fun _ => rfl) ?_
      refine T_sto 51 [(5, .int (i32 0)), (4, .int (i32 0)), (3, .int (i32 oo)), (2, .int (i32 (m3.1 8))), (0, .ref 189), (1, .int (i32 t))] rfl (fun _ => rfl) ?_
      refine T_ld 53 (.int (i32 0)) rfl (fun _ => rfl) ?_
      refine T_if 153 56 rfl rfl rfl ⟨by decide, by decide⟩ (fun _ => ?_) (fun h668 => absurd (show (0 : Int) = 0 by decide) h668)
      refine T_gf 157 (.int (i32 (m656.1 10))) rfl rfl rfl rfl rfl rfl ?_
      refine T_if 187 160 rfl rfl rfl (r32 (by omega) (by omega)) (fun (h669 : (m656.1 10) ≠ 0) => ?_) (fun (h669 : ¬ ((m656.1 10) ≠ 0)) => by exfalso; omega)
      refine T_ld 188 (.ref 189) rfl (fun _ => rfl) ?_
      refine T_ld 190 (.int (i32 41)) rfl (fun _ => rfl) ?_
      refine T_call 193 232 [.ref 189, .int (i32 41)] [] rfl (fun _ => rfl) rfl (d_need w (mO m656 [] []) c N D (by omega) Tm656 41 ⟨by decide, by decide⟩ (show 1 ≤ (41 : Int) by omega) (show LxP (m656.1 7) (m656.1 8) (m656.1 9) (m656.1 6) (m656.1 10) by rewrite [(show (m656.1 6) = (m.1 6) from ((fr1 Fm656 6 rfl).trans ((fr1 Fm640 6 rfl).trans (fr1 Fm3 6 rfl))))]; first | exact hLx | (intro h9; exfalso; omega) | (intro h9; have h8 := hLx (by omega); omega))) (fun rr670 k671 => ?_)
      obtain ⟨m672, Tm672, Fm672, h673, h674, h675, h676, rfl⟩ := k671
      refine ⟨_, _, rfl, ?_⟩
      refine T_nb (st' := []) rfl ?_
      have g677 : 0 ≤ m672.1 7 ∧ m672.1 7 ≤ 330 := Tm672.1 7
      have g678 : 0 ≤ m672.1 8 ∧ m672.1 8 ≤ 4000 := Tm672.1 8
      have g679 : 0 ≤ m672.1 9 ∧ m672.1 9 ≤ 4000 := Tm672.1 9
      have g680 : 0 ≤ m672.1 10 ∧ m672.1 10 ≤ 8 := Tm672.1 10
      have g681 : (-1) ≤ m672.1 11 ∧ m672.1 11 ≤ 4000 := Tm672.1 11
      replace h673 : LxP (m672.1 7) (m672.1 8) (m672.1 9) (m656.1 6) (m672.1 10) := h673
      rewrite [(show (m656.1 6) = (m.1 6) from ((fr1 Fm656 6 rfl).trans ((fr1 Fm640 6 rfl).trans (fr1 Fm3 6 rfl))))] at h673
      replace h674 : (m672.1 10) = 0 → (m656.1 10) = 0 ∧ (m656.1 7) = (41 : Int) := h674
      replace h675 : (m656.1 8) ≤ (m672.1 8) := h675
      replace h676 : (m672.1 10) = 0 → (m656.1 8) + (m656.1 9) ≤ (m672.1 8) := h676
      have hf682 : 1 ≤ (m672.1 10) := by omega
      clear h674
      clear h676
      have hLx := h673
      clear g661 g662 g663 g664 g665 hf666 h657 h667 h669 h675
      refine T_ld 194 (.ref 189) rfl (fun _ => rfl) ?_
      refine T_ld 196 (.int (i32 59)) rfl (fun _ => rfl) ?_
      refine T_call 199 232 [.ref 189, .int (i32 59)] [] rfl (fun _ => rfl) rfl (d_need w (mO m672 [] []) c N D (by omega) Tm672 59 ⟨by decide, by decide⟩ (show 1 ≤ (59 : Int) by omega) (show LxP (m672.1 7) (m672.1 8) (m672.1 9) (m672.1 6) (m672.1 10) by rewrite [(show (m672.1 6) = (m.1 6) from ((fr1 Fm672 6 rfl).trans ((fr1 Fm656 6 rfl).trans ((fr1 Fm640 6 rfl).trans (fr1 Fm3 6 rfl)))))]; first | exact hLx | (intro h9; exfalso; omega) | (intro h9; have h8 := hLx (by omega); omega))) (fun rr683 k684 => ?_)
      obtain ⟨m685, Tm685, Fm685, h686, h687, h688, h689, rfl⟩ := k684
      refine ⟨_, _, rfl, ?_⟩
      refine T_nb (st' := []) rfl ?_
      have g690 : 0 ≤ m685.1 7 ∧ m685.1 7 ≤ 330 := Tm685.1 7
      have g691 : 0 ≤ m685.1 8 ∧ m685.1 8 ≤ 4000 := Tm685.1 8
      have g692 : 0 ≤ m685.1 9 ∧ m685.1 9 ≤ 4000 := Tm685.1 9
      have g693 : 0 ≤ m685.1 10 ∧ m685.1 10 ≤ 8 := Tm685.1 10
      have g694 : (-1) ≤ m685.1 11 ∧ m685.1 11 ≤ 4000 := Tm685.1 11
      replace h686 : LxP (m685.1 7) (m685.1 8) (m685.1 9) (m672.1 6) (m685.1 10) := h686
      rewrite [(show (m672.1 6) = (m.1 6) from ((fr1 Fm672 6 rfl).trans ((fr1 Fm656 6 rfl).trans ((fr1 Fm640 6 rfl).trans (fr1 Fm3 6 rfl)))))] at h686
      replace h687 : (m685.1 10) = 0 → (m672.1 10) = 0 ∧ (m672.1 7) = (59 : Int) := h687
      replace h688 : (m672.1 8) ≤ (m685.1 8) := h688
      replace h689 : (m685.1 10) = 0 → (m672.1 8) + (m672.1 9) ≤ (m685.1 8) := h689
      have hf695 : 1 ≤ (m685.1 10) := by omega
      clear h687
      clear h689
      have hLx := h686
      clear g677 g678 g679 g680 g681 hf682 h673 h688
      refine T_gf 203 (.ref 227) rfl rfl rfl rfl rfl rfl ?_
      refine T_ld 204 (.int (i32 t)) rfl (fun _ => rfl) ?_
      refine T_ld 205 (.int (i32 oo)) rfl (fun _ => rfl) ?_
      have G696 : ∀ j, 0 ≤ (upI (m.2 57) t oo) j ∧ (upI (m.2 57) t oo) j ≤ 15 := upI_rg (hT.2.1 57) ⟨by omega, by omega⟩
      refine T_iast (a' := [(57, upI (m.2 57) t oo)]) 206 57 (m.2 57) rfl rfl rfl (by omega) (show t < (8 : Int) by omega) (show (m685.2 57) = (m.2 57) from ((fr2 Fm685 57 rfl).trans ((fr2 Fm672 57 rfl).trans ((fr2 Fm656 57 rfl).trans ((fr2 Fm640 57 rfl).trans (fr2 Fm3 57 rfl)))))) rfl ?_
      refine T_ret rfl (fun _ => rfl) ?_
      exact ⟨(mO m685 [] [(57, upI (m.2 57) t oo)]), (Ty_mO Tm685 rfl rfl trivial ⟨G696, trivial⟩), (fr_m (fr_s Fm685 (fr_m (fr_s Fm672 (fr_m (fr_s Fm656 (fr_m (fr_s Fm640 (fr_m (fr_s Fm3 (fr_m fr_0 rfl rfl) rfl rfl) rfl rfl) rfl rfl) rfl rfl) rfl rfl) rfl rfl) rfl rfl) rfl rfl) rfl rfl) rfl rfl), (show (m685.1 10) = 0 → (m.1 10) = 0 by omega), (show LxP (m685.1 7) (m685.1 8) (m685.1 9) (m.1 6) (m685.1 10) by first | (first | exact hLx | exact (fun _ => hLx (by omega)) | (intro h9; exfalso; omega)) | (exfalso; omega)), (fun (h : (m685.1 10) = 0) => absurd h (by omega)), rfl⟩
  · skip
    clear hC
    refine T_ld 1 (.ref 189) rfl (fun _ => rfl) ?_
    refine T_ld 4 (.int (i32 308)) rfl (fun _ => rfl) ?_
    refine T_call 7 232 [.ref 189, .int (i32 308)] [] rfl (fun _ => rfl) rfl (d_need w (mO m [] []) c N D (by omega) hT 308 ⟨by decide, by decide⟩ (show 1 ≤ (308 : Int) by omega) (show LxP (m.1 7) (m.1 8) (m.1 9) (m.1 6) (m.1 10) by first | exact hLx | (intro h9; exfalso; omega) | (intro h9; have h8 := hLx (by omega); omega))) (fun rr697 k698 => ?_)
    obtain ⟨m699, Tm699, Fm699, h700, h701, h702, h703, rfl⟩ := k698
    refine ⟨_, _, rfl, ?_⟩
    refine T_nb (st' := []) rfl ?_
    have g704 : 0 ≤ m699.1 7 ∧ m699.1 7 ≤ 330 := Tm699.1 7
    have g705 : 0 ≤ m699.1 8 ∧ m699.1 8 ≤ 4000 := Tm699.1 8
    have g706 : 0 ≤ m699.1 9 ∧ m699.1 9 ≤ 4000 := Tm699.1 9
    have g707 : 0 ≤ m699.1 10 ∧ m699.1 10 ≤ 8 := Tm699.1 10
    have g708 : (-1) ≤ m699.1 11 ∧ m699.1 11 ≤ 4000 := Tm699.1 11
    replace h700 : LxP (m699.1 7) (m699.1 8) (m699.1 9) (m.1 6) (m699.1 10) := h700
    replace h701 : (m699.1 10) = 0 → (m.1 10) = 0 ∧ (m.1 7) = (308 : Int) := h701
    replace h702 : (m.1 8) ≤ (m699.1 8) := h702
    replace h703 : (m699.1 10) = 0 → (m.1 8) + (m.1 9) ≤ (m699.1 8) := h703
    have hf709 : 1 ≤ (m699.1 10) := by omega
    clear h701
    clear h703
    have hLx := h700
    refine T_gf 11 (.int (i32 (m699.1 8))) rfl rfl rfl rfl rfl rfl ?_
    refine T_sto 12 [(2, .int (i32 (m699.1 8))), (0, .ref 189), (1, .int (i32 t))] rfl (fun _ => rfl) ?_
    refine T_ld 13 (.ref 189) rfl (fun _ => rfl) ?_
    refine T_ld 15 (.int (i32 6)) rfl (fun _ => rfl) ?_
    refine T_call 18 236 [.ref 189, .int (i32 6)] [] rfl (fun _ => rfl) rfl (d_oldName w (mO m699 [] []) c N D (by omega) Tm699 6 (m.1 25) ⟨by decide, by decide⟩ (show LxP (m699.1 7) (m699.1 8) (m699.1 9) (m699.1 6) (m699.1 10) by rewrite [(show (m699.1 6) = (m.1 6) from (fr1 Fm699 6 rfl))]; first | exact hLx | (intro h9; exfalso; omega) | (intro h9; have h8 := hLx (by omega); omega)) (show ∀ k, (m699.2 14) k + (m699.2 15) k ≤ 4000 by rewrite [(show (m699.2 14) = (m.2 14) from (fr2 Fm699 14 rfl)), (show (m699.2 15) = (m.2 15) from (fr2 Fm699 15 rfl))]; first | exact p1 | exact hNM) (show 1 ≤ (6 : Int) ∧ (6 : Int) ≤ 7 ∧ (6 : Int) ≠ 5 by omega) (show (m.1 25) ≤ 16 by omega) (show (m699.1 10) = 0 → ∀ k, 0 ≤ k → k < (m699.1 13) → (m699.2 16) k = (6 : Int) → 0 ≤ (m699.2 17) k ∧ (m699.2 17) k < (m.1 25) by rewrite [(show (m699.1 13) = (m.1 13) from (fr1 Fm699 13 rfl)), (show (m699.2 16) = (m.2 16) from (fr2 Fm699 16 rfl)), (show (m699.2 17) = (m.2 17) from (fr2 Fm699 17 rfl))]; first | exact hOL | (intro h; exfalso; omega)) (show (6 : Int) = 3 → 3 ≤ (m.1 25) by omega)) (fun rr710 k711 => ?_)
    obtain ⟨m712, oo, Tm712, Fm712, g713, h714, h715, h716, h717, h718, h719, rfl⟩ := k711
    refine ⟨_, _, rfl, ?_⟩
    refine T_nb (st' := [.int (i32 oo)]) rfl ?_
    obtain ⟨g713a, g713b⟩ := g713
    have g720 : 0 ≤ m712.1 7 ∧ m712.1 7 ≤ 330 := Tm712.1 7
    have g721 : 0 ≤ m712.1 8 ∧ m712.1 8 ≤ 4000 := Tm712.1 8
    have g722 : 0 ≤ m712.1 9 ∧ m712.1 9 ≤ 4000 := Tm712.1 9
    have g723 : 0 ≤ m712.1 10 ∧ m712.1 10 ≤ 8 := Tm712.1 10
    have g724 : (-1) ≤ m712.1 11 ∧ m712.1 11 ≤ 4000 := Tm712.1 11
    replace h714 : LxP (m712.1 7) (m712.1 8) (m712.1 9) (m699.1 6) (m712.1 10) := h714
    rewrite [(show (m699.1 6) = (m.1 6) from (fr1 Fm699 6 rfl))] at h714
    replace h715 : (m699.1 8) ≤ (m712.1 8) := h715
    replace h716 : (m712.1 10) = 0 → (m699.1 10) = 0 ∧ (m699.1 8) + (m699.1 9) ≤ (m712.1 8) := h716
    replace h717 : (m712.1 10) = 0 → (m699.1 7) = 1 := h717
    replace h718 : 0 ≤ oo ∧ (oo < (m.1 25) ∨ oo = 0) := h718
    replace h719 : (m712.1 10) = 0 → oo < (m.1 25) := h719
    have hf725 : 1 ≤ (m712.1 10) := by omega
    clear h716
    clear h717
    clear h719
    have hLx := h714
    clear g704 g706 g707 g708 hf709 h700
    refine T_sto 19 [(3, .int (i32 oo)), (2, .int (i32 (m699.1 8))), (0, .ref 189), (1, .int (i32 t))] rfl (fun _ => rfl) ?_
    refine T_ld 20 (.ref 189) rfl (fun _ => rfl) ?_
    refine T_ld 22 (.int (i32 40)) rfl (fun _ => rfl) ?_
    refine T_call 25 232 [.ref 189, .int (i32 40)] [] rfl (fun _ => rfl) rfl (d_need w (mO m712 [] []) c N D (by omega) Tm712 40 ⟨by decide, by decide⟩ (show 1 ≤ (40 : Int) by omega) (show LxP (m712.1 7) (m712.1 8) (m712.1 9) (m712.1 6) (m712.1 10) by rewrite [(show (m712.1 6) = (m.1 6) from ((fr1 Fm712 6 rfl).trans (fr1 Fm699 6 rfl)))]; first | exact hLx | (intro h9; exfalso; omega) | (intro h9; have h8 := hLx (by omega); omega))) (fun rr726 k727 => ?_)
    obtain ⟨m728, Tm728, Fm728, h729, h730, h731, h732, rfl⟩ := k727
    refine ⟨_, _, rfl, ?_⟩
    refine T_nb (st' := []) rfl ?_
    have g733 : 0 ≤ m728.1 7 ∧ m728.1 7 ≤ 330 := Tm728.1 7
    have g734 : 0 ≤ m728.1 8 ∧ m728.1 8 ≤ 4000 := Tm728.1 8
    have g735 : 0 ≤ m728.1 9 ∧ m728.1 9 ≤ 4000 := Tm728.1 9
    have g736 : 0 ≤ m728.1 10 ∧ m728.1 10 ≤ 8 := Tm728.1 10
    have g737 : (-1) ≤ m728.1 11 ∧ m728.1 11 ≤ 4000 := Tm728.1 11
    replace h729 : LxP (m728.1 7) (m728.1 8) (m728.1 9) (m712.1 6) (m728.1 10) := h729
    rewrite [(show (m712.1 6) = (m.1 6) from ((fr1 Fm712 6 rfl).trans (fr1 Fm699 6 rfl)))] at h729
    replace h730 : (m728.1 10) = 0 → (m712.1 10) = 0 ∧ (m712.1 7) = (40 : Int) := h730
    replace h731 : (m712.1 8) ≤ (m728.1 8) := h731
    replace h732 : (m728.1 10) = 0 → (m712.1 8) + (m712.1 9) ≤ (m728.1 8) := h732
    have hf738 : 1 ≤ (m728.1 10) := by omega
    clear h730
    clear h732
    have hLx := h729
    clear g720 g721 g722 g723 g724 hf725 h714 h715 h731
    refine T_ld 26 (.int (i32 0)) rfl (fun _ => rfl) ?_
    refine T_sto 28 [(4, .int (i32 0)), (3, .int (i32 oo)), (2, .int (i32 (m699.1 8))), (0, .ref 189), (1, .int (i32 t))] rfl (fun _ => rfl) ?_
    refine T_gf 32 (.int (i32 (m728.1 10))) rfl rfl rfl rfl rfl rfl ?_
    refine T_if 48 35 rfl rfl rfl (r32 (by omega) (by omega)) (fun (h739 : (m728.1 10) ≠ 0) => ?_) (fun (h739 : ¬ ((m728.1 10) ≠ 0)) => by exfalso; omega)
    refine T_ld 49 (.int (i32 0)) rfl (fun _ => rfl) ?_
    refine T_sto 51 [(5, .int (i32 0)), (4, .int (i32 0)), (3, .int (i32 oo)), (2, .int (i32 (m699.1 8))), (0, .ref 189), (1, .int (i32 t))] rfl (fun _ => rfl) ?_
    refine T_ld 53 (.int (i32 0)) rfl (fun _ => rfl) ?_
    refine T_if 153 56 rfl rfl rfl ⟨by decide, by decide⟩ (fun _ => ?_) (fun h740 => absurd (show (0 : Int) = 0 by decide) h740)
    refine T_gf 157 (.int (i32 (m728.1 10))) rfl rfl rfl rfl rfl rfl ?_
    refine T_if 187 160 rfl rfl rfl (r32 (by omega) (by omega)) (fun (h741 : (m728.1 10) ≠ 0) => ?_) (fun (h741 : ¬ ((m728.1 10) ≠ 0)) => by exfalso; omega)
    refine T_ld 188 (.ref 189) rfl (fun _ => rfl) ?_
    refine T_ld 190 (.int (i32 41)) rfl (fun _ => rfl) ?_
    refine T_call 193 232 [.ref 189, .int (i32 41)] [] rfl (fun _ => rfl) rfl (d_need w (mO m728 [] []) c N D (by omega) Tm728 41 ⟨by decide, by decide⟩ (show 1 ≤ (41 : Int) by omega) (show LxP (m728.1 7) (m728.1 8) (m728.1 9) (m728.1 6) (m728.1 10) by rewrite [(show (m728.1 6) = (m.1 6) from ((fr1 Fm728 6 rfl).trans ((fr1 Fm712 6 rfl).trans (fr1 Fm699 6 rfl))))]; first | exact hLx | (intro h9; exfalso; omega) | (intro h9; have h8 := hLx (by omega); omega))) (fun rr742 k743 => ?_)
    obtain ⟨m744, Tm744, Fm744, h745, h746, h747, h748, rfl⟩ := k743
    refine ⟨_, _, rfl, ?_⟩
    refine T_nb (st' := []) rfl ?_
    have g749 : 0 ≤ m744.1 7 ∧ m744.1 7 ≤ 330 := Tm744.1 7
    have g750 : 0 ≤ m744.1 8 ∧ m744.1 8 ≤ 4000 := Tm744.1 8
    have g751 : 0 ≤ m744.1 9 ∧ m744.1 9 ≤ 4000 := Tm744.1 9
    have g752 : 0 ≤ m744.1 10 ∧ m744.1 10 ≤ 8 := Tm744.1 10
    have g753 : (-1) ≤ m744.1 11 ∧ m744.1 11 ≤ 4000 := Tm744.1 11
    replace h745 : LxP (m744.1 7) (m744.1 8) (m744.1 9) (m728.1 6) (m744.1 10) := h745
    rewrite [(show (m728.1 6) = (m.1 6) from ((fr1 Fm728 6 rfl).trans ((fr1 Fm712 6 rfl).trans (fr1 Fm699 6 rfl))))] at h745
    replace h746 : (m744.1 10) = 0 → (m728.1 10) = 0 ∧ (m728.1 7) = (41 : Int) := h746
    replace h747 : (m728.1 8) ≤ (m744.1 8) := h747
    replace h748 : (m744.1 10) = 0 → (m728.1 8) + (m728.1 9) ≤ (m744.1 8) := h748
    have hf754 : 1 ≤ (m744.1 10) := by omega
    clear h746
    clear h748
    have hLx := h745
    clear g733 g734 g735 g736 g737 hf738 h729 h739 h741 h747
    refine T_ld 194 (.ref 189) rfl (fun _ => rfl) ?_
    refine T_ld 196 (.int (i32 59)) rfl (fun _ => rfl) ?_
    refine T_call 199 232 [.ref 189, .int (i32 59)] [] rfl (fun _ => rfl) rfl (d_need w (mO m744 [] []) c N D (by omega) Tm744 59 ⟨by decide, by decide⟩ (show 1 ≤ (59 : Int) by omega) (show LxP (m744.1 7) (m744.1 8) (m744.1 9) (m744.1 6) (m744.1 10) by rewrite [(show (m744.1 6) = (m.1 6) from ((fr1 Fm744 6 rfl).trans ((fr1 Fm728 6 rfl).trans ((fr1 Fm712 6 rfl).trans (fr1 Fm699 6 rfl)))))]; first | exact hLx | (intro h9; exfalso; omega) | (intro h9; have h8 := hLx (by omega); omega))) (fun rr755 k756 => ?_)
    obtain ⟨m757, Tm757, Fm757, h758, h759, h760, h761, rfl⟩ := k756
    refine ⟨_, _, rfl, ?_⟩
    refine T_nb (st' := []) rfl ?_
    have g762 : 0 ≤ m757.1 7 ∧ m757.1 7 ≤ 330 := Tm757.1 7
    have g763 : 0 ≤ m757.1 8 ∧ m757.1 8 ≤ 4000 := Tm757.1 8
    have g764 : 0 ≤ m757.1 9 ∧ m757.1 9 ≤ 4000 := Tm757.1 9
    have g765 : 0 ≤ m757.1 10 ∧ m757.1 10 ≤ 8 := Tm757.1 10
    have g766 : (-1) ≤ m757.1 11 ∧ m757.1 11 ≤ 4000 := Tm757.1 11
    replace h758 : LxP (m757.1 7) (m757.1 8) (m757.1 9) (m744.1 6) (m757.1 10) := h758
    rewrite [(show (m744.1 6) = (m.1 6) from ((fr1 Fm744 6 rfl).trans ((fr1 Fm728 6 rfl).trans ((fr1 Fm712 6 rfl).trans (fr1 Fm699 6 rfl)))))] at h758
    replace h759 : (m757.1 10) = 0 → (m744.1 10) = 0 ∧ (m744.1 7) = (59 : Int) := h759
    replace h760 : (m744.1 8) ≤ (m757.1 8) := h760
    replace h761 : (m757.1 10) = 0 → (m744.1 8) + (m744.1 9) ≤ (m757.1 8) := h761
    have hf767 : 1 ≤ (m757.1 10) := by omega
    clear h759
    clear h761
    have hLx := h758
    clear g749 g750 g751 g752 g753 hf754 h745 h760
    refine T_gf 203 (.ref 227) rfl rfl rfl rfl rfl rfl ?_
    refine T_ld 204 (.int (i32 t)) rfl (fun _ => rfl) ?_
    refine T_ld 205 (.int (i32 oo)) rfl (fun _ => rfl) ?_
    have G768 : ∀ j, 0 ≤ (upI (m.2 57) t oo) j ∧ (upI (m.2 57) t oo) j ≤ 15 := upI_rg (hT.2.1 57) ⟨by omega, by omega⟩
    refine T_iast (a' := [(57, upI (m.2 57) t oo)]) 206 57 (m.2 57) rfl rfl rfl (by omega) (show t < (8 : Int) by omega) (show (m757.2 57) = (m.2 57) from ((fr2 Fm757 57 rfl).trans ((fr2 Fm744 57 rfl).trans ((fr2 Fm728 57 rfl).trans ((fr2 Fm712 57 rfl).trans (fr2 Fm699 57 rfl)))))) rfl ?_
    refine T_ret rfl (fun _ => rfl) ?_
    exact ⟨(mO m757 [] [(57, upI (m.2 57) t oo)]), (Ty_mO Tm757 rfl rfl trivial ⟨G768, trivial⟩), (fr_m (fr_s Fm757 (fr_m (fr_s Fm744 (fr_m (fr_s Fm728 (fr_m (fr_s Fm712 (fr_m (fr_s Fm699 (fr_m fr_0 rfl rfl) rfl rfl) rfl rfl) rfl rfl) rfl rfl) rfl rfl) rfl rfl) rfl rfl) rfl rfl) rfl rfl) rfl rfl), (show (m757.1 10) = 0 → (m.1 10) = 0 by omega), (show LxP (m757.1 7) (m757.1 8) (m757.1 9) (m.1 6) (m757.1 10) by first | (first | exact hLx | exact (fun _ => hLx (by omega)) | (intro h9; exfalso; omega)) | (exfalso; omega)), (fun (h : (m757.1 10) = 0) => absurd h (by omega)), rfl⟩
def fF_takeRoom : List Nat := [7, 8, 9, 10, 11, 12]
def fA_takeRoom : List Nat := [54, 55, 56]
def Q_takeRoom (m : mR) (c : Nat → Option am_C) (N : Nat) (t : Int) : ag_Re af_T → Prop := fun R => ∃ (M : mR), Ty M ∧ fr fF_takeRoom fA_takeRoom m M ∧ ((M.1 10) = 0 → (m.1 10) = 0) ∧ (LxP (M.1 7) (M.1 8) (M.1 9) (m.1 6) (M.1 10)) ∧ (M.1 10 = 0 → ((m.1 8) + 1 ≤ (M.1 8)) ∧ (1 ≤ (M.2 54) t) ∧ ((m.2 58) t = 1 → (M.2 54) t ≤ 16) ∧ (agr (m.2 54) (M.2 54) t)) ∧ R = (.inl (none), (mhp M c, N), 0, 0)
set_option maxHeartbeats 3000000 in
theorem c_takeRoom (w : wX) (m : mR) (c : Nat → Option am_C) (N D : Nat) (hD : 7 ≤ D) (hT : Ty m) (t : Int) (qt : R32 t) (hLx0 : LxP (m.1 7) (m.1 8) (m.1 9) (m.1 6) (m.1 10)) (p1 : 0 ≤ t ∧ t ≤ 7) (hC : m.1 10 = 0 → True) : TC w D 278 [.ref 189, .int (i32 t)] (mhp m c, N) (Q_takeRoom m c N t) := by
  obtain ⟨D, rfl⟩ : ∃ k, D = k + 1 := ⟨D - 1, by omega⟩
  obtain ⟨qta, qtb⟩ := id qt
  have hLx := hLx0
  have f7 : 0 ≤ m.1 7 ∧ m.1 7 ≤ 330 := hT.1 7
  have f8 : 0 ≤ m.1 8 ∧ m.1 8 ≤ 4000 := hT.1 8
  have f9 : 0 ≤ m.1 9 ∧ m.1 9 ≤ 4000 := hT.1 9
  have f10 : 0 ≤ m.1 10 ∧ m.1 10 ≤ 8 := hT.1 10
  have f11 : (-1) ≤ m.1 11 ∧ m.1 11 ≤ 4000 := hT.1 11
  have f12 : (-9223372036854775808) ≤ m.1 12 ∧ m.1 12 ≤ 9223372036854775807 := hT.1 12
  have f6 : 0 ≤ m.1 6 ∧ m.1 6 ≤ 4000 := hT.1 6
  refine Tc_of rfl ?_
  show TT w D pm_278 (0, [(0, .ref 189), (1, .int (i32 t))], [], (mhp (mO m [] []) c, N), 0, 0) (Q_takeRoom m c N t)
  by_cases hf0 : m.1 10 = 0
  · skip
    have h7 := hLx (by omega)
    have J174_13 : ∀ (m12 : mR), Ty m12 → fr [7, 8, 9, 10, 11, 12] [54, 55, 56] (mO m [] []) m12 → (1 ≤ (m12.1 10)) → TT w D pm_278 (174, [(0, .ref 189)], [], (mhp (mO m12 [] []) c, N), 0, 0) (Q_takeRoom m c N t) := by
      intro m12 Tm12 Fm12 ic14
      have q15_7 : 0 ≤ m12.1 7 ∧ m12.1 7 ≤ 330 := Tm12.1 7
      have q15_8 : 0 ≤ m12.1 8 ∧ m12.1 8 ≤ 4000 := Tm12.1 8
      have q15_9 : 0 ≤ m12.1 9 ∧ m12.1 9 ≤ 4000 := Tm12.1 9
      have q15_10 : 0 ≤ m12.1 10 ∧ m12.1 10 ≤ 8 := Tm12.1 10
      have q15_11 : (-1) ≤ m12.1 11 ∧ m12.1 11 ≤ 4000 := Tm12.1 11
      have q15_12 : (-9223372036854775808) ≤ m12.1 12 ∧ m12.1 12 ≤ 9223372036854775807 := Tm12.1 12
      refine T_ret rfl (fun _ => rfl) ?_
      exact ⟨(mO m12 [] []), Tm12, (fr_m (fr_s Fm12 (fr_m fr_0 rfl rfl) rfl rfl) rfl rfl), (show (m12.1 10) = 0 → (m.1 10) = 0 by omega), (show LxP (m12.1 7) (m12.1 8) (m12.1 9) (m.1 6) (m12.1 10) by first | (first | exact hLx | exact (fun _ => hLx (by omega)) | (intro h9; exfalso; omega)) | (exfalso; omega)), (fun (h : (m12.1 10) = 0) => absurd h (by omega)), rfl⟩
    have J167_20 : ∀ (s18 : Int) (m19 : mR), (R32 s18) → Ty m19 → fr [7, 8, 9, 10, 11, 12] [54, 55, 56] (mO m [] []) m19 → (0 ≤ s18) → (s18 ≤ 8) → (1 ≤ (m19.1 10)) → TT w D pm_278 (167, [(0, .ref 189)], [.int (i32 s18), .int (i32 t), .ref 226], (mhp (mO m19 [] []) c, N), 0, 0) (Q_takeRoom m c N t) := by
      intro s18 m19 q24 Tm19 Fm19 ic21 ic22 ic23
      obtain ⟨q24a, q24b⟩ := id q24
      have q25_7 : 0 ≤ m19.1 7 ∧ m19.1 7 ≤ 330 := Tm19.1 7
      have q25_8 : 0 ≤ m19.1 8 ∧ m19.1 8 ≤ 4000 := Tm19.1 8
      have q25_9 : 0 ≤ m19.1 9 ∧ m19.1 9 ≤ 4000 := Tm19.1 9
      have q25_10 : 0 ≤ m19.1 10 ∧ m19.1 10 ≤ 8 := Tm19.1 10
      have q25_11 : (-1) ≤ m19.1 11 ∧ m19.1 11 ≤ 4000 := Tm19.1 11
      have q25_12 : (-9223372036854775808) ≤ m19.1 12 ∧ m19.1 12 ≤ 9223372036854775807 := Tm19.1 12
      have G28 : ∀ j, 0 ≤ (upI (m19.2 56) t s18) j ∧ (upI (m19.2 56) t s18) j ≤ 8 := upI_rg (Tm19.2.1 56) ⟨by omega, by omega⟩
      refine T_iast (a' := [(56, upI (m19.2 56) t s18)]) 168 56 (m19.2 56) rfl rfl rfl (by omega) (show t < (8 : Int) by omega) rfl rfl ?_
      refine T_ld 169 (.ref 189) rfl (fun _ => rfl) ?_
      refine T_ld 171 (.int (i32 59)) rfl (fun _ => rfl) ?_
      refine T_call 174 232 [.ref 189, .int (i32 59)] [] rfl (fun _ => rfl) rfl (d_need w (mO m19 [] [(56, upI (m19.2 56) t s18)]) c N D (by omega) (Ty_mO Tm19 rfl rfl trivial ⟨G28, trivial⟩) 59 ⟨by decide, by decide⟩ (show 1 ≤ (59 : Int) by omega) (show LxP (m19.1 7) (m19.1 8) (m19.1 9) (m19.1 6) (m19.1 10) by rewrite [(show (m19.1 6) = (m.1 6) from (fr1 Fm19 6 rfl))]; first | exact hLx | (intro h9; exfalso; omega) | (intro h9; have h8 := hLx (by omega); omega))) (fun rr29 k30 => ?_)
      obtain ⟨m31, Tm31, Fm31, h32, h33, h34, h35, rfl⟩ := k30
      refine ⟨_, _, rfl, ?_⟩
      refine T_nb (st' := []) rfl ?_
      have g36 : 0 ≤ m31.1 7 ∧ m31.1 7 ≤ 330 := Tm31.1 7
      have g37 : 0 ≤ m31.1 8 ∧ m31.1 8 ≤ 4000 := Tm31.1 8
      have g38 : 0 ≤ m31.1 9 ∧ m31.1 9 ≤ 4000 := Tm31.1 9
      have g39 : 0 ≤ m31.1 10 ∧ m31.1 10 ≤ 8 := Tm31.1 10
      have g40 : (-1) ≤ m31.1 11 ∧ m31.1 11 ≤ 4000 := Tm31.1 11
      have g41 : (-9223372036854775808) ≤ m31.1 12 ∧ m31.1 12 ≤ 9223372036854775807 := Tm31.1 12
      replace h32 : LxP (m31.1 7) (m31.1 8) (m31.1 9) (m19.1 6) (m31.1 10) := h32
      rewrite [(show (m19.1 6) = (m.1 6) from (fr1 Fm19 6 rfl))] at h32
      replace h33 : (m31.1 10) = 0 → (m19.1 10) = 0 ∧ (m19.1 7) = (59 : Int) := h33
      replace h34 : (m19.1 8) ≤ (m31.1 8) := h34
      replace h35 : (m31.1 10) = 0 → (m19.1 8) + (m19.1 9) ≤ (m31.1 8) := h35
      have hf42 : 1 ≤ (m31.1 10) := by omega
      clear h33
      clear h35
      have hLx := h32
      exact J174_13 (mO m31 [] []) Tm31 (fr_m (fr_s Fm31 (fr_m (fr_s Fm19 (fr_m fr_0 rfl rfl) rfl rfl) rfl rfl) rfl rfl) rfl rfl) (show 1 ≤ (m31.1 10) by omega)
    have J155_44 : ∀ (m43 : mR), Ty m43 → fr [7, 8, 9, 10, 11, 12] [54, 55, 56] (mO m [] []) m43 → (1 ≤ (m43.1 10)) → TT w D pm_278 (155, [(0, .ref 189), (1, .int (i32 t))], [], (mhp (mO m43 [] []) c, N), 0, 0) (Q_takeRoom m c N t) := by
      intro m43 Tm43 Fm43 ic45
      have q46_7 : 0 ≤ m43.1 7 ∧ m43.1 7 ≤ 330 := Tm43.1 7
      have q46_8 : 0 ≤ m43.1 8 ∧ m43.1 8 ≤ 4000 := Tm43.1 8
      have q46_9 : 0 ≤ m43.1 9 ∧ m43.1 9 ≤ 4000 := Tm43.1 9
      have q46_10 : 0 ≤ m43.1 10 ∧ m43.1 10 ≤ 8 := Tm43.1 10
      have q46_11 : (-1) ≤ m43.1 11 ∧ m43.1 11 ≤ 4000 := Tm43.1 11
      have q46_12 : (-9223372036854775808) ≤ m43.1 12 ∧ m43.1 12 ≤ 9223372036854775807 := Tm43.1 12
      refine T_gf 159 (.ref 226) rfl rfl rfl rfl rfl rfl ?_
      refine T_ld 160 (.int (i32 t)) rfl (fun _ => rfl) ?_
      refine T_ld 161 (.ref 189) rfl (fun _ => rfl) ?_
      refine T_ld 162 (.int (i32 0)) rfl (fun _ => rfl) ?_
      refine T_ld 164 (.int (i32 8)) rfl (fun _ => rfl) ?_
      refine T_call 167 234 [.ref 189, .int (i32 0), .int (i32 8)] [.int (i32 t), .ref 226] rfl (fun _ => rfl) rfl (d_number w (mO m43 [] []) c N D (by omega) Tm43 0 8 ⟨by decide, by decide⟩ ⟨by decide, by decide⟩ (show LxP (m43.1 7) (m43.1 8) (m43.1 9) (m43.1 6) (m43.1 10) by rewrite [(show (m43.1 6) = (m.1 6) from (fr1 Fm43 6 rfl))]; first | exact hLx | (intro h9; exfalso; omega) | (intro h9; have h8 := hLx (by omega); omega)) (show (0 : Int) ≤ (8 : Int) by omega)) (fun rr49 k50 => ?_)
      obtain ⟨m51, nu, Tm51, Fm51, g52, h53, h54, h55, h56, h57, h58, rfl⟩ := k50
      refine ⟨_, _, rfl, ?_⟩
      refine T_nb (st' := [.int (i32 nu), .int (i32 t), .ref 226]) rfl ?_
      obtain ⟨g52a, g52b⟩ := g52
      have g59 : 0 ≤ m51.1 7 ∧ m51.1 7 ≤ 330 := Tm51.1 7
      have g60 : 0 ≤ m51.1 8 ∧ m51.1 8 ≤ 4000 := Tm51.1 8
      have g61 : 0 ≤ m51.1 9 ∧ m51.1 9 ≤ 4000 := Tm51.1 9
      have g62 : 0 ≤ m51.1 10 ∧ m51.1 10 ≤ 8 := Tm51.1 10
      have g63 : (-1) ≤ m51.1 11 ∧ m51.1 11 ≤ 4000 := Tm51.1 11
      have g64 : (-9223372036854775808) ≤ m51.1 12 ∧ m51.1 12 ≤ 9223372036854775807 := Tm51.1 12
      replace h53 : LxP (m51.1 7) (m51.1 8) (m51.1 9) (m43.1 6) (m51.1 10) := h53
      rewrite [(show (m43.1 6) = (m.1 6) from (fr1 Fm43 6 rfl))] at h53
      replace h54 : (m43.1 8) ≤ (m51.1 8) := h54
      replace h55 : (m51.1 10) = 0 → (m43.1 10) = 0 ∧ (m43.1 8) + (m43.1 9) ≤ (m51.1 8) := h55
      replace h56 : (m51.1 10) = 0 → (m43.1 7) = 2 := h56
      replace h57 : (0 : Int) ≤ nu ∧ nu ≤ (8 : Int) := h57
      replace h58 : (m51.1 10) = 0 → nu = (m43.1 12) := h58
      have hf65 : 1 ≤ (m51.1 10) := by omega
      clear h55
      clear h56
      clear h58
      have hLx := h53
      refine Tm_lv (a := [(0, .ref 189)]) rfl rfl ⟨rfl, trivial⟩ ?_
      exact J167_20 nu (mO m51 [] []) (r32 (by omega) (by omega)) Tm51 (fr_m (fr_s Fm51 (fr_m (fr_s Fm43 (fr_m fr_0 rfl rfl) rfl rfl) rfl rfl) rfl rfl) rfl rfl) (show 0 ≤ nu by omega) (show nu ≤ 8 by omega) (show 1 ≤ (m51.1 10) by omega)
    have J147_68 : ∀ (s66 : Int) (m67 : mR), (R32 s66) → Ty m67 → fr [7, 8, 9, 10, 11, 12] [54, 55, 56] (mO m [] []) m67 → (1 ≤ s66) → (s66 ≤ 4) → (1 ≤ (m67.1 10)) → TT w D pm_278 (147, [(0, .ref 189), (1, .int (i32 t))], [.int (i32 s66), .int (i32 t), .ref 225], (mhp (mO m67 [] []) c, N), 0, 0) (Q_takeRoom m c N t) := by
      intro s66 m67 q72 Tm67 Fm67 ic69 ic70 ic71
      obtain ⟨q72a, q72b⟩ := id q72
      have q73_7 : 0 ≤ m67.1 7 ∧ m67.1 7 ≤ 330 := Tm67.1 7
      have q73_8 : 0 ≤ m67.1 8 ∧ m67.1 8 ≤ 4000 := Tm67.1 8
      have q73_9 : 0 ≤ m67.1 9 ∧ m67.1 9 ≤ 4000 := Tm67.1 9
      have q73_10 : 0 ≤ m67.1 10 ∧ m67.1 10 ≤ 8 := Tm67.1 10
      have q73_11 : (-1) ≤ m67.1 11 ∧ m67.1 11 ≤ 4000 := Tm67.1 11
      have q73_12 : (-9223372036854775808) ≤ m67.1 12 ∧ m67.1 12 ≤ 9223372036854775807 := Tm67.1 12
      have G76 : ∀ j, 0 ≤ (upI (m67.2 55) t s66) j ∧ (upI (m67.2 55) t s66) j ≤ 4 := upI_rg (Tm67.2.1 55) ⟨by omega, by omega⟩
      refine T_iast (a' := [(55, upI (m67.2 55) t s66)]) 148 55 (m67.2 55) rfl rfl rfl (by omega) (show t < (8 : Int) by omega) rfl rfl ?_
      refine T_ld 149 (.ref 189) rfl (fun _ => rfl) ?_
      refine T_ld 152 (.int (i32 318)) rfl (fun _ => rfl) ?_
      refine T_call 155 232 [.ref 189, .int (i32 318)] [] rfl (fun _ => rfl) rfl (d_need w (mO m67 [] [(55, upI (m67.2 55) t s66)]) c N D (by omega) (Ty_mO Tm67 rfl rfl trivial ⟨G76, trivial⟩) 318 ⟨by decide, by decide⟩ (show 1 ≤ (318 : Int) by omega) (show LxP (m67.1 7) (m67.1 8) (m67.1 9) (m67.1 6) (m67.1 10) by rewrite [(show (m67.1 6) = (m.1 6) from (fr1 Fm67 6 rfl))]; first | exact hLx | (intro h9; exfalso; omega) | (intro h9; have h8 := hLx (by omega); omega))) (fun rr77 k78 => ?_)
      obtain ⟨m79, Tm79, Fm79, h80, h81, h82, h83, rfl⟩ := k78
      refine ⟨_, _, rfl, ?_⟩
      refine T_nb (st' := []) rfl ?_
      have g84 : 0 ≤ m79.1 7 ∧ m79.1 7 ≤ 330 := Tm79.1 7
      have g85 : 0 ≤ m79.1 8 ∧ m79.1 8 ≤ 4000 := Tm79.1 8
      have g86 : 0 ≤ m79.1 9 ∧ m79.1 9 ≤ 4000 := Tm79.1 9
      have g87 : 0 ≤ m79.1 10 ∧ m79.1 10 ≤ 8 := Tm79.1 10
      have g88 : (-1) ≤ m79.1 11 ∧ m79.1 11 ≤ 4000 := Tm79.1 11
      have g89 : (-9223372036854775808) ≤ m79.1 12 ∧ m79.1 12 ≤ 9223372036854775807 := Tm79.1 12
      replace h80 : LxP (m79.1 7) (m79.1 8) (m79.1 9) (m67.1 6) (m79.1 10) := h80
      rewrite [(show (m67.1 6) = (m.1 6) from (fr1 Fm67 6 rfl))] at h80
      replace h81 : (m79.1 10) = 0 → (m67.1 10) = 0 ∧ (m67.1 7) = (318 : Int) := h81
      replace h82 : (m67.1 8) ≤ (m79.1 8) := h82
      replace h83 : (m79.1 10) = 0 → (m67.1 8) + (m67.1 9) ≤ (m79.1 8) := h83
      have hf90 : 1 ≤ (m79.1 10) := by omega
      clear h81
      clear h83
      have hLx := h80
      exact J155_44 (mO m79 [] []) Tm79 (fr_m (fr_s Fm79 (fr_m (fr_s Fm67 (fr_m fr_0 rfl rfl) rfl rfl) rfl rfl) rfl rfl) rfl rfl) (show 1 ≤ (m79.1 10) by omega)
    have J136_92 : ∀ (m91 : mR), Ty m91 → fr [7, 8, 9, 10, 11, 12] [54, 55, 56] (mO m [] []) m91 → (1 ≤ (m91.1 10)) → TT w D pm_278 (136, [(0, .ref 189), (1, .int (i32 t))], [], (mhp (mO m91 [] []) c, N), 0, 0) (Q_takeRoom m c N t) := by
      intro m91 Tm91 Fm91 ic93
      have q94_7 : 0 ≤ m91.1 7 ∧ m91.1 7 ≤ 330 := Tm91.1 7
      have q94_8 : 0 ≤ m91.1 8 ∧ m91.1 8 ≤ 4000 := Tm91.1 8
      have q94_9 : 0 ≤ m91.1 9 ∧ m91.1 9 ≤ 4000 := Tm91.1 9
      have q94_10 : 0 ≤ m91.1 10 ∧ m91.1 10 ≤ 8 := Tm91.1 10
      have q94_11 : (-1) ≤ m91.1 11 ∧ m91.1 11 ≤ 4000 := Tm91.1 11
      have q94_12 : (-9223372036854775808) ≤ m91.1 12 ∧ m91.1 12 ≤ 9223372036854775807 := Tm91.1 12
      refine T_gf 140 (.ref 225) rfl rfl rfl rfl rfl rfl ?_
      refine T_ld 141 (.int (i32 t)) rfl (fun _ => rfl) ?_
      refine T_ld 142 (.ref 189) rfl (fun _ => rfl) ?_
      refine T_ld 143 (.int (i32 1)) rfl (fun _ => rfl) ?_
      refine T_ld 144 (.int (i32 4)) rfl (fun _ => rfl) ?_
      refine T_call 147 234 [.ref 189, .int (i32 1), .int (i32 4)] [.int (i32 t), .ref 225] rfl (fun _ => rfl) rfl (d_number w (mO m91 [] []) c N D (by omega) Tm91 1 4 ⟨by decide, by decide⟩ ⟨by decide, by decide⟩ (show LxP (m91.1 7) (m91.1 8) (m91.1 9) (m91.1 6) (m91.1 10) by rewrite [(show (m91.1 6) = (m.1 6) from (fr1 Fm91 6 rfl))]; first | exact hLx | (intro h9; exfalso; omega) | (intro h9; have h8 := hLx (by omega); omega)) (show (1 : Int) ≤ (4 : Int) by omega)) (fun rr97 k98 => ?_)
      obtain ⟨m99, nu, Tm99, Fm99, g100, h101, h102, h103, h104, h105, h106, rfl⟩ := k98
      refine ⟨_, _, rfl, ?_⟩
      refine T_nb (st' := [.int (i32 nu), .int (i32 t), .ref 225]) rfl ?_
      obtain ⟨g100a, g100b⟩ := g100
      have g107 : 0 ≤ m99.1 7 ∧ m99.1 7 ≤ 330 := Tm99.1 7
      have g108 : 0 ≤ m99.1 8 ∧ m99.1 8 ≤ 4000 := Tm99.1 8
      have g109 : 0 ≤ m99.1 9 ∧ m99.1 9 ≤ 4000 := Tm99.1 9
      have g110 : 0 ≤ m99.1 10 ∧ m99.1 10 ≤ 8 := Tm99.1 10
      have g111 : (-1) ≤ m99.1 11 ∧ m99.1 11 ≤ 4000 := Tm99.1 11
      have g112 : (-9223372036854775808) ≤ m99.1 12 ∧ m99.1 12 ≤ 9223372036854775807 := Tm99.1 12
      replace h101 : LxP (m99.1 7) (m99.1 8) (m99.1 9) (m91.1 6) (m99.1 10) := h101
      rewrite [(show (m91.1 6) = (m.1 6) from (fr1 Fm91 6 rfl))] at h101
      replace h102 : (m91.1 8) ≤ (m99.1 8) := h102
      replace h103 : (m99.1 10) = 0 → (m91.1 10) = 0 ∧ (m91.1 8) + (m91.1 9) ≤ (m99.1 8) := h103
      replace h104 : (m99.1 10) = 0 → (m91.1 7) = 2 := h104
      replace h105 : (1 : Int) ≤ nu ∧ nu ≤ (4 : Int) := h105
      replace h106 : (m99.1 10) = 0 → nu = (m91.1 12) := h106
      have hf113 : 1 ≤ (m99.1 10) := by omega
      clear h103
      clear h104
      clear h106
      have hLx := h101
      exact J147_68 nu (mO m99 [] []) (r32 (by omega) (by omega)) Tm99 (fr_m (fr_s Fm99 (fr_m (fr_s Fm91 (fr_m fr_0 rfl rfl) rfl rfl) rfl rfl) rfl rfl) rfl rfl) (show 1 ≤ nu by omega) (show nu ≤ 4 by omega) (show 1 ≤ (m99.1 10) by omega)
    have J105_116 : ∀ (s114 : Int) (m115 : mR), (R32 s114) → Ty m115 → fr [7, 8, 9, 10, 11, 12] [] (mO m [] []) m115 → (1 ≤ s114) → (s114 ≤ 32) → (1 ≤ (m115.1 10)) → TT w D pm_278 (105, [(0, .ref 189), (1, .int (i32 t))], [.int (i32 s114), .int (i32 t), .ref 224], (mhp (mO m115 [] []) c, N), 0, 0) (Q_takeRoom m c N t) := by
      intro s114 m115 q120 Tm115 Fm115 ic117 ic118 ic119
      obtain ⟨q120a, q120b⟩ := id q120
      have q121_7 : 0 ≤ m115.1 7 ∧ m115.1 7 ≤ 330 := Tm115.1 7
      have q121_8 : 0 ≤ m115.1 8 ∧ m115.1 8 ≤ 4000 := Tm115.1 8
      have q121_9 : 0 ≤ m115.1 9 ∧ m115.1 9 ≤ 4000 := Tm115.1 9
      have q121_10 : 0 ≤ m115.1 10 ∧ m115.1 10 ≤ 8 := Tm115.1 10
      have q121_11 : (-1) ≤ m115.1 11 ∧ m115.1 11 ≤ 4000 := Tm115.1 11
      have q121_12 : (-9223372036854775808) ≤ m115.1 12 ∧ m115.1 12 ≤ 9223372036854775807 := Tm115.1 12
      have G124 : ∀ j, 0 ≤ (upI (m.2 54) t s114) j ∧ (upI (m.2 54) t s114) j ≤ 32 := upI_rg (hT.2.1 54) ⟨by omega, by omega⟩
      refine T_iast (a' := [(54, upI (m.2 54) t s114)]) 106 54 (m.2 54) rfl rfl rfl (by omega) (show t < (8 : Int) by omega) (show (m115.2 54) = (m.2 54) from (fr2 Fm115 54 rfl)) rfl ?_
      refine T_gf 110 (.ref 225) rfl rfl rfl rfl rfl rfl ?_
      refine T_ld 111 (.int (i32 t)) rfl (fun _ => rfl) ?_
      refine T_ld 112 (.int (i32 0)) rfl (fun _ => rfl) ?_
      have G125 : ∀ j, 0 ≤ (upI (m.2 55) t 0) j ∧ (upI (m.2 55) t 0) j ≤ 4 := upI_rg (hT.2.1 55) ⟨by omega, by omega⟩
      refine T_iast (a' := [(54, upI (m.2 54) t s114), (55, upI (m.2 55) t 0)]) 113 55 (m.2 55) rfl rfl rfl (by omega) (show t < (8 : Int) by omega) (show (m115.2 55) = (m.2 55) from (fr2 Fm115 55 rfl)) rfl ?_
      refine T_gf 117 (.ref 226) rfl rfl rfl rfl rfl rfl ?_
      refine T_ld 118 (.int (i32 t)) rfl (fun _ => rfl) ?_
      refine T_ld 119 (.int (i32 0)) rfl (fun _ => rfl) ?_
      have G126 : ∀ j, 0 ≤ (upI (m.2 56) t 0) j ∧ (upI (m.2 56) t 0) j ≤ 8 := upI_rg (hT.2.1 56) ⟨by omega, by omega⟩
      refine T_iast (a' := [(54, upI (m.2 54) t s114), (55, upI (m.2 55) t 0), (56, upI (m.2 56) t 0)]) 120 56 (m.2 56) rfl rfl rfl (by omega) (show t < (8 : Int) by omega) (show (m115.2 56) = (m.2 56) from (fr2 Fm115 56 rfl)) rfl ?_
      refine T_gf 124 (.ref 228) rfl rfl rfl rfl rfl rfl ?_
      refine T_ld 125 (.int (i32 t)) rfl (fun _ => rfl) ?_
      refine T_bald 126 58 (m.2 58) rfl rfl rfl (by omega) (show t < (8 : Int) by omega) (show (m115.2 58) = (m.2 58) from (fr2 Fm115 58 rfl)) ?_
      have e127 : 0 ≤ m.2 58 t ∧ m.2 58 t ≤ 1 := hT.2.1 58 t
      refine T_if 168 129 rfl rfl rfl (r32 (by omega) (by omega)) (fun (h128 : (m.2 58) t = 0) => ?_) (fun (h128 : ¬ ((m.2 58) t = 0)) => ?_)
      · skip
        refine T_ld 169 (.ref 189) rfl (fun _ => rfl) ?_
        refine T_ld 171 (.int (i32 59)) rfl (fun _ => rfl) ?_
        refine T_call 174 232 [.ref 189, .int (i32 59)] [] rfl (fun _ => rfl) rfl (d_need w (mO m115 [] [(54, upI (m.2 54) t s114), (55, upI (m.2 55) t 0), (56, upI (m.2 56) t 0)]) c N D (by omega) (Ty_mO Tm115 rfl rfl trivial ⟨G124, G125, G126, trivial⟩) 59 ⟨by decide, by decide⟩ (show 1 ≤ (59 : Int) by omega) (show LxP (m115.1 7) (m115.1 8) (m115.1 9) (m115.1 6) (m115.1 10) by rewrite [(show (m115.1 6) = (m.1 6) from (fr1 Fm115 6 rfl))]; first | exact hLx | (intro h9; exfalso; omega) | (intro h9; have h8 := hLx (by omega); omega))) (fun rr129 k130 => ?_)
        obtain ⟨m131, Tm131, Fm131, h132, h133, h134, h135, rfl⟩ := k130
        refine ⟨_, _, rfl, ?_⟩
        refine T_nb (st' := []) rfl ?_
        have g136 : 0 ≤ m131.1 7 ∧ m131.1 7 ≤ 330 := Tm131.1 7
        have g137 : 0 ≤ m131.1 8 ∧ m131.1 8 ≤ 4000 := Tm131.1 8
        have g138 : 0 ≤ m131.1 9 ∧ m131.1 9 ≤ 4000 := Tm131.1 9
        have g139 : 0 ≤ m131.1 10 ∧ m131.1 10 ≤ 8 := Tm131.1 10
        have g140 : (-1) ≤ m131.1 11 ∧ m131.1 11 ≤ 4000 := Tm131.1 11
        have g141 : (-9223372036854775808) ≤ m131.1 12 ∧ m131.1 12 ≤ 9223372036854775807 := Tm131.1 12
        replace h132 : LxP (m131.1 7) (m131.1 8) (m131.1 9) (m115.1 6) (m131.1 10) := h132
        rewrite [(show (m115.1 6) = (m.1 6) from (fr1 Fm115 6 rfl))] at h132
        replace h133 : (m131.1 10) = 0 → (m115.1 10) = 0 ∧ (m115.1 7) = (59 : Int) := h133
        replace h134 : (m115.1 8) ≤ (m131.1 8) := h134
        replace h135 : (m131.1 10) = 0 → (m115.1 8) + (m115.1 9) ≤ (m131.1 8) := h135
        have hf142 : 1 ≤ (m131.1 10) := by omega
        clear h133
        clear h135
        have hLx := h132
        refine Tm_lv (a := [(0, .ref 189)]) rfl rfl ⟨rfl, trivial⟩ ?_
        exact J174_13 (mO m131 [] []) Tm131 (fr_m (fr_s Fm131 (fr_m (fr_s Fm115 (fr_m fr_0 rfl rfl) rfl rfl) rfl rfl) rfl rfl) rfl rfl) (show 1 ≤ (m131.1 10) by omega)
      · skip
        refine T_ld 130 (.ref 189) rfl (fun _ => rfl) ?_
        refine T_ld 133 (.int (i32 317)) rfl (fun _ => rfl) ?_
        refine T_call 136 232 [.ref 189, .int (i32 317)] [] rfl (fun _ => rfl) rfl (d_need w (mO m115 [] [(54, upI (m.2 54) t s114), (55, upI (m.2 55) t 0), (56, upI (m.2 56) t 0)]) c N D (by omega) (Ty_mO Tm115 rfl rfl trivial ⟨G124, G125, G126, trivial⟩) 317 ⟨by decide, by decide⟩ (show 1 ≤ (317 : Int) by omega) (show LxP (m115.1 7) (m115.1 8) (m115.1 9) (m115.1 6) (m115.1 10) by rewrite [(show (m115.1 6) = (m.1 6) from (fr1 Fm115 6 rfl))]; first | exact hLx | (intro h9; exfalso; omega) | (intro h9; have h8 := hLx (by omega); omega))) (fun rr143 k144 => ?_)
        obtain ⟨m145, Tm145, Fm145, h146, h147, h148, h149, rfl⟩ := k144
        refine ⟨_, _, rfl, ?_⟩
        refine T_nb (st' := []) rfl ?_
        have g150 : 0 ≤ m145.1 7 ∧ m145.1 7 ≤ 330 := Tm145.1 7
        have g151 : 0 ≤ m145.1 8 ∧ m145.1 8 ≤ 4000 := Tm145.1 8
        have g152 : 0 ≤ m145.1 9 ∧ m145.1 9 ≤ 4000 := Tm145.1 9
        have g153 : 0 ≤ m145.1 10 ∧ m145.1 10 ≤ 8 := Tm145.1 10
        have g154 : (-1) ≤ m145.1 11 ∧ m145.1 11 ≤ 4000 := Tm145.1 11
        have g155 : (-9223372036854775808) ≤ m145.1 12 ∧ m145.1 12 ≤ 9223372036854775807 := Tm145.1 12
        replace h146 : LxP (m145.1 7) (m145.1 8) (m145.1 9) (m115.1 6) (m145.1 10) := h146
        rewrite [(show (m115.1 6) = (m.1 6) from (fr1 Fm115 6 rfl))] at h146
        replace h147 : (m145.1 10) = 0 → (m115.1 10) = 0 ∧ (m115.1 7) = (317 : Int) := h147
        replace h148 : (m115.1 8) ≤ (m145.1 8) := h148
        replace h149 : (m145.1 10) = 0 → (m115.1 8) + (m115.1 9) ≤ (m145.1 8) := h149
        have hf156 : 1 ≤ (m145.1 10) := by omega
        clear h147
        clear h149
        have hLx := h146
        exact J136_92 (mO m145 [] []) Tm145 (fr_m (fr_s Fm145 (fr_m (fr_s Fm115 (fr_m fr_0 rfl rfl) rfl rfl) rfl rfl) rfl rfl) rfl rfl) (show 1 ≤ (m145.1 10) by omega)
    refine T_ld 1 (.ref 189) rfl (fun _ => rfl) ?_
    refine T_ld 4 (.int (i32 316)) rfl (fun _ => rfl) ?_
    refine T_call 7 232 [.ref 189, .int (i32 316)] [] rfl (fun _ => rfl) rfl (d_need w (mO m [] []) c N D (by omega) hT 316 ⟨by decide, by decide⟩ (show 1 ≤ (316 : Int) by omega) (show LxP (m.1 7) (m.1 8) (m.1 9) (m.1 6) (m.1 10) by first | exact hLx | (intro h9; exfalso; omega) | (intro h9; have h8 := hLx (by omega); omega))) (fun rr157 k158 => ?_)
    obtain ⟨m159, Tm159, Fm159, h160, h161, h162, h163, rfl⟩ := k158
    refine ⟨_, _, rfl, ?_⟩
    refine T_nb (st' := []) rfl ?_
    have g164 : 0 ≤ m159.1 7 ∧ m159.1 7 ≤ 330 := Tm159.1 7
    have g165 : 0 ≤ m159.1 8 ∧ m159.1 8 ≤ 4000 := Tm159.1 8
    have g166 : 0 ≤ m159.1 9 ∧ m159.1 9 ≤ 4000 := Tm159.1 9
    have g167 : 0 ≤ m159.1 10 ∧ m159.1 10 ≤ 8 := Tm159.1 10
    have g168 : (-1) ≤ m159.1 11 ∧ m159.1 11 ≤ 4000 := Tm159.1 11
    have g169 : (-9223372036854775808) ≤ m159.1 12 ∧ m159.1 12 ≤ 9223372036854775807 := Tm159.1 12
    by_cases hf170 : (m159.1 10) = 0
    · skip
      replace h160 : LxP (m159.1 7) (m159.1 8) (m159.1 9) (m.1 6) (m159.1 10) := h160
      have hLx := h160
      replace h161 : (m.1 10) = 0 ∧ (m.1 7) = (316 : Int) := h161 hf170
      replace h162 : (m.1 8) ≤ (m159.1 8) := h162
      replace h163 : (m.1 8) + (m.1 9) ≤ (m159.1 8) := h163 hf170
      have u171 : (m.1 8) + 1 ≤ (m159.1 8) := by omega
      have J93_173 : ∀ (m172 : mR), Ty m172 → fr [10, 11] [] (mO m159 [] []) m172 → ((m172.1 10) = 0 → ((m.2 58) t = 1 → (m159.1 7) = 2 → 1 ≤ (m159.1 12) ∧ (m159.1 12) ≤ 16)) → TT w D pm_278 (93, [(0, .ref 189), (1, .int (i32 t))], [], (mhp (mO m172 [] []) c, N), 0, 0) (Q_takeRoom m c N t) := by
        intro m172 Tm172 Fm172 c175
        have q174_10 : 0 ≤ m172.1 10 ∧ m172.1 10 ≤ 8 := Tm172.1 10
        have q174_11 : (-1) ≤ m172.1 11 ∧ m172.1 11 ≤ 4000 := Tm172.1 11
        by_cases hf177 : (m172.1 10) = 0
        · skip
          have c178 := c175 hf177
          clear c175
          refine T_gf 97 (.ref 224) rfl rfl rfl rfl rfl rfl ?_
          refine T_ld 98 (.int (i32 t)) rfl (fun _ => rfl) ?_
          refine T_ld 99 (.ref 189) rfl (fun _ => rfl) ?_
          refine T_ld 100 (.int (i32 1)) rfl (fun _ => rfl) ?_
          refine T_ld 102 (.int (i32 32)) rfl (fun _ => rfl) ?_
          refine T_call 105 234 [.ref 189, .int (i32 1), .int (i32 32)] [.int (i32 t), .ref 224] rfl (fun _ => rfl) rfl (d_number w (mO m172 [] []) c N D (by omega) Tm172 1 32 ⟨by decide, by decide⟩ ⟨by decide, by decide⟩ (show LxP (m172.1 7) (m172.1 8) (m172.1 9) (m172.1 6) (m172.1 10) by rewrite [(show (m172.1 7) = (m159.1 7) from (fr1 Fm172 7 rfl)), (show (m172.1 8) = (m159.1 8) from (fr1 Fm172 8 rfl)), (show (m172.1 9) = (m159.1 9) from (fr1 Fm172 9 rfl)), (show (m172.1 6) = (m.1 6) from ((fr1 Fm172 6 rfl).trans (fr1 Fm159 6 rfl)))]; first | exact hLx | (intro h9; exfalso; omega) | (intro h9; have h8 := hLx (by omega); omega)) (show (1 : Int) ≤ (32 : Int) by omega)) (fun rr179 k180 => ?_)
          obtain ⟨m181, nu, Tm181, Fm181, g182, h183, h184, h185, h186, h187, h188, rfl⟩ := k180
          refine ⟨_, _, rfl, ?_⟩
          refine T_nb (st' := [.int (i32 nu), .int (i32 t), .ref 224]) rfl ?_
          obtain ⟨g182a, g182b⟩ := g182
          have g189 : 0 ≤ m181.1 7 ∧ m181.1 7 ≤ 330 := Tm181.1 7
          have g190 : 0 ≤ m181.1 8 ∧ m181.1 8 ≤ 4000 := Tm181.1 8
          have g191 : 0 ≤ m181.1 9 ∧ m181.1 9 ≤ 4000 := Tm181.1 9
          have g192 : 0 ≤ m181.1 10 ∧ m181.1 10 ≤ 8 := Tm181.1 10
          have g193 : (-1) ≤ m181.1 11 ∧ m181.1 11 ≤ 4000 := Tm181.1 11
          have g194 : (-9223372036854775808) ≤ m181.1 12 ∧ m181.1 12 ≤ 9223372036854775807 := Tm181.1 12
          by_cases hf195 : (m181.1 10) = 0
          · skip
            replace h183 : LxP (m181.1 7) (m181.1 8) (m181.1 9) (m172.1 6) (m181.1 10) := h183
            rewrite [(show (m172.1 6) = (m.1 6) from ((fr1 Fm172 6 rfl).trans (fr1 Fm159 6 rfl)))] at h183
            have hLx := h183
            replace h184 : (m172.1 8) ≤ (m181.1 8) := h184
            rewrite [(show (m172.1 8) = (m159.1 8) from (fr1 Fm172 8 rfl))] at h184
            replace h185 : (m172.1 10) = 0 ∧ (m172.1 8) + (m172.1 9) ≤ (m181.1 8) := h185 hf195
            rewrite [(show (m172.1 8) = (m159.1 8) from (fr1 Fm172 8 rfl)), (show (m172.1 9) = (m159.1 9) from (fr1 Fm172 9 rfl))] at h185
            replace h186 : (m172.1 7) = 2 := h186 hf195
            rewrite [(show (m172.1 7) = (m159.1 7) from (fr1 Fm172 7 rfl))] at h186
            replace h187 : (1 : Int) ≤ nu ∧ nu ≤ (32 : Int) := h187
            replace h188 : nu = (m172.1 12) := h188 hf195
            rewrite [(show (m172.1 12) = (m159.1 12) from (fr1 Fm172 12 rfl))] at h188
            have u196 : (m.1 8) + 1 ≤ (m181.1 8) := by omega
            have G197 : ∀ j, 0 ≤ (upI (m.2 54) t nu) j ∧ (upI (m.2 54) t nu) j ≤ 32 := upI_rg (hT.2.1 54) ⟨by omega, by omega⟩
            refine T_iast (a' := [(54, upI (m.2 54) t nu)]) 106 54 (m.2 54) rfl rfl rfl (by omega) (show t < (8 : Int) by omega) (show (m181.2 54) = (m.2 54) from ((fr2 Fm181 54 rfl).trans ((fr2 Fm172 54 rfl).trans (fr2 Fm159 54 rfl)))) rfl ?_
            refine T_gf 110 (.ref 225) rfl rfl rfl rfl rfl rfl ?_
            refine T_ld 111 (.int (i32 t)) rfl (fun _ => rfl) ?_
            refine T_ld 112 (.int (i32 0)) rfl (fun _ => rfl) ?_
            have G198 : ∀ j, 0 ≤ (upI (m.2 55) t 0) j ∧ (upI (m.2 55) t 0) j ≤ 4 := upI_rg (hT.2.1 55) ⟨by omega, by omega⟩
            refine T_iast (a' := [(54, upI (m.2 54) t nu), (55, upI (m.2 55) t 0)]) 113 55 (m.2 55) rfl rfl rfl (by omega) (show t < (8 : Int) by omega) (show (m181.2 55) = (m.2 55) from ((fr2 Fm181 55 rfl).trans ((fr2 Fm172 55 rfl).trans (fr2 Fm159 55 rfl)))) rfl ?_
            refine T_gf 117 (.ref 226) rfl rfl rfl rfl rfl rfl ?_
            refine T_ld 118 (.int (i32 t)) rfl (fun _ => rfl) ?_
            refine T_ld 119 (.int (i32 0)) rfl (fun _ => rfl) ?_
            have G199 : ∀ j, 0 ≤ (upI (m.2 56) t 0) j ∧ (upI (m.2 56) t 0) j ≤ 8 := upI_rg (hT.2.1 56) ⟨by omega, by omega⟩
            refine T_iast (a' := [(54, upI (m.2 54) t nu), (55, upI (m.2 55) t 0), (56, upI (m.2 56) t 0)]) 120 56 (m.2 56) rfl rfl rfl (by omega) (show t < (8 : Int) by omega) (show (m181.2 56) = (m.2 56) from ((fr2 Fm181 56 rfl).trans ((fr2 Fm172 56 rfl).trans (fr2 Fm159 56 rfl)))) rfl ?_
            refine T_gf 124 (.ref 228) rfl rfl rfl rfl rfl rfl ?_
            refine T_ld 125 (.int (i32 t)) rfl (fun _ => rfl) ?_
            refine T_bald 126 58 (m.2 58) rfl rfl rfl (by omega) (show t < (8 : Int) by omega) (show (m181.2 58) = (m.2 58) from ((fr2 Fm181 58 rfl).trans ((fr2 Fm172 58 rfl).trans (fr2 Fm159 58 rfl)))) ?_
            have e200 : 0 ≤ m.2 58 t ∧ m.2 58 t ≤ 1 := hT.2.1 58 t
            refine T_if 168 129 rfl rfl rfl (r32 (by omega) (by omega)) (fun (h201 : (m.2 58) t = 0) => ?_) (fun (h201 : ¬ ((m.2 58) t = 0)) => ?_)
            · skip
              refine T_ld 169 (.ref 189) rfl (fun _ => rfl) ?_
              refine T_ld 171 (.int (i32 59)) rfl (fun _ => rfl) ?_
              refine T_call 174 232 [.ref 189, .int (i32 59)] [] rfl (fun _ => rfl) rfl (d_need w (mO m181 [] [(54, upI (m.2 54) t nu), (55, upI (m.2 55) t 0), (56, upI (m.2 56) t 0)]) c N D (by omega) (Ty_mO Tm181 rfl rfl trivial ⟨G197, G198, G199, trivial⟩) 59 ⟨by decide, by decide⟩ (show 1 ≤ (59 : Int) by omega) (show LxP (m181.1 7) (m181.1 8) (m181.1 9) (m181.1 6) (m181.1 10) by rewrite [(show (m181.1 6) = (m.1 6) from ((fr1 Fm181 6 rfl).trans ((fr1 Fm172 6 rfl).trans (fr1 Fm159 6 rfl))))]; first | exact hLx | (intro h9; exfalso; omega) | (intro h9; have h8 := hLx (by omega); omega))) (fun rr202 k203 => ?_)
              obtain ⟨m204, Tm204, Fm204, h205, h206, h207, h208, rfl⟩ := k203
              refine ⟨_, _, rfl, ?_⟩
              refine T_nb (st' := []) rfl ?_
              have g209 : 0 ≤ m204.1 7 ∧ m204.1 7 ≤ 330 := Tm204.1 7
              have g210 : 0 ≤ m204.1 8 ∧ m204.1 8 ≤ 4000 := Tm204.1 8
              have g211 : 0 ≤ m204.1 9 ∧ m204.1 9 ≤ 4000 := Tm204.1 9
              have g212 : 0 ≤ m204.1 10 ∧ m204.1 10 ≤ 8 := Tm204.1 10
              have g213 : (-1) ≤ m204.1 11 ∧ m204.1 11 ≤ 4000 := Tm204.1 11
              have g214 : (-9223372036854775808) ≤ m204.1 12 ∧ m204.1 12 ≤ 9223372036854775807 := Tm204.1 12
              by_cases hf215 : (m204.1 10) = 0
              · skip
                replace h205 : LxP (m204.1 7) (m204.1 8) (m204.1 9) (m181.1 6) (m204.1 10) := h205
                rewrite [(show (m181.1 6) = (m.1 6) from ((fr1 Fm181 6 rfl).trans ((fr1 Fm172 6 rfl).trans (fr1 Fm159 6 rfl))))] at h205
                have hLx := h205
                replace h206 : (m181.1 10) = 0 ∧ (m181.1 7) = (59 : Int) := h206 hf215
                replace h207 : (m181.1 8) ≤ (m204.1 8) := h207
                replace h208 : (m181.1 8) + (m181.1 9) ≤ (m204.1 8) := h208 hf215
                have u216 : (m.1 8) + 1 ≤ (m204.1 8) := by omega
                refine T_ret rfl (fun _ => rfl) ?_
                exact ⟨(mO m204 [] []), Tm204, (fr_m (fr_s Fm204 (fr_m (fr_s Fm181 (fr_m (fr_s Fm172 (fr_m (fr_s Fm159 (fr_m fr_0 rfl rfl) rfl rfl) rfl rfl) rfl rfl) rfl rfl) rfl rfl) rfl rfl) rfl rfl) rfl rfl), (show (m204.1 10) = 0 → (m.1 10) = 0 by omega), (show LxP (m204.1 7) (m204.1 8) (m204.1 9) (m.1 6) (m204.1 10) by first | (first | exact hLx | exact (fun _ => hLx (by omega)) | (intro h9; exfalso; omega)) | (exfalso; omega)), (fun _ => ⟨(show (m.1 8) + 1 ≤ (m204.1 8) by omega), (show 1 ≤ (m204.2 54) t by rewrite [(show (m204.2 54) = (upI (m.2 54) t nu) from (fr2 Fm204 54 rfl))]; first | (rw [upI_s]; omega) | (exfalso; omega)), (show (m.2 58) t = 1 → (m204.2 54) t ≤ 16 by rewrite [(show (m204.2 54) = (upI (m.2 54) t nu) from (fr2 Fm204 54 rfl))]; first | (intro h; rw [upI_s]; omega) | (exfalso; omega)), (show agr (m.2 54) (m204.2 54) t by rewrite [(show (m204.2 54) = (upI (m.2 54) t nu) from (fr2 Fm204 54 rfl))]; first | (exact agr_u (Int.le_refl _)) | (exfalso; omega))⟩), rfl⟩
              · skip
                replace h205 : LxP (m204.1 7) (m204.1 8) (m204.1 9) (m181.1 6) (m204.1 10) := h205
                rewrite [(show (m181.1 6) = (m.1 6) from ((fr1 Fm181 6 rfl).trans ((fr1 Fm172 6 rfl).trans (fr1 Fm159 6 rfl))))] at h205
                have hLx := h205
                clear h206
                replace h207 : (m181.1 8) ≤ (m204.1 8) := h207
                clear h208
                have hf217 : 1 ≤ (m204.1 10) := by omega
                refine Tm_lv (a := [(0, .ref 189)]) rfl rfl ⟨rfl, trivial⟩ ?_
                exact J174_13 (mO m204 [] []) Tm204 (fr_m (fr_s Fm204 (fr_m (fr_s Fm181 (fr_m (fr_s Fm172 (fr_m (fr_s Fm159 (fr_m fr_0 rfl rfl) rfl rfl) rfl rfl) rfl rfl) rfl rfl) rfl rfl) rfl rfl) rfl rfl) rfl rfl) (show 1 ≤ (m204.1 10) by omega)
            · skip
              refine T_ld 130 (.ref 189) rfl (fun _ => rfl) ?_
              refine T_ld 133 (.int (i32 317)) rfl (fun _ => rfl) ?_
              refine T_call 136 232 [.ref 189, .int (i32 317)] [] rfl (fun _ => rfl) rfl (d_need w (mO m181 [] [(54, upI (m.2 54) t nu), (55, upI (m.2 55) t 0), (56, upI (m.2 56) t 0)]) c N D (by omega) (Ty_mO Tm181 rfl rfl trivial ⟨G197, G198, G199, trivial⟩) 317 ⟨by decide, by decide⟩ (show 1 ≤ (317 : Int) by omega) (show LxP (m181.1 7) (m181.1 8) (m181.1 9) (m181.1 6) (m181.1 10) by rewrite [(show (m181.1 6) = (m.1 6) from ((fr1 Fm181 6 rfl).trans ((fr1 Fm172 6 rfl).trans (fr1 Fm159 6 rfl))))]; first | exact hLx | (intro h9; exfalso; omega) | (intro h9; have h8 := hLx (by omega); omega))) (fun rr218 k219 => ?_)
              obtain ⟨m220, Tm220, Fm220, h221, h222, h223, h224, rfl⟩ := k219
              refine ⟨_, _, rfl, ?_⟩
              refine T_nb (st' := []) rfl ?_
              have g225 : 0 ≤ m220.1 7 ∧ m220.1 7 ≤ 330 := Tm220.1 7
              have g226 : 0 ≤ m220.1 8 ∧ m220.1 8 ≤ 4000 := Tm220.1 8
              have g227 : 0 ≤ m220.1 9 ∧ m220.1 9 ≤ 4000 := Tm220.1 9
              have g228 : 0 ≤ m220.1 10 ∧ m220.1 10 ≤ 8 := Tm220.1 10
              have g229 : (-1) ≤ m220.1 11 ∧ m220.1 11 ≤ 4000 := Tm220.1 11
              have g230 : (-9223372036854775808) ≤ m220.1 12 ∧ m220.1 12 ≤ 9223372036854775807 := Tm220.1 12
              by_cases hf231 : (m220.1 10) = 0
              · skip
                replace h221 : LxP (m220.1 7) (m220.1 8) (m220.1 9) (m181.1 6) (m220.1 10) := h221
                rewrite [(show (m181.1 6) = (m.1 6) from ((fr1 Fm181 6 rfl).trans ((fr1 Fm172 6 rfl).trans (fr1 Fm159 6 rfl))))] at h221
                have hLx := h221
                replace h222 : (m181.1 10) = 0 ∧ (m181.1 7) = (317 : Int) := h222 hf231
                replace h223 : (m181.1 8) ≤ (m220.1 8) := h223
                replace h224 : (m181.1 8) + (m181.1 9) ≤ (m220.1 8) := h224 hf231
                have u232 : (m.1 8) + 1 ≤ (m220.1 8) := by omega
                refine T_gf 140 (.ref 225) rfl rfl rfl rfl rfl rfl ?_
                refine T_ld 141 (.int (i32 t)) rfl (fun _ => rfl) ?_
                refine T_ld 142 (.ref 189) rfl (fun _ => rfl) ?_
                refine T_ld 143 (.int (i32 1)) rfl (fun _ => rfl) ?_
                refine T_ld 144 (.int (i32 4)) rfl (fun _ => rfl) ?_
                refine T_call 147 234 [.ref 189, .int (i32 1), .int (i32 4)] [.int (i32 t), .ref 225] rfl (fun _ => rfl) rfl (d_number w (mO m220 [] []) c N D (by omega) Tm220 1 4 ⟨by decide, by decide⟩ ⟨by decide, by decide⟩ (show LxP (m220.1 7) (m220.1 8) (m220.1 9) (m220.1 6) (m220.1 10) by rewrite [(show (m220.1 6) = (m.1 6) from ((fr1 Fm220 6 rfl).trans ((fr1 Fm181 6 rfl).trans ((fr1 Fm172 6 rfl).trans (fr1 Fm159 6 rfl)))))]; first | exact hLx | (intro h9; exfalso; omega) | (intro h9; have h8 := hLx (by omega); omega)) (show (1 : Int) ≤ (4 : Int) by omega)) (fun rr233 k234 => ?_)
                obtain ⟨m235, nu236, Tm235, Fm235, g237, h238, h239, h240, h241, h242, h243, rfl⟩ := k234
                refine ⟨_, _, rfl, ?_⟩
                refine T_nb (st' := [.int (i32 nu236), .int (i32 t), .ref 225]) rfl ?_
                obtain ⟨g237a, g237b⟩ := g237
                have g244 : 0 ≤ m235.1 7 ∧ m235.1 7 ≤ 330 := Tm235.1 7
                have g245 : 0 ≤ m235.1 8 ∧ m235.1 8 ≤ 4000 := Tm235.1 8
                have g246 : 0 ≤ m235.1 9 ∧ m235.1 9 ≤ 4000 := Tm235.1 9
                have g247 : 0 ≤ m235.1 10 ∧ m235.1 10 ≤ 8 := Tm235.1 10
                have g248 : (-1) ≤ m235.1 11 ∧ m235.1 11 ≤ 4000 := Tm235.1 11
                have g249 : (-9223372036854775808) ≤ m235.1 12 ∧ m235.1 12 ≤ 9223372036854775807 := Tm235.1 12
                by_cases hf250 : (m235.1 10) = 0
                · skip
                  replace h238 : LxP (m235.1 7) (m235.1 8) (m235.1 9) (m220.1 6) (m235.1 10) := h238
                  rewrite [(show (m220.1 6) = (m.1 6) from ((fr1 Fm220 6 rfl).trans ((fr1 Fm181 6 rfl).trans ((fr1 Fm172 6 rfl).trans (fr1 Fm159 6 rfl)))))] at h238
                  have hLx := h238
                  replace h239 : (m220.1 8) ≤ (m235.1 8) := h239
                  replace h240 : (m220.1 10) = 0 ∧ (m220.1 8) + (m220.1 9) ≤ (m235.1 8) := h240 hf250
                  replace h241 : (m220.1 7) = 2 := h241 hf250
                  replace h242 : (1 : Int) ≤ nu236 ∧ nu236 ≤ (4 : Int) := h242
                  replace h243 : nu236 = (m220.1 12) := h243 hf250
                  have u251 : (m.1 8) + 1 ≤ (m235.1 8) := by omega
                  have G252 : ∀ j, 0 ≤ (upI (upI (m.2 55) t 0) t nu236) j ∧ (upI (upI (m.2 55) t 0) t nu236) j ≤ 4 := upI_rg G198 ⟨by omega, by omega⟩
                  refine T_iast (a' := [(55, upI (upI (m.2 55) t 0) t nu236)]) 148 55 (upI (m.2 55) t 0) rfl rfl rfl (by omega) (show t < (8 : Int) by omega) (show (m235.2 55) = (upI (m.2 55) t 0) from ((fr2 Fm235 55 rfl).trans (fr2 Fm220 55 rfl))) rfl ?_
                  refine T_ld 149 (.ref 189) rfl (fun _ => rfl) ?_
                  refine T_ld 152 (.int (i32 318)) rfl (fun _ => rfl) ?_
                  refine T_call 155 232 [.ref 189, .int (i32 318)] [] rfl (fun _ => rfl) rfl (d_need w (mO m235 [] [(55, upI (upI (m.2 55) t 0) t nu236)]) c N D (by omega) (Ty_mO Tm235 rfl rfl trivial ⟨G252, trivial⟩) 318 ⟨by decide, by decide⟩ (show 1 ≤ (318 : Int) by omega) (show LxP (m235.1 7) (m235.1 8) (m235.1 9) (m235.1 6) (m235.1 10) by rewrite [(show (m235.1 6) = (m.1 6) from ((fr1 Fm235 6 rfl).trans ((fr1 Fm220 6 rfl).trans ((fr1 Fm181 6 rfl).trans ((fr1 Fm172 6 rfl).trans (fr1 Fm159 6 rfl))))))]; first | exact hLx | (intro h9; exfalso; omega) | (intro h9; have h8 := hLx (by omega); omega))) (fun rr253 k254 => ?_)
                  obtain ⟨m255, Tm255, Fm255, h256, h257, h258, h259, rfl⟩ := k254
                  refine ⟨_, _, rfl, ?_⟩
                  refine T_nb (st' := []) rfl ?_
                  have g260 : 0 ≤ m255.1 7 ∧ m255.1 7 ≤ 330 := Tm255.1 7
                  have g261 : 0 ≤ m255.1 8 ∧ m255.1 8 ≤ 4000 := Tm255.1 8
                  have g262 : 0 ≤ m255.1 9 ∧ m255.1 9 ≤ 4000 := Tm255.1 9
                  have g263 : 0 ≤ m255.1 10 ∧ m255.1 10 ≤ 8 := Tm255.1 10
                  have g264 : (-1) ≤ m255.1 11 ∧ m255.1 11 ≤ 4000 := Tm255.1 11
                  have g265 : (-9223372036854775808) ≤ m255.1 12 ∧ m255.1 12 ≤ 9223372036854775807 := Tm255.1 12
                  by_cases hf266 : (m255.1 10) = 0
                  · skip
                    replace h256 : LxP (m255.1 7) (m255.1 8) (m255.1 9) (m235.1 6) (m255.1 10) := h256
                    rewrite [(show (m235.1 6) = (m.1 6) from ((fr1 Fm235 6 rfl).trans ((fr1 Fm220 6 rfl).trans ((fr1 Fm181 6 rfl).trans ((fr1 Fm172 6 rfl).trans (fr1 Fm159 6 rfl))))))] at h256
                    have hLx := h256
                    replace h257 : (m235.1 10) = 0 ∧ (m235.1 7) = (318 : Int) := h257 hf266
                    replace h258 : (m235.1 8) ≤ (m255.1 8) := h258
                    replace h259 : (m235.1 8) + (m235.1 9) ≤ (m255.1 8) := h259 hf266
                    have u267 : (m.1 8) + 1 ≤ (m255.1 8) := by omega
                    refine T_gf 159 (.ref 226) rfl rfl rfl rfl rfl rfl ?_
                    refine T_ld 160 (.int (i32 t)) rfl (fun _ => rfl) ?_
                    refine T_ld 161 (.ref 189) rfl (fun _ => rfl) ?_
                    refine T_ld 162 (.int (i32 0)) rfl (fun _ => rfl) ?_
                    refine T_ld 164 (.int (i32 8)) rfl (fun _ => rfl) ?_
                    refine T_call 167 234 [.ref 189, .int (i32 0), .int (i32 8)] [.int (i32 t), .ref 226] rfl (fun _ => rfl) rfl (d_number w (mO m255 [] []) c N D (by omega) Tm255 0 8 ⟨by decide, by decide⟩ ⟨by decide, by decide⟩ (show LxP (m255.1 7) (m255.1 8) (m255.1 9) (m255.1 6) (m255.1 10) by rewrite [(show (m255.1 6) = (m.1 6) from ((fr1 Fm255 6 rfl).trans ((fr1 Fm235 6 rfl).trans ((fr1 Fm220 6 rfl).trans ((fr1 Fm181 6 rfl).trans ((fr1 Fm172 6 rfl).trans (fr1 Fm159 6 rfl)))))))]; first | exact hLx | (intro h9; exfalso; omega) | (intro h9; have h8 := hLx (by omega); omega)) (show (0 : Int) ≤ (8 : Int) by omega)) (fun rr268 k269 => ?_)
                    obtain ⟨m270, nu271, Tm270, Fm270, g272, h273, h274, h275, h276, h277, h278, rfl⟩ := k269
                    refine ⟨_, _, rfl, ?_⟩
                    refine T_nb (st' := [.int (i32 nu271), .int (i32 t), .ref 226]) rfl ?_
                    obtain ⟨g272a, g272b⟩ := g272
                    have g279 : 0 ≤ m270.1 7 ∧ m270.1 7 ≤ 330 := Tm270.1 7
                    have g280 : 0 ≤ m270.1 8 ∧ m270.1 8 ≤ 4000 := Tm270.1 8
                    have g281 : 0 ≤ m270.1 9 ∧ m270.1 9 ≤ 4000 := Tm270.1 9
                    have g282 : 0 ≤ m270.1 10 ∧ m270.1 10 ≤ 8 := Tm270.1 10
                    have g283 : (-1) ≤ m270.1 11 ∧ m270.1 11 ≤ 4000 := Tm270.1 11
                    have g284 : (-9223372036854775808) ≤ m270.1 12 ∧ m270.1 12 ≤ 9223372036854775807 := Tm270.1 12
                    by_cases hf285 : (m270.1 10) = 0
                    · skip
                      replace h273 : LxP (m270.1 7) (m270.1 8) (m270.1 9) (m255.1 6) (m270.1 10) := h273
                      rewrite [(show (m255.1 6) = (m.1 6) from ((fr1 Fm255 6 rfl).trans ((fr1 Fm235 6 rfl).trans ((fr1 Fm220 6 rfl).trans ((fr1 Fm181 6 rfl).trans ((fr1 Fm172 6 rfl).trans (fr1 Fm159 6 rfl)))))))] at h273
                      have hLx := h273
                      replace h274 : (m255.1 8) ≤ (m270.1 8) := h274
                      replace h275 : (m255.1 10) = 0 ∧ (m255.1 8) + (m255.1 9) ≤ (m270.1 8) := h275 hf285
                      replace h276 : (m255.1 7) = 2 := h276 hf285
                      replace h277 : (0 : Int) ≤ nu271 ∧ nu271 ≤ (8 : Int) := h277
                      replace h278 : nu271 = (m255.1 12) := h278 hf285
                      have u286 : (m.1 8) + 1 ≤ (m270.1 8) := by omega
                      have G287 : ∀ j, 0 ≤ (upI (upI (m.2 56) t 0) t nu271) j ∧ (upI (upI (m.2 56) t 0) t nu271) j ≤ 8 := upI_rg G199 ⟨by omega, by omega⟩
                      refine T_iast (a' := [(56, upI (upI (m.2 56) t 0) t nu271)]) 168 56 (upI (m.2 56) t 0) rfl rfl rfl (by omega) (show t < (8 : Int) by omega) (show (m270.2 56) = (upI (m.2 56) t 0) from ((fr2 Fm270 56 rfl).trans ((fr2 Fm255 56 rfl).trans ((fr2 Fm235 56 rfl).trans (fr2 Fm220 56 rfl))))) rfl ?_
                      refine T_ld 169 (.ref 189) rfl (fun _ => rfl) ?_
                      refine T_ld 171 (.int (i32 59)) rfl (fun _ => rfl) ?_
                      refine T_call 174 232 [.ref 189, .int (i32 59)] [] rfl (fun _ => rfl) rfl (d_need w (mO m270 [] [(56, upI (upI (m.2 56) t 0) t nu271)]) c N D (by omega) (Ty_mO Tm270 rfl rfl trivial ⟨G287, trivial⟩) 59 ⟨by decide, by decide⟩ (show 1 ≤ (59 : Int) by omega) (show LxP (m270.1 7) (m270.1 8) (m270.1 9) (m270.1 6) (m270.1 10) by rewrite [(show (m270.1 6) = (m.1 6) from ((fr1 Fm270 6 rfl).trans ((fr1 Fm255 6 rfl).trans ((fr1 Fm235 6 rfl).trans ((fr1 Fm220 6 rfl).trans ((fr1 Fm181 6 rfl).trans ((fr1 Fm172 6 rfl).trans (fr1 Fm159 6 rfl))))))))]; first | exact hLx | (intro h9; exfalso; omega) | (intro h9; have h8 := hLx (by omega); omega))) (fun rr288 k289 => ?_)
                      obtain ⟨m290, Tm290, Fm290, h291, h292, h293, h294, rfl⟩ := k289
                      refine ⟨_, _, rfl, ?_⟩
                      refine T_nb (st' := []) rfl ?_
                      have g295 : 0 ≤ m290.1 7 ∧ m290.1 7 ≤ 330 := Tm290.1 7
                      have g296 : 0 ≤ m290.1 8 ∧ m290.1 8 ≤ 4000 := Tm290.1 8
                      have g297 : 0 ≤ m290.1 9 ∧ m290.1 9 ≤ 4000 := Tm290.1 9
                      have g298 : 0 ≤ m290.1 10 ∧ m290.1 10 ≤ 8 := Tm290.1 10
                      have g299 : (-1) ≤ m290.1 11 ∧ m290.1 11 ≤ 4000 := Tm290.1 11
                      have g300 : (-9223372036854775808) ≤ m290.1 12 ∧ m290.1 12 ≤ 9223372036854775807 := Tm290.1 12
                      by_cases hf301 : (m290.1 10) = 0
                      · skip
                        replace h291 : LxP (m290.1 7) (m290.1 8) (m290.1 9) (m270.1 6) (m290.1 10) := h291
                        rewrite [(show (m270.1 6) = (m.1 6) from ((fr1 Fm270 6 rfl).trans ((fr1 Fm255 6 rfl).trans ((fr1 Fm235 6 rfl).trans ((fr1 Fm220 6 rfl).trans ((fr1 Fm181 6 rfl).trans ((fr1 Fm172 6 rfl).trans (fr1 Fm159 6 rfl))))))))] at h291
                        have hLx := h291
                        replace h292 : (m270.1 10) = 0 ∧ (m270.1 7) = (59 : Int) := h292 hf301
                        replace h293 : (m270.1 8) ≤ (m290.1 8) := h293
                        replace h294 : (m270.1 8) + (m270.1 9) ≤ (m290.1 8) := h294 hf301
                        have u302 : (m.1 8) + 1 ≤ (m290.1 8) := by omega
                        refine T_ret rfl (fun _ => rfl) ?_
                        exact ⟨(mO m290 [] []), Tm290, (fr_m (fr_s Fm290 (fr_m (fr_s Fm270 (fr_m (fr_s Fm255 (fr_m (fr_s Fm235 (fr_m (fr_s Fm220 (fr_m (fr_s Fm181 (fr_m (fr_s Fm172 (fr_m (fr_s Fm159 (fr_m fr_0 rfl rfl) rfl rfl) rfl rfl) rfl rfl) rfl rfl) rfl rfl) rfl rfl) rfl rfl) rfl rfl) rfl rfl) rfl rfl) rfl rfl) rfl rfl) rfl rfl) rfl rfl) rfl rfl) rfl rfl), (show (m290.1 10) = 0 → (m.1 10) = 0 by omega), (show LxP (m290.1 7) (m290.1 8) (m290.1 9) (m.1 6) (m290.1 10) by first | (first | exact hLx | exact (fun _ => hLx (by omega)) | (intro h9; exfalso; omega)) | (exfalso; omega)), (fun _ => ⟨(show (m.1 8) + 1 ≤ (m290.1 8) by omega), (show 1 ≤ (m290.2 54) t by rewrite [(show (m290.2 54) = (upI (m.2 54) t nu) from ((fr2 Fm290 54 rfl).trans ((fr2 Fm270 54 rfl).trans ((fr2 Fm255 54 rfl).trans ((fr2 Fm235 54 rfl).trans (fr2 Fm220 54 rfl))))))]; first | (rw [upI_s]; omega) | (exfalso; omega)), (show (m.2 58) t = 1 → (m290.2 54) t ≤ 16 by rewrite [(show (m290.2 54) = (upI (m.2 54) t nu) from ((fr2 Fm290 54 rfl).trans ((fr2 Fm270 54 rfl).trans ((fr2 Fm255 54 rfl).trans ((fr2 Fm235 54 rfl).trans (fr2 Fm220 54 rfl))))))]; first | (intro h; rw [upI_s]; omega) | (exfalso; omega)), (show agr (m.2 54) (m290.2 54) t by rewrite [(show (m290.2 54) = (upI (m.2 54) t nu) from ((fr2 Fm290 54 rfl).trans ((fr2 Fm270 54 rfl).trans ((fr2 Fm255 54 rfl).trans ((fr2 Fm235 54 rfl).trans (fr2 Fm220 54 rfl))))))]; first | (exact agr_u (Int.le_refl _)) | (exfalso; omega))⟩), rfl⟩
                      · skip
                        replace h291 : LxP (m290.1 7) (m290.1 8) (m290.1 9) (m270.1 6) (m290.1 10) := h291
                        rewrite [(show (m270.1 6) = (m.1 6) from ((fr1 Fm270 6 rfl).trans ((fr1 Fm255 6 rfl).trans ((fr1 Fm235 6 rfl).trans ((fr1 Fm220 6 rfl).trans ((fr1 Fm181 6 rfl).trans ((fr1 Fm172 6 rfl).trans (fr1 Fm159 6 rfl))))))))] at h291
                        have hLx := h291
                        clear h292
                        replace h293 : (m270.1 8) ≤ (m290.1 8) := h293
                        clear h294
                        have hf303 : 1 ≤ (m290.1 10) := by omega
                        refine Tm_lv (a := [(0, .ref 189)]) rfl rfl ⟨rfl, trivial⟩ ?_
                        exact J174_13 (mO m290 [] []) Tm290 (fr_m (fr_s Fm290 (fr_m (fr_s Fm270 (fr_m (fr_s Fm255 (fr_m (fr_s Fm235 (fr_m (fr_s Fm220 (fr_m (fr_s Fm181 (fr_m (fr_s Fm172 (fr_m (fr_s Fm159 (fr_m fr_0 rfl rfl) rfl rfl) rfl rfl) rfl rfl) rfl rfl) rfl rfl) rfl rfl) rfl rfl) rfl rfl) rfl rfl) rfl rfl) rfl rfl) rfl rfl) rfl rfl) rfl rfl) rfl rfl) rfl rfl) (show 1 ≤ (m290.1 10) by omega)
                    · skip
                      replace h273 : LxP (m270.1 7) (m270.1 8) (m270.1 9) (m255.1 6) (m270.1 10) := h273
                      rewrite [(show (m255.1 6) = (m.1 6) from ((fr1 Fm255 6 rfl).trans ((fr1 Fm235 6 rfl).trans ((fr1 Fm220 6 rfl).trans ((fr1 Fm181 6 rfl).trans ((fr1 Fm172 6 rfl).trans (fr1 Fm159 6 rfl)))))))] at h273
                      have hLx := h273
                      replace h274 : (m255.1 8) ≤ (m270.1 8) := h274
                      clear h275
                      clear h276
                      replace h277 : (0 : Int) ≤ nu271 ∧ nu271 ≤ (8 : Int) := h277
                      clear h278
                      have hf304 : 1 ≤ (m270.1 10) := by omega
                      refine Tm_lv (a := [(0, .ref 189)]) rfl rfl ⟨rfl, trivial⟩ ?_
                      exact J167_20 nu271 (mO m270 [] []) (r32 (by omega) (by omega)) Tm270 (fr_m (fr_s Fm270 (fr_m (fr_s Fm255 (fr_m (fr_s Fm235 (fr_m (fr_s Fm220 (fr_m (fr_s Fm181 (fr_m (fr_s Fm172 (fr_m (fr_s Fm159 (fr_m fr_0 rfl rfl) rfl rfl) rfl rfl) rfl rfl) rfl rfl) rfl rfl) rfl rfl) rfl rfl) rfl rfl) rfl rfl) rfl rfl) rfl rfl) rfl rfl) rfl rfl) rfl rfl) (show 0 ≤ nu271 by omega) (show nu271 ≤ 8 by omega) (show 1 ≤ (m270.1 10) by omega)
                  · skip
                    replace h256 : LxP (m255.1 7) (m255.1 8) (m255.1 9) (m235.1 6) (m255.1 10) := h256
                    rewrite [(show (m235.1 6) = (m.1 6) from ((fr1 Fm235 6 rfl).trans ((fr1 Fm220 6 rfl).trans ((fr1 Fm181 6 rfl).trans ((fr1 Fm172 6 rfl).trans (fr1 Fm159 6 rfl))))))] at h256
                    have hLx := h256
                    clear h257
                    replace h258 : (m235.1 8) ≤ (m255.1 8) := h258
                    clear h259
                    have hf305 : 1 ≤ (m255.1 10) := by omega
                    exact J155_44 (mO m255 [] []) Tm255 (fr_m (fr_s Fm255 (fr_m (fr_s Fm235 (fr_m (fr_s Fm220 (fr_m (fr_s Fm181 (fr_m (fr_s Fm172 (fr_m (fr_s Fm159 (fr_m fr_0 rfl rfl) rfl rfl) rfl rfl) rfl rfl) rfl rfl) rfl rfl) rfl rfl) rfl rfl) rfl rfl) rfl rfl) rfl rfl) rfl rfl) rfl rfl) (show 1 ≤ (m255.1 10) by omega)
                · skip
                  replace h238 : LxP (m235.1 7) (m235.1 8) (m235.1 9) (m220.1 6) (m235.1 10) := h238
                  rewrite [(show (m220.1 6) = (m.1 6) from ((fr1 Fm220 6 rfl).trans ((fr1 Fm181 6 rfl).trans ((fr1 Fm172 6 rfl).trans (fr1 Fm159 6 rfl)))))] at h238
                  have hLx := h238
                  replace h239 : (m220.1 8) ≤ (m235.1 8) := h239
                  clear h240
                  clear h241
                  replace h242 : (1 : Int) ≤ nu236 ∧ nu236 ≤ (4 : Int) := h242
                  clear h243
                  have hf306 : 1 ≤ (m235.1 10) := by omega
                  exact J147_68 nu236 (mO m235 [] []) (r32 (by omega) (by omega)) Tm235 (fr_m (fr_s Fm235 (fr_m (fr_s Fm220 (fr_m (fr_s Fm181 (fr_m (fr_s Fm172 (fr_m (fr_s Fm159 (fr_m fr_0 rfl rfl) rfl rfl) rfl rfl) rfl rfl) rfl rfl) rfl rfl) rfl rfl) rfl rfl) rfl rfl) rfl rfl) rfl rfl) (show 1 ≤ nu236 by omega) (show nu236 ≤ 4 by omega) (show 1 ≤ (m235.1 10) by omega)
              · skip
                replace h221 : LxP (m220.1 7) (m220.1 8) (m220.1 9) (m181.1 6) (m220.1 10) := h221
                rewrite [(show (m181.1 6) = (m.1 6) from ((fr1 Fm181 6 rfl).trans ((fr1 Fm172 6 rfl).trans (fr1 Fm159 6 rfl))))] at h221
                have hLx := h221
                clear h222
                replace h223 : (m181.1 8) ≤ (m220.1 8) := h223
                clear h224
                have hf307 : 1 ≤ (m220.1 10) := by omega
                exact J136_92 (mO m220 [] []) Tm220 (fr_m (fr_s Fm220 (fr_m (fr_s Fm181 (fr_m (fr_s Fm172 (fr_m (fr_s Fm159 (fr_m fr_0 rfl rfl) rfl rfl) rfl rfl) rfl rfl) rfl rfl) rfl rfl) rfl rfl) rfl rfl) rfl rfl) (show 1 ≤ (m220.1 10) by omega)
          · skip
            replace h183 : LxP (m181.1 7) (m181.1 8) (m181.1 9) (m172.1 6) (m181.1 10) := h183
            rewrite [(show (m172.1 6) = (m.1 6) from ((fr1 Fm172 6 rfl).trans (fr1 Fm159 6 rfl)))] at h183
            have hLx := h183
            replace h184 : (m172.1 8) ≤ (m181.1 8) := h184
            rewrite [(show (m172.1 8) = (m159.1 8) from (fr1 Fm172 8 rfl))] at h184
            clear h185
            clear h186
            replace h187 : (1 : Int) ≤ nu ∧ nu ≤ (32 : Int) := h187
            clear h188
            have hf308 : 1 ≤ (m181.1 10) := by omega
            exact J105_116 nu (mO m181 [] []) (r32 (by omega) (by omega)) Tm181 (fr_m (fr_s Fm181 (fr_m (fr_s Fm172 (fr_m (fr_s Fm159 (fr_m fr_0 rfl rfl) rfl rfl) rfl rfl) rfl rfl) rfl rfl) rfl rfl) rfl rfl) (show 1 ≤ nu by omega) (show nu ≤ 32 by omega) (show 1 ≤ (m181.1 10) by omega)
        · skip
          clear c175
          have hf309 : 1 ≤ (m172.1 10) := by omega
          refine T_gf 97 (.ref 224) rfl rfl rfl rfl rfl rfl ?_
          refine T_ld 98 (.int (i32 t)) rfl (fun _ => rfl) ?_
          refine T_ld 99 (.ref 189) rfl (fun _ => rfl) ?_
          refine T_ld 100 (.int (i32 1)) rfl (fun _ => rfl) ?_
          refine T_ld 102 (.int (i32 32)) rfl (fun _ => rfl) ?_
          refine T_call 105 234 [.ref 189, .int (i32 1), .int (i32 32)] [.int (i32 t), .ref 224] rfl (fun _ => rfl) rfl (d_number w (mO m172 [] []) c N D (by omega) Tm172 1 32 ⟨by decide, by decide⟩ ⟨by decide, by decide⟩ (show LxP (m172.1 7) (m172.1 8) (m172.1 9) (m172.1 6) (m172.1 10) by rewrite [(show (m172.1 7) = (m159.1 7) from (fr1 Fm172 7 rfl)), (show (m172.1 8) = (m159.1 8) from (fr1 Fm172 8 rfl)), (show (m172.1 9) = (m159.1 9) from (fr1 Fm172 9 rfl)), (show (m172.1 6) = (m.1 6) from ((fr1 Fm172 6 rfl).trans (fr1 Fm159 6 rfl)))]; first | exact hLx | (intro h9; exfalso; omega) | (intro h9; have h8 := hLx (by omega); omega)) (show (1 : Int) ≤ (32 : Int) by omega)) (fun rr310 k311 => ?_)
          obtain ⟨m312, nu, Tm312, Fm312, g313, h314, h315, h316, h317, h318, h319, rfl⟩ := k311
          refine ⟨_, _, rfl, ?_⟩
          refine T_nb (st' := [.int (i32 nu), .int (i32 t), .ref 224]) rfl ?_
          obtain ⟨g313a, g313b⟩ := g313
          have g320 : 0 ≤ m312.1 7 ∧ m312.1 7 ≤ 330 := Tm312.1 7
          have g321 : 0 ≤ m312.1 8 ∧ m312.1 8 ≤ 4000 := Tm312.1 8
          have g322 : 0 ≤ m312.1 9 ∧ m312.1 9 ≤ 4000 := Tm312.1 9
          have g323 : 0 ≤ m312.1 10 ∧ m312.1 10 ≤ 8 := Tm312.1 10
          have g324 : (-1) ≤ m312.1 11 ∧ m312.1 11 ≤ 4000 := Tm312.1 11
          have g325 : (-9223372036854775808) ≤ m312.1 12 ∧ m312.1 12 ≤ 9223372036854775807 := Tm312.1 12
          replace h314 : LxP (m312.1 7) (m312.1 8) (m312.1 9) (m172.1 6) (m312.1 10) := h314
          rewrite [(show (m172.1 6) = (m.1 6) from ((fr1 Fm172 6 rfl).trans (fr1 Fm159 6 rfl)))] at h314
          replace h315 : (m172.1 8) ≤ (m312.1 8) := h315
          rewrite [(show (m172.1 8) = (m159.1 8) from (fr1 Fm172 8 rfl))] at h315
          replace h316 : (m312.1 10) = 0 → (m172.1 10) = 0 ∧ (m172.1 8) + (m172.1 9) ≤ (m312.1 8) := h316
          rewrite [(show (m172.1 8) = (m159.1 8) from (fr1 Fm172 8 rfl)), (show (m172.1 9) = (m159.1 9) from (fr1 Fm172 9 rfl))] at h316
          replace h317 : (m312.1 10) = 0 → (m172.1 7) = 2 := h317
          rewrite [(show (m172.1 7) = (m159.1 7) from (fr1 Fm172 7 rfl))] at h317
          replace h318 : (1 : Int) ≤ nu ∧ nu ≤ (32 : Int) := h318
          replace h319 : (m312.1 10) = 0 → nu = (m172.1 12) := h319
          rewrite [(show (m172.1 12) = (m159.1 12) from (fr1 Fm172 12 rfl))] at h319
          have hf326 : 1 ≤ (m312.1 10) := by omega
          clear h316
          clear h317
          clear h319
          have hLx := h314
          exact J105_116 nu (mO m312 [] []) (r32 (by omega) (by omega)) Tm312 (fr_m (fr_s Fm312 (fr_m (fr_s Fm172 (fr_m (fr_s Fm159 (fr_m fr_0 rfl rfl) rfl rfl) rfl rfl) rfl rfl) rfl rfl) rfl rfl) rfl rfl) (show 1 ≤ nu by omega) (show nu ≤ 32 by omega) (show 1 ≤ (m312.1 10) by omega)
      refine T_gf 11 (.int (i32 (m159.1 10))) rfl rfl rfl rfl rfl rfl ?_
      refine T_if 93 14 rfl rfl rfl (r32 (by omega) (by omega)) (fun (h327 : (m159.1 10) ≠ 0) => by exfalso; omega) (fun (h327 : ¬ ((m159.1 10) ≠ 0)) => ?_)
      refine T_gf 18 (.ref 228) rfl rfl rfl rfl rfl rfl ?_
      refine T_ld 19 (.int (i32 t)) rfl (fun _ => rfl) ?_
      refine T_bald 20 58 (m.2 58) rfl rfl rfl (by omega) (show t < (8 : Int) by omega) (show (m159.2 58) = (m.2 58) from (fr2 Fm159 58 rfl)) ?_
      have e328 : 0 ≤ m.2 58 t ∧ m.2 58 t ≤ 1 := hT.2.1 58 t
      refine T_if 93 23 rfl rfl rfl (r32 (by omega) (by omega)) (fun (h329 : (m.2 58) t = 0) => ?_) (fun (h329 : ¬ ((m.2 58) t = 0)) => ?_)
      · skip
        exact J93_173 (mO m159 [] []) Tm159 (fr_m fr_0 rfl rfl) (fun _ => (show (m.2 58) t = 1 → (m159.1 7) = 2 → 1 ≤ (m159.1 12) ∧ (m159.1 12) ≤ 16 by omega))
      · skip
        refine T_gf 27 (.int (i32 (m159.1 7))) rfl rfl rfl rfl rfl rfl ?_
        refine T_ld 28 (.int (i32 2)) rfl (fun _ => rfl) ?_
        refine T_icmp 93 31 rfl rfl rfl (r32 (by omega) (by omega)) ⟨by decide, by decide⟩ (fun (h330 : (m159.1 7) ≠ 2) => ?_) (fun (h330 : ¬ ((m159.1 7) ≠ 2)) => ?_)
        · skip
          exact J93_173 (mO m159 [] []) Tm159 (fr_m fr_0 rfl rfl) (fun _ => (show (m.2 58) t = 1 → (m159.1 7) = 2 → 1 ≤ (m159.1 12) ∧ (m159.1 12) ≤ 16 by omega))
        · skip
          refine T_gf 35 (.long (i64 (m159.1 12))) rfl rfl rfl rfl rfl rfl ?_
          refine T_ld 36 (.long (i64 1)) rfl (fun _ => rfl) ?_
          refine T_lcmp 37 rfl rfl (r64 (by omega) (by omega)) ⟨by decide, by decide⟩ (fun z331 h332 => ?_)
          obtain ⟨h332a, h332b, h332c, h332d, h332e⟩ := h332
          refine T_if 93 40 rfl rfl rfl (r32 (by omega) (by omega)) (fun (h333 : z331 = 0) => ?_) (fun (h333 : ¬ (z331 = 0)) => ?_)
          · skip
            have hl334 : (m159.1 12) = 1 := by omega
            exact J93_173 (mO m159 [] []) Tm159 (fr_m fr_0 rfl rfl) (fun _ => (show (m.2 58) t = 1 → (m159.1 7) = 2 → 1 ≤ (m159.1 12) ∧ (m159.1 12) ≤ 16 by omega))
          · skip
            have hl335 : (m159.1 12) ≠ 1 := by omega
            refine T_gf 44 (.long (i64 (m159.1 12))) rfl rfl rfl rfl rfl rfl ?_
            refine T_ld 47 (.long (i64 2)) rfl (fun _ => rfl) ?_
            refine T_lcmp 48 rfl rfl (r64 (by omega) (by omega)) ⟨by decide, by decide⟩ (fun z336 h337 => ?_)
            obtain ⟨h337a, h337b, h337c, h337d, h337e⟩ := h337
            refine T_if 93 51 rfl rfl rfl (r32 (by omega) (by omega)) (fun (h338 : z336 = 0) => ?_) (fun (h338 : ¬ (z336 = 0)) => ?_)
            · skip
              have hl339 : (m159.1 12) = 2 := by omega
              exact J93_173 (mO m159 [] []) Tm159 (fr_m fr_0 rfl rfl) (fun _ => (show (m.2 58) t = 1 → (m159.1 7) = 2 → 1 ≤ (m159.1 12) ∧ (m159.1 12) ≤ 16 by omega))
            · skip
              have hl340 : (m159.1 12) ≠ 2 := by omega
              refine T_gf 55 (.long (i64 (m159.1 12))) rfl rfl rfl rfl rfl rfl ?_
              refine T_ld 58 (.long (i64 4)) rfl (fun _ => rfl) ?_
              refine T_lcmp 59 rfl rfl (r64 (by omega) (by omega)) ⟨by decide, by decide⟩ (fun z341 h342 => ?_)
              obtain ⟨h342a, h342b, h342c, h342d, h342e⟩ := h342
              refine T_if 93 62 rfl rfl rfl (r32 (by omega) (by omega)) (fun (h343 : z341 = 0) => ?_) (fun (h343 : ¬ (z341 = 0)) => ?_)
              · skip
                have hl344 : (m159.1 12) = 4 := by omega
                exact J93_173 (mO m159 [] []) Tm159 (fr_m fr_0 rfl rfl) (fun _ => (show (m.2 58) t = 1 → (m159.1 7) = 2 → 1 ≤ (m159.1 12) ∧ (m159.1 12) ≤ 16 by omega))
              · skip
                have hl345 : (m159.1 12) ≠ 4 := by omega
                refine T_gf 66 (.long (i64 (m159.1 12))) rfl rfl rfl rfl rfl rfl ?_
                refine T_ld 69 (.long (i64 8)) rfl (fun _ => rfl) ?_
                refine T_lcmp 70 rfl rfl (r64 (by omega) (by omega)) ⟨by decide, by decide⟩ (fun z346 h347 => ?_)
                obtain ⟨h347a, h347b, h347c, h347d, h347e⟩ := h347
                refine T_if 93 73 rfl rfl rfl (r32 (by omega) (by omega)) (fun (h348 : z346 = 0) => ?_) (fun (h348 : ¬ (z346 = 0)) => ?_)
                · skip
                  have hl349 : (m159.1 12) = 8 := by omega
                  exact J93_173 (mO m159 [] []) Tm159 (fr_m fr_0 rfl rfl) (fun _ => (show (m.2 58) t = 1 → (m159.1 7) = 2 → 1 ≤ (m159.1 12) ∧ (m159.1 12) ≤ 16 by omega))
                · skip
                  have hl350 : (m159.1 12) ≠ 8 := by omega
                  refine T_gf 77 (.long (i64 (m159.1 12))) rfl rfl rfl rfl rfl rfl ?_
                  refine T_ld 80 (.long (i64 16)) rfl (fun _ => rfl) ?_
                  refine T_lcmp 81 rfl rfl (r64 (by omega) (by omega)) ⟨by decide, by decide⟩ (fun z351 h352 => ?_)
                  obtain ⟨h352a, h352b, h352c, h352d, h352e⟩ := h352
                  refine T_if 93 84 rfl rfl rfl (r32 (by omega) (by omega)) (fun (h353 : z351 = 0) => ?_) (fun (h353 : ¬ (z351 = 0)) => ?_)
                  · skip
                    have hl354 : (m159.1 12) = 16 := by omega
                    exact J93_173 (mO m159 [] []) Tm159 (fr_m fr_0 rfl rfl) (fun _ => (show (m.2 58) t = 1 → (m159.1 7) = 2 → 1 ≤ (m159.1 12) ∧ (m159.1 12) ≤ 16 by omega))
                  · skip
                    have hl355 : (m159.1 12) ≠ 16 := by omega
                    refine T_ld 85 (.ref 189) rfl (fun _ => rfl) ?_
                    refine T_ld 86 (.int (i32 5)) rfl (fun _ => rfl) ?_
                    refine T_gf 90 (.int (i32 (m159.1 8))) rfl rfl rfl rfl rfl rfl ?_
                    refine T_call 93 222 [.ref 189, .int (i32 5), .int (i32 (m159.1 8))] [] rfl (fun _ => rfl) rfl (d_wrong w (mO m159 [] []) c N D (by omega) Tm159 5 (m159.1 8) ⟨by decide, by decide⟩ (r32 (by omega) (by omega)) (show 1 ≤ (5 : Int) ∧ (5 : Int) ≤ 8 by omega) (show 0 ≤ (m159.1 8) ∧ (m159.1 8) ≤ 4000 by omega)) (fun rr356 k357 => ?_)
                    obtain ⟨m358, Tm358, Fm358, h359, rfl⟩ := k357
                    refine ⟨_, _, rfl, ?_⟩
                    refine T_nb (st' := []) rfl ?_
                    have g360 : 0 ≤ m358.1 10 ∧ m358.1 10 ≤ 8 := Tm358.1 10
                    have g361 : (-1) ≤ m358.1 11 ∧ m358.1 11 ≤ 4000 := Tm358.1 11
                    replace h359 : (0 < (m159.1 10) → (m358.1 10) = (m159.1 10) ∧ (m358.1 11) = (m159.1 11)) ∧ ((m159.1 10) ≤ 0 → (m358.1 10) = (5 : Int) ∧ (m358.1 11) = (m159.1 8)) := h359
                    have hf362 : 1 ≤ (m358.1 10) := by omega
                    exact J93_173 (mO m358 [] []) Tm358 (fr_m (fr_s Fm358 (fr_m fr_0 rfl rfl) rfl rfl) rfl rfl) (fun (h : (m358.1 10) = 0) => absurd h (by omega))
    · skip
      replace h160 : LxP (m159.1 7) (m159.1 8) (m159.1 9) (m.1 6) (m159.1 10) := h160
      have hLx := h160
      clear h161
      replace h162 : (m.1 8) ≤ (m159.1 8) := h162
      clear h163
      have hf363 : 1 ≤ (m159.1 10) := by omega
      refine T_gf 11 (.int (i32 (m159.1 10))) rfl rfl rfl rfl rfl rfl ?_
      refine T_if 93 14 rfl rfl rfl (r32 (by omega) (by omega)) (fun (h364 : (m159.1 10) ≠ 0) => ?_) (fun (h364 : ¬ ((m159.1 10) ≠ 0)) => by exfalso; omega)
      refine T_gf 97 (.ref 224) rfl rfl rfl rfl rfl rfl ?_
      refine T_ld 98 (.int (i32 t)) rfl (fun _ => rfl) ?_
      refine T_ld 99 (.ref 189) rfl (fun _ => rfl) ?_
      refine T_ld 100 (.int (i32 1)) rfl (fun _ => rfl) ?_
      refine T_ld 102 (.int (i32 32)) rfl (fun _ => rfl) ?_
      refine T_call 105 234 [.ref 189, .int (i32 1), .int (i32 32)] [.int (i32 t), .ref 224] rfl (fun _ => rfl) rfl (d_number w (mO m159 [] []) c N D (by omega) Tm159 1 32 ⟨by decide, by decide⟩ ⟨by decide, by decide⟩ (show LxP (m159.1 7) (m159.1 8) (m159.1 9) (m159.1 6) (m159.1 10) by rewrite [(show (m159.1 6) = (m.1 6) from (fr1 Fm159 6 rfl))]; first | exact hLx | (intro h9; exfalso; omega) | (intro h9; have h8 := hLx (by omega); omega)) (show (1 : Int) ≤ (32 : Int) by omega)) (fun rr365 k366 => ?_)
      obtain ⟨m367, nu, Tm367, Fm367, g368, h369, h370, h371, h372, h373, h374, rfl⟩ := k366
      refine ⟨_, _, rfl, ?_⟩
      refine T_nb (st' := [.int (i32 nu), .int (i32 t), .ref 224]) rfl ?_
      obtain ⟨g368a, g368b⟩ := g368
      have g375 : 0 ≤ m367.1 7 ∧ m367.1 7 ≤ 330 := Tm367.1 7
      have g376 : 0 ≤ m367.1 8 ∧ m367.1 8 ≤ 4000 := Tm367.1 8
      have g377 : 0 ≤ m367.1 9 ∧ m367.1 9 ≤ 4000 := Tm367.1 9
      have g378 : 0 ≤ m367.1 10 ∧ m367.1 10 ≤ 8 := Tm367.1 10
      have g379 : (-1) ≤ m367.1 11 ∧ m367.1 11 ≤ 4000 := Tm367.1 11
      have g380 : (-9223372036854775808) ≤ m367.1 12 ∧ m367.1 12 ≤ 9223372036854775807 := Tm367.1 12
      replace h369 : LxP (m367.1 7) (m367.1 8) (m367.1 9) (m159.1 6) (m367.1 10) := h369
      rewrite [(show (m159.1 6) = (m.1 6) from (fr1 Fm159 6 rfl))] at h369
      replace h370 : (m159.1 8) ≤ (m367.1 8) := h370
      replace h371 : (m367.1 10) = 0 → (m159.1 10) = 0 ∧ (m159.1 8) + (m159.1 9) ≤ (m367.1 8) := h371
      replace h372 : (m367.1 10) = 0 → (m159.1 7) = 2 := h372
      replace h373 : (1 : Int) ≤ nu ∧ nu ≤ (32 : Int) := h373
      replace h374 : (m367.1 10) = 0 → nu = (m159.1 12) := h374
      have hf381 : 1 ≤ (m367.1 10) := by omega
      clear h371
      clear h372
      clear h374
      have hLx := h369
      exact J105_116 nu (mO m367 [] []) (r32 (by omega) (by omega)) Tm367 (fr_m (fr_s Fm367 (fr_m (fr_s Fm159 (fr_m fr_0 rfl rfl) rfl rfl) rfl rfl) rfl rfl) rfl rfl) (show 1 ≤ nu by omega) (show nu ≤ 32 by omega) (show 1 ≤ (m367.1 10) by omega)
  · skip
    clear hC
    refine T_ld 1 (.ref 189) rfl (fun _ => rfl) ?_
    refine T_ld 4 (.int (i32 316)) rfl (fun _ => rfl) ?_
    refine T_call 7 232 [.ref 189, .int (i32 316)] [] rfl (fun _ => rfl) rfl (d_need w (mO m [] []) c N D (by omega) hT 316 ⟨by decide, by decide⟩ (show 1 ≤ (316 : Int) by omega) (show LxP (m.1 7) (m.1 8) (m.1 9) (m.1 6) (m.1 10) by first | exact hLx | (intro h9; exfalso; omega) | (intro h9; have h8 := hLx (by omega); omega))) (fun rr382 k383 => ?_)
    obtain ⟨m384, Tm384, Fm384, h385, h386, h387, h388, rfl⟩ := k383
    refine ⟨_, _, rfl, ?_⟩
    refine T_nb (st' := []) rfl ?_
    have g389 : 0 ≤ m384.1 7 ∧ m384.1 7 ≤ 330 := Tm384.1 7
    have g390 : 0 ≤ m384.1 8 ∧ m384.1 8 ≤ 4000 := Tm384.1 8
    have g391 : 0 ≤ m384.1 9 ∧ m384.1 9 ≤ 4000 := Tm384.1 9
    have g392 : 0 ≤ m384.1 10 ∧ m384.1 10 ≤ 8 := Tm384.1 10
    have g393 : (-1) ≤ m384.1 11 ∧ m384.1 11 ≤ 4000 := Tm384.1 11
    have g394 : (-9223372036854775808) ≤ m384.1 12 ∧ m384.1 12 ≤ 9223372036854775807 := Tm384.1 12
    replace h385 : LxP (m384.1 7) (m384.1 8) (m384.1 9) (m.1 6) (m384.1 10) := h385
    replace h386 : (m384.1 10) = 0 → (m.1 10) = 0 ∧ (m.1 7) = (316 : Int) := h386
    replace h387 : (m.1 8) ≤ (m384.1 8) := h387
    replace h388 : (m384.1 10) = 0 → (m.1 8) + (m.1 9) ≤ (m384.1 8) := h388
    have hf395 : 1 ≤ (m384.1 10) := by omega
    clear h386
    clear h388
    have hLx := h385
    refine T_gf 11 (.int (i32 (m384.1 10))) rfl rfl rfl rfl rfl rfl ?_
    refine T_if 93 14 rfl rfl rfl (r32 (by omega) (by omega)) (fun (h396 : (m384.1 10) ≠ 0) => ?_) (fun (h396 : ¬ ((m384.1 10) ≠ 0)) => by exfalso; omega)
    refine T_gf 97 (.ref 224) rfl rfl rfl rfl rfl rfl ?_
    refine T_ld 98 (.int (i32 t)) rfl (fun _ => rfl) ?_
    refine T_ld 99 (.ref 189) rfl (fun _ => rfl) ?_
    refine T_ld 100 (.int (i32 1)) rfl (fun _ => rfl) ?_
    refine T_ld 102 (.int (i32 32)) rfl (fun _ => rfl) ?_
    refine T_call 105 234 [.ref 189, .int (i32 1), .int (i32 32)] [.int (i32 t), .ref 224] rfl (fun _ => rfl) rfl (d_number w (mO m384 [] []) c N D (by omega) Tm384 1 32 ⟨by decide, by decide⟩ ⟨by decide, by decide⟩ (show LxP (m384.1 7) (m384.1 8) (m384.1 9) (m384.1 6) (m384.1 10) by rewrite [(show (m384.1 6) = (m.1 6) from (fr1 Fm384 6 rfl))]; first | exact hLx | (intro h9; exfalso; omega) | (intro h9; have h8 := hLx (by omega); omega)) (show (1 : Int) ≤ (32 : Int) by omega)) (fun rr397 k398 => ?_)
    obtain ⟨m399, nu, Tm399, Fm399, g400, h401, h402, h403, h404, h405, h406, rfl⟩ := k398
    refine ⟨_, _, rfl, ?_⟩
    refine T_nb (st' := [.int (i32 nu), .int (i32 t), .ref 224]) rfl ?_
    obtain ⟨g400a, g400b⟩ := g400
    have g407 : 0 ≤ m399.1 7 ∧ m399.1 7 ≤ 330 := Tm399.1 7
    have g408 : 0 ≤ m399.1 8 ∧ m399.1 8 ≤ 4000 := Tm399.1 8
    have g409 : 0 ≤ m399.1 9 ∧ m399.1 9 ≤ 4000 := Tm399.1 9
    have g410 : 0 ≤ m399.1 10 ∧ m399.1 10 ≤ 8 := Tm399.1 10
    have g411 : (-1) ≤ m399.1 11 ∧ m399.1 11 ≤ 4000 := Tm399.1 11
    have g412 : (-9223372036854775808) ≤ m399.1 12 ∧ m399.1 12 ≤ 9223372036854775807 := Tm399.1 12
    replace h401 : LxP (m399.1 7) (m399.1 8) (m399.1 9) (m384.1 6) (m399.1 10) := h401
    rewrite [(show (m384.1 6) = (m.1 6) from (fr1 Fm384 6 rfl))] at h401
    replace h402 : (m384.1 8) ≤ (m399.1 8) := h402
    replace h403 : (m399.1 10) = 0 → (m384.1 10) = 0 ∧ (m384.1 8) + (m384.1 9) ≤ (m399.1 8) := h403
    replace h404 : (m399.1 10) = 0 → (m384.1 7) = 2 := h404
    replace h405 : (1 : Int) ≤ nu ∧ nu ≤ (32 : Int) := h405
    replace h406 : (m399.1 10) = 0 → nu = (m384.1 12) := h406
    have hf413 : 1 ≤ (m399.1 10) := by omega
    clear h403
    clear h404
    clear h406
    have hLx := h401
    have G414 : ∀ j, 0 ≤ (upI (m.2 54) t nu) j ∧ (upI (m.2 54) t nu) j ≤ 32 := upI_rg (hT.2.1 54) ⟨by omega, by omega⟩
    refine T_iast (a' := [(54, upI (m.2 54) t nu)]) 106 54 (m.2 54) rfl rfl rfl (by omega) (show t < (8 : Int) by omega) (show (m399.2 54) = (m.2 54) from ((fr2 Fm399 54 rfl).trans (fr2 Fm384 54 rfl))) rfl ?_
    refine T_gf 110 (.ref 225) rfl rfl rfl rfl rfl rfl ?_
    refine T_ld 111 (.int (i32 t)) rfl (fun _ => rfl) ?_
    refine T_ld 112 (.int (i32 0)) rfl (fun _ => rfl) ?_
    have G415 : ∀ j, 0 ≤ (upI (m.2 55) t 0) j ∧ (upI (m.2 55) t 0) j ≤ 4 := upI_rg (hT.2.1 55) ⟨by omega, by omega⟩
    refine T_iast (a' := [(54, upI (m.2 54) t nu), (55, upI (m.2 55) t 0)]) 113 55 (m.2 55) rfl rfl rfl (by omega) (show t < (8 : Int) by omega) (show (m399.2 55) = (m.2 55) from ((fr2 Fm399 55 rfl).trans (fr2 Fm384 55 rfl))) rfl ?_
    refine T_gf 117 (.ref 226) rfl rfl rfl rfl rfl rfl ?_
    refine T_ld 118 (.int (i32 t)) rfl (fun _ => rfl) ?_
    refine T_ld 119 (.int (i32 0)) rfl (fun _ => rfl) ?_
    have G416 : ∀ j, 0 ≤ (upI (m.2 56) t 0) j ∧ (upI (m.2 56) t 0) j ≤ 8 := upI_rg (hT.2.1 56) ⟨by omega, by omega⟩
    refine T_iast (a' := [(54, upI (m.2 54) t nu), (55, upI (m.2 55) t 0), (56, upI (m.2 56) t 0)]) 120 56 (m.2 56) rfl rfl rfl (by omega) (show t < (8 : Int) by omega) (show (m399.2 56) = (m.2 56) from ((fr2 Fm399 56 rfl).trans (fr2 Fm384 56 rfl))) rfl ?_
    refine T_gf 124 (.ref 228) rfl rfl rfl rfl rfl rfl ?_
    refine T_ld 125 (.int (i32 t)) rfl (fun _ => rfl) ?_
    refine T_bald 126 58 (m.2 58) rfl rfl rfl (by omega) (show t < (8 : Int) by omega) (show (m399.2 58) = (m.2 58) from ((fr2 Fm399 58 rfl).trans (fr2 Fm384 58 rfl))) ?_
    have e417 : 0 ≤ m.2 58 t ∧ m.2 58 t ≤ 1 := hT.2.1 58 t
    refine T_if 168 129 rfl rfl rfl (r32 (by omega) (by omega)) (fun (h418 : (m.2 58) t = 0) => ?_) (fun (h418 : ¬ ((m.2 58) t = 0)) => ?_)
    · skip
      refine T_ld 169 (.ref 189) rfl (fun _ => rfl) ?_
      refine T_ld 171 (.int (i32 59)) rfl (fun _ => rfl) ?_
      refine T_call 174 232 [.ref 189, .int (i32 59)] [] rfl (fun _ => rfl) rfl (d_need w (mO m399 [] [(54, upI (m.2 54) t nu), (55, upI (m.2 55) t 0), (56, upI (m.2 56) t 0)]) c N D (by omega) (Ty_mO Tm399 rfl rfl trivial ⟨G414, G415, G416, trivial⟩) 59 ⟨by decide, by decide⟩ (show 1 ≤ (59 : Int) by omega) (show LxP (m399.1 7) (m399.1 8) (m399.1 9) (m399.1 6) (m399.1 10) by rewrite [(show (m399.1 6) = (m.1 6) from ((fr1 Fm399 6 rfl).trans (fr1 Fm384 6 rfl)))]; first | exact hLx | (intro h9; exfalso; omega) | (intro h9; have h8 := hLx (by omega); omega))) (fun rr419 k420 => ?_)
      obtain ⟨m421, Tm421, Fm421, h422, h423, h424, h425, rfl⟩ := k420
      refine ⟨_, _, rfl, ?_⟩
      refine T_nb (st' := []) rfl ?_
      have g426 : 0 ≤ m421.1 7 ∧ m421.1 7 ≤ 330 := Tm421.1 7
      have g427 : 0 ≤ m421.1 8 ∧ m421.1 8 ≤ 4000 := Tm421.1 8
      have g428 : 0 ≤ m421.1 9 ∧ m421.1 9 ≤ 4000 := Tm421.1 9
      have g429 : 0 ≤ m421.1 10 ∧ m421.1 10 ≤ 8 := Tm421.1 10
      have g430 : (-1) ≤ m421.1 11 ∧ m421.1 11 ≤ 4000 := Tm421.1 11
      have g431 : (-9223372036854775808) ≤ m421.1 12 ∧ m421.1 12 ≤ 9223372036854775807 := Tm421.1 12
      replace h422 : LxP (m421.1 7) (m421.1 8) (m421.1 9) (m399.1 6) (m421.1 10) := h422
      rewrite [(show (m399.1 6) = (m.1 6) from ((fr1 Fm399 6 rfl).trans (fr1 Fm384 6 rfl)))] at h422
      replace h423 : (m421.1 10) = 0 → (m399.1 10) = 0 ∧ (m399.1 7) = (59 : Int) := h423
      replace h424 : (m399.1 8) ≤ (m421.1 8) := h424
      replace h425 : (m421.1 10) = 0 → (m399.1 8) + (m399.1 9) ≤ (m421.1 8) := h425
      have hf432 : 1 ≤ (m421.1 10) := by omega
      clear h423
      clear h425
      have hLx := h422
      refine T_ret rfl (fun _ => rfl) ?_
      exact ⟨(mO m421 [] []), Tm421, (fr_m (fr_s Fm421 (fr_m (fr_s Fm399 (fr_m (fr_s Fm384 (fr_m fr_0 rfl rfl) rfl rfl) rfl rfl) rfl rfl) rfl rfl) rfl rfl) rfl rfl), (show (m421.1 10) = 0 → (m.1 10) = 0 by omega), (show LxP (m421.1 7) (m421.1 8) (m421.1 9) (m.1 6) (m421.1 10) by first | (first | exact hLx | exact (fun _ => hLx (by omega)) | (intro h9; exfalso; omega)) | (exfalso; omega)), (fun (h : (m421.1 10) = 0) => absurd h (by omega)), rfl⟩
    · skip
      refine T_ld 130 (.ref 189) rfl (fun _ => rfl) ?_
      refine T_ld 133 (.int (i32 317)) rfl (fun _ => rfl) ?_
      refine T_call 136 232 [.ref 189, .int (i32 317)] [] rfl (fun _ => rfl) rfl (d_need w (mO m399 [] [(54, upI (m.2 54) t nu), (55, upI (m.2 55) t 0), (56, upI (m.2 56) t 0)]) c N D (by omega) (Ty_mO Tm399 rfl rfl trivial ⟨G414, G415, G416, trivial⟩) 317 ⟨by decide, by decide⟩ (show 1 ≤ (317 : Int) by omega) (show LxP (m399.1 7) (m399.1 8) (m399.1 9) (m399.1 6) (m399.1 10) by rewrite [(show (m399.1 6) = (m.1 6) from ((fr1 Fm399 6 rfl).trans (fr1 Fm384 6 rfl)))]; first | exact hLx | (intro h9; exfalso; omega) | (intro h9; have h8 := hLx (by omega); omega))) (fun rr433 k434 => ?_)
      obtain ⟨m435, Tm435, Fm435, h436, h437, h438, h439, rfl⟩ := k434
      refine ⟨_, _, rfl, ?_⟩
      refine T_nb (st' := []) rfl ?_
      have g440 : 0 ≤ m435.1 7 ∧ m435.1 7 ≤ 330 := Tm435.1 7
      have g441 : 0 ≤ m435.1 8 ∧ m435.1 8 ≤ 4000 := Tm435.1 8
      have g442 : 0 ≤ m435.1 9 ∧ m435.1 9 ≤ 4000 := Tm435.1 9
      have g443 : 0 ≤ m435.1 10 ∧ m435.1 10 ≤ 8 := Tm435.1 10
      have g444 : (-1) ≤ m435.1 11 ∧ m435.1 11 ≤ 4000 := Tm435.1 11
      have g445 : (-9223372036854775808) ≤ m435.1 12 ∧ m435.1 12 ≤ 9223372036854775807 := Tm435.1 12
      replace h436 : LxP (m435.1 7) (m435.1 8) (m435.1 9) (m399.1 6) (m435.1 10) := h436
      rewrite [(show (m399.1 6) = (m.1 6) from ((fr1 Fm399 6 rfl).trans (fr1 Fm384 6 rfl)))] at h436
      replace h437 : (m435.1 10) = 0 → (m399.1 10) = 0 ∧ (m399.1 7) = (317 : Int) := h437
      replace h438 : (m399.1 8) ≤ (m435.1 8) := h438
      replace h439 : (m435.1 10) = 0 → (m399.1 8) + (m399.1 9) ≤ (m435.1 8) := h439
      have hf446 : 1 ≤ (m435.1 10) := by omega
      clear h437
      clear h439
      have hLx := h436
      refine T_gf 140 (.ref 225) rfl rfl rfl rfl rfl rfl ?_
      refine T_ld 141 (.int (i32 t)) rfl (fun _ => rfl) ?_
      refine T_ld 142 (.ref 189) rfl (fun _ => rfl) ?_
      refine T_ld 143 (.int (i32 1)) rfl (fun _ => rfl) ?_
      refine T_ld 144 (.int (i32 4)) rfl (fun _ => rfl) ?_
      refine T_call 147 234 [.ref 189, .int (i32 1), .int (i32 4)] [.int (i32 t), .ref 225] rfl (fun _ => rfl) rfl (d_number w (mO m435 [] []) c N D (by omega) Tm435 1 4 ⟨by decide, by decide⟩ ⟨by decide, by decide⟩ (show LxP (m435.1 7) (m435.1 8) (m435.1 9) (m435.1 6) (m435.1 10) by rewrite [(show (m435.1 6) = (m.1 6) from ((fr1 Fm435 6 rfl).trans ((fr1 Fm399 6 rfl).trans (fr1 Fm384 6 rfl))))]; first | exact hLx | (intro h9; exfalso; omega) | (intro h9; have h8 := hLx (by omega); omega)) (show (1 : Int) ≤ (4 : Int) by omega)) (fun rr447 k448 => ?_)
      obtain ⟨m449, nu450, Tm449, Fm449, g451, h452, h453, h454, h455, h456, h457, rfl⟩ := k448
      refine ⟨_, _, rfl, ?_⟩
      refine T_nb (st' := [.int (i32 nu450), .int (i32 t), .ref 225]) rfl ?_
      obtain ⟨g451a, g451b⟩ := g451
      have g458 : 0 ≤ m449.1 7 ∧ m449.1 7 ≤ 330 := Tm449.1 7
      have g459 : 0 ≤ m449.1 8 ∧ m449.1 8 ≤ 4000 := Tm449.1 8
      have g460 : 0 ≤ m449.1 9 ∧ m449.1 9 ≤ 4000 := Tm449.1 9
      have g461 : 0 ≤ m449.1 10 ∧ m449.1 10 ≤ 8 := Tm449.1 10
      have g462 : (-1) ≤ m449.1 11 ∧ m449.1 11 ≤ 4000 := Tm449.1 11
      have g463 : (-9223372036854775808) ≤ m449.1 12 ∧ m449.1 12 ≤ 9223372036854775807 := Tm449.1 12
      replace h452 : LxP (m449.1 7) (m449.1 8) (m449.1 9) (m435.1 6) (m449.1 10) := h452
      rewrite [(show (m435.1 6) = (m.1 6) from ((fr1 Fm435 6 rfl).trans ((fr1 Fm399 6 rfl).trans (fr1 Fm384 6 rfl))))] at h452
      replace h453 : (m435.1 8) ≤ (m449.1 8) := h453
      replace h454 : (m449.1 10) = 0 → (m435.1 10) = 0 ∧ (m435.1 8) + (m435.1 9) ≤ (m449.1 8) := h454
      replace h455 : (m449.1 10) = 0 → (m435.1 7) = 2 := h455
      replace h456 : (1 : Int) ≤ nu450 ∧ nu450 ≤ (4 : Int) := h456
      replace h457 : (m449.1 10) = 0 → nu450 = (m435.1 12) := h457
      have hf464 : 1 ≤ (m449.1 10) := by omega
      clear h454
      clear h455
      clear h457
      have hLx := h452
      have G465 : ∀ j, 0 ≤ (upI (upI (m.2 55) t 0) t nu450) j ∧ (upI (upI (m.2 55) t 0) t nu450) j ≤ 4 := upI_rg G415 ⟨by omega, by omega⟩
      refine T_iast (a' := [(55, upI (upI (m.2 55) t 0) t nu450)]) 148 55 (upI (m.2 55) t 0) rfl rfl rfl (by omega) (show t < (8 : Int) by omega) (show (m449.2 55) = (upI (m.2 55) t 0) from ((fr2 Fm449 55 rfl).trans (fr2 Fm435 55 rfl))) rfl ?_
      refine T_ld 149 (.ref 189) rfl (fun _ => rfl) ?_
      refine T_ld 152 (.int (i32 318)) rfl (fun _ => rfl) ?_
      refine T_call 155 232 [.ref 189, .int (i32 318)] [] rfl (fun _ => rfl) rfl (d_need w (mO m449 [] [(55, upI (upI (m.2 55) t 0) t nu450)]) c N D (by omega) (Ty_mO Tm449 rfl rfl trivial ⟨G465, trivial⟩) 318 ⟨by decide, by decide⟩ (show 1 ≤ (318 : Int) by omega) (show LxP (m449.1 7) (m449.1 8) (m449.1 9) (m449.1 6) (m449.1 10) by rewrite [(show (m449.1 6) = (m.1 6) from ((fr1 Fm449 6 rfl).trans ((fr1 Fm435 6 rfl).trans ((fr1 Fm399 6 rfl).trans (fr1 Fm384 6 rfl)))))]; first | exact hLx | (intro h9; exfalso; omega) | (intro h9; have h8 := hLx (by omega); omega))) (fun rr466 k467 => ?_)
      obtain ⟨m468, Tm468, Fm468, h469, h470, h471, h472, rfl⟩ := k467
      refine ⟨_, _, rfl, ?_⟩
      refine T_nb (st' := []) rfl ?_
      have g473 : 0 ≤ m468.1 7 ∧ m468.1 7 ≤ 330 := Tm468.1 7
      have g474 : 0 ≤ m468.1 8 ∧ m468.1 8 ≤ 4000 := Tm468.1 8
      have g475 : 0 ≤ m468.1 9 ∧ m468.1 9 ≤ 4000 := Tm468.1 9
      have g476 : 0 ≤ m468.1 10 ∧ m468.1 10 ≤ 8 := Tm468.1 10
      have g477 : (-1) ≤ m468.1 11 ∧ m468.1 11 ≤ 4000 := Tm468.1 11
      have g478 : (-9223372036854775808) ≤ m468.1 12 ∧ m468.1 12 ≤ 9223372036854775807 := Tm468.1 12
      replace h469 : LxP (m468.1 7) (m468.1 8) (m468.1 9) (m449.1 6) (m468.1 10) := h469
      rewrite [(show (m449.1 6) = (m.1 6) from ((fr1 Fm449 6 rfl).trans ((fr1 Fm435 6 rfl).trans ((fr1 Fm399 6 rfl).trans (fr1 Fm384 6 rfl)))))] at h469
      replace h470 : (m468.1 10) = 0 → (m449.1 10) = 0 ∧ (m449.1 7) = (318 : Int) := h470
      replace h471 : (m449.1 8) ≤ (m468.1 8) := h471
      replace h472 : (m468.1 10) = 0 → (m449.1 8) + (m449.1 9) ≤ (m468.1 8) := h472
      have hf479 : 1 ≤ (m468.1 10) := by omega
      clear h470
      clear h472
      have hLx := h469
      refine T_gf 159 (.ref 226) rfl rfl rfl rfl rfl rfl ?_
      refine T_ld 160 (.int (i32 t)) rfl (fun _ => rfl) ?_
      refine T_ld 161 (.ref 189) rfl (fun _ => rfl) ?_
      refine T_ld 162 (.int (i32 0)) rfl (fun _ => rfl) ?_
      refine T_ld 164 (.int (i32 8)) rfl (fun _ => rfl) ?_
      refine T_call 167 234 [.ref 189, .int (i32 0), .int (i32 8)] [.int (i32 t), .ref 226] rfl (fun _ => rfl) rfl (d_number w (mO m468 [] []) c N D (by omega) Tm468 0 8 ⟨by decide, by decide⟩ ⟨by decide, by decide⟩ (show LxP (m468.1 7) (m468.1 8) (m468.1 9) (m468.1 6) (m468.1 10) by rewrite [(show (m468.1 6) = (m.1 6) from ((fr1 Fm468 6 rfl).trans ((fr1 Fm449 6 rfl).trans ((fr1 Fm435 6 rfl).trans ((fr1 Fm399 6 rfl).trans (fr1 Fm384 6 rfl))))))]; first | exact hLx | (intro h9; exfalso; omega) | (intro h9; have h8 := hLx (by omega); omega)) (show (0 : Int) ≤ (8 : Int) by omega)) (fun rr480 k481 => ?_)
      obtain ⟨m482, nu483, Tm482, Fm482, g484, h485, h486, h487, h488, h489, h490, rfl⟩ := k481
      refine ⟨_, _, rfl, ?_⟩
      refine T_nb (st' := [.int (i32 nu483), .int (i32 t), .ref 226]) rfl ?_
      obtain ⟨g484a, g484b⟩ := g484
      have g491 : 0 ≤ m482.1 7 ∧ m482.1 7 ≤ 330 := Tm482.1 7
      have g492 : 0 ≤ m482.1 8 ∧ m482.1 8 ≤ 4000 := Tm482.1 8
      have g493 : 0 ≤ m482.1 9 ∧ m482.1 9 ≤ 4000 := Tm482.1 9
      have g494 : 0 ≤ m482.1 10 ∧ m482.1 10 ≤ 8 := Tm482.1 10
      have g495 : (-1) ≤ m482.1 11 ∧ m482.1 11 ≤ 4000 := Tm482.1 11
      have g496 : (-9223372036854775808) ≤ m482.1 12 ∧ m482.1 12 ≤ 9223372036854775807 := Tm482.1 12
      replace h485 : LxP (m482.1 7) (m482.1 8) (m482.1 9) (m468.1 6) (m482.1 10) := h485
      rewrite [(show (m468.1 6) = (m.1 6) from ((fr1 Fm468 6 rfl).trans ((fr1 Fm449 6 rfl).trans ((fr1 Fm435 6 rfl).trans ((fr1 Fm399 6 rfl).trans (fr1 Fm384 6 rfl))))))] at h485
      replace h486 : (m468.1 8) ≤ (m482.1 8) := h486
      replace h487 : (m482.1 10) = 0 → (m468.1 10) = 0 ∧ (m468.1 8) + (m468.1 9) ≤ (m482.1 8) := h487
      replace h488 : (m482.1 10) = 0 → (m468.1 7) = 2 := h488
      replace h489 : (0 : Int) ≤ nu483 ∧ nu483 ≤ (8 : Int) := h489
      replace h490 : (m482.1 10) = 0 → nu483 = (m468.1 12) := h490
      have hf497 : 1 ≤ (m482.1 10) := by omega
      clear h487
      clear h488
      clear h490
      have hLx := h485
      have G498 : ∀ j, 0 ≤ (upI (upI (m.2 56) t 0) t nu483) j ∧ (upI (upI (m.2 56) t 0) t nu483) j ≤ 8 := upI_rg G416 ⟨by omega, by omega⟩
      refine T_iast (a' := [(56, upI (upI (m.2 56) t 0) t nu483)]) 168 56 (upI (m.2 56) t 0) rfl rfl rfl (by omega) (show t < (8 : Int) by omega) (show (m482.2 56) = (upI (m.2 56) t 0) from ((fr2 Fm482 56 rfl).trans ((fr2 Fm468 56 rfl).trans ((fr2 Fm449 56 rfl).trans (fr2 Fm435 56 rfl))))) rfl ?_
      refine T_ld 169 (.ref 189) rfl (fun _ => rfl) ?_
      refine T_ld 171 (.int (i32 59)) rfl (fun _ => rfl) ?_
      refine T_call 174 232 [.ref 189, .int (i32 59)] [] rfl (fun _ => rfl) rfl (d_need w (mO m482 [] [(56, upI (upI (m.2 56) t 0) t nu483)]) c N D (by omega) (Ty_mO Tm482 rfl rfl trivial ⟨G498, trivial⟩) 59 ⟨by decide, by decide⟩ (show 1 ≤ (59 : Int) by omega) (show LxP (m482.1 7) (m482.1 8) (m482.1 9) (m482.1 6) (m482.1 10) by rewrite [(show (m482.1 6) = (m.1 6) from ((fr1 Fm482 6 rfl).trans ((fr1 Fm468 6 rfl).trans ((fr1 Fm449 6 rfl).trans ((fr1 Fm435 6 rfl).trans ((fr1 Fm399 6 rfl).trans (fr1 Fm384 6 rfl)))))))]; first | exact hLx | (intro h9; exfalso; omega) | (intro h9; have h8 := hLx (by omega); omega))) (fun rr499 k500 => ?_)
      obtain ⟨m501, Tm501, Fm501, h502, h503, h504, h505, rfl⟩ := k500
      refine ⟨_, _, rfl, ?_⟩
      refine T_nb (st' := []) rfl ?_
      have g506 : 0 ≤ m501.1 7 ∧ m501.1 7 ≤ 330 := Tm501.1 7
      have g507 : 0 ≤ m501.1 8 ∧ m501.1 8 ≤ 4000 := Tm501.1 8
      have g508 : 0 ≤ m501.1 9 ∧ m501.1 9 ≤ 4000 := Tm501.1 9
      have g509 : 0 ≤ m501.1 10 ∧ m501.1 10 ≤ 8 := Tm501.1 10
      have g510 : (-1) ≤ m501.1 11 ∧ m501.1 11 ≤ 4000 := Tm501.1 11
      have g511 : (-9223372036854775808) ≤ m501.1 12 ∧ m501.1 12 ≤ 9223372036854775807 := Tm501.1 12
      replace h502 : LxP (m501.1 7) (m501.1 8) (m501.1 9) (m482.1 6) (m501.1 10) := h502
      rewrite [(show (m482.1 6) = (m.1 6) from ((fr1 Fm482 6 rfl).trans ((fr1 Fm468 6 rfl).trans ((fr1 Fm449 6 rfl).trans ((fr1 Fm435 6 rfl).trans ((fr1 Fm399 6 rfl).trans (fr1 Fm384 6 rfl)))))))] at h502
      replace h503 : (m501.1 10) = 0 → (m482.1 10) = 0 ∧ (m482.1 7) = (59 : Int) := h503
      replace h504 : (m482.1 8) ≤ (m501.1 8) := h504
      replace h505 : (m501.1 10) = 0 → (m482.1 8) + (m482.1 9) ≤ (m501.1 8) := h505
      have hf512 : 1 ≤ (m501.1 10) := by omega
      clear h503
      clear h505
      have hLx := h502
      refine T_ret rfl (fun _ => rfl) ?_
      exact ⟨(mO m501 [] []), Tm501, (fr_m (fr_s Fm501 (fr_m (fr_s Fm482 (fr_m (fr_s Fm468 (fr_m (fr_s Fm449 (fr_m (fr_s Fm435 (fr_m (fr_s Fm399 (fr_m (fr_s Fm384 (fr_m fr_0 rfl rfl) rfl rfl) rfl rfl) rfl rfl) rfl rfl) rfl rfl) rfl rfl) rfl rfl) rfl rfl) rfl rfl) rfl rfl) rfl rfl) rfl rfl) rfl rfl) rfl rfl), (show (m501.1 10) = 0 → (m.1 10) = 0 by omega), (show LxP (m501.1 7) (m501.1 8) (m501.1 9) (m.1 6) (m501.1 10) by first | (first | exact hLx | exact (fun _ => hLx (by omega)) | (intro h9; exfalso; omega)) | (exfalso; omega)), (fun (h : (m501.1 10) = 0) => absurd h (by omega)), rfl⟩
