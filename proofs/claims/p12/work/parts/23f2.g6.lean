def fF_goOn : List Nat := [7, 8, 9, 10, 11, 12, 28, 69, 70, 71, 72, 73, 74, 75]
def fA_goOn : List Nat := [65, 66, 67, 68, 76, 77, 78, 79, 80, 81, 82, 83, 84, 85, 86, 87, 88, 89, 90, 91, 92]
def Q_goOn (m : mR) (c : Nat → Option am_C) (N : Nat) (B : Int) : ag_Re af_T → Prop := fun R => ∃ (M : mR), Ty M ∧ fr fF_goOn fA_goOn m M ∧ ((M.1 10) = 0 → (m.1 10) = 0) ∧ (LxP (M.1 7) (M.1 8) (M.1 9) (m.1 6) (M.1 10)) ∧ (M.1 10 = 0 → (GP (m.1 8) (M.1 8) (M.1 75) (M.1 73) (m.1 73)) ∧ (GU (M.1 75) (M.1 69)) ∧ (GH (M.1 75) (M.1 73)) ∧ ((m.1 28) ≤ (M.1 28)) ∧ (XS (M.2 65) (M.2 67) (M.2 76) (M.2 78) (M.2 79) (M.2 80) B (M.1 28) (M.1 73) (M.1 74) (um (M.1 75))) ∧ (agr (m.2 65) (M.2 65) (m.1 28))) ∧ R = (.inl (none), (mhp M c, N), 0, 0)
set_option maxHeartbeats 3000000 in
theorem c_goOn (w : wX) (m : mR) (c : Nat → Option am_C) (N D : Nat) (hD : 9 ≤ D) (hT : Ty m) (B : Int) (hLx0 : LxP (m.1 7) (m.1 8) (m.1 9) (m.1 6) (m.1 10)) (hf0 : m.1 10 = 0) (hC : (XS (m.2 65) (m.2 67) (m.2 76) (m.2 78) (m.2 79) (m.2 80) B (m.1 28) (m.1 73) (m.1 74) 1) ∧ (1 ≤ (m.1 73)) ∧ ((m.1 69) ≤ 64) ∧ ((m.1 75) = 2)) : TC w D 257 [.ref 189] (mhp m c, N) (Q_goOn m c N B) := by
  obtain ⟨D, rfl⟩ : ∃ k, D = k + 1 := ⟨D - 1, by omega⟩
  have hLx := hLx0
  have f7 : 0 ≤ m.1 7 ∧ m.1 7 ≤ 330 := hT.1 7
  have f8 : 0 ≤ m.1 8 ∧ m.1 8 ≤ 4000 := hT.1 8
  have f9 : 0 ≤ m.1 9 ∧ m.1 9 ≤ 4000 := hT.1 9
  have f10 : 0 ≤ m.1 10 ∧ m.1 10 ≤ 8 := hT.1 10
  have f28 : 0 ≤ m.1 28 ∧ m.1 28 ≤ 800 := hT.1 28
  have f69 : 0 ≤ m.1 69 ∧ m.1 69 ≤ 1024 := hT.1 69
  have f70 : 0 ≤ m.1 70 ∧ m.1 70 ≤ 4000 := hT.1 70
  have f71 : 0 ≤ m.1 71 ∧ m.1 71 ≤ 1 := hT.1 71
  have f72 : (-9223372036854775808) ≤ m.1 72 ∧ m.1 72 ≤ 9223372036854775807 := hT.1 72
  have f73 : 0 ≤ m.1 73 ∧ m.1 73 ≤ 60 := hT.1 73
  have f74 : 0 ≤ m.1 74 ∧ m.1 74 ≤ 24 := hT.1 74
  have f75 : 0 ≤ m.1 75 ∧ m.1 75 ≤ 3 := hT.1 75
  have f6 : 0 ≤ m.1 6 ∧ m.1 6 ≤ 4000 := hT.1 6
  refine Tc_of rfl ?_
  show TT w D pm_257 (0, [(0, .ref 189)], [], (mhp (mO m [] []) c, N), 0, 0) (Q_goOn m c N B)
  obtain ⟨hXS, c1, c2, c3⟩ := hC
  have hb := OS_hi hXS.1.2
  have hAgC := agr_r (m.2 65) (m.1 28)
  have h7 := hLx (by omega)
  have ht2 := hXS.2 (by omega)
  refine T_gf 4 (.int (i32 (m.1 73))) rfl rfl rfl rfl rfl rfl ?_
  refine T_ld 5 (.int (i32 1)) rfl (fun _ => rfl) ?_
  refine T_isub 6 rfl rfl ?_
  refine T_sto 7 [(1, .int (i32 ((m.1 73) - 1))), (0, .ref 189)] rfl (fun _ => rfl) ?_
  refine T_gf 11 (.ref 238) rfl rfl rfl rfl rfl rfl ?_
  refine T_ld 12 (.int (i32 ((m.1 73) - 1))) rfl (fun _ => rfl) ?_
  refine T_iald 13 76 (m.2 76) rfl rfl rfl (by omega) (show ((m.1 73) - 1) < (60 : Int) by omega) rfl ?_
  have e4 : 0 ≤ (m.2 76) ((m.1 73) - 1) ∧ (m.2 76) ((m.1 73) - 1) ≤ 2 := (hT.2.1 76) ((m.1 73) - 1)
  refine T_ld 14 (.int (i32 1)) rfl (fun _ => rfl) ?_
  refine T_icmp 130 17 rfl rfl rfl (r32 (by omega) (by omega)) ⟨by decide, by decide⟩ (fun (h5 : (m.2 76) ((m.1 73) - 1) ≠ 1) => ?_) (fun (h5 : ¬ ((m.2 76) ((m.1 73) - 1) ≠ 1)) => ?_)
  · skip
    refine T_gf 134 (.int (i32 (m.1 7))) rfl rfl rfl rfl rfl rfl ?_
    refine T_call 137 259 [.int (i32 (m.1 7))] [] rfl (fun _ => rfl) rfl (c_level w (mO m [] []) c N D (by omega) hT (m.1 7) (r32 (by omega) (by omega))) (fun rr6 k7 => ?_)
    obtain ⟨x8, g9, h10, rfl⟩ := k7
    refine ⟨_, _, rfl, ?_⟩
    refine T_ns (st' := [.int (i32 x8)]) rfl ?_
    obtain ⟨g9a, g9b⟩ := g9
    replace h10 : 0 ≤ x8 → 4 ≤ (m.1 7) ∧ (m.1 7) ≤ 124 := h10
    have hAgC : agr (m.2 65) (m.2 65) (m.1 28) := by first | exact agr_r _ _ | exact hAgC | exact agr_t hAgC hAg (by omega)
    refine T_sto 138 [(2, .int (i32 x8)), (1, .int (i32 ((m.1 73) - 1))), (0, .ref 189)] rfl (fun _ => rfl) ?_
    have J159_12 : ∀ (v11 : Int), (R32 v11) → (v11 = -1 ∨ (0 ≤ v11 ∧ v11 ≤ 8 ∧ 4 ≤ (m.1 7))) → TT w D pm_257 (159, [(0, .ref 189), (1, .int (i32 ((m.1 73) - 1))), (2, .int (i32 v11))], [], (mhp (mO m [] []) c, N), 0, 0) (Q_goOn m c N B) := by
      intro v11 q14 ic13
      obtain ⟨q14a, q14b⟩ := id q14
      refine T_ld 161 (.int (i32 8)) rfl (fun _ => rfl) ?_
      refine T_sto 162 [(3, .int (i32 8)), (0, .ref 189), (1, .int (i32 ((m.1 73) - 1))), (2, .int (i32 v11))] rfl (fun _ => rfl) ?_
      have L162_18 : ∀ (n : Nat) (v16 : Int) (m17 : mR), (R32 v16) → Ty m17 → fr [10, 11, 28, 69, 70, 71, 72] [65, 66, 67, 68, 80] (mO m [] []) m17 → (v16 ≤ 8) → ((-1) ≤ v16) → ((m17.1 69) ≤ 64 * (9 - v16)) → ((m17.1 10) = 0 → (XS (m17.2 65) (m17.2 67) (m.2 76) (m.2 78) (m.2 79) (m17.2 80) B (m17.1 28) (m.1 73) (m.1 74) 1) ∧ ((m17.1 69) ≤ 64) ∧ ((m.1 28) ≤ (m17.1 28)) ∧ (agr (m.2 65) (m17.2 65) (m.1 28))) → v16 + 1 < (n : Int) → TT w D pm_257 (162, [(0, .ref 189), (1, .int (i32 ((m.1 73) - 1))), (2, .int (i32 v11)), (3, .int (i32 v16))], [], (mhp (mO m17 [] []) c, N), 0, 0) (Q_goOn m c N B) := by
        intro n
        induction n with
        | zero =>
          intro v16 m17 q22 Tm17 Fm17 ic19 ic20 ic21 c24 hmu
          obtain ⟨q22a, q22b⟩ := id q22
          have q23_10 : 0 ≤ m17.1 10 ∧ m17.1 10 ≤ 8 := Tm17.1 10
          have q23_28 : 0 ≤ m17.1 28 ∧ m17.1 28 ≤ 800 := Tm17.1 28
          have q23_69 : 0 ≤ m17.1 69 ∧ m17.1 69 ≤ 1024 := Tm17.1 69
          have q23_70 : 0 ≤ m17.1 70 ∧ m17.1 70 ≤ 4000 := Tm17.1 70
          have q23_71 : 0 ≤ m17.1 71 ∧ m17.1 71 ≤ 1 := Tm17.1 71
          have q23_72 : (-9223372036854775808) ≤ m17.1 72 ∧ m17.1 72 ≤ 9223372036854775807 := Tm17.1 72
          have hLx : LxP (m.1 7) (m.1 8) (m.1 9) (m.1 6) (m17.1 10) := fun _ => hLx (by omega)
          exfalso
          omega
        | succ n ih =>
          intro v16 m17 q22 Tm17 Fm17 ic19 ic20 ic21 c24 hmu
          obtain ⟨q22a, q22b⟩ := id q22
          have q23_10 : 0 ≤ m17.1 10 ∧ m17.1 10 ≤ 8 := Tm17.1 10
          have q23_28 : 0 ≤ m17.1 28 ∧ m17.1 28 ≤ 800 := Tm17.1 28
          have q23_69 : 0 ≤ m17.1 69 ∧ m17.1 69 ≤ 1024 := Tm17.1 69
          have q23_70 : 0 ≤ m17.1 70 ∧ m17.1 70 ≤ 4000 := Tm17.1 70
          have q23_71 : 0 ≤ m17.1 71 ∧ m17.1 71 ≤ 1 := Tm17.1 71
          have q23_72 : (-9223372036854775808) ≤ m17.1 72 ∧ m17.1 72 ≤ 9223372036854775807 := Tm17.1 72
          have ih25 := ih
          by_cases hf26 : (m17.1 10) = 0
          · skip
            obtain ⟨c27, c28, c29, c30⟩ := c24 hf26
            clear c24
            have hXS := c27
            have hAgC := c30
            have hLx : LxP (m.1 7) (m.1 8) (m.1 9) (m.1 6) (m17.1 10) := fun _ => hLx (by omega)
            refine T_ld 163 (.int (i32 v16)) rfl (fun _ => rfl) ?_
            refine T_if 204 166 rfl rfl rfl (r32 (by omega) (by omega)) (fun (h31 : v16 < 0) => ?_) (fun (h31 : ¬ (v16 < 0)) => ?_)
            · skip
              refine T_gf 208 (.int (i32 (m17.1 10))) rfl rfl rfl rfl rfl rfl ?_
              refine T_if 212 211 rfl rfl rfl (r32 (by omega) (by omega)) (fun (h32 : (m17.1 10) ≤ 0) => ?_) (fun (h32 : ¬ ((m17.1 10) ≤ 0)) => by exfalso; omega)
              refine T_ld 213 (.int (i32 v11)) rfl (fun _ => rfl) ?_
              refine T_if 285 216 rfl rfl rfl (r32 (by omega) (by omega)) (fun (h33 : v11 < 0) => ?_) (fun (h33 : ¬ (v11 < 0)) => ?_)
              · skip
                refine T_ld 286 (.ref 189) rfl (fun _ => rfl) ?_
                refine T_ld 287 (.int (i32 ((m.1 73) - 1))) rfl (fun _ => rfl) ?_
                refine T_call 290 263 [.ref 189, .int (i32 ((m.1 73) - 1))] [] rfl (fun _ => rfl) rfl (c_endOr w (mO m17 [] []) c N D (by omega) Tm17 ((m.1 73) - 1) B (r32 (by omega) (by omega)) (show LxP (m17.1 7) (m17.1 8) (m17.1 9) (m17.1 6) (m17.1 10) by rewrite [(show (m17.1 7) = (m.1 7) from (fr1 Fm17 7 rfl)), (show (m17.1 8) = (m.1 8) from (fr1 Fm17 8 rfl)), (show (m17.1 9) = (m.1 9) from (fr1 Fm17 9 rfl)), (show (m17.1 6) = (m.1 6) from (fr1 Fm17 6 rfl))]; first | exact hLx | exact (fun _ => hLx (by omega)) | (intro h9; exfalso; omega)) (show (m17.1 10) = 0 by omega) ⟨(show XS (m17.2 65) (m17.2 67) (m17.2 76) (m17.2 78) (m17.2 79) (m17.2 80) B (m17.1 28) (m17.1 73) (m17.1 74) 1 by rewrite [(show (m17.2 76) = (m.2 76) from (fr2 Fm17 76 rfl)), (show (m17.2 78) = (m.2 78) from (fr2 Fm17 78 rfl)), (show (m17.2 79) = (m.2 79) from (fr2 Fm17 79 rfl)), (show (m17.1 73) = (m.1 73) from (fr1 Fm17 73 rfl)), (show (m17.1 74) = (m.1 74) from (fr1 Fm17 74 rfl))]; first | exact hXS | assumption), (show ((m.1 73) - 1) = (m17.1 73) - 1 by rewrite [(show (m17.1 73) = (m.1 73) from (fr1 Fm17 73 rfl))]; omega), (show 1 ≤ (m17.1 73) by rewrite [(show (m17.1 73) = (m.1 73) from (fr1 Fm17 73 rfl))]; omega), (show (m17.2 76) ((m.1 73) - 1) = 0 by rewrite [(show (m17.2 76) = (m.2 76) from (fr2 Fm17 76 rfl))]; omega), (show (m17.1 69) ≤ 64 by omega), (show (m17.1 75) = 2 by rewrite [(show (m17.1 75) = (m.1 75) from (fr1 Fm17 75 rfl))]; omega)⟩) (fun rr34 k35 => ?_)
                obtain ⟨m36, Tm36, Fm36, h37, h38, c39, rfl⟩ := k35
                refine ⟨_, _, rfl, ?_⟩
                refine T_nb (st' := []) rfl ?_
                have g40 : 0 ≤ m36.1 7 ∧ m36.1 7 ≤ 330 := Tm36.1 7
                have g41 : 0 ≤ m36.1 8 ∧ m36.1 8 ≤ 4000 := Tm36.1 8
                have g42 : 0 ≤ m36.1 9 ∧ m36.1 9 ≤ 4000 := Tm36.1 9
                have g43 : 0 ≤ m36.1 10 ∧ m36.1 10 ≤ 8 := Tm36.1 10
                have g44 : 0 ≤ m36.1 28 ∧ m36.1 28 ≤ 800 := Tm36.1 28
                have g45 : 0 ≤ m36.1 69 ∧ m36.1 69 ≤ 1024 := Tm36.1 69
                have g46 : 0 ≤ m36.1 70 ∧ m36.1 70 ≤ 4000 := Tm36.1 70
                have g47 : 0 ≤ m36.1 71 ∧ m36.1 71 ≤ 1 := Tm36.1 71
                have g48 : (-9223372036854775808) ≤ m36.1 72 ∧ m36.1 72 ≤ 9223372036854775807 := Tm36.1 72
                have g49 : 0 ≤ m36.1 73 ∧ m36.1 73 ≤ 60 := Tm36.1 73
                have g50 : 0 ≤ m36.1 74 ∧ m36.1 74 ≤ 24 := Tm36.1 74
                have g51 : 0 ≤ m36.1 75 ∧ m36.1 75 ≤ 3 := Tm36.1 75
                by_cases hf52 : (m36.1 10) = 0
                · skip
                  replace h37 : (m17.1 10) = 0 := h37 hf52
                  replace h38 : LxP (m36.1 7) (m36.1 8) (m36.1 9) (m17.1 6) (m36.1 10) := h38
                  rewrite [(show (m17.1 6) = (m.1 6) from (fr1 Fm17 6 rfl))] at h38
                  have hLx := h38
                  obtain ⟨c53, c54, c55, c56, c57, c58⟩ := c39 hf52
                  replace c53 : GP (m17.1 8) (m36.1 8) (m36.1 75) (m36.1 73) (m17.1 73) := c53
                  rewrite [(show (m17.1 8) = (m.1 8) from (fr1 Fm17 8 rfl)), (show (m17.1 73) = (m.1 73) from (fr1 Fm17 73 rfl))] at c53
                  have hGP := c53
                  replace c54 : GU (m36.1 75) (m36.1 69) := c54
                  have hGU := c54
                  replace c55 : GH (m36.1 75) (m36.1 73) := c55
                  have hGH := c55
                  replace c56 : (m17.1 28) ≤ (m36.1 28) := c56
                  replace c57 : XS (m36.2 65) (m36.2 67) (m36.2 76) (m36.2 78) (m36.2 79) (m36.2 80) B (m36.1 28) (m36.1 73) (m36.1 74) (um (m36.1 75)) := c57
                  have hXE := c57
                  replace c58 : agr (m17.2 65) (m36.2 65) (m17.1 28) := c58
                  have hAg := c58
                  clear c39
                  have hAgC : agr (m.2 65) (m36.2 65) (m.1 28) := by first | exact agr_r _ _ | exact hAgC | exact agr_t hAgC hAg (by omega)
                  refine T_ret rfl (fun _ => rfl) ?_
                  exact ⟨(mO m36 [] []), Tm36, (fr_m (fr_s Fm36 (fr_m (fr_s Fm17 (fr_m fr_0 rfl rfl) rfl rfl) rfl rfl) rfl rfl) rfl rfl), (show (m36.1 10) = 0 → (m.1 10) = 0 by omega), (show LxP (m36.1 7) (m36.1 8) (m36.1 9) (m.1 6) (m36.1 10) by first | (first | exact hLx | exact (fun _ => hLx (by omega)) | (intro h9; exfalso; omega)) | (exfalso; omega)), (fun _ => ⟨(show GP (m.1 8) (m36.1 8) (m36.1 75) (m36.1 73) (m.1 73) by first | (first | assumption | (unfold GP; omega)) | (exfalso; omega)), (show GU (m36.1 75) (m36.1 69) by first | (first | assumption | (unfold GU; omega)) | (exfalso; omega)), (show GH (m36.1 75) (m36.1 73) by first | (first | assumption | (unfold GH; omega)) | (exfalso; omega)), (show (m.1 28) ≤ (m36.1 28) by omega), (show XS (m36.2 65) (m36.2 67) (m36.2 76) (m36.2 78) (m36.2 79) (m36.2 80) B (m36.1 28) (m36.1 73) (m36.1 74) (um (m36.1 75)) by first | (exact hXE) | (exfalso; omega)), (show agr (m.2 65) (m36.2 65) (m.1 28) by first | (exact hAgC) | (exfalso; omega))⟩), rfl⟩
                · skip
                  clear c39
                  clear h37
                  replace h38 : LxP (m36.1 7) (m36.1 8) (m36.1 9) (m17.1 6) (m36.1 10) := h38
                  rewrite [(show (m17.1 6) = (m.1 6) from (fr1 Fm17 6 rfl))] at h38
                  have hLx := h38
                  have hf59 : 1 ≤ (m36.1 10) := by omega
                  refine T_ret rfl (fun _ => rfl) ?_
                  exact ⟨(mO m36 [] []), Tm36, (fr_m (fr_s Fm36 (fr_m (fr_s Fm17 (fr_m fr_0 rfl rfl) rfl rfl) rfl rfl) rfl rfl) rfl rfl), (show (m36.1 10) = 0 → (m.1 10) = 0 by omega), (show LxP (m36.1 7) (m36.1 8) (m36.1 9) (m.1 6) (m36.1 10) by first | (first | exact hLx | exact (fun _ => hLx (by omega)) | (intro h9; exfalso; omega)) | (exfalso; omega)), (fun (h : (m36.1 10) = 0) => absurd h (by omega)), rfl⟩
              · skip
                refine T_ld 218 (.int (i32 9)) rfl (fun _ => rfl) ?_
                refine T_ld 219 (.int (i32 ((m.1 73) - 1))) rfl (fun _ => rfl) ?_
                refine T_imul 220 rfl rfl ?_
                refine T_ld 221 (.int (i32 v11)) rfl (fun _ => rfl) ?_
                refine T_iadd 222 rfl rfl ?_
                refine T_sto 223 [(3, .int (i32 ((9 * ((m.1 73) - 1)) + v11))), (0, .ref 189), (1, .int (i32 ((m.1 73) - 1))), (2, .int (i32 v11))] rfl (fun _ => rfl) ?_
                have hXE0 := XS_ws (i := ((9 * ((m.1 73) - 1)) + v11)) (x := (m.1 7)) (U' := 0) hXS (by omega) (by omega) (by omega) (by have := cn1_0 (m17.2 80) ((9 * ((m.1 73) - 1)) + v11); split <;> omega)
                refine T_gf 227 (.ref 242) rfl rfl rfl rfl rfl rfl ?_
                refine T_ld 228 (.int (i32 ((9 * ((m.1 73) - 1)) + v11))) rfl (fun _ => rfl) ?_
                refine T_gf 232 (.int (i32 (m.1 7))) rfl rfl rfl rfl (mfv_c (F := fun x => .int (i32 x)) rfl (show (m17.1 7) = (m.1 7) from (fr1 Fm17 7 rfl))) rfl ?_
                have G60 : ∀ j, (-1) ≤ (upI (m17.2 80) ((9 * ((m.1 73) - 1)) + v11) (m.1 7)) j ∧ (upI (m17.2 80) ((9 * ((m.1 73) - 1)) + v11) (m.1 7)) j ≤ 330 := upI_rg (Tm17.2.1 80) ⟨by omega, by omega⟩
                refine T_iast (a' := [(80, upI (m17.2 80) ((9 * ((m.1 73) - 1)) + v11) (m.1 7))]) 233 80 (m17.2 80) rfl rfl rfl (by omega) (show ((9 * ((m.1 73) - 1)) + v11) < (540 : Int) by omega) rfl rfl ?_
                refine T_gf 237 (.ref 243) rfl rfl rfl rfl rfl rfl ?_
                refine T_ld 238 (.int (i32 ((9 * ((m.1 73) - 1)) + v11))) rfl (fun _ => rfl) ?_
                refine T_gf 242 (.int (i32 (m17.1 69))) rfl rfl rfl rfl rfl rfl ?_
                have G61 : ∀ j, 0 ≤ (upI (m.2 81) ((9 * ((m.1 73) - 1)) + v11) (m17.1 69)) j ∧ (upI (m.2 81) ((9 * ((m.1 73) - 1)) + v11) (m17.1 69)) j ≤ 64 := upI_rg (hT.2.1 81) ⟨by omega, by omega⟩
                refine T_iast (a' := [(80, upI (m17.2 80) ((9 * ((m.1 73) - 1)) + v11) (m.1 7)), (81, upI (m.2 81) ((9 * ((m.1 73) - 1)) + v11) (m17.1 69))]) 243 81 (m.2 81) rfl rfl rfl (by omega) (show ((9 * ((m.1 73) - 1)) + v11) < (540 : Int) by omega) (show (m17.2 81) = (m.2 81) from (fr2 Fm17 81 rfl)) rfl ?_
                refine T_gf 247 (.ref 244) rfl rfl rfl rfl rfl rfl ?_
                refine T_ld 248 (.int (i32 ((9 * ((m.1 73) - 1)) + v11))) rfl (fun _ => rfl) ?_
                refine T_gf 252 (.int (i32 (m17.1 70))) rfl rfl rfl rfl rfl rfl ?_
                have G62 : ∀ j, 0 ≤ (upI (m.2 82) ((9 * ((m.1 73) - 1)) + v11) (m17.1 70)) j ∧ (upI (m.2 82) ((9 * ((m.1 73) - 1)) + v11) (m17.1 70)) j ≤ 4000 := upI_rg (hT.2.1 82) ⟨by omega, by omega⟩
                refine T_iast (a' := [(80, upI (m17.2 80) ((9 * ((m.1 73) - 1)) + v11) (m.1 7)), (81, upI (m.2 81) ((9 * ((m.1 73) - 1)) + v11) (m17.1 69)), (82, upI (m.2 82) ((9 * ((m.1 73) - 1)) + v11) (m17.1 70))]) 253 82 (m.2 82) rfl rfl rfl (by omega) (show ((9 * ((m.1 73) - 1)) + v11) < (540 : Int) by omega) (show (m17.2 82) = (m.2 82) from (fr2 Fm17 82 rfl)) rfl ?_
                refine T_gf 257 (.ref 245) rfl rfl rfl rfl rfl rfl ?_
                refine T_ld 258 (.int (i32 ((9 * ((m.1 73) - 1)) + v11))) rfl (fun _ => rfl) ?_
                refine T_gf 262 (.int (i32 (m17.1 71))) rfl rfl rfl rfl rfl rfl ?_
                have G63 : ∀ j, 0 ≤ (upI (m.2 83) ((9 * ((m.1 73) - 1)) + v11) (m17.1 71)) j ∧ (upI (m.2 83) ((9 * ((m.1 73) - 1)) + v11) (m17.1 71)) j ≤ 1 := upI_rg (hT.2.1 83) ⟨by omega, by omega⟩
                refine T_bast (a' := [(80, upI (m17.2 80) ((9 * ((m.1 73) - 1)) + v11) (m.1 7)), (81, upI (m.2 81) ((9 * ((m.1 73) - 1)) + v11) (m17.1 69)), (82, upI (m.2 82) ((9 * ((m.1 73) - 1)) + v11) (m17.1 70)), (83, upI (m.2 83) ((9 * ((m.1 73) - 1)) + v11) (m17.1 71))]) 263 83 (m.2 83) rfl rfl rfl (by omega) (show ((9 * ((m.1 73) - 1)) + v11) < (540 : Int) by omega) (by omega) (show (m17.2 83) = (m.2 83) from (fr2 Fm17 83 rfl)) rfl ?_
                refine T_gf 267 (.ref 246) rfl rfl rfl rfl rfl rfl ?_
                refine T_ld 268 (.int (i32 ((9 * ((m.1 73) - 1)) + v11))) rfl (fun _ => rfl) ?_
                refine T_gf 272 (.long (i64 (m17.1 72))) rfl rfl rfl rfl rfl rfl ?_
                have G64 : ∀ j, (-9223372036854775808) ≤ (upI (m.2 84) ((9 * ((m.1 73) - 1)) + v11) (m17.1 72)) j ∧ (upI (m.2 84) ((9 * ((m.1 73) - 1)) + v11) (m17.1 72)) j ≤ 9223372036854775807 := upI_rg (hT.2.1 84) ⟨by omega, by omega⟩
                refine T_last (a' := [(80, upI (m17.2 80) ((9 * ((m.1 73) - 1)) + v11) (m.1 7)), (81, upI (m.2 81) ((9 * ((m.1 73) - 1)) + v11) (m17.1 69)), (82, upI (m.2 82) ((9 * ((m.1 73) - 1)) + v11) (m17.1 70)), (83, upI (m.2 83) ((9 * ((m.1 73) - 1)) + v11) (m17.1 71)), (84, upI (m.2 84) ((9 * ((m.1 73) - 1)) + v11) (m17.1 72))]) 273 84 (m.2 84) rfl rfl rfl (by omega) (show ((9 * ((m.1 73) - 1)) + v11) < (540 : Int) by omega) (show (m17.2 84) = (m.2 84) from (fr2 Fm17 84 rfl)) rfl ?_
                refine T_ld 274 (.ref 189) rfl (fun _ => rfl) ?_
                refine T_call 277 212 [.ref 189] [] rfl (fun _ => rfl) rfl (d_next w (mO m17 [] [(80, upI (m17.2 80) ((9 * ((m.1 73) - 1)) + v11) (m.1 7)), (81, upI (m.2 81) ((9 * ((m.1 73) - 1)) + v11) (m17.1 69)), (82, upI (m.2 82) ((9 * ((m.1 73) - 1)) + v11) (m17.1 70)), (83, upI (m.2 83) ((9 * ((m.1 73) - 1)) + v11) (m17.1 71)), (84, upI (m.2 84) ((9 * ((m.1 73) - 1)) + v11) (m17.1 72))]) c N D (by omega) (Ty_mO Tm17 rfl rfl trivial ⟨G60, G61, G62, G63, G64, trivial⟩) (show (m17.1 10) = 0 → (m17.1 8) + (m17.1 9) ≤ (m17.1 6) by rewrite [(show (m17.1 8) = (m.1 8) from (fr1 Fm17 8 rfl)), (show (m17.1 9) = (m.1 9) from (fr1 Fm17 9 rfl)), (show (m17.1 6) = (m.1 6) from (fr1 Fm17 6 rfl))]; first | omega | (intro h9; have h8 := hLx h9; omega))) (fun rr65 k66 => ?_)
                obtain ⟨m67, Tm67, Fm67, h68, h69, h70, h71, rfl⟩ := k66
                refine ⟨_, _, rfl, ?_⟩
                refine T_nb (st' := []) rfl ?_
                have g72 : 0 ≤ m67.1 7 ∧ m67.1 7 ≤ 330 := Tm67.1 7
                have g73 : 0 ≤ m67.1 8 ∧ m67.1 8 ≤ 4000 := Tm67.1 8
                have g74 : 0 ≤ m67.1 9 ∧ m67.1 9 ≤ 4000 := Tm67.1 9
                have g75 : 0 ≤ m67.1 10 ∧ m67.1 10 ≤ 8 := Tm67.1 10
                by_cases hf76 : (m67.1 10) = 0
                · skip
                  replace h68 : LxP (m67.1 7) (m67.1 8) (m67.1 9) (m17.1 6) (m67.1 10) := h68
                  rewrite [(show (m17.1 6) = (m.1 6) from (fr1 Fm17 6 rfl))] at h68
                  have hLx := h68
                  replace h69 : (m17.1 10) = 0 := h69 hf76
                  replace h70 : (m17.1 8) ≤ (m67.1 8) := h70
                  rewrite [(show (m17.1 8) = (m.1 8) from (fr1 Fm17 8 rfl))] at h70
                  replace h71 : (m17.1 8) + (m17.1 9) ≤ (m67.1 8) := h71 hf76
                  rewrite [(show (m17.1 8) = (m.1 8) from (fr1 Fm17 8 rfl)), (show (m17.1 9) = (m.1 9) from (fr1 Fm17 9 rfl))] at h71
                  have hAgC : agr (m.2 65) (m17.2 65) (m.1 28) := by first | exact agr_r _ _ | exact hAgC | exact agr_t hAgC hAg (by omega)
                  refine T_ld 278 (.ref 189) rfl (fun _ => rfl) ?_
                  refine T_ld 279 (.int (i32 0)) rfl (fun _ => rfl) ?_
                  refine T_pf (l' := [(75, 0)]) 282 0 rfl rfl rfl rfl rfl rfl ?_
                  have hXE : XS (m17.2 65) (m17.2 67) (m.2 76) (m.2 78) (m.2 79) (upI (m17.2 80) ((9 * ((m.1 73) - 1)) + v11) (m.1 7)) B (m17.1 28) (m.1 73) (m.1 74) (um (0 : Int)) := by
                    rw [show um (0 : Int) = 0 from if_pos (by omega)]
                    exact hXE0
                  refine T_goto 290 rfl (fun _ => rfl) ?_
                  refine T_ret rfl (fun _ => rfl) ?_
                  exact ⟨(mO m67 [(75, 0)] []), (Ty_mO Tm67 rfl rfl ⟨⟨(by omega : (0 : Int) ≤ 0), (by omega : (0 : Int) ≤ 3)⟩, trivial⟩ trivial), (fr_m (fr_s Fm67 (fr_m (fr_s Fm17 (fr_m fr_0 rfl rfl) rfl rfl) rfl rfl) rfl rfl) rfl rfl), (show (m67.1 10) = 0 → (m.1 10) = 0 by omega), (show LxP (m67.1 7) (m67.1 8) (m67.1 9) (m.1 6) (m67.1 10) by first | (first | exact hLx | exact (fun _ => hLx (by omega)) | (intro h9; exfalso; omega)) | (exfalso; omega)), (fun _ => ⟨(show GP (m.1 8) (m67.1 8) (0 : Int) (m67.1 73) (m.1 73) by rewrite [(show (m67.1 73) = (m.1 73) from ((fr1 Fm67 73 rfl).trans (fr1 Fm17 73 rfl)))]; first | (first | assumption | (unfold GP; omega)) | (exfalso; omega)), (show GU (0 : Int) (m67.1 69) by rewrite [(show (m67.1 69) = (m17.1 69) from (fr1 Fm67 69 rfl))]; first | (first | assumption | (unfold GU; omega)) | (exfalso; omega)), (show GH (0 : Int) (m67.1 73) by rewrite [(show (m67.1 73) = (m.1 73) from ((fr1 Fm67 73 rfl).trans (fr1 Fm17 73 rfl)))]; first | (first | assumption | (unfold GH; omega)) | (exfalso; omega)), (show (m.1 28) ≤ (m67.1 28) by rewrite [(show (m67.1 28) = (m17.1 28) from (fr1 Fm67 28 rfl))]; omega), (show XS (m67.2 65) (m67.2 67) (m67.2 76) (m67.2 78) (m67.2 79) (m67.2 80) B (m67.1 28) (m67.1 73) (m67.1 74) (um (0 : Int)) by rewrite [(show (m67.2 65) = (m17.2 65) from (fr2 Fm67 65 rfl)), (show (m67.2 67) = (m17.2 67) from (fr2 Fm67 67 rfl)), (show (m67.2 76) = (m.2 76) from ((fr2 Fm67 76 rfl).trans (fr2 Fm17 76 rfl))), (show (m67.2 78) = (m.2 78) from ((fr2 Fm67 78 rfl).trans (fr2 Fm17 78 rfl))), (show (m67.2 79) = (m.2 79) from ((fr2 Fm67 79 rfl).trans (fr2 Fm17 79 rfl))), (show (m67.2 80) = (upI (m17.2 80) ((9 * ((m.1 73) - 1)) + v11) (m.1 7)) from (fr2 Fm67 80 rfl)), (show (m67.1 28) = (m17.1 28) from (fr1 Fm67 28 rfl)), (show (m67.1 73) = (m.1 73) from ((fr1 Fm67 73 rfl).trans (fr1 Fm17 73 rfl))), (show (m67.1 74) = (m.1 74) from ((fr1 Fm67 74 rfl).trans (fr1 Fm17 74 rfl)))]; first | (exact hXE) | (exfalso; omega)), (show agr (m.2 65) (m67.2 65) (m.1 28) by rewrite [(show (m67.2 65) = (m17.2 65) from (fr2 Fm67 65 rfl))]; first | (exact hAgC) | (exfalso; omega))⟩), rfl⟩
                · skip
                  replace h68 : LxP (m67.1 7) (m67.1 8) (m67.1 9) (m17.1 6) (m67.1 10) := h68
                  rewrite [(show (m17.1 6) = (m.1 6) from (fr1 Fm17 6 rfl))] at h68
                  have hLx := h68
                  clear h69
                  replace h70 : (m17.1 8) ≤ (m67.1 8) := h70
                  rewrite [(show (m17.1 8) = (m.1 8) from (fr1 Fm17 8 rfl))] at h70
                  clear h71
                  have hf77 : 1 ≤ (m67.1 10) := by omega
                  refine T_ld 278 (.ref 189) rfl (fun _ => rfl) ?_
                  refine T_ld 279 (.int (i32 0)) rfl (fun _ => rfl) ?_
                  refine T_pf (l' := [(75, 0)]) 282 0 rfl rfl rfl rfl rfl rfl ?_
                  refine T_goto 290 rfl (fun _ => rfl) ?_
                  refine T_ret rfl (fun _ => rfl) ?_
                  exact ⟨(mO m67 [(75, 0)] []), (Ty_mO Tm67 rfl rfl ⟨⟨(by omega : (0 : Int) ≤ 0), (by omega : (0 : Int) ≤ 3)⟩, trivial⟩ trivial), (fr_m (fr_s Fm67 (fr_m (fr_s Fm17 (fr_m fr_0 rfl rfl) rfl rfl) rfl rfl) rfl rfl) rfl rfl), (show (m67.1 10) = 0 → (m.1 10) = 0 by omega), (show LxP (m67.1 7) (m67.1 8) (m67.1 9) (m.1 6) (m67.1 10) by first | (first | exact hLx | exact (fun _ => hLx (by omega)) | (intro h9; exfalso; omega)) | (exfalso; omega)), (fun (h : (m67.1 10) = 0) => absurd h (by omega)), rfl⟩
            · skip
              refine T_ld 167 (.int (i32 v16)) rfl (fun _ => rfl) ?_
              refine T_ld 168 (.int (i32 v11)) rfl (fun _ => rfl) ?_
              refine T_icmp 204 171 rfl rfl rfl (r32 (by omega) (by omega)) (r32 (by omega) (by omega)) (fun (h78 : v16 < v11) => ?_) (fun (h78 : ¬ (v16 < v11)) => ?_)
              · skip
                refine T_gf 208 (.int (i32 (m17.1 10))) rfl rfl rfl rfl rfl rfl ?_
                refine T_if 212 211 rfl rfl rfl (r32 (by omega) (by omega)) (fun (h79 : (m17.1 10) ≤ 0) => ?_) (fun (h79 : ¬ ((m17.1 10) ≤ 0)) => by exfalso; omega)
                refine T_ld 213 (.int (i32 v11)) rfl (fun _ => rfl) ?_
                refine T_if 285 216 rfl rfl rfl (r32 (by omega) (by omega)) (fun (h80 : v11 < 0) => by exfalso; omega) (fun (h80 : ¬ (v11 < 0)) => ?_)
                refine T_ld 218 (.int (i32 9)) rfl (fun _ => rfl) ?_
                refine T_ld 219 (.int (i32 ((m.1 73) - 1))) rfl (fun _ => rfl) ?_
                refine T_imul 220 rfl rfl ?_
                refine T_ld 221 (.int (i32 v11)) rfl (fun _ => rfl) ?_
                refine T_iadd 222 rfl rfl ?_
                refine T_sto 223 [(3, .int (i32 ((9 * ((m.1 73) - 1)) + v11))), (0, .ref 189), (1, .int (i32 ((m.1 73) - 1))), (2, .int (i32 v11))] rfl (fun _ => rfl) ?_
                have hXE0 := XS_ws (i := ((9 * ((m.1 73) - 1)) + v11)) (x := (m.1 7)) (U' := 0) hXS (by omega) (by omega) (by omega) (by have := cn1_0 (m17.2 80) ((9 * ((m.1 73) - 1)) + v11); split <;> omega)
                refine T_gf 227 (.ref 242) rfl rfl rfl rfl rfl rfl ?_
                refine T_ld 228 (.int (i32 ((9 * ((m.1 73) - 1)) + v11))) rfl (fun _ => rfl) ?_
                refine T_gf 232 (.int (i32 (m.1 7))) rfl rfl rfl rfl (mfv_c (F := fun x => .int (i32 x)) rfl (show (m17.1 7) = (m.1 7) from (fr1 Fm17 7 rfl))) rfl ?_
                have G81 : ∀ j, (-1) ≤ (upI (m17.2 80) ((9 * ((m.1 73) - 1)) + v11) (m.1 7)) j ∧ (upI (m17.2 80) ((9 * ((m.1 73) - 1)) + v11) (m.1 7)) j ≤ 330 := upI_rg (Tm17.2.1 80) ⟨by omega, by omega⟩
                refine T_iast (a' := [(80, upI (m17.2 80) ((9 * ((m.1 73) - 1)) + v11) (m.1 7))]) 233 80 (m17.2 80) rfl rfl rfl (by omega) (show ((9 * ((m.1 73) - 1)) + v11) < (540 : Int) by omega) rfl rfl ?_
                refine T_gf 237 (.ref 243) rfl rfl rfl rfl rfl rfl ?_
                refine T_ld 238 (.int (i32 ((9 * ((m.1 73) - 1)) + v11))) rfl (fun _ => rfl) ?_
                refine T_gf 242 (.int (i32 (m17.1 69))) rfl rfl rfl rfl rfl rfl ?_
                have G82 : ∀ j, 0 ≤ (upI (m.2 81) ((9 * ((m.1 73) - 1)) + v11) (m17.1 69)) j ∧ (upI (m.2 81) ((9 * ((m.1 73) - 1)) + v11) (m17.1 69)) j ≤ 64 := upI_rg (hT.2.1 81) ⟨by omega, by omega⟩
                refine T_iast (a' := [(80, upI (m17.2 80) ((9 * ((m.1 73) - 1)) + v11) (m.1 7)), (81, upI (m.2 81) ((9 * ((m.1 73) - 1)) + v11) (m17.1 69))]) 243 81 (m.2 81) rfl rfl rfl (by omega) (show ((9 * ((m.1 73) - 1)) + v11) < (540 : Int) by omega) (show (m17.2 81) = (m.2 81) from (fr2 Fm17 81 rfl)) rfl ?_
                refine T_gf 247 (.ref 244) rfl rfl rfl rfl rfl rfl ?_
                refine T_ld 248 (.int (i32 ((9 * ((m.1 73) - 1)) + v11))) rfl (fun _ => rfl) ?_
                refine T_gf 252 (.int (i32 (m17.1 70))) rfl rfl rfl rfl rfl rfl ?_
                have G83 : ∀ j, 0 ≤ (upI (m.2 82) ((9 * ((m.1 73) - 1)) + v11) (m17.1 70)) j ∧ (upI (m.2 82) ((9 * ((m.1 73) - 1)) + v11) (m17.1 70)) j ≤ 4000 := upI_rg (hT.2.1 82) ⟨by omega, by omega⟩
                refine T_iast (a' := [(80, upI (m17.2 80) ((9 * ((m.1 73) - 1)) + v11) (m.1 7)), (81, upI (m.2 81) ((9 * ((m.1 73) - 1)) + v11) (m17.1 69)), (82, upI (m.2 82) ((9 * ((m.1 73) - 1)) + v11) (m17.1 70))]) 253 82 (m.2 82) rfl rfl rfl (by omega) (show ((9 * ((m.1 73) - 1)) + v11) < (540 : Int) by omega) (show (m17.2 82) = (m.2 82) from (fr2 Fm17 82 rfl)) rfl ?_
                refine T_gf 257 (.ref 245) rfl rfl rfl rfl rfl rfl ?_
                refine T_ld 258 (.int (i32 ((9 * ((m.1 73) - 1)) + v11))) rfl (fun _ => rfl) ?_
                refine T_gf 262 (.int (i32 (m17.1 71))) rfl rfl rfl rfl rfl rfl ?_
                have G84 : ∀ j, 0 ≤ (upI (m.2 83) ((9 * ((m.1 73) - 1)) + v11) (m17.1 71)) j ∧ (upI (m.2 83) ((9 * ((m.1 73) - 1)) + v11) (m17.1 71)) j ≤ 1 := upI_rg (hT.2.1 83) ⟨by omega, by omega⟩
                refine T_bast (a' := [(80, upI (m17.2 80) ((9 * ((m.1 73) - 1)) + v11) (m.1 7)), (81, upI (m.2 81) ((9 * ((m.1 73) - 1)) + v11) (m17.1 69)), (82, upI (m.2 82) ((9 * ((m.1 73) - 1)) + v11) (m17.1 70)), (83, upI (m.2 83) ((9 * ((m.1 73) - 1)) + v11) (m17.1 71))]) 263 83 (m.2 83) rfl rfl rfl (by omega) (show ((9 * ((m.1 73) - 1)) + v11) < (540 : Int) by omega) (by omega) (show (m17.2 83) = (m.2 83) from (fr2 Fm17 83 rfl)) rfl ?_
                refine T_gf 267 (.ref 246) rfl rfl rfl rfl rfl rfl ?_
                refine T_ld 268 (.int (i32 ((9 * ((m.1 73) - 1)) + v11))) rfl (fun _ => rfl) ?_
                refine T_gf 272 (.long (i64 (m17.1 72))) rfl rfl rfl rfl rfl rfl ?_
                have G85 : ∀ j, (-9223372036854775808) ≤ (upI (m.2 84) ((9 * ((m.1 73) - 1)) + v11) (m17.1 72)) j ∧ (upI (m.2 84) ((9 * ((m.1 73) - 1)) + v11) (m17.1 72)) j ≤ 9223372036854775807 := upI_rg (hT.2.1 84) ⟨by omega, by omega⟩
                refine T_last (a' := [(80, upI (m17.2 80) ((9 * ((m.1 73) - 1)) + v11) (m.1 7)), (81, upI (m.2 81) ((9 * ((m.1 73) - 1)) + v11) (m17.1 69)), (82, upI (m.2 82) ((9 * ((m.1 73) - 1)) + v11) (m17.1 70)), (83, upI (m.2 83) ((9 * ((m.1 73) - 1)) + v11) (m17.1 71)), (84, upI (m.2 84) ((9 * ((m.1 73) - 1)) + v11) (m17.1 72))]) 273 84 (m.2 84) rfl rfl rfl (by omega) (show ((9 * ((m.1 73) - 1)) + v11) < (540 : Int) by omega) (show (m17.2 84) = (m.2 84) from (fr2 Fm17 84 rfl)) rfl ?_
                refine T_ld 274 (.ref 189) rfl (fun _ => rfl) ?_
                refine T_call 277 212 [.ref 189] [] rfl (fun _ => rfl) rfl (d_next w (mO m17 [] [(80, upI (m17.2 80) ((9 * ((m.1 73) - 1)) + v11) (m.1 7)), (81, upI (m.2 81) ((9 * ((m.1 73) - 1)) + v11) (m17.1 69)), (82, upI (m.2 82) ((9 * ((m.1 73) - 1)) + v11) (m17.1 70)), (83, upI (m.2 83) ((9 * ((m.1 73) - 1)) + v11) (m17.1 71)), (84, upI (m.2 84) ((9 * ((m.1 73) - 1)) + v11) (m17.1 72))]) c N D (by omega) (Ty_mO Tm17 rfl rfl trivial ⟨G81, G82, G83, G84, G85, trivial⟩) (show (m17.1 10) = 0 → (m17.1 8) + (m17.1 9) ≤ (m17.1 6) by rewrite [(show (m17.1 8) = (m.1 8) from (fr1 Fm17 8 rfl)), (show (m17.1 9) = (m.1 9) from (fr1 Fm17 9 rfl)), (show (m17.1 6) = (m.1 6) from (fr1 Fm17 6 rfl))]; first | omega | (intro h9; have h8 := hLx h9; omega))) (fun rr86 k87 => ?_)
                obtain ⟨m88, Tm88, Fm88, h89, h90, h91, h92, rfl⟩ := k87
                refine ⟨_, _, rfl, ?_⟩
                refine T_nb (st' := []) rfl ?_
                have g93 : 0 ≤ m88.1 7 ∧ m88.1 7 ≤ 330 := Tm88.1 7
                have g94 : 0 ≤ m88.1 8 ∧ m88.1 8 ≤ 4000 := Tm88.1 8
                have g95 : 0 ≤ m88.1 9 ∧ m88.1 9 ≤ 4000 := Tm88.1 9
                have g96 : 0 ≤ m88.1 10 ∧ m88.1 10 ≤ 8 := Tm88.1 10
                by_cases hf97 : (m88.1 10) = 0
                · skip
                  replace h89 : LxP (m88.1 7) (m88.1 8) (m88.1 9) (m17.1 6) (m88.1 10) := h89
                  rewrite [(show (m17.1 6) = (m.1 6) from (fr1 Fm17 6 rfl))] at h89
                  have hLx := h89
                  replace h90 : (m17.1 10) = 0 := h90 hf97
                  replace h91 : (m17.1 8) ≤ (m88.1 8) := h91
                  rewrite [(show (m17.1 8) = (m.1 8) from (fr1 Fm17 8 rfl))] at h91
                  replace h92 : (m17.1 8) + (m17.1 9) ≤ (m88.1 8) := h92 hf97
                  rewrite [(show (m17.1 8) = (m.1 8) from (fr1 Fm17 8 rfl)), (show (m17.1 9) = (m.1 9) from (fr1 Fm17 9 rfl))] at h92
                  have hAgC : agr (m.2 65) (m17.2 65) (m.1 28) := by first | exact agr_r _ _ | exact hAgC | exact agr_t hAgC hAg (by omega)
                  refine T_ld 278 (.ref 189) rfl (fun _ => rfl) ?_
                  refine T_ld 279 (.int (i32 0)) rfl (fun _ => rfl) ?_
                  refine T_pf (l' := [(75, 0)]) 282 0 rfl rfl rfl rfl rfl rfl ?_
                  have hXE : XS (m17.2 65) (m17.2 67) (m.2 76) (m.2 78) (m.2 79) (upI (m17.2 80) ((9 * ((m.1 73) - 1)) + v11) (m.1 7)) B (m17.1 28) (m.1 73) (m.1 74) (um (0 : Int)) := by
                    rw [show um (0 : Int) = 0 from if_pos (by omega)]
                    exact hXE0
                  refine T_goto 290 rfl (fun _ => rfl) ?_
                  refine T_ret rfl (fun _ => rfl) ?_
                  exact ⟨(mO m88 [(75, 0)] []), (Ty_mO Tm88 rfl rfl ⟨⟨(by omega : (0 : Int) ≤ 0), (by omega : (0 : Int) ≤ 3)⟩, trivial⟩ trivial), (fr_m (fr_s Fm88 (fr_m (fr_s Fm17 (fr_m fr_0 rfl rfl) rfl rfl) rfl rfl) rfl rfl) rfl rfl), (show (m88.1 10) = 0 → (m.1 10) = 0 by omega), (show LxP (m88.1 7) (m88.1 8) (m88.1 9) (m.1 6) (m88.1 10) by first | (first | exact hLx | exact (fun _ => hLx (by omega)) | (intro h9; exfalso; omega)) | (exfalso; omega)), (fun _ => ⟨(show GP (m.1 8) (m88.1 8) (0 : Int) (m88.1 73) (m.1 73) by rewrite [(show (m88.1 73) = (m.1 73) from ((fr1 Fm88 73 rfl).trans (fr1 Fm17 73 rfl)))]; first | (first | assumption | (unfold GP; omega)) | (exfalso; omega)), (show GU (0 : Int) (m88.1 69) by rewrite [(show (m88.1 69) = (m17.1 69) from (fr1 Fm88 69 rfl))]; first | (first | assumption | (unfold GU; omega)) | (exfalso; omega)), (show GH (0 : Int) (m88.1 73) by rewrite [(show (m88.1 73) = (m.1 73) from ((fr1 Fm88 73 rfl).trans (fr1 Fm17 73 rfl)))]; first | (first | assumption | (unfold GH; omega)) | (exfalso; omega)), (show (m.1 28) ≤ (m88.1 28) by rewrite [(show (m88.1 28) = (m17.1 28) from (fr1 Fm88 28 rfl))]; omega), (show XS (m88.2 65) (m88.2 67) (m88.2 76) (m88.2 78) (m88.2 79) (m88.2 80) B (m88.1 28) (m88.1 73) (m88.1 74) (um (0 : Int)) by rewrite [(show (m88.2 65) = (m17.2 65) from (fr2 Fm88 65 rfl)), (show (m88.2 67) = (m17.2 67) from (fr2 Fm88 67 rfl)), (show (m88.2 76) = (m.2 76) from ((fr2 Fm88 76 rfl).trans (fr2 Fm17 76 rfl))), (show (m88.2 78) = (m.2 78) from ((fr2 Fm88 78 rfl).trans (fr2 Fm17 78 rfl))), (show (m88.2 79) = (m.2 79) from ((fr2 Fm88 79 rfl).trans (fr2 Fm17 79 rfl))), (show (m88.2 80) = (upI (m17.2 80) ((9 * ((m.1 73) - 1)) + v11) (m.1 7)) from (fr2 Fm88 80 rfl)), (show (m88.1 28) = (m17.1 28) from (fr1 Fm88 28 rfl)), (show (m88.1 73) = (m.1 73) from ((fr1 Fm88 73 rfl).trans (fr1 Fm17 73 rfl))), (show (m88.1 74) = (m.1 74) from ((fr1 Fm88 74 rfl).trans (fr1 Fm17 74 rfl)))]; first | (exact hXE) | (exfalso; omega)), (show agr (m.2 65) (m88.2 65) (m.1 28) by rewrite [(show (m88.2 65) = (m17.2 65) from (fr2 Fm88 65 rfl))]; first | (exact hAgC) | (exfalso; omega))⟩), rfl⟩
                · skip
                  replace h89 : LxP (m88.1 7) (m88.1 8) (m88.1 9) (m17.1 6) (m88.1 10) := h89
                  rewrite [(show (m17.1 6) = (m.1 6) from (fr1 Fm17 6 rfl))] at h89
                  have hLx := h89
                  clear h90
                  replace h91 : (m17.1 8) ≤ (m88.1 8) := h91
                  rewrite [(show (m17.1 8) = (m.1 8) from (fr1 Fm17 8 rfl))] at h91
                  clear h92
                  have hf98 : 1 ≤ (m88.1 10) := by omega
                  refine T_ld 278 (.ref 189) rfl (fun _ => rfl) ?_
                  refine T_ld 279 (.int (i32 0)) rfl (fun _ => rfl) ?_
                  refine T_pf (l' := [(75, 0)]) 282 0 rfl rfl rfl rfl rfl rfl ?_
                  refine T_goto 290 rfl (fun _ => rfl) ?_
                  refine T_ret rfl (fun _ => rfl) ?_
                  exact ⟨(mO m88 [(75, 0)] []), (Ty_mO Tm88 rfl rfl ⟨⟨(by omega : (0 : Int) ≤ 0), (by omega : (0 : Int) ≤ 3)⟩, trivial⟩ trivial), (fr_m (fr_s Fm88 (fr_m (fr_s Fm17 (fr_m fr_0 rfl rfl) rfl rfl) rfl rfl) rfl rfl) rfl rfl), (show (m88.1 10) = 0 → (m.1 10) = 0 by omega), (show LxP (m88.1 7) (m88.1 8) (m88.1 9) (m.1 6) (m88.1 10) by first | (first | exact hLx | exact (fun _ => hLx (by omega)) | (intro h9; exfalso; omega)) | (exfalso; omega)), (fun (h : (m88.1 10) = 0) => absurd h (by omega)), rfl⟩
              · skip
                refine T_gf 175 (.ref 242) rfl rfl rfl rfl rfl rfl ?_
                refine T_ld 177 (.int (i32 9)) rfl (fun _ => rfl) ?_
                refine T_ld 178 (.int (i32 ((m.1 73) - 1))) rfl (fun _ => rfl) ?_
                refine T_imul 179 rfl rfl ?_
                refine T_ld 180 (.int (i32 v16)) rfl (fun _ => rfl) ?_
                refine T_iadd 181 rfl rfl ?_
                refine T_iald 182 80 (m17.2 80) rfl rfl rfl (by omega) (show ((9 * ((m.1 73) - 1)) + v16) < (540 : Int) by omega) rfl ?_
                have e99 : (-1) ≤ (m17.2 80) ((9 * ((m.1 73) - 1)) + v16) ∧ (m17.2 80) ((9 * ((m.1 73) - 1)) + v16) ≤ 330 := (Tm17.2.1 80) ((9 * ((m.1 73) - 1)) + v16)
                refine T_if 188 185 rfl rfl rfl (r32 (by omega) (by omega)) (fun (h100 : (0 : Int) ≤ (m17.2 80) ((9 * ((m.1 73) - 1)) + v16)) => ?_) (fun (h100 : ¬ ((0 : Int) ≤ (m17.2 80) ((9 * ((m.1 73) - 1)) + v16))) => ?_)
                · skip
                  refine T_ld 189 (.ref 189) rfl (fun _ => rfl) ?_
                  refine T_ld 191 (.int (i32 9)) rfl (fun _ => rfl) ?_
                  refine T_ld 192 (.int (i32 ((m.1 73) - 1))) rfl (fun _ => rfl) ?_
                  refine T_imul 193 rfl rfl ?_
                  refine T_ld 194 (.int (i32 v16)) rfl (fun _ => rfl) ?_
                  refine T_iadd 195 rfl rfl ?_
                  refine T_call 198 260 [.ref 189, .int (i32 ((9 * ((m.1 73) - 1)) + v16))] [] rfl (fun _ => rfl) rfl (c_join w (mO m17 [] []) c N D (by omega) Tm17 ((9 * ((m.1 73) - 1)) + v16) B (r32 (by omega) (by omega)) (show 0 ≤ ((9 * ((m.1 73) - 1)) + v16) ∧ ((9 * ((m.1 73) - 1)) + v16) ≤ 539 by omega) (show (m17.1 69) ≤ 900 by omega) (fun _ => ⟨(show XS (m17.2 65) (m17.2 67) (m17.2 76) (m17.2 78) (m17.2 79) (m17.2 80) B (m17.1 28) (m17.1 73) (m17.1 74) 1 by rewrite [(show (m17.2 76) = (m.2 76) from (fr2 Fm17 76 rfl)), (show (m17.2 78) = (m.2 78) from (fr2 Fm17 78 rfl)), (show (m17.2 79) = (m.2 79) from (fr2 Fm17 79 rfl)), (show (m17.1 73) = (m.1 73) from (fr1 Fm17 73 rfl)), (show (m17.1 74) = (m.1 74) from (fr1 Fm17 74 rfl))]; first | exact hXS | assumption), (show (m17.1 69) ≤ 64 by omega), (show 1 ≤ (m17.1 73) by rewrite [(show (m17.1 73) = (m.1 73) from (fr1 Fm17 73 rfl))]; omega), (show 9 * ((m17.1 73) - 1) ≤ ((9 * ((m.1 73) - 1)) + v16) ∧ ((9 * ((m.1 73) - 1)) + v16) < 9 * (m17.1 73) by rewrite [(show (m17.1 73) = (m.1 73) from (fr1 Fm17 73 rfl))]; omega), (show 0 ≤ (m17.2 80) ((9 * ((m.1 73) - 1)) + v16) by omega)⟩)) (fun rr101 k102 => ?_)
                  obtain ⟨m103, Tm103, Fm103, h104, h105, c106, rfl⟩ := k102
                  refine ⟨_, _, rfl, ?_⟩
                  refine T_nb (st' := []) rfl ?_
                  have g107 : 0 ≤ m103.1 10 ∧ m103.1 10 ≤ 8 := Tm103.1 10
                  have g108 : 0 ≤ m103.1 28 ∧ m103.1 28 ≤ 800 := Tm103.1 28
                  have g109 : 0 ≤ m103.1 69 ∧ m103.1 69 ≤ 1024 := Tm103.1 69
                  have g110 : 0 ≤ m103.1 70 ∧ m103.1 70 ≤ 4000 := Tm103.1 70
                  have g111 : 0 ≤ m103.1 71 ∧ m103.1 71 ≤ 1 := Tm103.1 71
                  have g112 : (-9223372036854775808) ≤ m103.1 72 ∧ m103.1 72 ≤ 9223372036854775807 := Tm103.1 72
                  by_cases hf113 : (m103.1 10) = 0
                  · skip
                    replace h104 : (m17.1 10) = 0 := h104 hf113
                    replace h105 : (m103.1 69) ≤ (m17.1 69) + 64 := h105
                    obtain ⟨c114, c115, c116, c117, c118⟩ := c106 hf113
                    replace c114 : (m103.1 69) ≤ 64 := c114
                    replace c115 : (m103.1 28) = (m17.1 28) + 1 := c115
                    replace c116 : XS (m103.2 65) (m103.2 67) (m17.2 76) (m17.2 78) (m17.2 79) (m103.2 80) B (m103.1 28) (m17.1 73) (m17.1 74) 1 := c116
                    rewrite [(show (m17.2 76) = (m.2 76) from (fr2 Fm17 76 rfl)), (show (m17.2 78) = (m.2 78) from (fr2 Fm17 78 rfl)), (show (m17.2 79) = (m.2 79) from (fr2 Fm17 79 rfl)), (show (m17.1 73) = (m.1 73) from (fr1 Fm17 73 rfl)), (show (m17.1 74) = (m.1 74) from (fr1 Fm17 74 rfl))] at c116
                    have hXS := c116
                    replace c117 : agr (m17.2 65) (m103.2 65) (m17.1 28) := c117
                    have hAg := c117
                    replace c118 : (m103.2 80) = upI (m17.2 80) ((9 * ((m.1 73) - 1)) + v16) (-1) := c118
                    have hWS := c118
                    clear c106
                    have hAgC : agr (m.2 65) (m103.2 65) (m.1 28) := by first | exact agr_r _ _ | exact hAgC | exact agr_t hAgC hAg (by omega)
                    refine T_iinc 201 [(3, .int (i32 (v16 + (-1)))), (0, .ref 189), (1, .int (i32 ((m.1 73) - 1))), (2, .int (i32 v11))] rfl rfl (by decide) rfl rfl ?_
                    refine T_goto 162 rfl (fun _ => rfl) ?_
                    refine Tm_lv (a := [(0, .ref 189), (1, .int (i32 ((m.1 73) - 1))), (2, .int (i32 v11)), (3, .int (i32 (v16 + (-1))))]) rfl rfl ⟨rfl, rfl, rfl, rfl, trivial⟩ ?_
                    exact ih25 (v16 + (-1)) (mO m103 [] []) (r32 (by omega) (by omega)) Tm103 (fr_m (fr_s Fm103 (fr_m (fr_s Fm17 (fr_m fr_0 rfl rfl) rfl rfl) rfl rfl) rfl rfl) rfl rfl) (show (v16 + (-1)) ≤ 8 by omega) (show (-1) ≤ (v16 + (-1)) by omega) (show (m103.1 69) ≤ 64 * (9 - (v16 + (-1))) by omega) (fun _ => ⟨(show XS (m103.2 65) (m103.2 67) (m.2 76) (m.2 78) (m.2 79) (m103.2 80) B (m103.1 28) (m.1 73) (m.1 74) 1 by exact hXS), (show (m103.1 69) ≤ 64 by omega), (show (m.1 28) ≤ (m103.1 28) by omega), (show agr (m.2 65) (m103.2 65) (m.1 28) by exact hAgC)⟩) (show (v16 + (-1)) + 1 < (n : Int) by omega)
                  · skip
                    clear c106
                    clear h104
                    replace h105 : (m103.1 69) ≤ (m17.1 69) + 64 := h105
                    have hf119 : 1 ≤ (m103.1 10) := by omega
                    refine T_iinc 201 [(3, .int (i32 (v16 + (-1)))), (0, .ref 189), (1, .int (i32 ((m.1 73) - 1))), (2, .int (i32 v11))] rfl rfl (by decide) rfl rfl ?_
                    refine T_goto 162 rfl (fun _ => rfl) ?_
                    refine Tm_lv (a := [(0, .ref 189), (1, .int (i32 ((m.1 73) - 1))), (2, .int (i32 v11)), (3, .int (i32 (v16 + (-1))))]) rfl rfl ⟨rfl, rfl, rfl, rfl, trivial⟩ ?_
                    exact ih25 (v16 + (-1)) (mO m103 [] []) (r32 (by omega) (by omega)) Tm103 (fr_m (fr_s Fm103 (fr_m (fr_s Fm17 (fr_m fr_0 rfl rfl) rfl rfl) rfl rfl) rfl rfl) rfl rfl) (show (v16 + (-1)) ≤ 8 by omega) (show (-1) ≤ (v16 + (-1)) by omega) (show (m103.1 69) ≤ 64 * (9 - (v16 + (-1))) by omega) (fun (h : (m103.1 10) = 0) => absurd h (by omega)) (show (v16 + (-1)) + 1 < (n : Int) by omega)
                · skip
                  refine T_goto 198 rfl (fun _ => rfl) ?_
                  refine T_iinc 201 [(3, .int (i32 (v16 + (-1)))), (0, .ref 189), (1, .int (i32 ((m.1 73) - 1))), (2, .int (i32 v11))] rfl rfl (by decide) rfl rfl ?_
                  refine T_goto 162 rfl (fun _ => rfl) ?_
                  refine Tm_lv (a := [(0, .ref 189), (1, .int (i32 ((m.1 73) - 1))), (2, .int (i32 v11)), (3, .int (i32 (v16 + (-1))))]) rfl rfl ⟨rfl, rfl, rfl, rfl, trivial⟩ ?_
                  exact ih25 (v16 + (-1)) (mO m17 [] []) (r32 (by omega) (by omega)) Tm17 (fr_m (fr_s Fm17 (fr_m fr_0 rfl rfl) rfl rfl) rfl rfl) (show (v16 + (-1)) ≤ 8 by omega) (show (-1) ≤ (v16 + (-1)) by omega) (show (m17.1 69) ≤ 64 * (9 - (v16 + (-1))) by omega) (fun _ => ⟨(show XS (m17.2 65) (m17.2 67) (m.2 76) (m.2 78) (m.2 79) (m17.2 80) B (m17.1 28) (m.1 73) (m.1 74) 1 by exact hXS), (show (m17.1 69) ≤ 64 by omega), (show (m.1 28) ≤ (m17.1 28) by omega), (show agr (m.2 65) (m17.2 65) (m.1 28) by exact hAgC)⟩) (show (v16 + (-1)) + 1 < (n : Int) by omega)
          · skip
            clear c24
            have hf120 : 1 ≤ (m17.1 10) := by omega
            refine T_ld 163 (.int (i32 v16)) rfl (fun _ => rfl) ?_
            refine T_if 204 166 rfl rfl rfl (r32 (by omega) (by omega)) (fun (h121 : v16 < 0) => ?_) (fun (h121 : ¬ (v16 < 0)) => ?_)
            · skip
              refine T_gf 208 (.int (i32 (m17.1 10))) rfl rfl rfl rfl rfl rfl ?_
              refine T_if 212 211 rfl rfl rfl (r32 (by omega) (by omega)) (fun (h122 : (m17.1 10) ≤ 0) => by exfalso; omega) (fun (h122 : ¬ ((m17.1 10) ≤ 0)) => ?_)
              refine T_ret rfl (fun _ => rfl) ?_
              exact ⟨(mO m17 [] []), Tm17, (fr_m (fr_s Fm17 (fr_m fr_0 rfl rfl) rfl rfl) rfl rfl), (show (m17.1 10) = 0 → (m.1 10) = 0 by omega), (show LxP (m17.1 7) (m17.1 8) (m17.1 9) (m.1 6) (m17.1 10) by rewrite [(show (m17.1 7) = (m.1 7) from (fr1 Fm17 7 rfl)), (show (m17.1 8) = (m.1 8) from (fr1 Fm17 8 rfl)), (show (m17.1 9) = (m.1 9) from (fr1 Fm17 9 rfl))]; first | (first | exact hLx | exact (fun _ => hLx (by omega)) | (intro h9; exfalso; omega)) | (exfalso; omega)), (fun (h : (m17.1 10) = 0) => absurd h (by omega)), rfl⟩
            · skip
              refine T_ld 167 (.int (i32 v16)) rfl (fun _ => rfl) ?_
              refine T_ld 168 (.int (i32 v11)) rfl (fun _ => rfl) ?_
              refine T_icmp 204 171 rfl rfl rfl (r32 (by omega) (by omega)) (r32 (by omega) (by omega)) (fun (h123 : v16 < v11) => ?_) (fun (h123 : ¬ (v16 < v11)) => ?_)
              · skip
                refine T_gf 208 (.int (i32 (m17.1 10))) rfl rfl rfl rfl rfl rfl ?_
                refine T_if 212 211 rfl rfl rfl (r32 (by omega) (by omega)) (fun (h124 : (m17.1 10) ≤ 0) => by exfalso; omega) (fun (h124 : ¬ ((m17.1 10) ≤ 0)) => ?_)
                refine T_ret rfl (fun _ => rfl) ?_
                exact ⟨(mO m17 [] []), Tm17, (fr_m (fr_s Fm17 (fr_m fr_0 rfl rfl) rfl rfl) rfl rfl), (show (m17.1 10) = 0 → (m.1 10) = 0 by omega), (show LxP (m17.1 7) (m17.1 8) (m17.1 9) (m.1 6) (m17.1 10) by rewrite [(show (m17.1 7) = (m.1 7) from (fr1 Fm17 7 rfl)), (show (m17.1 8) = (m.1 8) from (fr1 Fm17 8 rfl)), (show (m17.1 9) = (m.1 9) from (fr1 Fm17 9 rfl))]; first | (first | exact hLx | exact (fun _ => hLx (by omega)) | (intro h9; exfalso; omega)) | (exfalso; omega)), (fun (h : (m17.1 10) = 0) => absurd h (by omega)), rfl⟩
              · skip
                refine T_gf 175 (.ref 242) rfl rfl rfl rfl rfl rfl ?_
                refine T_ld 177 (.int (i32 9)) rfl (fun _ => rfl) ?_
                refine T_ld 178 (.int (i32 ((m.1 73) - 1))) rfl (fun _ => rfl) ?_
                refine T_imul 179 rfl rfl ?_
                refine T_ld 180 (.int (i32 v16)) rfl (fun _ => rfl) ?_
                refine T_iadd 181 rfl rfl ?_
                refine T_iald 182 80 (m17.2 80) rfl rfl rfl (by omega) (show ((9 * ((m.1 73) - 1)) + v16) < (540 : Int) by omega) rfl ?_
                have e125 : (-1) ≤ (m17.2 80) ((9 * ((m.1 73) - 1)) + v16) ∧ (m17.2 80) ((9 * ((m.1 73) - 1)) + v16) ≤ 330 := (Tm17.2.1 80) ((9 * ((m.1 73) - 1)) + v16)
                refine T_if 188 185 rfl rfl rfl (r32 (by omega) (by omega)) (fun (h126 : (0 : Int) ≤ (m17.2 80) ((9 * ((m.1 73) - 1)) + v16)) => ?_) (fun (h126 : ¬ ((0 : Int) ≤ (m17.2 80) ((9 * ((m.1 73) - 1)) + v16))) => ?_)
                · skip
                  refine T_ld 189 (.ref 189) rfl (fun _ => rfl) ?_
                  refine T_ld 191 (.int (i32 9)) rfl (fun _ => rfl) ?_
                  refine T_ld 192 (.int (i32 ((m.1 73) - 1))) rfl (fun _ => rfl) ?_
                  refine T_imul 193 rfl rfl ?_
                  refine T_ld 194 (.int (i32 v16)) rfl (fun _ => rfl) ?_
                  refine T_iadd 195 rfl rfl ?_
                  refine T_call 198 260 [.ref 189, .int (i32 ((9 * ((m.1 73) - 1)) + v16))] [] rfl (fun _ => rfl) rfl (c_join w (mO m17 [] []) c N D (by omega) Tm17 ((9 * ((m.1 73) - 1)) + v16) B (r32 (by omega) (by omega)) (show 0 ≤ ((9 * ((m.1 73) - 1)) + v16) ∧ ((9 * ((m.1 73) - 1)) + v16) ≤ 539 by omega) (show (m17.1 69) ≤ 900 by omega) (fun (h : (m17.1 10) = 0) => absurd h (by omega))) (fun rr127 k128 => ?_)
                  obtain ⟨m129, Tm129, Fm129, h130, h131, c132, rfl⟩ := k128
                  refine ⟨_, _, rfl, ?_⟩
                  refine T_nb (st' := []) rfl ?_
                  have g133 : 0 ≤ m129.1 10 ∧ m129.1 10 ≤ 8 := Tm129.1 10
                  have g134 : 0 ≤ m129.1 28 ∧ m129.1 28 ≤ 800 := Tm129.1 28
                  have g135 : 0 ≤ m129.1 69 ∧ m129.1 69 ≤ 1024 := Tm129.1 69
                  have g136 : 0 ≤ m129.1 70 ∧ m129.1 70 ≤ 4000 := Tm129.1 70
                  have g137 : 0 ≤ m129.1 71 ∧ m129.1 71 ≤ 1 := Tm129.1 71
                  have g138 : (-9223372036854775808) ≤ m129.1 72 ∧ m129.1 72 ≤ 9223372036854775807 := Tm129.1 72
                  replace h130 : (m129.1 10) = 0 → (m17.1 10) = 0 := h130
                  replace h131 : (m129.1 69) ≤ (m17.1 69) + 64 := h131
                  have hf139 : 1 ≤ (m129.1 10) := by omega
                  clear c132
                  clear h130
                  refine T_iinc 201 [(3, .int (i32 (v16 + (-1)))), (0, .ref 189), (1, .int (i32 ((m.1 73) - 1))), (2, .int (i32 v11))] rfl rfl (by decide) rfl rfl ?_
                  refine T_goto 162 rfl (fun _ => rfl) ?_
                  refine Tm_lv (a := [(0, .ref 189), (1, .int (i32 ((m.1 73) - 1))), (2, .int (i32 v11)), (3, .int (i32 (v16 + (-1))))]) rfl rfl ⟨rfl, rfl, rfl, rfl, trivial⟩ ?_
                  exact ih25 (v16 + (-1)) (mO m129 [] []) (r32 (by omega) (by omega)) Tm129 (fr_m (fr_s Fm129 (fr_m (fr_s Fm17 (fr_m fr_0 rfl rfl) rfl rfl) rfl rfl) rfl rfl) rfl rfl) (show (v16 + (-1)) ≤ 8 by omega) (show (-1) ≤ (v16 + (-1)) by omega) (show (m129.1 69) ≤ 64 * (9 - (v16 + (-1))) by omega) (fun (h : (m129.1 10) = 0) => absurd h (by omega)) (show (v16 + (-1)) + 1 < (n : Int) by omega)
                · skip
                  refine T_goto 198 rfl (fun _ => rfl) ?_
                  refine T_iinc 201 [(3, .int (i32 (v16 + (-1)))), (0, .ref 189), (1, .int (i32 ((m.1 73) - 1))), (2, .int (i32 v11))] rfl rfl (by decide) rfl rfl ?_
                  refine T_goto 162 rfl (fun _ => rfl) ?_
                  refine Tm_lv (a := [(0, .ref 189), (1, .int (i32 ((m.1 73) - 1))), (2, .int (i32 v11)), (3, .int (i32 (v16 + (-1))))]) rfl rfl ⟨rfl, rfl, rfl, rfl, trivial⟩ ?_
                  exact ih25 (v16 + (-1)) (mO m17 [] []) (r32 (by omega) (by omega)) Tm17 (fr_m (fr_s Fm17 (fr_m fr_0 rfl rfl) rfl rfl) rfl rfl) (show (v16 + (-1)) ≤ 8 by omega) (show (-1) ≤ (v16 + (-1)) by omega) (show (m17.1 69) ≤ 64 * (9 - (v16 + (-1))) by omega) (fun (h : (m17.1 10) = 0) => absurd h (by omega)) (show (v16 + (-1)) + 1 < (n : Int) by omega)
      refine Tm_lv (a := [(0, .ref 189), (1, .int (i32 ((m.1 73) - 1))), (2, .int (i32 v11)), (3, .int (i32 8))]) rfl rfl ⟨rfl, rfl, rfl, rfl, trivial⟩ ?_
      exact L162_18 (((8 : Int) + 1 : Int) + 1).toNat 8 (mO m [] []) ⟨by decide, by decide⟩ hT (fr_m fr_0 rfl rfl) (show (8 : Int) ≤ 8 by omega) (show (-1) ≤ (8 : Int) by omega) (show (m.1 69) ≤ 64 * (9 - (8 : Int)) by omega) (fun _ => ⟨(show XS (m.2 65) (m.2 67) (m.2 76) (m.2 78) (m.2 79) (m.2 80) B (m.1 28) (m.1 73) (m.1 74) 1 by exact hXS), (show (m.1 69) ≤ 64 by omega), (show (m.1 28) ≤ (m.1 28) by omega), (show agr (m.2 65) (m.2 65) (m.1 28) by exact hAgC)⟩) (show (8 : Int) + 1 < (((((8 : Int) + 1 : Int) + 1).toNat : Nat) : Int) by omega)
    refine T_ld 139 (.int (i32 x8)) rfl (fun _ => rfl) ?_
    refine T_ld 140 (.int (i32 2)) rfl (fun _ => rfl) ?_
    refine T_icmp 159 143 rfl rfl rfl (r32 (by omega) (by omega)) ⟨by decide, by decide⟩ (fun (h140 : x8 ≠ 2) => ?_) (fun (h140 : ¬ (x8 ≠ 2)) => ?_)
    · skip
      refine Tm_lv (a := [(0, .ref 189), (1, .int (i32 ((m.1 73) - 1))), (2, .int (i32 x8))]) rfl rfl ⟨rfl, rfl, rfl, trivial⟩ ?_
      exact J159_12 x8 (r32 (by omega) (by omega)) (show x8 = -1 ∨ (0 ≤ x8 ∧ x8 ≤ 8 ∧ 4 ≤ (m.1 7)) by omega)
    · skip
      refine T_gf 147 (.ref 242) rfl rfl rfl rfl rfl rfl ?_
      refine T_ld 149 (.int (i32 9)) rfl (fun _ => rfl) ?_
      refine T_ld 150 (.int (i32 ((m.1 73) - 1))) rfl (fun _ => rfl) ?_
      refine T_imul 151 rfl rfl ?_
      refine T_ld 152 (.int (i32 2)) rfl (fun _ => rfl) ?_
      refine T_iadd 153 rfl rfl ?_
      refine T_iald 154 80 (m.2 80) rfl rfl rfl (by omega) (show ((9 * ((m.1 73) - 1)) + 2) < (540 : Int) by omega) rfl ?_
      have e141 : (-1) ≤ (m.2 80) ((9 * ((m.1 73) - 1)) + 2) ∧ (m.2 80) ((9 * ((m.1 73) - 1)) + 2) ≤ 330 := (hT.2.1 80) ((9 * ((m.1 73) - 1)) + 2)
      refine T_if 159 157 rfl rfl rfl (r32 (by omega) (by omega)) (fun (h142 : (m.2 80) ((9 * ((m.1 73) - 1)) + 2) < 0) => ?_) (fun (h142 : ¬ ((m.2 80) ((9 * ((m.1 73) - 1)) + 2) < 0)) => ?_)
      · skip
        refine Tm_lv (a := [(0, .ref 189), (1, .int (i32 ((m.1 73) - 1))), (2, .int (i32 x8))]) rfl rfl ⟨rfl, rfl, rfl, trivial⟩ ?_
        exact J159_12 x8 (r32 (by omega) (by omega)) (show x8 = -1 ∨ (0 ≤ x8 ∧ x8 ≤ 8 ∧ 4 ≤ (m.1 7)) by omega)
      · skip
        refine T_ld 158 (.int (i32 (-1))) rfl (fun _ => rfl) ?_
        refine T_sto 159 [(2, .int (i32 (-1))), (1, .int (i32 ((m.1 73) - 1))), (0, .ref 189)] rfl (fun _ => rfl) ?_
        refine Tm_lv (a := [(0, .ref 189), (1, .int (i32 ((m.1 73) - 1))), (2, .int (i32 (-1)))]) rfl rfl ⟨rfl, rfl, rfl, trivial⟩ ?_
        exact J159_12 (-1) ⟨by decide, by decide⟩ (show (-1 : Int) = -1 ∨ (0 ≤ (-1 : Int) ∧ (-1 : Int) ≤ 8 ∧ 4 ≤ (m.1 7)) by omega)
  · skip
    obtain ⟨hXP, hh2⟩ := XS_pop1 hXS (by omega) (by omega) (hT.2.1 79 _).1
    have hos := hXS.1.2.2.2.1 ((m.1 73) - 1) (by omega) (by omega) (by omega)
    have hEX := hXP.1.1
    have hl0 : 0 ≤ lh (m.2 79) (m.2 80) ((m.1 73) - 1) := lh_0 (hT.2.1 79) _ _
    refine T_gf 21 (.ref 239) rfl rfl rfl rfl rfl rfl ?_
    refine T_ld 22 (.int (i32 ((m.1 73) - 1))) rfl (fun _ => rfl) ?_
    refine T_iald 23 77 (m.2 77) rfl rfl rfl (by omega) (show ((m.1 73) - 1) < (60 : Int) by omega) rfl ?_
    have e143 : 0 ≤ (m.2 77) ((m.1 73) - 1) ∧ (m.2 77) ((m.1 73) - 1) ≤ 4000 := (hT.2.1 77) ((m.1 73) - 1)
    refine T_sto 24 [(2, .int (i32 ((m.2 77) ((m.1 73) - 1)))), (1, .int (i32 ((m.1 73) - 1))), (0, .ref 189)] rfl (fun _ => rfl) ?_
    refine T_gf 28 (.int (i32 (m.1 69))) rfl rfl rfl rfl rfl rfl ?_
    refine T_sto 29 [(3, .int (i32 (m.1 69))), (2, .int (i32 ((m.2 77) ((m.1 73) - 1)))), (1, .int (i32 ((m.1 73) - 1))), (0, .ref 189)] rfl (fun _ => rfl) ?_
    refine T_gf 33 (.ref 240) rfl rfl rfl rfl rfl rfl ?_
    refine T_ld 34 (.int (i32 ((m.1 73) - 1))) rfl (fun _ => rfl) ?_
    refine T_iald 35 78 (m.2 78) rfl rfl rfl (by omega) (show ((m.1 73) - 1) < (60 : Int) by omega) rfl ?_
    have e144 : 0 ≤ (m.2 78) ((m.1 73) - 1) ∧ (m.2 78) ((m.1 73) - 1) ≤ 330 := (hT.2.1 78) ((m.1 73) - 1)
    refine T_ld 37 (.int (i32 33)) rfl (fun _ => rfl) ?_
    refine T_icmp 60 40 rfl rfl rfl (r32 (by omega) (by omega)) ⟨by decide, by decide⟩ (fun (h145 : (m.2 78) ((m.1 73) - 1) ≠ 33) => ?_) (fun (h145 : ¬ ((m.2 78) ((m.1 73) - 1) ≠ 33)) => ?_)
    · skip
      refine T_gf 64 (.ref 240) rfl rfl rfl rfl rfl rfl ?_
      refine T_ld 65 (.int (i32 ((m.1 73) - 1))) rfl (fun _ => rfl) ?_
      refine T_iald 66 78 (m.2 78) rfl rfl rfl (by omega) (show ((m.1 73) - 1) < (60 : Int) by omega) rfl ?_
      have e146 : 0 ≤ (m.2 78) ((m.1 73) - 1) ∧ (m.2 78) ((m.1 73) - 1) ≤ 330 := (hT.2.1 78) ((m.1 73) - 1)
      refine T_ld 68 (.int (i32 33)) rfl (fun _ => rfl) ?_
      have J73_148 : ∀ (v147 : Int), (R32 v147) → (0 ≤ v147) → (v147 ≤ 64) → TT w D pm_257 (73, [(0, .ref 189), (1, .int (i32 ((m.1 73) - 1))), (2, .int (i32 ((m.2 77) ((m.1 73) - 1)))), (3, .int (i32 v147))], [], (mhp (mO m [] []) c, N), 0, 0) (Q_goOn m c N B) := by
        intro v147 q151 ic149 ic150
        obtain ⟨q151a, q151b⟩ := id q151
        refine T_ld 74 (.ref 189) rfl (fun _ => rfl) ?_
        refine T_ld 75 (.ref 189) rfl (fun _ => rfl) ?_
        refine T_gf1 78 (.int (i32 (m.1 73))) rfl rfl rfl rfl ?_
        refine T_ld 79 (.int (i32 1)) rfl (fun _ => rfl) ?_
        refine T_isub 80 rfl rfl ?_
        refine T_pf (l' := [(73, (m.1 73) - 1)]) 83 ((m.1 73) - 1) rfl rfl rfl rfl rfl rfl ?_
        have g153 : 0 ≤ (m.1 73) - 1 ∧ (m.1 73) - 1 ≤ 60 := ⟨by omega, by omega⟩
        refine T_ld 84 (.ref 189) rfl (fun _ => rfl) ?_
        refine T_ld 85 (.ref 189) rfl (fun _ => rfl) ?_
        refine T_gf1 88 (.int (i32 (m.1 74))) rfl rfl rfl rfl ?_
        refine T_ld 89 (.int (i32 1)) rfl (fun _ => rfl) ?_
        refine T_isub 90 rfl rfl ?_
        refine T_pf (l' := [(73, (m.1 73) - 1), (74, (m.1 74) - 1)]) 93 ((m.1 74) - 1) rfl rfl rfl rfl rfl rfl ?_
        have g154 : 0 ≤ (m.1 74) - 1 ∧ (m.1 74) - 1 ≤ 24 := ⟨by omega, by omega⟩
        refine T_ld 94 (.ref 189) rfl (fun _ => rfl) ?_
        refine T_gf 98 (.ref 240) rfl rfl rfl rfl rfl rfl ?_
        refine T_ld 99 (.int (i32 ((m.1 73) - 1))) rfl (fun _ => rfl) ?_
        refine T_iald 100 78 (m.2 78) rfl rfl rfl (by omega) (show ((m.1 73) - 1) < (60 : Int) by omega) rfl ?_
        have e155 : 0 ≤ (m.2 78) ((m.1 73) - 1) ∧ (m.2 78) ((m.1 73) - 1) ≤ 330 := (hT.2.1 78) ((m.1 73) - 1)
        refine T_ld 102 (.int (i32 45)) rfl (fun _ => rfl) ?_
        refine T_icmp 111 105 rfl rfl rfl (r32 (by omega) (by omega)) ⟨by decide, by decide⟩ (fun (h156 : (m.2 78) ((m.1 73) - 1) ≠ 45) => ?_) (fun (h156 : ¬ ((m.2 78) ((m.1 73) - 1) ≠ 45)) => ?_)
        · skip
          refine T_gf 115 (.ref 240) rfl rfl rfl rfl rfl rfl ?_
          refine T_ld 116 (.int (i32 ((m.1 73) - 1))) rfl (fun _ => rfl) ?_
          refine T_iald 117 78 (m.2 78) rfl rfl rfl (by omega) (show ((m.1 73) - 1) < (60 : Int) by omega) rfl ?_
          have e157 : 0 ≤ (m.2 78) ((m.1 73) - 1) ∧ (m.2 78) ((m.1 73) - 1) ≤ 330 := (hT.2.1 78) ((m.1 73) - 1)
          have hA : ar ((m.2 78) ((m.1 73) - 1)) = 1 := ar_1 (by omega)
          have hAr : ar ((m.2 78) ((m.1 73) - 1)) ≤ 1 + lh (m.2 79) (m.2 80) ((m.1 73) - 1) := by omega
          have hCk : CNk ((m.2 78) ((m.1 73) - 1)) 0 := by refine ⟨?_, ?_, ?_, ?_⟩ <;> omega
          refine T_ld 118 (.int (i32 v147)) rfl (fun _ => rfl) ?_
          refine T_ld 119 (.int (i32 0)) rfl (fun _ => rfl) ?_
          refine T_ld 120 (.long (i64 0)) rfl (fun _ => rfl) ?_
          refine T_call 123 248 [.ref 189, .int (i32 ((m.2 78) ((m.1 73) - 1))), .int (i32 v147), .int (i32 0), .long (i64 0)] [] rfl (fun _ => rfl) rfl (c_node w (mO m [(73, (m.1 73) - 1), (74, (m.1 74) - 1)] []) c N D (by omega) (Ty_mO hT rfl rfl ⟨g153, g154, trivial⟩ trivial) ((m.2 78) ((m.1 73) - 1)) v147 0 0 B (1 + lh (m.2 79) (m.2 80) ((m.1 73) - 1)) (r32 (by omega) (by omega)) (r32 (by omega) (by omega)) ⟨by decide, by decide⟩ ⟨by decide, by decide⟩ (fun _ => ⟨(show 0 ≤ ((m.2 78) ((m.1 73) - 1)) ∧ ((m.2 78) ((m.1 73) - 1)) ≤ 408 by first | omega | decide), (show 0 ≤ v147 ∧ v147 ≤ 64 by first | omega | decide), (show 0 ≤ (0 : Int) ∧ (0 : Int) ≤ 191 by first | omega | decide), (show CNk ((m.2 78) ((m.1 73) - 1)) (0 : Int) by first | exact hCk | (refine ⟨?_, ?_, ?_, ?_⟩ <;> omega)), (show ar ((m.2 78) ((m.1 73) - 1)) ≤ (1 + lh (m.2 79) (m.2 80) ((m.1 73) - 1)) by first | exact hAr | omega), (show EX (m.2 65) (m.2 67) B (m.1 28) (1 + lh (m.2 79) (m.2 80) ((m.1 73) - 1)) by first | exact hEX | assumption)⟩)) (fun rr158 k159 => ?_)
          obtain ⟨m160, Tm160, Fm160, h161, c162, rfl⟩ := k159
          refine ⟨_, _, rfl, ?_⟩
          refine T_nb (st' := []) rfl ?_
          have g163 : 0 ≤ m160.1 10 ∧ m160.1 10 ≤ 8 := Tm160.1 10
          have g164 : 0 ≤ m160.1 28 ∧ m160.1 28 ≤ 800 := Tm160.1 28
          by_cases hf165 : (m160.1 10) = 0
          · skip
            replace h161 : (m.1 10) = 0 := h161 hf165
            obtain ⟨c166, c167, c168⟩ := c162 hf165
            replace c166 : (m160.1 28) = (m.1 28) + 1 := c166
            replace c167 : EX (m160.2 65) (m160.2 67) B (m160.1 28) ((1 + lh (m.2 79) (m.2 80) ((m.1 73) - 1)) + 1 - ar ((m.2 78) ((m.1 73) - 1))) := c167
            have hEX := c167
            replace c168 : agr (m.2 65) (m160.2 65) (m.1 28) := c168
            have hAg := c168
            clear c162
            have hAgC : agr (m.2 65) (m160.2 65) (m.1 28) := by first | exact agr_r _ _ | exact hAgC | exact agr_t hAgC hAg (by omega)
            have hXE : XS (m160.2 65) (m160.2 67) (m.2 76) (m.2 78) (m.2 79) (m.2 80) B (m160.1 28) ((m.1 73) - 1) ((m.1 74) - 1) (um (m.1 75)) := by
              rw [show um (m.1 75) = 1 from if_neg (by omega)]
              exact XS_of hXP hEX (by omega)
            refine T_ld 124 (.ref 189) rfl (fun _ => rfl) ?_
            refine T_ld 125 (.int (i32 v147)) rfl (fun _ => rfl) ?_
            refine T_ld 126 (.int (i32 ((m.2 77) ((m.1 73) - 1)))) rfl (fun _ => rfl) ?_
            refine T_call 129 250 [.ref 189, .int (i32 v147), .int (i32 ((m.2 77) ((m.1 73) - 1)))] [] rfl (fun _ => rfl) rfl (c_unit w (mO m160 [] []) c N D (by omega) Tm160 v147 ((m.2 77) ((m.1 73) - 1)) (r32 (by omega) (by omega)) (r32 (by omega) (by omega)) (show 0 ≤ v147 ∧ v147 ≤ 1024 by omega) (show 0 ≤ ((m.2 77) ((m.1 73) - 1)) ∧ ((m.2 77) ((m.1 73) - 1)) ≤ 4000 by omega)) (fun rr169 k170 => ?_)
            obtain ⟨m171, Tm171, Fm171, h172, rfl⟩ := k170
            refine ⟨_, _, rfl, ?_⟩
            refine T_nb (st' := []) rfl ?_
            have g173 : 0 ≤ m171.1 69 ∧ m171.1 69 ≤ 1024 := Tm171.1 69
            have g174 : 0 ≤ m171.1 70 ∧ m171.1 70 ≤ 4000 := Tm171.1 70
            have g175 : 0 ≤ m171.1 71 ∧ m171.1 71 ≤ 1 := Tm171.1 71
            have g176 : (-9223372036854775808) ≤ m171.1 72 ∧ m171.1 72 ≤ 9223372036854775807 := Tm171.1 72
            replace h172 : (m171.1 69) = v147 := h172
            have hAgC : agr (m.2 65) (m160.2 65) (m.1 28) := by first | exact agr_r _ _ | exact hAgC | exact agr_t hAgC hAg (by omega)
            refine T_ret rfl (fun _ => rfl) ?_
            exact ⟨(mO m171 [] []), Tm171, (fr_m (fr_s Fm171 (fr_m (fr_s Fm160 (fr_m fr_0 rfl rfl) rfl rfl) rfl rfl) rfl rfl) rfl rfl), (show (m171.1 10) = 0 → (m.1 10) = 0 by rewrite [(show (m171.1 10) = (m160.1 10) from (fr1 Fm171 10 rfl))]; omega), (show LxP (m171.1 7) (m171.1 8) (m171.1 9) (m.1 6) (m171.1 10) by rewrite [(show (m171.1 7) = (m.1 7) from ((fr1 Fm171 7 rfl).trans (fr1 Fm160 7 rfl))), (show (m171.1 8) = (m.1 8) from ((fr1 Fm171 8 rfl).trans (fr1 Fm160 8 rfl))), (show (m171.1 9) = (m.1 9) from ((fr1 Fm171 9 rfl).trans (fr1 Fm160 9 rfl))), (show (m171.1 10) = (m160.1 10) from (fr1 Fm171 10 rfl))]; first | (first | exact hLx | exact (fun _ => hLx (by omega)) | (intro h9; exfalso; omega)) | (exfalso; omega)), (fun _ => ⟨(show GP (m.1 8) (m171.1 8) (m171.1 75) (m171.1 73) (m.1 73) by rewrite [(show (m171.1 8) = (m.1 8) from ((fr1 Fm171 8 rfl).trans (fr1 Fm160 8 rfl))), (show (m171.1 75) = (m.1 75) from ((fr1 Fm171 75 rfl).trans (fr1 Fm160 75 rfl))), (show (m171.1 73) = ((m.1 73) - 1) from ((fr1 Fm171 73 rfl).trans (fr1 Fm160 73 rfl)))]; first | (first | assumption | (unfold GP; omega)) | (exfalso; omega)), (show GU (m171.1 75) (m171.1 69) by rewrite [(show (m171.1 75) = (m.1 75) from ((fr1 Fm171 75 rfl).trans (fr1 Fm160 75 rfl)))]; first | (first | assumption | (unfold GU; omega)) | (exfalso; omega)), (show GH (m171.1 75) (m171.1 73) by rewrite [(show (m171.1 75) = (m.1 75) from ((fr1 Fm171 75 rfl).trans (fr1 Fm160 75 rfl))), (show (m171.1 73) = ((m.1 73) - 1) from ((fr1 Fm171 73 rfl).trans (fr1 Fm160 73 rfl)))]; first | (first | assumption | (unfold GH; omega)) | (exfalso; omega)), (show (m.1 28) ≤ (m171.1 28) by rewrite [(show (m171.1 28) = (m160.1 28) from (fr1 Fm171 28 rfl))]; omega), (show XS (m171.2 65) (m171.2 67) (m171.2 76) (m171.2 78) (m171.2 79) (m171.2 80) B (m171.1 28) (m171.1 73) (m171.1 74) (um (m171.1 75)) by rewrite [(show (m171.2 65) = (m160.2 65) from (fr2 Fm171 65 rfl)), (show (m171.2 67) = (m160.2 67) from (fr2 Fm171 67 rfl)), (show (m171.2 76) = (m.2 76) from ((fr2 Fm171 76 rfl).trans (fr2 Fm160 76 rfl))), (show (m171.2 78) = (m.2 78) from ((fr2 Fm171 78 rfl).trans (fr2 Fm160 78 rfl))), (show (m171.2 79) = (m.2 79) from ((fr2 Fm171 79 rfl).trans (fr2 Fm160 79 rfl))), (show (m171.2 80) = (m.2 80) from ((fr2 Fm171 80 rfl).trans (fr2 Fm160 80 rfl))), (show (m171.1 28) = (m160.1 28) from (fr1 Fm171 28 rfl)), (show (m171.1 73) = ((m.1 73) - 1) from ((fr1 Fm171 73 rfl).trans (fr1 Fm160 73 rfl))), (show (m171.1 74) = ((m.1 74) - 1) from ((fr1 Fm171 74 rfl).trans (fr1 Fm160 74 rfl))), (show (m171.1 75) = (m.1 75) from ((fr1 Fm171 75 rfl).trans (fr1 Fm160 75 rfl)))]; first | (exact hXE) | (exfalso; omega)), (show agr (m.2 65) (m171.2 65) (m.1 28) by rewrite [(show (m171.2 65) = (m160.2 65) from (fr2 Fm171 65 rfl))]; first | (exact hAgC) | (exfalso; omega))⟩), rfl⟩
          · skip
            clear c162
            clear h161
            have hf177 : 1 ≤ (m160.1 10) := by omega
            refine T_ld 124 (.ref 189) rfl (fun _ => rfl) ?_
            refine T_ld 125 (.int (i32 v147)) rfl (fun _ => rfl) ?_
            refine T_ld 126 (.int (i32 ((m.2 77) ((m.1 73) - 1)))) rfl (fun _ => rfl) ?_
            refine T_call 129 250 [.ref 189, .int (i32 v147), .int (i32 ((m.2 77) ((m.1 73) - 1)))] [] rfl (fun _ => rfl) rfl (c_unit w (mO m160 [] []) c N D (by omega) Tm160 v147 ((m.2 77) ((m.1 73) - 1)) (r32 (by omega) (by omega)) (r32 (by omega) (by omega)) (show 0 ≤ v147 ∧ v147 ≤ 1024 by omega) (show 0 ≤ ((m.2 77) ((m.1 73) - 1)) ∧ ((m.2 77) ((m.1 73) - 1)) ≤ 4000 by omega)) (fun rr178 k179 => ?_)
            obtain ⟨m180, Tm180, Fm180, h181, rfl⟩ := k179
            refine ⟨_, _, rfl, ?_⟩
            refine T_nb (st' := []) rfl ?_
            have g182 : 0 ≤ m180.1 69 ∧ m180.1 69 ≤ 1024 := Tm180.1 69
            have g183 : 0 ≤ m180.1 70 ∧ m180.1 70 ≤ 4000 := Tm180.1 70
            have g184 : 0 ≤ m180.1 71 ∧ m180.1 71 ≤ 1 := Tm180.1 71
            have g185 : (-9223372036854775808) ≤ m180.1 72 ∧ m180.1 72 ≤ 9223372036854775807 := Tm180.1 72
            replace h181 : (m180.1 69) = v147 := h181
            refine T_ret rfl (fun _ => rfl) ?_
            exact ⟨(mO m180 [] []), Tm180, (fr_m (fr_s Fm180 (fr_m (fr_s Fm160 (fr_m fr_0 rfl rfl) rfl rfl) rfl rfl) rfl rfl) rfl rfl), (show (m180.1 10) = 0 → (m.1 10) = 0 by rewrite [(show (m180.1 10) = (m160.1 10) from (fr1 Fm180 10 rfl))]; omega), (show LxP (m180.1 7) (m180.1 8) (m180.1 9) (m.1 6) (m180.1 10) by rewrite [(show (m180.1 7) = (m.1 7) from ((fr1 Fm180 7 rfl).trans (fr1 Fm160 7 rfl))), (show (m180.1 8) = (m.1 8) from ((fr1 Fm180 8 rfl).trans (fr1 Fm160 8 rfl))), (show (m180.1 9) = (m.1 9) from ((fr1 Fm180 9 rfl).trans (fr1 Fm160 9 rfl))), (show (m180.1 10) = (m160.1 10) from (fr1 Fm180 10 rfl))]; first | (first | exact hLx | exact (fun _ => hLx (by omega)) | (intro h9; exfalso; omega)) | (exfalso; omega)), (fun (h : (m180.1 10) = 0) => absurd ((show (m180.1 10) = (m160.1 10) from (fr1 Fm180 10 rfl)).symm.trans h) (by omega)), rfl⟩
        · skip
          refine T_ld 108 (.int (i32 408)) rfl (fun _ => rfl) ?_
          refine T_goto 117 rfl (fun _ => rfl) ?_
          have hA : ar 408 = 1 := ar_1 (by omega)
          have hAr : ar 408 ≤ 1 + lh (m.2 79) (m.2 80) ((m.1 73) - 1) := by omega
          have hCk : CNk 408 0 := by refine ⟨?_, ?_, ?_, ?_⟩ <;> omega
          refine T_ld 118 (.int (i32 v147)) rfl (fun _ => rfl) ?_
          refine T_ld 119 (.int (i32 0)) rfl (fun _ => rfl) ?_
          refine T_ld 120 (.long (i64 0)) rfl (fun _ => rfl) ?_
          refine T_call 123 248 [.ref 189, .int (i32 408), .int (i32 v147), .int (i32 0), .long (i64 0)] [] rfl (fun _ => rfl) rfl (c_node w (mO m [(73, (m.1 73) - 1), (74, (m.1 74) - 1)] []) c N D (by omega) (Ty_mO hT rfl rfl ⟨g153, g154, trivial⟩ trivial) 408 v147 0 0 B (1 + lh (m.2 79) (m.2 80) ((m.1 73) - 1)) ⟨by decide, by decide⟩ (r32 (by omega) (by omega)) ⟨by decide, by decide⟩ ⟨by decide, by decide⟩ (fun _ => ⟨(show 0 ≤ (408 : Int) ∧ (408 : Int) ≤ 408 by first | omega | decide), (show 0 ≤ v147 ∧ v147 ≤ 64 by first | omega | decide), (show 0 ≤ (0 : Int) ∧ (0 : Int) ≤ 191 by first | omega | decide), (show CNk (408 : Int) (0 : Int) by first | exact hCk | (refine ⟨?_, ?_, ?_, ?_⟩ <;> omega)), (show ar (408 : Int) ≤ (1 + lh (m.2 79) (m.2 80) ((m.1 73) - 1)) by first | exact hAr | omega), (show EX (m.2 65) (m.2 67) B (m.1 28) (1 + lh (m.2 79) (m.2 80) ((m.1 73) - 1)) by first | exact hEX | assumption)⟩)) (fun rr186 k187 => ?_)
          obtain ⟨m188, Tm188, Fm188, h189, c190, rfl⟩ := k187
          refine ⟨_, _, rfl, ?_⟩
          refine T_nb (st' := []) rfl ?_
          have g191 : 0 ≤ m188.1 10 ∧ m188.1 10 ≤ 8 := Tm188.1 10
          have g192 : 0 ≤ m188.1 28 ∧ m188.1 28 ≤ 800 := Tm188.1 28
          by_cases hf193 : (m188.1 10) = 0
          · skip
            replace h189 : (m.1 10) = 0 := h189 hf193
            obtain ⟨c194, c195, c196⟩ := c190 hf193
            replace c194 : (m188.1 28) = (m.1 28) + 1 := c194
            replace c195 : EX (m188.2 65) (m188.2 67) B (m188.1 28) ((1 + lh (m.2 79) (m.2 80) ((m.1 73) - 1)) + 1 - ar (408 : Int)) := c195
            have hEX := c195
            replace c196 : agr (m.2 65) (m188.2 65) (m.1 28) := c196
            have hAg := c196
            clear c190
            have hAgC : agr (m.2 65) (m188.2 65) (m.1 28) := by first | exact agr_r _ _ | exact hAgC | exact agr_t hAgC hAg (by omega)
            have hXE : XS (m188.2 65) (m188.2 67) (m.2 76) (m.2 78) (m.2 79) (m.2 80) B (m188.1 28) ((m.1 73) - 1) ((m.1 74) - 1) (um (m.1 75)) := by
              rw [show um (m.1 75) = 1 from if_neg (by omega)]
              exact XS_of hXP hEX (by omega)
            refine T_ld 124 (.ref 189) rfl (fun _ => rfl) ?_
            refine T_ld 125 (.int (i32 v147)) rfl (fun _ => rfl) ?_
            refine T_ld 126 (.int (i32 ((m.2 77) ((m.1 73) - 1)))) rfl (fun _ => rfl) ?_
            refine T_call 129 250 [.ref 189, .int (i32 v147), .int (i32 ((m.2 77) ((m.1 73) - 1)))] [] rfl (fun _ => rfl) rfl (c_unit w (mO m188 [] []) c N D (by omega) Tm188 v147 ((m.2 77) ((m.1 73) - 1)) (r32 (by omega) (by omega)) (r32 (by omega) (by omega)) (show 0 ≤ v147 ∧ v147 ≤ 1024 by omega) (show 0 ≤ ((m.2 77) ((m.1 73) - 1)) ∧ ((m.2 77) ((m.1 73) - 1)) ≤ 4000 by omega)) (fun rr197 k198 => ?_)
            obtain ⟨m199, Tm199, Fm199, h200, rfl⟩ := k198
            refine ⟨_, _, rfl, ?_⟩
            refine T_nb (st' := []) rfl ?_
            have g201 : 0 ≤ m199.1 69 ∧ m199.1 69 ≤ 1024 := Tm199.1 69
            have g202 : 0 ≤ m199.1 70 ∧ m199.1 70 ≤ 4000 := Tm199.1 70
            have g203 : 0 ≤ m199.1 71 ∧ m199.1 71 ≤ 1 := Tm199.1 71
            have g204 : (-9223372036854775808) ≤ m199.1 72 ∧ m199.1 72 ≤ 9223372036854775807 := Tm199.1 72
            replace h200 : (m199.1 69) = v147 := h200
            have hAgC : agr (m.2 65) (m188.2 65) (m.1 28) := by first | exact agr_r _ _ | exact hAgC | exact agr_t hAgC hAg (by omega)
            refine T_ret rfl (fun _ => rfl) ?_
            exact ⟨(mO m199 [] []), Tm199, (fr_m (fr_s Fm199 (fr_m (fr_s Fm188 (fr_m fr_0 rfl rfl) rfl rfl) rfl rfl) rfl rfl) rfl rfl), (show (m199.1 10) = 0 → (m.1 10) = 0 by rewrite [(show (m199.1 10) = (m188.1 10) from (fr1 Fm199 10 rfl))]; omega), (show LxP (m199.1 7) (m199.1 8) (m199.1 9) (m.1 6) (m199.1 10) by rewrite [(show (m199.1 7) = (m.1 7) from ((fr1 Fm199 7 rfl).trans (fr1 Fm188 7 rfl))), (show (m199.1 8) = (m.1 8) from ((fr1 Fm199 8 rfl).trans (fr1 Fm188 8 rfl))), (show (m199.1 9) = (m.1 9) from ((fr1 Fm199 9 rfl).trans (fr1 Fm188 9 rfl))), (show (m199.1 10) = (m188.1 10) from (fr1 Fm199 10 rfl))]; first | (first | exact hLx | exact (fun _ => hLx (by omega)) | (intro h9; exfalso; omega)) | (exfalso; omega)), (fun _ => ⟨(show GP (m.1 8) (m199.1 8) (m199.1 75) (m199.1 73) (m.1 73) by rewrite [(show (m199.1 8) = (m.1 8) from ((fr1 Fm199 8 rfl).trans (fr1 Fm188 8 rfl))), (show (m199.1 75) = (m.1 75) from ((fr1 Fm199 75 rfl).trans (fr1 Fm188 75 rfl))), (show (m199.1 73) = ((m.1 73) - 1) from ((fr1 Fm199 73 rfl).trans (fr1 Fm188 73 rfl)))]; first | (first | assumption | (unfold GP; omega)) | (exfalso; omega)), (show GU (m199.1 75) (m199.1 69) by rewrite [(show (m199.1 75) = (m.1 75) from ((fr1 Fm199 75 rfl).trans (fr1 Fm188 75 rfl)))]; first | (first | assumption | (unfold GU; omega)) | (exfalso; omega)), (show GH (m199.1 75) (m199.1 73) by rewrite [(show (m199.1 75) = (m.1 75) from ((fr1 Fm199 75 rfl).trans (fr1 Fm188 75 rfl))), (show (m199.1 73) = ((m.1 73) - 1) from ((fr1 Fm199 73 rfl).trans (fr1 Fm188 73 rfl)))]; first | (first | assumption | (unfold GH; omega)) | (exfalso; omega)), (show (m.1 28) ≤ (m199.1 28) by rewrite [(show (m199.1 28) = (m188.1 28) from (fr1 Fm199 28 rfl))]; omega), (show XS (m199.2 65) (m199.2 67) (m199.2 76) (m199.2 78) (m199.2 79) (m199.2 80) B (m199.1 28) (m199.1 73) (m199.1 74) (um (m199.1 75)) by rewrite [(show (m199.2 65) = (m188.2 65) from (fr2 Fm199 65 rfl)), (show (m199.2 67) = (m188.2 67) from (fr2 Fm199 67 rfl)), (show (m199.2 76) = (m.2 76) from ((fr2 Fm199 76 rfl).trans (fr2 Fm188 76 rfl))), (show (m199.2 78) = (m.2 78) from ((fr2 Fm199 78 rfl).trans (fr2 Fm188 78 rfl))), (show (m199.2 79) = (m.2 79) from ((fr2 Fm199 79 rfl).trans (fr2 Fm188 79 rfl))), (show (m199.2 80) = (m.2 80) from ((fr2 Fm199 80 rfl).trans (fr2 Fm188 80 rfl))), (show (m199.1 28) = (m188.1 28) from (fr1 Fm199 28 rfl)), (show (m199.1 73) = ((m.1 73) - 1) from ((fr1 Fm199 73 rfl).trans (fr1 Fm188 73 rfl))), (show (m199.1 74) = ((m.1 74) - 1) from ((fr1 Fm199 74 rfl).trans (fr1 Fm188 74 rfl))), (show (m199.1 75) = (m.1 75) from ((fr1 Fm199 75 rfl).trans (fr1 Fm188 75 rfl)))]; first | (exact hXE) | (exfalso; omega)), (show agr (m.2 65) (m199.2 65) (m.1 28) by rewrite [(show (m199.2 65) = (m188.2 65) from (fr2 Fm199 65 rfl))]; first | (exact hAgC) | (exfalso; omega))⟩), rfl⟩
          · skip
            clear c190
            clear h189
            have hf205 : 1 ≤ (m188.1 10) := by omega
            refine T_ld 124 (.ref 189) rfl (fun _ => rfl) ?_
            refine T_ld 125 (.int (i32 v147)) rfl (fun _ => rfl) ?_
            refine T_ld 126 (.int (i32 ((m.2 77) ((m.1 73) - 1)))) rfl (fun _ => rfl) ?_
            refine T_call 129 250 [.ref 189, .int (i32 v147), .int (i32 ((m.2 77) ((m.1 73) - 1)))] [] rfl (fun _ => rfl) rfl (c_unit w (mO m188 [] []) c N D (by omega) Tm188 v147 ((m.2 77) ((m.1 73) - 1)) (r32 (by omega) (by omega)) (r32 (by omega) (by omega)) (show 0 ≤ v147 ∧ v147 ≤ 1024 by omega) (show 0 ≤ ((m.2 77) ((m.1 73) - 1)) ∧ ((m.2 77) ((m.1 73) - 1)) ≤ 4000 by omega)) (fun rr206 k207 => ?_)
            obtain ⟨m208, Tm208, Fm208, h209, rfl⟩ := k207
            refine ⟨_, _, rfl, ?_⟩
            refine T_nb (st' := []) rfl ?_
            have g210 : 0 ≤ m208.1 69 ∧ m208.1 69 ≤ 1024 := Tm208.1 69
            have g211 : 0 ≤ m208.1 70 ∧ m208.1 70 ≤ 4000 := Tm208.1 70
            have g212 : 0 ≤ m208.1 71 ∧ m208.1 71 ≤ 1 := Tm208.1 71
            have g213 : (-9223372036854775808) ≤ m208.1 72 ∧ m208.1 72 ≤ 9223372036854775807 := Tm208.1 72
            replace h209 : (m208.1 69) = v147 := h209
            refine T_ret rfl (fun _ => rfl) ?_
            exact ⟨(mO m208 [] []), Tm208, (fr_m (fr_s Fm208 (fr_m (fr_s Fm188 (fr_m fr_0 rfl rfl) rfl rfl) rfl rfl) rfl rfl) rfl rfl), (show (m208.1 10) = 0 → (m.1 10) = 0 by rewrite [(show (m208.1 10) = (m188.1 10) from (fr1 Fm208 10 rfl))]; omega), (show LxP (m208.1 7) (m208.1 8) (m208.1 9) (m.1 6) (m208.1 10) by rewrite [(show (m208.1 7) = (m.1 7) from ((fr1 Fm208 7 rfl).trans (fr1 Fm188 7 rfl))), (show (m208.1 8) = (m.1 8) from ((fr1 Fm208 8 rfl).trans (fr1 Fm188 8 rfl))), (show (m208.1 9) = (m.1 9) from ((fr1 Fm208 9 rfl).trans (fr1 Fm188 9 rfl))), (show (m208.1 10) = (m188.1 10) from (fr1 Fm208 10 rfl))]; first | (first | exact hLx | exact (fun _ => hLx (by omega)) | (intro h9; exfalso; omega)) | (exfalso; omega)), (fun (h : (m208.1 10) = 0) => absurd ((show (m208.1 10) = (m188.1 10) from (fr1 Fm208 10 rfl)).symm.trans h) (by omega)), rfl⟩
      refine T_icmp 73 71 rfl rfl rfl (r32 (by omega) (by omega)) ⟨by decide, by decide⟩ (fun (h214 : (m.2 78) ((m.1 73) - 1) ≠ 33) => ?_) (fun (h214 : ¬ ((m.2 78) ((m.1 73) - 1) ≠ 33)) => ?_)
      · skip
        refine Tm_lv (a := [(0, .ref 189), (1, .int (i32 ((m.1 73) - 1))), (2, .int (i32 ((m.2 77) ((m.1 73) - 1)))), (3, .int (i32 (m.1 69)))]) rfl rfl ⟨rfl, rfl, rfl, rfl, trivial⟩ ?_
        exact J73_148 (m.1 69) (r32 (by omega) (by omega)) (show 0 ≤ (m.1 69) by omega) (show (m.1 69) ≤ 64 by omega)
      · skip
        refine T_ld 72 (.int (i32 1)) rfl (fun _ => rfl) ?_
        refine T_sto 73 [(3, .int (i32 1)), (2, .int (i32 ((m.2 77) ((m.1 73) - 1)))), (1, .int (i32 ((m.1 73) - 1))), (0, .ref 189)] rfl (fun _ => rfl) ?_
        refine Tm_lv (a := [(0, .ref 189), (1, .int (i32 ((m.1 73) - 1))), (2, .int (i32 ((m.2 77) ((m.1 73) - 1)))), (3, .int (i32 1))]) rfl rfl ⟨rfl, rfl, rfl, rfl, trivial⟩ ?_
        exact J73_148 1 ⟨by decide, by decide⟩ (show 0 ≤ (1 : Int) by omega) (show (1 : Int) ≤ 64 by omega)
    · skip
      refine T_ld 41 (.ref 189) rfl (fun _ => rfl) ?_
      refine T_gf 45 (.int (i32 (m.1 69))) rfl rfl rfl rfl rfl rfl ?_
      refine T_gf 49 (.int (i32 (m.1 71))) rfl rfl rfl rfl rfl rfl ?_
      refine T_gf 53 (.long (i64 (m.1 72))) rfl rfl rfl rfl rfl rfl ?_
      refine T_gf 57 (.int (i32 (m.1 70))) rfl rfl rfl rfl rfl rfl ?_
      refine T_call 60 258 [.ref 189, .int (i32 (m.1 69)), .int (i32 (m.1 71)), .long (i64 (m.1 72)), .int (i32 (m.1 70))] [] rfl (fun _ => rfl) rfl (c_wantBit w (mO m [] []) c N D (by omega) hT (m.1 69) (m.1 71) (m.1 72) (m.1 70) (r32 (by omega) (by omega)) (r32 (by omega) (by omega)) (r64 (by omega) (by omega)) (r32 (by omega) (by omega)) (show 0 ≤ (m.1 70) ∧ (m.1 70) ≤ 4000 by omega) (fun _ => trivial)) (fun rr215 k216 => ?_)
      obtain ⟨m217, Tm217, Fm217, h218, c219, rfl⟩ := k216
      refine ⟨_, _, rfl, ?_⟩
      refine T_nb (st' := []) rfl ?_
      have g220 : 0 ≤ m217.1 10 ∧ m217.1 10 ≤ 8 := Tm217.1 10
      by_cases hf221 : (m217.1 10) = 0
      · skip
        replace h218 : (m.1 10) = 0 := h218 hf221
        clear c219
        have hAgC : agr (m.2 65) (m.2 65) (m.1 28) := by first | exact agr_r _ _ | exact hAgC | exact agr_t hAgC hAg (by omega)
        refine T_gf 64 (.ref 240) rfl rfl rfl rfl rfl rfl ?_
        refine T_ld 65 (.int (i32 ((m.1 73) - 1))) rfl (fun _ => rfl) ?_
        refine T_iald 66 78 (m.2 78) rfl rfl rfl (by omega) (show ((m.1 73) - 1) < (60 : Int) by omega) (show (m217.2 78) = (m.2 78) from (fr2 Fm217 78 rfl)) ?_
        have e222 : 0 ≤ (m.2 78) ((m.1 73) - 1) ∧ (m.2 78) ((m.1 73) - 1) ≤ 330 := (hT.2.1 78) ((m.1 73) - 1)
        refine T_ld 68 (.int (i32 33)) rfl (fun _ => rfl) ?_
        refine T_icmp 73 71 rfl rfl rfl (r32 (by omega) (by omega)) ⟨by decide, by decide⟩ (fun (h223 : (m.2 78) ((m.1 73) - 1) ≠ 33) => by exfalso; omega) (fun (h223 : ¬ ((m.2 78) ((m.1 73) - 1) ≠ 33)) => ?_)
        refine T_ld 72 (.int (i32 1)) rfl (fun _ => rfl) ?_
        refine T_sto 73 [(3, .int (i32 1)), (2, .int (i32 ((m.2 77) ((m.1 73) - 1)))), (1, .int (i32 ((m.1 73) - 1))), (0, .ref 189)] rfl (fun _ => rfl) ?_
        refine T_ld 74 (.ref 189) rfl (fun _ => rfl) ?_
        refine T_ld 75 (.ref 189) rfl (fun _ => rfl) ?_
        refine T_gf1 78 (.int (i32 (m.1 73))) rfl rfl (mfv_c (F := fun x => .int (i32 x)) rfl (show (m217.1 73) = (m.1 73) from (fr1 Fm217 73 rfl))) rfl ?_
        refine T_ld 79 (.int (i32 1)) rfl (fun _ => rfl) ?_
        refine T_isub 80 rfl rfl ?_
        refine T_pf (l' := [(73, (m.1 73) - 1)]) 83 ((m.1 73) - 1) rfl rfl rfl rfl rfl rfl ?_
        have g224 : 0 ≤ (m.1 73) - 1 ∧ (m.1 73) - 1 ≤ 60 := ⟨by omega, by omega⟩
        refine T_ld 84 (.ref 189) rfl (fun _ => rfl) ?_
        refine T_ld 85 (.ref 189) rfl (fun _ => rfl) ?_
        refine T_gf1 88 (.int (i32 (m.1 74))) rfl rfl (mfv_c (F := fun x => .int (i32 x)) rfl (show (m217.1 74) = (m.1 74) from (fr1 Fm217 74 rfl))) rfl ?_
        refine T_ld 89 (.int (i32 1)) rfl (fun _ => rfl) ?_
        refine T_isub 90 rfl rfl ?_
        refine T_pf (l' := [(73, (m.1 73) - 1), (74, (m.1 74) - 1)]) 93 ((m.1 74) - 1) rfl rfl rfl rfl rfl rfl ?_
        have g225 : 0 ≤ (m.1 74) - 1 ∧ (m.1 74) - 1 ≤ 24 := ⟨by omega, by omega⟩
        refine T_ld 94 (.ref 189) rfl (fun _ => rfl) ?_
        refine T_gf 98 (.ref 240) rfl rfl rfl rfl rfl rfl ?_
        refine T_ld 99 (.int (i32 ((m.1 73) - 1))) rfl (fun _ => rfl) ?_
        refine T_iald 100 78 (m.2 78) rfl rfl rfl (by omega) (show ((m.1 73) - 1) < (60 : Int) by omega) (show (m217.2 78) = (m.2 78) from (fr2 Fm217 78 rfl)) ?_
        have e226 : 0 ≤ (m.2 78) ((m.1 73) - 1) ∧ (m.2 78) ((m.1 73) - 1) ≤ 330 := (hT.2.1 78) ((m.1 73) - 1)
        refine T_ld 102 (.int (i32 45)) rfl (fun _ => rfl) ?_
        refine T_icmp 111 105 rfl rfl rfl (r32 (by omega) (by omega)) ⟨by decide, by decide⟩ (fun (h227 : (m.2 78) ((m.1 73) - 1) ≠ 45) => ?_) (fun (h227 : ¬ ((m.2 78) ((m.1 73) - 1) ≠ 45)) => by exfalso; omega)
        refine T_gf 115 (.ref 240) rfl rfl rfl rfl rfl rfl ?_
        refine T_ld 116 (.int (i32 ((m.1 73) - 1))) rfl (fun _ => rfl) ?_
        refine T_iald 117 78 (m.2 78) rfl rfl rfl (by omega) (show ((m.1 73) - 1) < (60 : Int) by omega) (show (m217.2 78) = (m.2 78) from (fr2 Fm217 78 rfl)) ?_
        have e228 : 0 ≤ (m.2 78) ((m.1 73) - 1) ∧ (m.2 78) ((m.1 73) - 1) ≤ 330 := (hT.2.1 78) ((m.1 73) - 1)
        have hA : ar ((m.2 78) ((m.1 73) - 1)) = 1 := ar_1 (by omega)
        have hAr : ar ((m.2 78) ((m.1 73) - 1)) ≤ 1 + lh (m.2 79) (m.2 80) ((m.1 73) - 1) := by omega
        have hCk : CNk ((m.2 78) ((m.1 73) - 1)) 0 := by refine ⟨?_, ?_, ?_, ?_⟩ <;> omega
        refine T_ld 118 (.int (i32 1)) rfl (fun _ => rfl) ?_
        refine T_ld 119 (.int (i32 0)) rfl (fun _ => rfl) ?_
        refine T_ld 120 (.long (i64 0)) rfl (fun _ => rfl) ?_
        refine T_call 123 248 [.ref 189, .int (i32 ((m.2 78) ((m.1 73) - 1))), .int (i32 1), .int (i32 0), .long (i64 0)] [] rfl (fun _ => rfl) rfl (c_node w (mO m217 [(73, (m.1 73) - 1), (74, (m.1 74) - 1)] []) c N D (by omega) (Ty_mO Tm217 rfl rfl ⟨g224, g225, trivial⟩ trivial) ((m.2 78) ((m.1 73) - 1)) 1 0 0 B (1 + lh (m.2 79) (m.2 80) ((m.1 73) - 1)) (r32 (by omega) (by omega)) ⟨by decide, by decide⟩ ⟨by decide, by decide⟩ ⟨by decide, by decide⟩ (fun _ => ⟨(show 0 ≤ ((m.2 78) ((m.1 73) - 1)) ∧ ((m.2 78) ((m.1 73) - 1)) ≤ 408 by first | omega | decide), (show 0 ≤ (1 : Int) ∧ (1 : Int) ≤ 64 by first | omega | decide), (show 0 ≤ (0 : Int) ∧ (0 : Int) ≤ 191 by first | omega | decide), (show CNk ((m.2 78) ((m.1 73) - 1)) (0 : Int) by first | exact hCk | (refine ⟨?_, ?_, ?_, ?_⟩ <;> omega)), (show ar ((m.2 78) ((m.1 73) - 1)) ≤ (1 + lh (m.2 79) (m.2 80) ((m.1 73) - 1)) by first | exact hAr | omega), (show EX (m217.2 65) (m217.2 67) B (m217.1 28) (1 + lh (m.2 79) (m.2 80) ((m.1 73) - 1)) by rewrite [(show (m217.2 65) = (m.2 65) from (fr2 Fm217 65 rfl)), (show (m217.2 67) = (m.2 67) from (fr2 Fm217 67 rfl)), (show (m217.1 28) = (m.1 28) from (fr1 Fm217 28 rfl))]; first | exact hEX | assumption)⟩)) (fun rr229 k230 => ?_)
        obtain ⟨m231, Tm231, Fm231, h232, c233, rfl⟩ := k230
        refine ⟨_, _, rfl, ?_⟩
        refine T_nb (st' := []) rfl ?_
        have g234 : 0 ≤ m231.1 10 ∧ m231.1 10 ≤ 8 := Tm231.1 10
        have g235 : 0 ≤ m231.1 28 ∧ m231.1 28 ≤ 800 := Tm231.1 28
        by_cases hf236 : (m231.1 10) = 0
        · skip
          replace h232 : (m217.1 10) = 0 := h232 hf236
          obtain ⟨c237, c238, c239⟩ := c233 hf236
          replace c237 : (m231.1 28) = (m217.1 28) + 1 := c237
          rewrite [(show (m217.1 28) = (m.1 28) from (fr1 Fm217 28 rfl))] at c237
          replace c238 : EX (m231.2 65) (m231.2 67) B (m231.1 28) ((1 + lh (m.2 79) (m.2 80) ((m.1 73) - 1)) + 1 - ar ((m.2 78) ((m.1 73) - 1))) := c238
          have hEX := c238
          replace c239 : agr (m217.2 65) (m231.2 65) (m217.1 28) := c239
          rewrite [(show (m217.2 65) = (m.2 65) from (fr2 Fm217 65 rfl)), (show (m217.1 28) = (m.1 28) from (fr1 Fm217 28 rfl))] at c239
          have hAg := c239
          clear c233
          have hAgC : agr (m.2 65) (m231.2 65) (m.1 28) := by first | exact agr_r _ _ | exact hAgC | exact agr_t hAgC hAg (by omega)
          have hXE : XS (m231.2 65) (m231.2 67) (m.2 76) (m.2 78) (m.2 79) (m.2 80) B (m231.1 28) ((m.1 73) - 1) ((m.1 74) - 1) (um (m.1 75)) := by
            rw [show um (m.1 75) = 1 from if_neg (by omega)]
            exact XS_of hXP hEX (by omega)
          refine T_ld 124 (.ref 189) rfl (fun _ => rfl) ?_
          refine T_ld 125 (.int (i32 1)) rfl (fun _ => rfl) ?_
          refine T_ld 126 (.int (i32 ((m.2 77) ((m.1 73) - 1)))) rfl (fun _ => rfl) ?_
          refine T_call 129 250 [.ref 189, .int (i32 1), .int (i32 ((m.2 77) ((m.1 73) - 1)))] [] rfl (fun _ => rfl) rfl (c_unit w (mO m231 [] []) c N D (by omega) Tm231 1 ((m.2 77) ((m.1 73) - 1)) ⟨by decide, by decide⟩ (r32 (by omega) (by omega)) (show 0 ≤ (1 : Int) ∧ (1 : Int) ≤ 1024 by omega) (show 0 ≤ ((m.2 77) ((m.1 73) - 1)) ∧ ((m.2 77) ((m.1 73) - 1)) ≤ 4000 by omega)) (fun rr240 k241 => ?_)
          obtain ⟨m242, Tm242, Fm242, h243, rfl⟩ := k241
          refine ⟨_, _, rfl, ?_⟩
          refine T_nb (st' := []) rfl ?_
          have g244 : 0 ≤ m242.1 69 ∧ m242.1 69 ≤ 1024 := Tm242.1 69
          have g245 : 0 ≤ m242.1 70 ∧ m242.1 70 ≤ 4000 := Tm242.1 70
          have g246 : 0 ≤ m242.1 71 ∧ m242.1 71 ≤ 1 := Tm242.1 71
          have g247 : (-9223372036854775808) ≤ m242.1 72 ∧ m242.1 72 ≤ 9223372036854775807 := Tm242.1 72
          replace h243 : (m242.1 69) = (1 : Int) := h243
          have hAgC : agr (m.2 65) (m231.2 65) (m.1 28) := by first | exact agr_r _ _ | exact hAgC | exact agr_t hAgC hAg (by omega)
          refine T_ret rfl (fun _ => rfl) ?_
          exact ⟨(mO m242 [] []), Tm242, (fr_m (fr_s Fm242 (fr_m (fr_s Fm231 (fr_m (fr_s Fm217 (fr_m fr_0 rfl rfl) rfl rfl) rfl rfl) rfl rfl) rfl rfl) rfl rfl) rfl rfl), (show (m242.1 10) = 0 → (m.1 10) = 0 by rewrite [(show (m242.1 10) = (m231.1 10) from (fr1 Fm242 10 rfl))]; omega), (show LxP (m242.1 7) (m242.1 8) (m242.1 9) (m.1 6) (m242.1 10) by rewrite [(show (m242.1 7) = (m.1 7) from ((fr1 Fm242 7 rfl).trans ((fr1 Fm231 7 rfl).trans (fr1 Fm217 7 rfl)))), (show (m242.1 8) = (m.1 8) from ((fr1 Fm242 8 rfl).trans ((fr1 Fm231 8 rfl).trans (fr1 Fm217 8 rfl)))), (show (m242.1 9) = (m.1 9) from ((fr1 Fm242 9 rfl).trans ((fr1 Fm231 9 rfl).trans (fr1 Fm217 9 rfl)))), (show (m242.1 10) = (m231.1 10) from (fr1 Fm242 10 rfl))]; first | (first | exact hLx | exact (fun _ => hLx (by omega)) | (intro h9; exfalso; omega)) | (exfalso; omega)), (fun _ => ⟨(show GP (m.1 8) (m242.1 8) (m242.1 75) (m242.1 73) (m.1 73) by rewrite [(show (m242.1 8) = (m.1 8) from ((fr1 Fm242 8 rfl).trans ((fr1 Fm231 8 rfl).trans (fr1 Fm217 8 rfl)))), (show (m242.1 75) = (m.1 75) from ((fr1 Fm242 75 rfl).trans ((fr1 Fm231 75 rfl).trans (fr1 Fm217 75 rfl)))), (show (m242.1 73) = ((m.1 73) - 1) from ((fr1 Fm242 73 rfl).trans (fr1 Fm231 73 rfl)))]; first | (first | assumption | (unfold GP; omega)) | (exfalso; omega)), (show GU (m242.1 75) (m242.1 69) by rewrite [(show (m242.1 75) = (m.1 75) from ((fr1 Fm242 75 rfl).trans ((fr1 Fm231 75 rfl).trans (fr1 Fm217 75 rfl))))]; first | (first | assumption | (unfold GU; omega)) | (exfalso; omega)), (show GH (m242.1 75) (m242.1 73) by rewrite [(show (m242.1 75) = (m.1 75) from ((fr1 Fm242 75 rfl).trans ((fr1 Fm231 75 rfl).trans (fr1 Fm217 75 rfl)))), (show (m242.1 73) = ((m.1 73) - 1) from ((fr1 Fm242 73 rfl).trans (fr1 Fm231 73 rfl)))]; first | (first | assumption | (unfold GH; omega)) | (exfalso; omega)), (show (m.1 28) ≤ (m242.1 28) by rewrite [(show (m242.1 28) = (m231.1 28) from (fr1 Fm242 28 rfl))]; omega), (show XS (m242.2 65) (m242.2 67) (m242.2 76) (m242.2 78) (m242.2 79) (m242.2 80) B (m242.1 28) (m242.1 73) (m242.1 74) (um (m242.1 75)) by rewrite [(show (m242.2 65) = (m231.2 65) from (fr2 Fm242 65 rfl)), (show (m242.2 67) = (m231.2 67) from (fr2 Fm242 67 rfl)), (show (m242.2 76) = (m.2 76) from ((fr2 Fm242 76 rfl).trans ((fr2 Fm231 76 rfl).trans (fr2 Fm217 76 rfl)))), (show (m242.2 78) = (m.2 78) from ((fr2 Fm242 78 rfl).trans ((fr2 Fm231 78 rfl).trans (fr2 Fm217 78 rfl)))), (show (m242.2 79) = (m.2 79) from ((fr2 Fm242 79 rfl).trans ((fr2 Fm231 79 rfl).trans (fr2 Fm217 79 rfl)))), (show (m242.2 80) = (m.2 80) from ((fr2 Fm242 80 rfl).trans ((fr2 Fm231 80 rfl).trans (fr2 Fm217 80 rfl)))), (show (m242.1 28) = (m231.1 28) from (fr1 Fm242 28 rfl)), (show (m242.1 73) = ((m.1 73) - 1) from ((fr1 Fm242 73 rfl).trans (fr1 Fm231 73 rfl))), (show (m242.1 74) = ((m.1 74) - 1) from ((fr1 Fm242 74 rfl).trans (fr1 Fm231 74 rfl))), (show (m242.1 75) = (m.1 75) from ((fr1 Fm242 75 rfl).trans ((fr1 Fm231 75 rfl).trans (fr1 Fm217 75 rfl))))]; first | (exact hXE) | (exfalso; omega)), (show agr (m.2 65) (m242.2 65) (m.1 28) by rewrite [(show (m242.2 65) = (m231.2 65) from (fr2 Fm242 65 rfl))]; first | (exact hAgC) | (exfalso; omega))⟩), rfl⟩
        · skip
          clear c233
          clear h232
          have hf248 : 1 ≤ (m231.1 10) := by omega
          refine T_ld 124 (.ref 189) rfl (fun _ => rfl) ?_
          refine T_ld 125 (.int (i32 1)) rfl (fun _ => rfl) ?_
          refine T_ld 126 (.int (i32 ((m.2 77) ((m.1 73) - 1)))) rfl (fun _ => rfl) ?_
          refine T_call 129 250 [.ref 189, .int (i32 1), .int (i32 ((m.2 77) ((m.1 73) - 1)))] [] rfl (fun _ => rfl) rfl (c_unit w (mO m231 [] []) c N D (by omega) Tm231 1 ((m.2 77) ((m.1 73) - 1)) ⟨by decide, by decide⟩ (r32 (by omega) (by omega)) (show 0 ≤ (1 : Int) ∧ (1 : Int) ≤ 1024 by omega) (show 0 ≤ ((m.2 77) ((m.1 73) - 1)) ∧ ((m.2 77) ((m.1 73) - 1)) ≤ 4000 by omega)) (fun rr249 k250 => ?_)
          obtain ⟨m251, Tm251, Fm251, h252, rfl⟩ := k250
          refine ⟨_, _, rfl, ?_⟩
          refine T_nb (st' := []) rfl ?_
          have g253 : 0 ≤ m251.1 69 ∧ m251.1 69 ≤ 1024 := Tm251.1 69
          have g254 : 0 ≤ m251.1 70 ∧ m251.1 70 ≤ 4000 := Tm251.1 70
          have g255 : 0 ≤ m251.1 71 ∧ m251.1 71 ≤ 1 := Tm251.1 71
          have g256 : (-9223372036854775808) ≤ m251.1 72 ∧ m251.1 72 ≤ 9223372036854775807 := Tm251.1 72
          replace h252 : (m251.1 69) = (1 : Int) := h252
          refine T_ret rfl (fun _ => rfl) ?_
          exact ⟨(mO m251 [] []), Tm251, (fr_m (fr_s Fm251 (fr_m (fr_s Fm231 (fr_m (fr_s Fm217 (fr_m fr_0 rfl rfl) rfl rfl) rfl rfl) rfl rfl) rfl rfl) rfl rfl) rfl rfl), (show (m251.1 10) = 0 → (m.1 10) = 0 by rewrite [(show (m251.1 10) = (m231.1 10) from (fr1 Fm251 10 rfl))]; omega), (show LxP (m251.1 7) (m251.1 8) (m251.1 9) (m.1 6) (m251.1 10) by rewrite [(show (m251.1 7) = (m.1 7) from ((fr1 Fm251 7 rfl).trans ((fr1 Fm231 7 rfl).trans (fr1 Fm217 7 rfl)))), (show (m251.1 8) = (m.1 8) from ((fr1 Fm251 8 rfl).trans ((fr1 Fm231 8 rfl).trans (fr1 Fm217 8 rfl)))), (show (m251.1 9) = (m.1 9) from ((fr1 Fm251 9 rfl).trans ((fr1 Fm231 9 rfl).trans (fr1 Fm217 9 rfl)))), (show (m251.1 10) = (m231.1 10) from (fr1 Fm251 10 rfl))]; first | (first | exact hLx | exact (fun _ => hLx (by omega)) | (intro h9; exfalso; omega)) | (exfalso; omega)), (fun (h : (m251.1 10) = 0) => absurd ((show (m251.1 10) = (m231.1 10) from (fr1 Fm251 10 rfl)).symm.trans h) (by omega)), rfl⟩
      · skip
        clear c219
        clear h218
        have hf257 : 1 ≤ (m217.1 10) := by omega
        refine T_gf 64 (.ref 240) rfl rfl rfl rfl rfl rfl ?_
        refine T_ld 65 (.int (i32 ((m.1 73) - 1))) rfl (fun _ => rfl) ?_
        refine T_iald 66 78 (m.2 78) rfl rfl rfl (by omega) (show ((m.1 73) - 1) < (60 : Int) by omega) (show (m217.2 78) = (m.2 78) from (fr2 Fm217 78 rfl)) ?_
        have e258 : 0 ≤ (m.2 78) ((m.1 73) - 1) ∧ (m.2 78) ((m.1 73) - 1) ≤ 330 := (hT.2.1 78) ((m.1 73) - 1)
        refine T_ld 68 (.int (i32 33)) rfl (fun _ => rfl) ?_
        refine T_icmp 73 71 rfl rfl rfl (r32 (by omega) (by omega)) ⟨by decide, by decide⟩ (fun (h259 : (m.2 78) ((m.1 73) - 1) ≠ 33) => by exfalso; omega) (fun (h259 : ¬ ((m.2 78) ((m.1 73) - 1) ≠ 33)) => ?_)
        refine T_ld 72 (.int (i32 1)) rfl (fun _ => rfl) ?_
        refine T_sto 73 [(3, .int (i32 1)), (2, .int (i32 ((m.2 77) ((m.1 73) - 1)))), (1, .int (i32 ((m.1 73) - 1))), (0, .ref 189)] rfl (fun _ => rfl) ?_
        refine T_ld 74 (.ref 189) rfl (fun _ => rfl) ?_
        refine T_ld 75 (.ref 189) rfl (fun _ => rfl) ?_
        refine T_gf1 78 (.int (i32 (m.1 73))) rfl rfl (mfv_c (F := fun x => .int (i32 x)) rfl (show (m217.1 73) = (m.1 73) from (fr1 Fm217 73 rfl))) rfl ?_
        refine T_ld 79 (.int (i32 1)) rfl (fun _ => rfl) ?_
        refine T_isub 80 rfl rfl ?_
        refine T_pf (l' := [(73, (m.1 73) - 1)]) 83 ((m.1 73) - 1) rfl rfl rfl rfl rfl rfl ?_
        have g260 : 0 ≤ (m.1 73) - 1 ∧ (m.1 73) - 1 ≤ 60 := ⟨by omega, by omega⟩
        refine T_ld 84 (.ref 189) rfl (fun _ => rfl) ?_
        refine T_ld 85 (.ref 189) rfl (fun _ => rfl) ?_
        refine T_gf1 88 (.int (i32 (m.1 74))) rfl rfl (mfv_c (F := fun x => .int (i32 x)) rfl (show (m217.1 74) = (m.1 74) from (fr1 Fm217 74 rfl))) rfl ?_
        refine T_ld 89 (.int (i32 1)) rfl (fun _ => rfl) ?_
        refine T_isub 90 rfl rfl ?_
        refine T_pf (l' := [(73, (m.1 73) - 1), (74, (m.1 74) - 1)]) 93 ((m.1 74) - 1) rfl rfl rfl rfl rfl rfl ?_
        have g261 : 0 ≤ (m.1 74) - 1 ∧ (m.1 74) - 1 ≤ 24 := ⟨by omega, by omega⟩
        refine T_ld 94 (.ref 189) rfl (fun _ => rfl) ?_
        refine T_gf 98 (.ref 240) rfl rfl rfl rfl rfl rfl ?_
        refine T_ld 99 (.int (i32 ((m.1 73) - 1))) rfl (fun _ => rfl) ?_
        refine T_iald 100 78 (m.2 78) rfl rfl rfl (by omega) (show ((m.1 73) - 1) < (60 : Int) by omega) (show (m217.2 78) = (m.2 78) from (fr2 Fm217 78 rfl)) ?_
        have e262 : 0 ≤ (m.2 78) ((m.1 73) - 1) ∧ (m.2 78) ((m.1 73) - 1) ≤ 330 := (hT.2.1 78) ((m.1 73) - 1)
        refine T_ld 102 (.int (i32 45)) rfl (fun _ => rfl) ?_
        refine T_icmp 111 105 rfl rfl rfl (r32 (by omega) (by omega)) ⟨by decide, by decide⟩ (fun (h263 : (m.2 78) ((m.1 73) - 1) ≠ 45) => ?_) (fun (h263 : ¬ ((m.2 78) ((m.1 73) - 1) ≠ 45)) => by exfalso; omega)
        refine T_gf 115 (.ref 240) rfl rfl rfl rfl rfl rfl ?_
        refine T_ld 116 (.int (i32 ((m.1 73) - 1))) rfl (fun _ => rfl) ?_
        refine T_iald 117 78 (m.2 78) rfl rfl rfl (by omega) (show ((m.1 73) - 1) < (60 : Int) by omega) (show (m217.2 78) = (m.2 78) from (fr2 Fm217 78 rfl)) ?_
        have e264 : 0 ≤ (m.2 78) ((m.1 73) - 1) ∧ (m.2 78) ((m.1 73) - 1) ≤ 330 := (hT.2.1 78) ((m.1 73) - 1)
        refine T_ld 118 (.int (i32 1)) rfl (fun _ => rfl) ?_
        refine T_ld 119 (.int (i32 0)) rfl (fun _ => rfl) ?_
        refine T_ld 120 (.long (i64 0)) rfl (fun _ => rfl) ?_
        refine T_call 123 248 [.ref 189, .int (i32 ((m.2 78) ((m.1 73) - 1))), .int (i32 1), .int (i32 0), .long (i64 0)] [] rfl (fun _ => rfl) rfl (c_node w (mO m217 [(73, (m.1 73) - 1), (74, (m.1 74) - 1)] []) c N D (by omega) (Ty_mO Tm217 rfl rfl ⟨g260, g261, trivial⟩ trivial) ((m.2 78) ((m.1 73) - 1)) 1 0 0 B (1 + lh (m.2 79) (m.2 80) ((m.1 73) - 1)) (r32 (by omega) (by omega)) ⟨by decide, by decide⟩ ⟨by decide, by decide⟩ ⟨by decide, by decide⟩ (fun (h : (m217.1 10) = 0) => absurd h (by omega))) (fun rr265 k266 => ?_)
        obtain ⟨m267, Tm267, Fm267, h268, c269, rfl⟩ := k266
        refine ⟨_, _, rfl, ?_⟩
        refine T_nb (st' := []) rfl ?_
        have g270 : 0 ≤ m267.1 10 ∧ m267.1 10 ≤ 8 := Tm267.1 10
        have g271 : 0 ≤ m267.1 28 ∧ m267.1 28 ≤ 800 := Tm267.1 28
        replace h268 : (m267.1 10) = 0 → (m217.1 10) = 0 := h268
        have hf272 : 1 ≤ (m267.1 10) := by omega
        clear c269
        clear h268
        refine T_ld 124 (.ref 189) rfl (fun _ => rfl) ?_
        refine T_ld 125 (.int (i32 1)) rfl (fun _ => rfl) ?_
        refine T_ld 126 (.int (i32 ((m.2 77) ((m.1 73) - 1)))) rfl (fun _ => rfl) ?_
        refine T_call 129 250 [.ref 189, .int (i32 1), .int (i32 ((m.2 77) ((m.1 73) - 1)))] [] rfl (fun _ => rfl) rfl (c_unit w (mO m267 [] []) c N D (by omega) Tm267 1 ((m.2 77) ((m.1 73) - 1)) ⟨by decide, by decide⟩ (r32 (by omega) (by omega)) (show 0 ≤ (1 : Int) ∧ (1 : Int) ≤ 1024 by omega) (show 0 ≤ ((m.2 77) ((m.1 73) - 1)) ∧ ((m.2 77) ((m.1 73) - 1)) ≤ 4000 by omega)) (fun rr273 k274 => ?_)
        obtain ⟨m275, Tm275, Fm275, h276, rfl⟩ := k274
        refine ⟨_, _, rfl, ?_⟩
        refine T_nb (st' := []) rfl ?_
        have g277 : 0 ≤ m275.1 69 ∧ m275.1 69 ≤ 1024 := Tm275.1 69
        have g278 : 0 ≤ m275.1 70 ∧ m275.1 70 ≤ 4000 := Tm275.1 70
        have g279 : 0 ≤ m275.1 71 ∧ m275.1 71 ≤ 1 := Tm275.1 71
        have g280 : (-9223372036854775808) ≤ m275.1 72 ∧ m275.1 72 ≤ 9223372036854775807 := Tm275.1 72
        replace h276 : (m275.1 69) = (1 : Int) := h276
        refine T_ret rfl (fun _ => rfl) ?_
        exact ⟨(mO m275 [] []), Tm275, (fr_m (fr_s Fm275 (fr_m (fr_s Fm267 (fr_m (fr_s Fm217 (fr_m fr_0 rfl rfl) rfl rfl) rfl rfl) rfl rfl) rfl rfl) rfl rfl) rfl rfl), (show (m275.1 10) = 0 → (m.1 10) = 0 by rewrite [(show (m275.1 10) = (m267.1 10) from (fr1 Fm275 10 rfl))]; omega), (show LxP (m275.1 7) (m275.1 8) (m275.1 9) (m.1 6) (m275.1 10) by rewrite [(show (m275.1 7) = (m.1 7) from ((fr1 Fm275 7 rfl).trans ((fr1 Fm267 7 rfl).trans (fr1 Fm217 7 rfl)))), (show (m275.1 8) = (m.1 8) from ((fr1 Fm275 8 rfl).trans ((fr1 Fm267 8 rfl).trans (fr1 Fm217 8 rfl)))), (show (m275.1 9) = (m.1 9) from ((fr1 Fm275 9 rfl).trans ((fr1 Fm267 9 rfl).trans (fr1 Fm217 9 rfl)))), (show (m275.1 10) = (m267.1 10) from (fr1 Fm275 10 rfl))]; first | (first | exact hLx | exact (fun _ => hLx (by omega)) | (intro h9; exfalso; omega)) | (exfalso; omega)), (fun (h : (m275.1 10) = 0) => absurd ((show (m275.1 10) = (m267.1 10) from (fr1 Fm275 10 rfl)).symm.trans h) (by omega)), rfl⟩
