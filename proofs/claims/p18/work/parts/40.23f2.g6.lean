def fF_goOn : List Nat := [7, 8, 9, 10, 11, 12, 28, 69, 70, 71, 72, 73, 74, 75]
def fA_goOn : List Nat := [65, 66, 67, 68, 76, 77, 78, 79, 80, 81, 82, 83, 84, 85, 86, 87, 88, 89, 90, 91, 92]
def Q_goOn (m : mR) (c : Nat → Option am_C) (N : Nat) (B : Int) : ag_Re af_T → Prop := fun R => ∃ (M : mR), Ty M ∧ fr fF_goOn fA_goOn m M ∧ ((M.1 10) = 0 → (m.1 10) = 0) ∧ (LxP (M.1 7) (M.1 8) (M.1 9) (m.1 6) (M.1 10)) ∧ (M.1 10 = 0 → (GPc (m.1 8) (M.1 8) (M.1 75) (M.1 73) (m.1 73)) ∧ (GU (M.1 75) (M.1 69)) ∧ (GH (M.1 75) (M.1 73)) ∧ ((m.1 28) ≤ (M.1 28)) ∧ (XS (M.2 65) (M.2 67) (M.2 76) (M.2 78) (M.2 79) (M.2 80) B (M.1 28) (M.1 73) (M.1 74) (um (M.1 75))) ∧ (agr (m.2 65) (M.2 65) (m.1 28))) ∧ R = (.inl (none), (mhp M c, N), 0, 0)
set_option maxHeartbeats 3000000 in
theorem c_goOn (w : wX) (m : mR) (c : Nat → Option am_C) (N D : Nat) (hD : 9 ≤ D) (hT : Ty m) (B : Int) (hLx0 : LxP (m.1 7) (m.1 8) (m.1 9) (m.1 6) (m.1 10)) (hf0 : m.1 10 = 0) (hC : (XS (m.2 65) (m.2 67) (m.2 76) (m.2 78) (m.2 79) (m.2 80) B (m.1 28) (m.1 73) (m.1 74) 1) ∧ (1 ≤ (m.1 73)) ∧ ((m.1 69) ≤ 64) ∧ ((m.1 75) = 2)) : TC w D 257 [.ref 189] (mhp m c, N) (Q_goOn m c N B) := by
  obtain ⟨D, rfl⟩ : ∃ k, D = k + 1 := ⟨D - 1, by omega⟩
  have hLx := hLx0
  have f7 : 0 ≤ m.1 7 ∧ m.1 7 ≤ 330 := hT.1 7
  have f8 : 0 ≤ m.1 8 ∧ m.1 8 ≤ 4000 := hT.1 8
  have f9 : 0 ≤ m.1 9 ∧ m.1 9 ≤ 4000 := hT.1 9
  have f10 : 0 ≤ m.1 10 ∧ m.1 10 ≤ 8 := hT.1 10
  have f28 : 0 ≤ m.1 28 ∧ m.1 28 ≤ 800 := hT.1 28
  have f69 : 0 ≤ m.1 69 ∧ m.1 69 ≤ 1024 := hT.1 69
  have f70 : 0 ≤ m.1 70 ∧ m.1 70 ≤ 4000 := hT.1 70
  have f71 : 0 ≤ m.1 71 ∧ m.1 71 ≤ 1 := hT.1 71
  have f72 : (-9223372036854775808) ≤ m.1 72 ∧ m.1 72 ≤ 9223372036854775807 := hT.1 72
  have f73 : 0 ≤ m.1 73 ∧ m.1 73 ≤ 60 := hT.1 73
  have f74 : 0 ≤ m.1 74 ∧ m.1 74 ≤ 24 := hT.1 74
  have f75 : 0 ≤ m.1 75 ∧ m.1 75 ≤ 3 := hT.1 75
  have f6 : 0 ≤ m.1 6 ∧ m.1 6 ≤ 4000 := hT.1 6
  refine Tc_of rfl ?_
  show TT w D pm_257 (0, [(0, .ref 189)], [], (mhp (mO m [] []) c, N), 0, 0) (Q_goOn m c N B)
  obtain ⟨hXS, c1, c2, c3⟩ := hC
  have hb := OS_hi hXS.1.2
  have hAgC := agr_r (m.2 65) (m.1 28)
  have h7 := hLx (by omega)
  have ht2 := hXS.2 (by omega)
  refine T_gf 4 (.int (i32 (m.1 73))) rfl rfl rfl rfl rfl rfl ?_
  refine T_ld 5 (.int (i32 1)) rfl (fun _ => rfl) ?_
  refine T_isub 6 rfl rfl ?_
  refine T_sto 7 [(1, .int (i32 ((m.1 73) - 1))), (0, .ref 189)] rfl (fun _ => rfl) ?_
  refine T_gf 11 (.ref 238) rfl rfl rfl rfl rfl rfl ?_
  refine T_ld 12 (.int (i32 ((m.1 73) - 1))) rfl (fun _ => rfl) ?_
  refine T_iald 13 76 (m.2 76) rfl rfl rfl (by omega) (show ((m.1 73) - 1) < (60 : Int) by omega) rfl ?_
  have e4 : 0 ≤ (m.2 76) ((m.1 73) - 1) ∧ (m.2 76) ((m.1 73) - 1) ≤ 2 := (hT.2.1 76) ((m.1 73) - 1)
  refine T_ld 14 (.int (i32 1)) rfl (fun _ => rfl) ?_
  refine T_icmp 130 17 rfl rfl rfl (r32 (by omega) (by omega)) ⟨by decide, by decide⟩ (fun (h5 : (m.2 76) ((m.1 73) - 1) ≠ 1) => ?_) (fun (h5 : ¬ ((m.2 76) ((m.1 73) - 1) ≠ 1)) => ?_)
  · skip
    refine T_gf 134 (.int (i32 (m.1 7))) rfl rfl rfl rfl rfl rfl ?_
    refine T_call 137 259 [.int (i32 (m.1 7))] [] rfl (fun _ => rfl) rfl (c_level w (mO m [] []) c N D (by omega) hT (m.1 7) (r32 (by omega) (by omega))) (fun rr6 k7 => ?_)
    obtain ⟨x8, g9, h10, rfl⟩ := k7
    refine ⟨_, _, rfl, ?_⟩
    refine T_ns (st' := [.int (i32 x8)]) rfl ?_
    obtain ⟨g9a, g9b⟩ := g9
    replace h10 : 0 ≤ x8 → 4 ≤ (m.1 7) ∧ (m.1 7) ≤ 124 := h10
    have hAgC : agr (m.2 65) (m.2 65) (m.1 28) := by first | exact agr_r _ _ | exact hAgC | exact agr_t hAgC hAg (by omega)
    refine T_sto 138 [(2, .int (i32 x8)), (1, .int (i32 ((m.1 73) - 1))), (0, .ref 189)] rfl (fun _ => rfl) ?_
    have J159_12 : ∀ (v11 : Int), (R32 v11) → (v11 = -1 ∨ (0 ≤ v11 ∧ v11 ≤ 8 ∧ 4 ≤ (m.1 7))) → TT w D pm_257 (159, [(0, .ref 189), (1, .int (i32 ((m.1 73) - 1))), (2, .int (i32 v11))], [], (mhp (mO m [] []) c, N), 0, 0) (Q_goOn m c N B) := by
      intro v11 q14 ic13
      obtain ⟨q14a, q14b⟩ := id q14
      refine T_ld 161 (.int (i32 8)) rfl (fun _ => rfl) ?_
      refine T_sto 162 [(3, .int (i32 8)), (0, .ref 189), (1, .int (i32 ((m.1 73) - 1))), (2, .int (i32 v11))] rfl (fun _ => rfl) ?_
      have L162_19 : ∀ (n26 : Nat) (v17 : Int) (m18 : mR), (R32 v17) → Ty m18 → fr [10, 11, 28, 69, 70, 71, 72] [65, 66, 67, 68, 80] (mO m [] []) m18 → (v17 ≤ 8) → ((-1) ≤ v17) → ((m18.1 69) ≤ 64 * (9 - v17)) → ((m18.1 10) = 0 → (XS (m18.2 65) (m18.2 67) (m.2 76) (m.2 78) (m.2 79) (m18.2 80) B (m18.1 28) (m.1 73) (m.1 74) 1) ∧ ((m18.1 69) ≤ 64) ∧ ((m.1 28) ≤ (m18.1 28)) ∧ (agr (m.2 65) (m18.2 65) (m.1 28))) → v17 + 1 < (n26 : Int) → TT w D pm_257 (162, [(0, .ref 189), (1, .int (i32 ((m.1 73) - 1))), (2, .int (i32 v11)), (3, .int (i32 v17))], [], (mhp (mO m18 [] []) c, N), 0, 0) (Q_goOn m c N B) := by
        intro n26
        induction n26 with
        | zero =>
          intro v17 m18 q23 Tm18 Fm18 ic20 ic21 ic22 c25 hmu
          obtain ⟨q23a, q23b⟩ := id q23
          have q24_10 : 0 ≤ m18.1 10 ∧ m18.1 10 ≤ 8 := Tm18.1 10
          have q24_28 : 0 ≤ m18.1 28 ∧ m18.1 28 ≤ 800 := Tm18.1 28
          have q24_69 : 0 ≤ m18.1 69 ∧ m18.1 69 ≤ 1024 := Tm18.1 69
          have q24_70 : 0 ≤ m18.1 70 ∧ m18.1 70 ≤ 4000 := Tm18.1 70
          have q24_71 : 0 ≤ m18.1 71 ∧ m18.1 71 ≤ 1 := Tm18.1 71
          have q24_72 : (-9223372036854775808) ≤ m18.1 72 ∧ m18.1 72 ≤ 9223372036854775807 := Tm18.1 72
          have hLx : LxP (m.1 7) (m.1 8) (m.1 9) (m.1 6) (m18.1 10) := fun _ => hLx (by omega)
          exfalso
          omega
        | succ n26 ih =>
          intro v17 m18 q23 Tm18 Fm18 ic20 ic21 ic22 c25 hmu
          obtain ⟨q23a, q23b⟩ := id q23
          have q24_10 : 0 ≤ m18.1 10 ∧ m18.1 10 ≤ 8 := Tm18.1 10
          have q24_28 : 0 ≤ m18.1 28 ∧ m18.1 28 ≤ 800 := Tm18.1 28
          have q24_69 : 0 ≤ m18.1 69 ∧ m18.1 69 ≤ 1024 := Tm18.1 69
          have q24_70 : 0 ≤ m18.1 70 ∧ m18.1 70 ≤ 4000 := Tm18.1 70
          have q24_71 : 0 ≤ m18.1 71 ∧ m18.1 71 ≤ 1 := Tm18.1 71
          have q24_72 : (-9223372036854775808) ≤ m18.1 72 ∧ m18.1 72 ≤ 9223372036854775807 := Tm18.1 72
          have ih27 := ih
          by_cases hf28 : (m18.1 10) = 0
          · skip
            obtain ⟨c29, c30, c31, c32⟩ := c25 hf28
            clear c25
            have hXS := c29
            have hAgC := c32
            have hLx : LxP (m.1 7) (m.1 8) (m.1 9) (m.1 6) (m18.1 10) := fun _ => hLx (by omega)
            refine T_ld 163 (.int (i32 v17)) rfl (fun _ => rfl) ?_
            refine T_if 204 166 rfl rfl rfl (r32 (by omega) (by omega)) (fun (h33 : v17 < 0) => ?_) (fun (h33 : ¬ (v17 < 0)) => ?_)
            · skip
              refine T_gf 208 (.int (i32 (m18.1 10))) rfl rfl rfl rfl rfl rfl ?_
              refine T_if 212 211 rfl rfl rfl (r32 (by omega) (by omega)) (fun (h34 : (m18.1 10) ≤ 0) => ?_) (fun (h34 : ¬ ((m18.1 10) ≤ 0)) => by exfalso; omega)
              refine T_ld 213 (.int (i32 v11)) rfl (fun _ => rfl) ?_
              refine T_if 285 216 rfl rfl rfl (r32 (by omega) (by omega)) (fun (h35 : v11 < 0) => ?_) (fun (h35 : ¬ (v11 < 0)) => ?_)
              · skip
                refine T_ld 286 (.ref 189) rfl (fun _ => rfl) ?_
                refine T_ld 287 (.int (i32 ((m.1 73) - 1))) rfl (fun _ => rfl) ?_
                refine T_call 290 263 [.ref 189, .int (i32 ((m.1 73) - 1))] [] rfl (fun _ => rfl) rfl (c_endOr w (mO m18 [] []) c N D (by omega) Tm18 ((m.1 73) - 1) B (r32 (by omega) (by omega)) (show LxP (m18.1 7) (m18.1 8) (m18.1 9) (m18.1 6) (m18.1 10) by rewrite [(show (m18.1 7) = (m.1 7) from (fr1 Fm18 7 rfl)), (show (m18.1 8) = (m.1 8) from (fr1 Fm18 8 rfl)), (show (m18.1 9) = (m.1 9) from (fr1 Fm18 9 rfl)), (show (m18.1 6) = (m.1 6) from (fr1 Fm18 6 rfl))]; first | exact hLx | exact (fun _ => hLx (by omega)) | (intro h9; exfalso; omega)) (show (m18.1 10) = 0 by omega) ⟨(show XS (m18.2 65) (m18.2 67) (m18.2 76) (m18.2 78) (m18.2 79) (m18.2 80) B (m18.1 28) (m18.1 73) (m18.1 74) 1 by rewrite [(show (m18.2 76) = (m.2 76) from (fr2 Fm18 76 rfl)), (show (m18.2 78) = (m.2 78) from (fr2 Fm18 78 rfl)), (show (m18.2 79) = (m.2 79) from (fr2 Fm18 79 rfl)), (show (m18.1 73) = (m.1 73) from (fr1 Fm18 73 rfl)), (show (m18.1 74) = (m.1 74) from (fr1 Fm18 74 rfl))]; first | exact hXS | assumption), (show ((m.1 73) - 1) = (m18.1 73) - 1 by rewrite [(show (m18.1 73) = (m.1 73) from (fr1 Fm18 73 rfl))]; omega), (show 1 ≤ (m18.1 73) by rewrite [(show (m18.1 73) = (m.1 73) from (fr1 Fm18 73 rfl))]; omega), (show (m18.2 76) ((m.1 73) - 1) = 0 by rewrite [(show (m18.2 76) = (m.2 76) from (fr2 Fm18 76 rfl))]; omega), (show (m18.1 69) ≤ 64 by omega), (show (m18.1 75) = 2 by rewrite [(show (m18.1 75) = (m.1 75) from (fr1 Fm18 75 rfl))]; omega)⟩) (fun rr36 k37 => ?_)
                obtain ⟨m38, Tm38, Fm38, h39, h40, c41, rfl⟩ := k37
                refine ⟨_, _, rfl, ?_⟩
                refine T_nb (st' := []) rfl ?_
                have g42 : 0 ≤ m38.1 7 ∧ m38.1 7 ≤ 330 := Tm38.1 7
                have g43 : 0 ≤ m38.1 8 ∧ m38.1 8 ≤ 4000 := Tm38.1 8
                have g44 : 0 ≤ m38.1 9 ∧ m38.1 9 ≤ 4000 := Tm38.1 9
                have g45 : 0 ≤ m38.1 10 ∧ m38.1 10 ≤ 8 := Tm38.1 10
                have g46 : 0 ≤ m38.1 28 ∧ m38.1 28 ≤ 800 := Tm38.1 28
                have g47 : 0 ≤ m38.1 69 ∧ m38.1 69 ≤ 1024 := Tm38.1 69
                have g48 : 0 ≤ m38.1 70 ∧ m38.1 70 ≤ 4000 := Tm38.1 70
                have g49 : 0 ≤ m38.1 71 ∧ m38.1 71 ≤ 1 := Tm38.1 71
                have g50 : (-9223372036854775808) ≤ m38.1 72 ∧ m38.1 72 ≤ 9223372036854775807 := Tm38.1 72
                have g51 : 0 ≤ m38.1 73 ∧ m38.1 73 ≤ 60 := Tm38.1 73
                have g52 : 0 ≤ m38.1 74 ∧ m38.1 74 ≤ 24 := Tm38.1 74
                have g53 : 0 ≤ m38.1 75 ∧ m38.1 75 ≤ 3 := Tm38.1 75
                by_cases hf54 : (m38.1 10) = 0
                · skip
                  replace h39 : (m18.1 10) = 0 := h39 hf54
                  replace h40 : LxP (m38.1 7) (m38.1 8) (m38.1 9) (m18.1 6) (m38.1 10) := h40
                  rewrite [(show (m18.1 6) = (m.1 6) from (fr1 Fm18 6 rfl))] at h40
                  have hLx := h40
                  obtain ⟨c55, c56, c57, c58, c59, c60⟩ := c41 hf54
                  replace c55 : GPc (m18.1 8) (m38.1 8) (m38.1 75) (m38.1 73) (m18.1 73) := c55
                  rewrite [(show (m18.1 8) = (m.1 8) from (fr1 Fm18 8 rfl)), (show (m18.1 73) = (m.1 73) from (fr1 Fm18 73 rfl))] at c55
                  have hGP := c55
                  replace c56 : GU (m38.1 75) (m38.1 69) := c56
                  have hGU := c56
                  replace c57 : GH (m38.1 75) (m38.1 73) := c57
                  have hGH := c57
                  replace c58 : (m18.1 28) ≤ (m38.1 28) := c58
                  replace c59 : XS (m38.2 65) (m38.2 67) (m38.2 76) (m38.2 78) (m38.2 79) (m38.2 80) B (m38.1 28) (m38.1 73) (m38.1 74) (um (m38.1 75)) := c59
                  have hXE := c59
                  replace c60 : agr (m18.2 65) (m38.2 65) (m18.1 28) := c60
                  have hAg := c60
                  clear c41
                  have hAgC : agr (m.2 65) (m38.2 65) (m.1 28) := by first | exact agr_r _ _ | exact hAgC | exact agr_t hAgC hAg (by omega)
                  refine T_ret rfl (fun _ => rfl) ?_
                  exact ⟨(mO m38 [] []), Tm38, (fr_m (fr_s Fm38 (fr_m (fr_s Fm18 (fr_m fr_0 rfl rfl) rfl rfl) rfl rfl) rfl rfl) rfl rfl), (show (m38.1 10) = 0 → (m.1 10) = 0 by omega), (show LxP (m38.1 7) (m38.1 8) (m38.1 9) (m.1 6) (m38.1 10) by first | (first | exact hLx | exact (fun _ => hLx (by omega)) | (intro h9; exfalso; omega)) | (exfalso; omega)), (fun _ => ⟨(show GPc (m.1 8) (m38.1 8) (m38.1 75) (m38.1 73) (m.1 73) by first | (first | assumption | (unfold GPc; omega)) | (exfalso; omega)), (show GU (m38.1 75) (m38.1 69) by first | (first | assumption | (unfold GU; omega)) | (exfalso; omega)), (show GH (m38.1 75) (m38.1 73) by first | (first | assumption | (unfold GH; omega)) | (exfalso; omega)), (show (m.1 28) ≤ (m38.1 28) by omega), (show XS (m38.2 65) (m38.2 67) (m38.2 76) (m38.2 78) (m38.2 79) (m38.2 80) B (m38.1 28) (m38.1 73) (m38.1 74) (um (m38.1 75)) by first | (exact hXE) | (exfalso; omega)), (show agr (m.2 65) (m38.2 65) (m.1 28) by first | (exact hAgC) | (exfalso; omega))⟩), rfl⟩
                · skip
                  clear c41
                  clear h39
                  replace h40 : LxP (m38.1 7) (m38.1 8) (m38.1 9) (m18.1 6) (m38.1 10) := h40
                  rewrite [(show (m18.1 6) = (m.1 6) from (fr1 Fm18 6 rfl))] at h40
                  have hLx := h40
                  have hf61 : 1 ≤ (m38.1 10) := by omega
                  refine T_ret rfl (fun _ => rfl) ?_
                  exact ⟨(mO m38 [] []), Tm38, (fr_m (fr_s Fm38 (fr_m (fr_s Fm18 (fr_m fr_0 rfl rfl) rfl rfl) rfl rfl) rfl rfl) rfl rfl), (show (m38.1 10) = 0 → (m.1 10) = 0 by omega), (show LxP (m38.1 7) (m38.1 8) (m38.1 9) (m.1 6) (m38.1 10) by first | (first | exact hLx | exact (fun _ => hLx (by omega)) | (intro h9; exfalso; omega)) | (exfalso; omega)), (fun (h : (m38.1 10) = 0) => absurd h (by omega)), rfl⟩
              · skip
                refine T_ld 218 (.int (i32 9)) rfl (fun _ => rfl) ?_
                refine T_ld 219 (.int (i32 ((m.1 73) - 1))) rfl (fun _ => rfl) ?_
                refine T_imul 220 rfl rfl ?_
                refine T_ld 221 (.int (i32 v11)) rfl (fun _ => rfl) ?_
                refine T_iadd 222 rfl rfl ?_
                refine T_sto 223 [(3, .int (i32 ((9 * ((m.1 73) - 1)) + v11))), (0, .ref 189), (1, .int (i32 ((m.1 73) - 1))), (2, .int (i32 v11))] rfl (fun _ => rfl) ?_
                have hXE0 := XS_ws (i := ((9 * ((m.1 73) - 1)) + v11)) (x := (m.1 7)) (U' := 0) hXS (by omega) (by omega) (by omega) (by have := cn1_0 (m18.2 80) ((9 * ((m.1 73) - 1)) + v11); split <;> omega)
                refine T_gf 227 (.ref 242) rfl rfl rfl rfl rfl rfl ?_
                refine T_ld 228 (.int (i32 ((9 * ((m.1 73) - 1)) + v11))) rfl (fun _ => rfl) ?_
                refine T_gf 232 (.int (i32 (m.1 7))) rfl rfl rfl rfl (mfv_c (F := fun x => .int (i32 x)) rfl (show (m18.1 7) = (m.1 7) from (fr1 Fm18 7 rfl))) rfl ?_
                have G62 : ∀ j, (-1) ≤ (upI (m18.2 80) ((9 * ((m.1 73) - 1)) + v11) (m.1 7)) j ∧ (upI (m18.2 80) ((9 * ((m.1 73) - 1)) + v11) (m.1 7)) j ≤ 330 := upI_rg (Tm18.2.1 80) ⟨by omega, by omega⟩
                refine T_iast (a' := [(80, upI (m18.2 80) ((9 * ((m.1 73) - 1)) + v11) (m.1 7))]) 233 80 (m18.2 80) rfl rfl rfl (by omega) (show ((9 * ((m.1 73) - 1)) + v11) < (540 : Int) by omega) rfl rfl ?_
                refine T_gf 237 (.ref 243) rfl rfl rfl rfl rfl rfl ?_
                refine T_ld 238 (.int (i32 ((9 * ((m.1 73) - 1)) + v11))) rfl (fun _ => rfl) ?_
                refine T_gf 242 (.int (i32 (m18.1 69))) rfl rfl rfl rfl rfl rfl ?_
                have G63 : ∀ j, 0 ≤ (upI (m.2 81) ((9 * ((m.1 73) - 1)) + v11) (m18.1 69)) j ∧ (upI (m.2 81) ((9 * ((m.1 73) - 1)) + v11) (m18.1 69)) j ≤ 64 := upI_rg (hT.2.1 81) ⟨by omega, by omega⟩
                refine T_iast (a' := [(80, upI (m18.2 80) ((9 * ((m.1 73) - 1)) + v11) (m.1 7)), (81, upI (m.2 81) ((9 * ((m.1 73) - 1)) + v11) (m18.1 69))]) 243 81 (m.2 81) rfl rfl rfl (by omega) (show ((9 * ((m.1 73) - 1)) + v11) < (540 : Int) by omega) (show (m18.2 81) = (m.2 81) from (fr2 Fm18 81 rfl)) rfl ?_
                refine T_gf 247 (.ref 244) rfl rfl rfl rfl rfl rfl ?_
                refine T_ld 248 (.int (i32 ((9 * ((m.1 73) - 1)) + v11))) rfl (fun _ => rfl) ?_
                refine T_gf 252 (.int (i32 (m18.1 70))) rfl rfl rfl rfl rfl rfl ?_
                have G64 : ∀ j, 0 ≤ (upI (m.2 82) ((9 * ((m.1 73) - 1)) + v11) (m18.1 70)) j ∧ (upI (m.2 82) ((9 * ((m.1 73) - 1)) + v11) (m18.1 70)) j ≤ 4000 := upI_rg (hT.2.1 82) ⟨by omega, by omega⟩
                refine T_iast (a' := [(80, upI (m18.2 80) ((9 * ((m.1 73) - 1)) + v11) (m.1 7)), (81, upI (m.2 81) ((9 * ((m.1 73) - 1)) + v11) (m18.1 69)), (82, upI (m.2 82) ((9 * ((m.1 73) - 1)) + v11) (m18.1 70))]) 253 82 (m.2 82) rfl rfl rfl (by omega) (show ((9 * ((m.1 73) - 1)) + v11) < (540 : Int) by omega) (show (m18.2 82) = (m.2 82) from (fr2 Fm18 82 rfl)) rfl ?_
                refine T_gf 257 (.ref 245) rfl rfl rfl rfl rfl rfl ?_
                refine T_ld 258 (.int (i32 ((9 * ((m.1 73) - 1)) + v11))) rfl (fun _ => rfl) ?_
                refine T_gf 262 (.int (i32 (m18.1 71))) rfl rfl rfl rfl rfl rfl ?_
                have G65 : ∀ j, 0 ≤ (upI (m.2 83) ((9 * ((m.1 73) - 1)) + v11) (m18.1 71)) j ∧ (upI (m.2 83) ((9 * ((m.1 73) - 1)) + v11) (m18.1 71)) j ≤ 1 := upI_rg (hT.2.1 83) ⟨by omega, by omega⟩
                refine T_bast (a' := [(80, upI (m18.2 80) ((9 * ((m.1 73) - 1)) + v11) (m.1 7)), (81, upI (m.2 81) ((9 * ((m.1 73) - 1)) + v11) (m18.1 69)), (82, upI (m.2 82) ((9 * ((m.1 73) - 1)) + v11) (m18.1 70)), (83, upI (m.2 83) ((9 * ((m.1 73) - 1)) + v11) (m18.1 71))]) 263 83 (m.2 83) rfl rfl rfl (by omega) (show ((9 * ((m.1 73) - 1)) + v11) < (540 : Int) by omega) (by omega) (show (m18.2 83) = (m.2 83) from (fr2 Fm18 83 rfl)) rfl ?_
                refine T_gf 267 (.ref 246) rfl rfl rfl rfl rfl rfl ?_
                refine T_ld 268 (.int (i32 ((9 * ((m.1 73) - 1)) + v11))) rfl (fun _ => rfl) ?_
                refine T_gf 272 (.long (i64 (m18.1 72))) rfl rfl rfl rfl rfl rfl ?_
                have G66 : ∀ j, (-9223372036854775808) ≤ (upI (m.2 84) ((9 * ((m.1 73) - 1)) + v11) (m18.1 72)) j ∧ (upI (m.2 84) ((9 * ((m.1 73) - 1)) + v11) (m18.1 72)) j ≤ 9223372036854775807 := upI_rg (hT.2.1 84) ⟨by omega, by omega⟩
                refine T_last (a' := [(80, upI (m18.2 80) ((9 * ((m.1 73) - 1)) + v11) (m.1 7)), (81, upI (m.2 81) ((9 * ((m.1 73) - 1)) + v11) (m18.1 69)), (82, upI (m.2 82) ((9 * ((m.1 73) - 1)) + v11) (m18.1 70)), (83, upI (m.2 83) ((9 * ((m.1 73) - 1)) + v11) (m18.1 71)), (84, upI (m.2 84) ((9 * ((m.1 73) - 1)) + v11) (m18.1 72))]) 273 84 (m.2 84) rfl rfl rfl (by omega) (show ((9 * ((m.1 73) - 1)) + v11) < (540 : Int) by omega) (show (m18.2 84) = (m.2 84) from (fr2 Fm18 84 rfl)) rfl ?_
                refine T_ld 274 (.ref 189) rfl (fun _ => rfl) ?_
                refine T_call 277 212 [.ref 189] [] rfl (fun _ => rfl) rfl (d_next w (mO m18 [] [(80, upI (m18.2 80) ((9 * ((m.1 73) - 1)) + v11) (m.1 7)), (81, upI (m.2 81) ((9 * ((m.1 73) - 1)) + v11) (m18.1 69)), (82, upI (m.2 82) ((9 * ((m.1 73) - 1)) + v11) (m18.1 70)), (83, upI (m.2 83) ((9 * ((m.1 73) - 1)) + v11) (m18.1 71)), (84, upI (m.2 84) ((9 * ((m.1 73) - 1)) + v11) (m18.1 72))]) c N D (by omega) (Ty_mO Tm18 rfl rfl trivial ⟨G62, G63, G64, G65, G66, trivial⟩) (show (m18.1 10) = 0 → (m18.1 8) + (m18.1 9) ≤ (m18.1 6) by rewrite [(show (m18.1 8) = (m.1 8) from (fr1 Fm18 8 rfl)), (show (m18.1 9) = (m.1 9) from (fr1 Fm18 9 rfl)), (show (m18.1 6) = (m.1 6) from (fr1 Fm18 6 rfl))]; first | omega | (intro h9; have h8 := hLx h9; omega))) (fun rr67 k68 => ?_)
                obtain ⟨m69, Tm69, Fm69, h70, h71, h72, h73, rfl⟩ := k68
                refine ⟨_, _, rfl, ?_⟩
                refine T_nb (st' := []) rfl ?_
                have g74 : 0 ≤ m69.1 7 ∧ m69.1 7 ≤ 330 := Tm69.1 7
                have g75 : 0 ≤ m69.1 8 ∧ m69.1 8 ≤ 4000 := Tm69.1 8
                have g76 : 0 ≤ m69.1 9 ∧ m69.1 9 ≤ 4000 := Tm69.1 9
                have g77 : 0 ≤ m69.1 10 ∧ m69.1 10 ≤ 8 := Tm69.1 10
                by_cases hf78 : (m69.1 10) = 0
                · skip
                  replace h70 : LxP (m69.1 7) (m69.1 8) (m69.1 9) (m18.1 6) (m69.1 10) := h70
                  rewrite [(show (m18.1 6) = (m.1 6) from (fr1 Fm18 6 rfl))] at h70
                  have hLx := h70
                  replace h71 : (m18.1 10) = 0 := h71 hf78
                  replace h72 : (m18.1 8) ≤ (m69.1 8) := h72
                  rewrite [(show (m18.1 8) = (m.1 8) from (fr1 Fm18 8 rfl))] at h72
                  replace h73 : (m18.1 8) + (m18.1 9) ≤ (m69.1 8) := h73 hf78
                  rewrite [(show (m18.1 8) = (m.1 8) from (fr1 Fm18 8 rfl)), (show (m18.1 9) = (m.1 9) from (fr1 Fm18 9 rfl))] at h73
                  have hAgC : agr (m.2 65) (m18.2 65) (m.1 28) := by first | exact agr_r _ _ | exact hAgC | exact agr_t hAgC hAg (by omega)
                  refine T_ld 278 (.ref 189) rfl (fun _ => rfl) ?_
                  refine T_ld 279 (.int (i32 0)) rfl (fun _ => rfl) ?_
                  refine T_pf (l' := [(75, 0)]) 282 0 rfl rfl rfl rfl rfl rfl ?_
                  have hXE : XS (m18.2 65) (m18.2 67) (m.2 76) (m.2 78) (m.2 79) (upI (m18.2 80) ((9 * ((m.1 73) - 1)) + v11) (m.1 7)) B (m18.1 28) (m.1 73) (m.1 74) (um (0 : Int)) := by
                    rw [show um (0 : Int) = 0 from if_pos (by omega)]
                    exact hXE0
                  refine T_goto 290 rfl (fun _ => rfl) ?_
                  refine T_ret rfl (fun _ => rfl) ?_
                  exact ⟨(mO m69 [(75, 0)] []), (Ty_mO Tm69 rfl rfl ⟨⟨(by omega : (0 : Int) ≤ 0), (by omega : (0 : Int) ≤ 3)⟩, trivial⟩ trivial), (fr_m (fr_s Fm69 (fr_m (fr_s Fm18 (fr_m fr_0 rfl rfl) rfl rfl) rfl rfl) rfl rfl) rfl rfl), (show (m69.1 10) = 0 → (m.1 10) = 0 by omega), (show LxP (m69.1 7) (m69.1 8) (m69.1 9) (m.1 6) (m69.1 10) by first | (first | exact hLx | exact (fun _ => hLx (by omega)) | (intro h9; exfalso; omega)) | (exfalso; omega)), (fun _ => ⟨(show GPc (m.1 8) (m69.1 8) (0 : Int) (m69.1 73) (m.1 73) by rewrite [(show (m69.1 73) = (m.1 73) from ((fr1 Fm69 73 rfl).trans (fr1 Fm18 73 rfl)))]; first | (first | assumption | (unfold GPc; omega)) | (exfalso; omega)), (show GU (0 : Int) (m69.1 69) by rewrite [(show (m69.1 69) = (m18.1 69) from (fr1 Fm69 69 rfl))]; first | (first | assumption | (unfold GU; omega)) | (exfalso; omega)), (show GH (0 : Int) (m69.1 73) by rewrite [(show (m69.1 73) = (m.1 73) from ((fr1 Fm69 73 rfl).trans (fr1 Fm18 73 rfl)))]; first | (first | assumption | (unfold GH; omega)) | (exfalso; omega)), (show (m.1 28) ≤ (m69.1 28) by rewrite [(show (m69.1 28) = (m18.1 28) from (fr1 Fm69 28 rfl))]; omega), (show XS (m69.2 65) (m69.2 67) (m69.2 76) (m69.2 78) (m69.2 79) (m69.2 80) B (m69.1 28) (m69.1 73) (m69.1 74) (um (0 : Int)) by rewrite [(show (m69.2 65) = (m18.2 65) from (fr2 Fm69 65 rfl)), (show (m69.2 67) = (m18.2 67) from (fr2 Fm69 67 rfl)), (show (m69.2 76) = (m.2 76) from ((fr2 Fm69 76 rfl).trans (fr2 Fm18 76 rfl))), (show (m69.2 78) = (m.2 78) from ((fr2 Fm69 78 rfl).trans (fr2 Fm18 78 rfl))), (show (m69.2 79) = (m.2 79) from ((fr2 Fm69 79 rfl).trans (fr2 Fm18 79 rfl))), (show (m69.2 80) = (upI (m18.2 80) ((9 * ((m.1 73) - 1)) + v11) (m.1 7)) from (fr2 Fm69 80 rfl)), (show (m69.1 28) = (m18.1 28) from (fr1 Fm69 28 rfl)), (show (m69.1 73) = (m.1 73) from ((fr1 Fm69 73 rfl).trans (fr1 Fm18 73 rfl))), (show (m69.1 74) = (m.1 74) from ((fr1 Fm69 74 rfl).trans (fr1 Fm18 74 rfl)))]; first | (exact hXE) | (exfalso; omega)), (show agr (m.2 65) (m69.2 65) (m.1 28) by rewrite [(show (m69.2 65) = (m18.2 65) from (fr2 Fm69 65 rfl))]; first | (exact hAgC) | (exfalso; omega))⟩), rfl⟩
                · skip
                  replace h70 : LxP (m69.1 7) (m69.1 8) (m69.1 9) (m18.1 6) (m69.1 10) := h70
                  rewrite [(show (m18.1 6) = (m.1 6) from (fr1 Fm18 6 rfl))] at h70
                  have hLx := h70
                  clear h71
                  replace h72 : (m18.1 8) ≤ (m69.1 8) := h72
                  rewrite [(show (m18.1 8) = (m.1 8) from (fr1 Fm18 8 rfl))] at h72
                  clear h73
                  have hf79 : 1 ≤ (m69.1 10) := by omega
                  refine T_ld 278 (.ref 189) rfl (fun _ => rfl) ?_
                  refine T_ld 279 (.int (i32 0)) rfl (fun _ => rfl) ?_
                  refine T_pf (l' := [(75, 0)]) 282 0 rfl rfl rfl rfl rfl rfl ?_
                  refine T_goto 290 rfl (fun _ => rfl) ?_
                  refine T_ret rfl (fun _ => rfl) ?_
                  exact ⟨(mO m69 [(75, 0)] []), (Ty_mO Tm69 rfl rfl ⟨⟨(by omega : (0 : Int) ≤ 0), (by omega : (0 : Int) ≤ 3)⟩, trivial⟩ trivial), (fr_m (fr_s Fm69 (fr_m (fr_s Fm18 (fr_m fr_0 rfl rfl) rfl rfl) rfl rfl) rfl rfl) rfl rfl), (show (m69.1 10) = 0 → (m.1 10) = 0 by omega), (show LxP (m69.1 7) (m69.1 8) (m69.1 9) (m.1 6) (m69.1 10) by first | (first | exact hLx | exact (fun _ => hLx (by omega)) | (intro h9; exfalso; omega)) | (exfalso; omega)), (fun (h : (m69.1 10) = 0) => absurd h (by omega)), rfl⟩
            · skip
              refine T_ld 167 (.int (i32 v17)) rfl (fun _ => rfl) ?_
              refine T_ld 168 (.int (i32 v11)) rfl (fun _ => rfl) ?_
              refine T_icmp 204 171 rfl rfl rfl (r32 (by omega) (by omega)) (r32 (by omega) (by omega)) (fun (h80 : v17 < v11) => ?_) (fun (h80 : ¬ (v17 < v11)) => ?_)
              · skip
                refine T_gf 208 (.int (i32 (m18.1 10))) rfl rfl rfl rfl rfl rfl ?_
                refine T_if 212 211 rfl rfl rfl (r32 (by omega) (by omega)) (fun (h81 : (m18.1 10) ≤ 0) => ?_) (fun (h81 : ¬ ((m18.1 10) ≤ 0)) => by exfalso; omega)
                refine T_ld 213 (.int (i32 v11)) rfl (fun _ => rfl) ?_
                refine T_if 285 216 rfl rfl rfl (r32 (by omega) (by omega)) (fun (h82 : v11 < 0) => by exfalso; omega) (fun (h82 : ¬ (v11 < 0)) => ?_)
                refine T_ld 218 (.int (i32 9)) rfl (fun _ => rfl) ?_
                refine T_ld 219 (.int (i32 ((m.1 73) - 1))) rfl (fun _ => rfl) ?_
                refine T_imul 220 rfl rfl ?_
                refine T_ld 221 (.int (i32 v11)) rfl (fun _ => rfl) ?_
                refine T_iadd 222 rfl rfl ?_
                refine T_sto 223 [(3, .int (i32 ((9 * ((m.1 73) - 1)) + v11))), (0, .ref 189), (1, .int (i32 ((m.1 73) - 1))), (2, .int (i32 v11))] rfl (fun _ => rfl) ?_
                have hXE0 := XS_ws (i := ((9 * ((m.1 73) - 1)) + v11)) (x := (m.1 7)) (U' := 0) hXS (by omega) (by omega) (by omega) (by have := cn1_0 (m18.2 80) ((9 * ((m.1 73) - 1)) + v11); split <;> omega)
                refine T_gf 227 (.ref 242) rfl rfl rfl rfl rfl rfl ?_
                refine T_ld 228 (.int (i32 ((9 * ((m.1 73) - 1)) + v11))) rfl (fun _ => rfl) ?_
                refine T_gf 232 (.int (i32 (m.1 7))) rfl rfl rfl rfl (mfv_c (F := fun x => .int (i32 x)) rfl (show (m18.1 7) = (m.1 7) from (fr1 Fm18 7 rfl))) rfl ?_
                have G83 : ∀ j, (-1) ≤ (upI (m18.2 80) ((9 * ((m.1 73) - 1)) + v11) (m.1 7)) j ∧ (upI (m18.2 80) ((9 * ((m.1 73) - 1)) + v11) (m.1 7)) j ≤ 330 := upI_rg (Tm18.2.1 80) ⟨by omega, by omega⟩
                refine T_iast (a' := [(80, upI (m18.2 80) ((9 * ((m.1 73) - 1)) + v11) (m.1 7))]) 233 80 (m18.2 80) rfl rfl rfl (by omega) (show ((9 * ((m.1 73) - 1)) + v11) < (540 : Int) by omega) rfl rfl ?_
                refine T_gf 237 (.ref 243) rfl rfl rfl rfl rfl rfl ?_
                refine T_ld 238 (.int (i32 ((9 * ((m.1 73) - 1)) + v11))) rfl (fun _ => rfl) ?_
                refine T_gf 242 (.int (i32 (m18.1 69))) rfl rfl rfl rfl rfl rfl ?_
                have G84 : ∀ j, 0 ≤ (upI (m.2 81) ((9 * ((m.1 73) - 1)) + v11) (m18.1 69)) j ∧ (upI (m.2 81) ((9 * ((m.1 73) - 1)) + v11) (m18.1 69)) j ≤ 64 := upI_rg (hT.2.1 81) ⟨by omega, by omega⟩
                refine T_iast (a' := [(80, upI (m18.2 80) ((9 * ((m.1 73) - 1)) + v11) (m.1 7)), (81, upI (m.2 81) ((9 * ((m.1 73) - 1)) + v11) (m18.1 69))]) 243 81 (m.2 81) rfl rfl rfl (by omega) (show ((9 * ((m.1 73) - 1)) + v11) < (540 : Int) by omega) (show (m18.2 81) = (m.2 81) from (fr2 Fm18 81 rfl)) rfl ?_
                refine T_gf 247 (.ref 244) rfl rfl rfl rfl rfl rfl ?_
                refine T_ld 248 (.int (i32 ((9 * ((m.1 73) - 1)) + v11))) rfl (fun _ => rfl) ?_
                refine T_gf 252 (.int (i32 (m18.1 70))) rfl rfl rfl rfl rfl rfl ?_
                have G85 : ∀ j, 0 ≤ (upI (m.2 82) ((9 * ((m.1 73) - 1)) + v11) (m18.1 70)) j ∧ (upI (m.2 82) ((9 * ((m.1 73) - 1)) + v11) (m18.1 70)) j ≤ 4000 := upI_rg (hT.2.1 82) ⟨by omega, by omega⟩
                refine T_iast (a' := [(80, upI (m18.2 80) ((9 * ((m.1 73) - 1)) + v11) (m.1 7)), (81, upI (m.2 81) ((9 * ((m.1 73) - 1)) + v11) (m18.1 69)), (82, upI (m.2 82) ((9 * ((m.1 73) - 1)) + v11) (m18.1 70))]) 253 82 (m.2 82) rfl rfl rfl (by omega) (show ((9 * ((m.1 73) - 1)) + v11) < (540 : Int) by omega) (show (m18.2 82) = (m.2 82) from (fr2 Fm18 82 rfl)) rfl ?_
                refine T_gf 257 (.ref 245) rfl rfl rfl rfl rfl rfl ?_
                refine T_ld 258 (.int (i32 ((9 * ((m.1 73) - 1)) + v11))) rfl (fun _ => rfl) ?_
                refine T_gf 262 (.int (i32 (m18.1 71))) rfl rfl rfl rfl rfl rfl ?_
                have G86 : ∀ j, 0 ≤ (upI (m.2 83) ((9 * ((m.1 73) - 1)) + v11) (m18.1 71)) j ∧ (upI (m.2 83) ((9 * ((m.1 73) - 1)) + v11) (m18.1 71)) j ≤ 1 := upI_rg (hT.2.1 83) ⟨by omega, by omega⟩
                refine T_bast (a' := [(80, upI (m18.2 80) ((9 * ((m.1 73) - 1)) + v11) (m.1 7)), (81, upI (m.2 81) ((9 * ((m.1 73) - 1)) + v11) (m18.1 69)), (82, upI (m.2 82) ((9 * ((m.1 73) - 1)) + v11) (m18.1 70)), (83, upI (m.2 83) ((9 * ((m.1 73) - 1)) + v11) (m18.1 71))]) 263 83 (m.2 83) rfl rfl rfl (by omega) (show ((9 * ((m.1 73) - 1)) + v11) < (540 : Int) by omega) (by omega) (show (m18.2 83) = (m.2 83) from (fr2 Fm18 83 rfl)) rfl ?_
                refine T_gf 267 (.ref 246) rfl rfl rfl rfl rfl rfl ?_
                refine T_ld 268 (.int (i32 ((9 * ((m.1 73) - 1)) + v11))) rfl (fun _ => rfl) ?_
                refine T_gf 272 (.long (i64 (m18.1 72))) rfl rfl rfl rfl rfl rfl ?_
                have G87 : ∀ j, (-9223372036854775808) ≤ (upI (m.2 84) ((9 * ((m.1 73) - 1)) + v11) (m18.1 72)) j ∧ (upI (m.2 84) ((9 * ((m.1 73) - 1)) + v11) (m18.1 72)) j ≤ 9223372036854775807 := upI_rg (hT.2.1 84) ⟨by omega, by omega⟩
                refine T_last (a' := [(80, upI (m18.2 80) ((9 * ((m.1 73) - 1)) + v11) (m.1 7)), (81, upI (m.2 81) ((9 * ((m.1 73) - 1)) + v11) (m18.1 69)), (82, upI (m.2 82) ((9 * ((m.1 73) - 1)) + v11) (m18.1 70)), (83, upI (m.2 83) ((9 * ((m.1 73) - 1)) + v11) (m18.1 71)), (84, upI (m.2 84) ((9 * ((m.1 73) - 1)) + v11) (m18.1 72))]) 273 84 (m.2 84) rfl rfl rfl (by omega) (show ((9 * ((m.1 73) - 1)) + v11) < (540 : Int) by omega) (show (m18.2 84) = (m.2 84) from (fr2 Fm18 84 rfl)) rfl ?_
                refine T_ld 274 (.ref 189) rfl (fun _ => rfl) ?_
                refine T_call 277 212 [.ref 189] [] rfl (fun _ => rfl) rfl (d_next w (mO m18 [] [(80, upI (m18.2 80) ((9 * ((m.1 73) - 1)) + v11) (m.1 7)), (81, upI (m.2 81) ((9 * ((m.1 73) - 1)) + v11) (m18.1 69)), (82, upI (m.2 82) ((9 * ((m.1 73) - 1)) + v11) (m18.1 70)), (83, upI (m.2 83) ((9 * ((m.1 73) - 1)) + v11) (m18.1 71)), (84, upI (m.2 84) ((9 * ((m.1 73) - 1)) + v11) (m18.1 72))]) c N D (by omega) (Ty_mO Tm18 rfl rfl trivial ⟨G83, G84, G85, G86, G87, trivial⟩) (show (m18.1 10) = 0 → (m18.1 8) + (m18.1 9) ≤ (m18.1 6) by rewrite [(show (m18.1 8) = (m.1 8) from (fr1 Fm18 8 rfl)), (show (m18.1 9) = (m.1 9) from (fr1 Fm18 9 rfl)), (show (m18.1 6) = (m.1 6) from (fr1 Fm18 6 rfl))]; first | omega | (intro h9; have h8 := hLx h9; omega))) (fun rr88 k89 => ?_)
                obtain ⟨m90, Tm90, Fm90, h91, h92, h93, h94, rfl⟩ := k89
                refine ⟨_, _, rfl, ?_⟩
                refine T_nb (st' := []) rfl ?_
                have g95 : 0 ≤ m90.1 7 ∧ m90.1 7 ≤ 330 := Tm90.1 7
                have g96 : 0 ≤ m90.1 8 ∧ m90.1 8 ≤ 4000 := Tm90.1 8
                have g97 : 0 ≤ m90.1 9 ∧ m90.1 9 ≤ 4000 := Tm90.1 9
                have g98 : 0 ≤ m90.1 10 ∧ m90.1 10 ≤ 8 := Tm90.1 10
                by_cases hf99 : (m90.1 10) = 0
                · skip
                  replace h91 : LxP (m90.1 7) (m90.1 8) (m90.1 9) (m18.1 6) (m90.1 10) := h91
                  rewrite [(show (m18.1 6) = (m.1 6) from (fr1 Fm18 6 rfl))] at h91
                  have hLx := h91
                  replace h92 : (m18.1 10) = 0 := h92 hf99
                  replace h93 : (m18.1 8) ≤ (m90.1 8) := h93
                  rewrite [(show (m18.1 8) = (m.1 8) from (fr1 Fm18 8 rfl))] at h93
                  replace h94 : (m18.1 8) + (m18.1 9) ≤ (m90.1 8) := h94 hf99
                  rewrite [(show (m18.1 8) = (m.1 8) from (fr1 Fm18 8 rfl)), (show (m18.1 9) = (m.1 9) from (fr1 Fm18 9 rfl))] at h94
                  have hAgC : agr (m.2 65) (m18.2 65) (m.1 28) := by first | exact agr_r _ _ | exact hAgC | exact agr_t hAgC hAg (by omega)
                  refine T_ld 278 (.ref 189) rfl (fun _ => rfl) ?_
                  refine T_ld 279 (.int (i32 0)) rfl (fun _ => rfl) ?_
                  refine T_pf (l' := [(75, 0)]) 282 0 rfl rfl rfl rfl rfl rfl ?_
                  have hXE : XS (m18.2 65) (m18.2 67) (m.2 76) (m.2 78) (m.2 79) (upI (m18.2 80) ((9 * ((m.1 73) - 1)) + v11) (m.1 7)) B (m18.1 28) (m.1 73) (m.1 74) (um (0 : Int)) := by
                    rw [show um (0 : Int) = 0 from if_pos (by omega)]
                    exact hXE0
                  refine T_goto 290 rfl (fun _ => rfl) ?_
                  refine T_ret rfl (fun _ => rfl) ?_
                  exact ⟨(mO m90 [(75, 0)] []), (Ty_mO Tm90 rfl rfl ⟨⟨(by omega : (0 : Int) ≤ 0), (by omega : (0 : Int) ≤ 3)⟩, trivial⟩ trivial), (fr_m (fr_s Fm90 (fr_m (fr_s Fm18 (fr_m fr_0 rfl rfl) rfl rfl) rfl rfl) rfl rfl) rfl rfl), (show (m90.1 10) = 0 → (m.1 10) = 0 by omega), (show LxP (m90.1 7) (m90.1 8) (m90.1 9) (m.1 6) (m90.1 10) by first | (first | exact hLx | exact (fun _ => hLx (by omega)) | (intro h9; exfalso; omega)) | (exfalso; omega)), (fun _ => ⟨(show GPc (m.1 8) (m90.1 8) (0 : Int) (m90.1 73) (m.1 73) by rewrite [(show (m90.1 73) = (m.1 73) from ((fr1 Fm90 73 rfl).trans (fr1 Fm18 73 rfl)))]; first | (first | assumption | (unfold GPc; omega)) | (exfalso; omega)), (show GU (0 : Int) (m90.1 69) by rewrite [(show (m90.1 69) = (m18.1 69) from (fr1 Fm90 69 rfl))]; first | (first | assumption | (unfold GU; omega)) | (exfalso; omega)), (show GH (0 : Int) (m90.1 73) by rewrite [(show (m90.1 73) = (m.1 73) from ((fr1 Fm90 73 rfl).trans (fr1 Fm18 73 rfl)))]; first | (first | assumption | (unfold GH; omega)) | (exfalso; omega)), (show (m.1 28) ≤ (m90.1 28) by rewrite [(show (m90.1 28) = (m18.1 28) from (fr1 Fm90 28 rfl))]; omega), (show XS (m90.2 65) (m90.2 67) (m90.2 76) (m90.2 78) (m90.2 79) (m90.2 80) B (m90.1 28) (m90.1 73) (m90.1 74) (um (0 : Int)) by rewrite [(show (m90.2 65) = (m18.2 65) from (fr2 Fm90 65 rfl)), (show (m90.2 67) = (m18.2 67) from (fr2 Fm90 67 rfl)), (show (m90.2 76) = (m.2 76) from ((fr2 Fm90 76 rfl).trans (fr2 Fm18 76 rfl))), (show (m90.2 78) = (m.2 78) from ((fr2 Fm90 78 rfl).trans (fr2 Fm18 78 rfl))), (show (m90.2 79) = (m.2 79) from ((fr2 Fm90 79 rfl).trans (fr2 Fm18 79 rfl))), (show (m90.2 80) = (upI (m18.2 80) ((9 * ((m.1 73) - 1)) + v11) (m.1 7)) from (fr2 Fm90 80 rfl)), (show (m90.1 28) = (m18.1 28) from (fr1 Fm90 28 rfl)), (show (m90.1 73) = (m.1 73) from ((fr1 Fm90 73 rfl).trans (fr1 Fm18 73 rfl))), (show (m90.1 74) = (m.1 74) from ((fr1 Fm90 74 rfl).trans (fr1 Fm18 74 rfl)))]; first | (exact hXE) | (exfalso; omega)), (show agr (m.2 65) (m90.2 65) (m.1 28) by rewrite [(show (m90.2 65) = (m18.2 65) from (fr2 Fm90 65 rfl))]; first | (exact hAgC) | (exfalso; omega))⟩), rfl⟩
                · skip
                  replace h91 : LxP (m90.1 7) (m90.1 8) (m90.1 9) (m18.1 6) (m90.1 10) := h91
                  rewrite [(show (m18.1 6) = (m.1 6) from (fr1 Fm18 6 rfl))] at h91
                  have hLx := h91
                  clear h92
                  replace h93 : (m18.1 8) ≤ (m90.1 8) := h93
                  rewrite [(show (m18.1 8) = (m.1 8) from (fr1 Fm18 8 rfl))] at h93
                  clear h94
                  have hf100 : 1 ≤ (m90.1 10) := by omega
                  refine T_ld 278 (.ref 189) rfl (fun _ => rfl) ?_
                  refine T_ld 279 (.int (i32 0)) rfl (fun _ => rfl) ?_
                  refine T_pf (l' := [(75, 0)]) 282 0 rfl rfl rfl rfl rfl rfl ?_
                  refine T_goto 290 rfl (fun _ => rfl) ?_
                  refine T_ret rfl (fun _ => rfl) ?_
                  exact ⟨(mO m90 [(75, 0)] []), (Ty_mO Tm90 rfl rfl ⟨⟨(by omega : (0 : Int) ≤ 0), (by omega : (0 : Int) ≤ 3)⟩, trivial⟩ trivial), (fr_m (fr_s Fm90 (fr_m (fr_s Fm18 (fr_m fr_0 rfl rfl) rfl rfl) rfl rfl) rfl rfl) rfl rfl), (show (m90.1 10) = 0 → (m.1 10) = 0 by omega), (show LxP (m90.1 7) (m90.1 8) (m90.1 9) (m.1 6) (m90.1 10) by first | (first | exact hLx | exact (fun _ => hLx (by omega)) | (intro h9; exfalso; omega)) | (exfalso; omega)), (fun (h : (m90.1 10) = 0) => absurd h (by omega)), rfl⟩
              · skip
                refine T_gf 175 (.ref 242) rfl rfl rfl rfl rfl rfl ?_
                refine T_ld 177 (.int (i32 9)) rfl (fun _ => rfl) ?_
                refine T_ld 178 (.int (i32 ((m.1 73) - 1))) rfl (fun _ => rfl) ?_
                refine T_imul 179 rfl rfl ?_
                refine T_ld 180 (.int (i32 v17)) rfl (fun _ => rfl) ?_
                refine T_iadd 181 rfl rfl ?_
                refine T_iald 182 80 (m18.2 80) rfl rfl rfl (by omega) (show ((9 * ((m.1 73) - 1)) + v17) < (540 : Int) by omega) rfl ?_
                have e101 : (-1) ≤ (m18.2 80) ((9 * ((m.1 73) - 1)) + v17) ∧ (m18.2 80) ((9 * ((m.1 73) - 1)) + v17) ≤ 330 := (Tm18.2.1 80) ((9 * ((m.1 73) - 1)) + v17)
                refine T_if 188 185 rfl rfl rfl (r32 (by omega) (by omega)) (fun (h102 : (0 : Int) ≤ (m18.2 80) ((9 * ((m.1 73) - 1)) + v17)) => ?_) (fun (h102 : ¬ ((0 : Int) ≤ (m18.2 80) ((9 * ((m.1 73) - 1)) + v17))) => ?_)
                · skip
                  refine T_ld 189 (.ref 189) rfl (fun _ => rfl) ?_
                  refine T_ld 191 (.int (i32 9)) rfl (fun _ => rfl) ?_
                  refine T_ld 192 (.int (i32 ((m.1 73) - 1))) rfl (fun _ => rfl) ?_
                  refine T_imul 193 rfl rfl ?_
                  refine T_ld 194 (.int (i32 v17)) rfl (fun _ => rfl) ?_
                  refine T_iadd 195 rfl rfl ?_
                  refine T_call 198 260 [.ref 189, .int (i32 ((9 * ((m.1 73) - 1)) + v17))] [] rfl (fun _ => rfl) rfl (c_join w (mO m18 [] []) c N D (by omega) Tm18 ((9 * ((m.1 73) - 1)) + v17) B (r32 (by omega) (by omega)) (show 0 ≤ ((9 * ((m.1 73) - 1)) + v17) ∧ ((9 * ((m.1 73) - 1)) + v17) ≤ 539 by omega) (show (m18.1 69) ≤ 900 by omega) (fun _ => ⟨(show XS (m18.2 65) (m18.2 67) (m18.2 76) (m18.2 78) (m18.2 79) (m18.2 80) B (m18.1 28) (m18.1 73) (m18.1 74) 1 by rewrite [(show (m18.2 76) = (m.2 76) from (fr2 Fm18 76 rfl)), (show (m18.2 78) = (m.2 78) from (fr2 Fm18 78 rfl)), (show (m18.2 79) = (m.2 79) from (fr2 Fm18 79 rfl)), (show (m18.1 73) = (m.1 73) from (fr1 Fm18 73 rfl)), (show (m18.1 74) = (m.1 74) from (fr1 Fm18 74 rfl))]; first | exact hXS | assumption), (show (m18.1 69) ≤ 64 by omega), (show 1 ≤ (m18.1 73) by rewrite [(show (m18.1 73) = (m.1 73) from (fr1 Fm18 73 rfl))]; omega), (show 9 * ((m18.1 73) - 1) ≤ ((9 * ((m.1 73) - 1)) + v17) ∧ ((9 * ((m.1 73) - 1)) + v17) < 9 * (m18.1 73) by rewrite [(show (m18.1 73) = (m.1 73) from (fr1 Fm18 73 rfl))]; omega), (show 0 ≤ (m18.2 80) ((9 * ((m.1 73) - 1)) + v17) by omega)⟩)) (fun rr103 k104 => ?_)
                  obtain ⟨m105, Tm105, Fm105, h106, h107, c108, rfl⟩ := k104
                  refine ⟨_, _, rfl, ?_⟩
                  refine T_nb (st' := []) rfl ?_
                  have g109 : 0 ≤ m105.1 10 ∧ m105.1 10 ≤ 8 := Tm105.1 10
                  have g110 : 0 ≤ m105.1 28 ∧ m105.1 28 ≤ 800 := Tm105.1 28
                  have g111 : 0 ≤ m105.1 69 ∧ m105.1 69 ≤ 1024 := Tm105.1 69
                  have g112 : 0 ≤ m105.1 70 ∧ m105.1 70 ≤ 4000 := Tm105.1 70
                  have g113 : 0 ≤ m105.1 71 ∧ m105.1 71 ≤ 1 := Tm105.1 71
                  have g114 : (-9223372036854775808) ≤ m105.1 72 ∧ m105.1 72 ≤ 9223372036854775807 := Tm105.1 72
                  by_cases hf115 : (m105.1 10) = 0
                  · skip
                    replace h106 : (m18.1 10) = 0 := h106 hf115
                    replace h107 : (m105.1 69) ≤ (m18.1 69) + 64 := h107
                    obtain ⟨c116, c117, c118, c119, c120⟩ := c108 hf115
                    replace c116 : (m105.1 69) ≤ 64 := c116
                    replace c117 : (m105.1 28) = (m18.1 28) + 1 := c117
                    replace c118 : XS (m105.2 65) (m105.2 67) (m18.2 76) (m18.2 78) (m18.2 79) (m105.2 80) B (m105.1 28) (m18.1 73) (m18.1 74) 1 := c118
                    rewrite [(show (m18.2 76) = (m.2 76) from (fr2 Fm18 76 rfl)), (show (m18.2 78) = (m.2 78) from (fr2 Fm18 78 rfl)), (show (m18.2 79) = (m.2 79) from (fr2 Fm18 79 rfl)), (show (m18.1 73) = (m.1 73) from (fr1 Fm18 73 rfl)), (show (m18.1 74) = (m.1 74) from (fr1 Fm18 74 rfl))] at c118
                    have hXS := c118
                    replace c119 : agr (m18.2 65) (m105.2 65) (m18.1 28) := c119
                    have hAg := c119
                    replace c120 : (m105.2 80) = upI (m18.2 80) ((9 * ((m.1 73) - 1)) + v17) (-1) := c120
                    have hWS := c120
                    clear c108
                    have hAgC : agr (m.2 65) (m105.2 65) (m.1 28) := by first | exact agr_r _ _ | exact hAgC | exact agr_t hAgC hAg (by omega)
                    refine T_iinc 201 [(3, .int (i32 (v17 + (-1)))), (0, .ref 189), (1, .int (i32 ((m.1 73) - 1))), (2, .int (i32 v11))] rfl rfl (by decide) rfl rfl ?_
                    refine T_goto 162 rfl (fun _ => rfl) ?_
                    refine Tm_lv (a := [(0, .ref 189), (1, .int (i32 ((m.1 73) - 1))), (2, .int (i32 v11)), (3, .int (i32 (v17 + (-1))))]) rfl rfl ⟨rfl, rfl, rfl, rfl, trivial⟩ ?_
                    exact ih27 (v17 + (-1)) (mO m105 [] []) (r32 (by omega) (by omega)) Tm105 (fr_m (fr_s Fm105 (fr_m (fr_s Fm18 (fr_m fr_0 rfl rfl) rfl rfl) rfl rfl) rfl rfl) rfl rfl) (show (v17 + (-1)) ≤ 8 by omega) (show (-1) ≤ (v17 + (-1)) by omega) (show (m105.1 69) ≤ 64 * (9 - (v17 + (-1))) by omega) (fun _ => ⟨(show XS (m105.2 65) (m105.2 67) (m.2 76) (m.2 78) (m.2 79) (m105.2 80) B (m105.1 28) (m.1 73) (m.1 74) 1 by exact hXS), (show (m105.1 69) ≤ 64 by omega), (show (m.1 28) ≤ (m105.1 28) by omega), (show agr (m.2 65) (m105.2 65) (m.1 28) by exact hAgC)⟩) (show (v17 + (-1)) + 1 < (n26 : Int) by omega)
                  · skip
                    clear c108
                    clear h106
                    replace h107 : (m105.1 69) ≤ (m18.1 69) + 64 := h107
                    have hf121 : 1 ≤ (m105.1 10) := by omega
                    refine T_iinc 201 [(3, .int (i32 (v17 + (-1)))), (0, .ref 189), (1, .int (i32 ((m.1 73) - 1))), (2, .int (i32 v11))] rfl rfl (by decide) rfl rfl ?_
                    refine T_goto 162 rfl (fun _ => rfl) ?_
                    refine Tm_lv (a := [(0, .ref 189), (1, .int (i32 ((m.1 73) - 1))), (2, .int (i32 v11)), (3, .int (i32 (v17 + (-1))))]) rfl rfl ⟨rfl, rfl, rfl, rfl, trivial⟩ ?_
                    exact ih27 (v17 + (-1)) (mO m105 [] []) (r32 (by omega) (by omega)) Tm105 (fr_m (fr_s Fm105 (fr_m (fr_s Fm18 (fr_m fr_0 rfl rfl) rfl rfl) rfl rfl) rfl rfl) rfl rfl) (show (v17 + (-1)) ≤ 8 by omega) (show (-1) ≤ (v17 + (-1)) by omega) (show (m105.1 69) ≤ 64 * (9 - (v17 + (-1))) by omega) (fun (h : (m105.1 10) = 0) => absurd h (by omega)) (show (v17 + (-1)) + 1 < (n26 : Int) by omega)
                · skip
                  refine T_goto 198 rfl (fun _ => rfl) ?_
                  refine T_iinc 201 [(3, .int (i32 (v17 + (-1)))), (0, .ref 189), (1, .int (i32 ((m.1 73) - 1))), (2, .int (i32 v11))] rfl rfl (by decide) rfl rfl ?_
                  refine T_goto 162 rfl (fun _ => rfl) ?_
                  refine Tm_lv (a := [(0, .ref 189), (1, .int (i32 ((m.1 73) - 1))), (2, .int (i32 v11)), (3, .int (i32 (v17 + (-1))))]) rfl rfl ⟨rfl, rfl, rfl, rfl, trivial⟩ ?_
                  exact ih27 (v17 + (-1)) (mO m18 [] []) (r32 (by omega) (by omega)) Tm18 (fr_m (fr_s Fm18 (fr_m fr_0 rfl rfl) rfl rfl) rfl rfl) (show (v17 + (-1)) ≤ 8 by omega) (show (-1) ≤ (v17 + (-1)) by omega) (show (m18.1 69) ≤ 64 * (9 - (v17 + (-1))) by omega) (fun _ => ⟨(show XS (m18.2 65) (m18.2 67) (m.2 76) (m.2 78) (m.2 79) (m18.2 80) B (m18.1 28) (m.1 73) (m.1 74) 1 by exact hXS), (show (m18.1 69) ≤ 64 by omega), (show (m.1 28) ≤ (m18.1 28) by omega), (show agr (m.2 65) (m18.2 65) (m.1 28) by exact hAgC)⟩) (show (v17 + (-1)) + 1 < (n26 : Int) by omega)
          · skip
            clear c25
            have hf122 : 1 ≤ (m18.1 10) := by omega
            refine T_ld 163 (.int (i32 v17)) rfl (fun _ => rfl) ?_
            refine T_if 204 166 rfl rfl rfl (r32 (by omega) (by omega)) (fun (h123 : v17 < 0) => ?_) (fun (h123 : ¬ (v17 < 0)) => ?_)
            · skip
              refine T_gf 208 (.int (i32 (m18.1 10))) rfl rfl rfl rfl rfl rfl ?_
              refine T_if 212 211 rfl rfl rfl (r32 (by omega) (by omega)) (fun (h124 : (m18.1 10) ≤ 0) => by exfalso; omega) (fun (h124 : ¬ ((m18.1 10) ≤ 0)) => ?_)
              refine T_ret rfl (fun _ => rfl) ?_
              exact ⟨(mO m18 [] []), Tm18, (fr_m (fr_s Fm18 (fr_m fr_0 rfl rfl) rfl rfl) rfl rfl), (show (m18.1 10) = 0 → (m.1 10) = 0 by omega), (show LxP (m18.1 7) (m18.1 8) (m18.1 9) (m.1 6) (m18.1 10) by rewrite [(show (m18.1 7) = (m.1 7) from (fr1 Fm18 7 rfl)), (show (m18.1 8) = (m.1 8) from (fr1 Fm18 8 rfl)), (show (m18.1 9) = (m.1 9) from (fr1 Fm18 9 rfl))]; first | (first | exact hLx | exact (fun _ => hLx (by omega)) | (intro h9; exfalso; omega)) | (exfalso; omega)), (fun (h : (m18.1 10) = 0) => absurd h (by omega)), rfl⟩
            · skip
              refine T_ld 167 (.int (i32 v17)) rfl (fun _ => rfl) ?_
              refine T_ld 168 (.int (i32 v11)) rfl (fun _ => rfl) ?_
              refine T_icmp 204 171 rfl rfl rfl (r32 (by omega) (by omega)) (r32 (by omega) (by omega)) (fun (h125 : v17 < v11) => ?_) (fun (h125 : ¬ (v17 < v11)) => ?_)
              · skip
                refine T_gf 208 (.int (i32 (m18.1 10))) rfl rfl rfl rfl rfl rfl ?_
                refine T_if 212 211 rfl rfl rfl (r32 (by omega) (by omega)) (fun (h126 : (m18.1 10) ≤ 0) => by exfalso; omega) (fun (h126 : ¬ ((m18.1 10) ≤ 0)) => ?_)
                refine T_ret rfl (fun _ => rfl) ?_
                exact ⟨(mO m18 [] []), Tm18, (fr_m (fr_s Fm18 (fr_m fr_0 rfl rfl) rfl rfl) rfl rfl), (show (m18.1 10) = 0 → (m.1 10) = 0 by omega), (show LxP (m18.1 7) (m18.1 8) (m18.1 9) (m.1 6) (m18.1 10) by rewrite [(show (m18.1 7) = (m.1 7) from (fr1 Fm18 7 rfl)), (show (m18.1 8) = (m.1 8) from (fr1 Fm18 8 rfl)), (show (m18.1 9) = (m.1 9) from (fr1 Fm18 9 rfl))]; first | (first | exact hLx | exact (fun _ => hLx (by omega)) | (intro h9; exfalso; omega)) | (exfalso; omega)), (fun (h : (m18.1 10) = 0) => absurd h (by omega)), rfl⟩
              · skip
                refine T_gf 175 (.ref 242) rfl rfl rfl rfl rfl rfl ?_
                refine T_ld 177 (.int (i32 9)) rfl (fun _ => rfl) ?_
                refine T_ld 178 (.int (i32 ((m.1 73) - 1))) rfl (fun _ => rfl) ?_
                refine T_imul 179 rfl rfl ?_
                refine T_ld 180 (.int (i32 v17)) rfl (fun _ => rfl) ?_
                refine T_iadd 181 rfl rfl ?_
                refine T_iald 182 80 (m18.2 80) rfl rfl rfl (by omega) (show ((9 * ((m.1 73) - 1)) + v17) < (540 : Int) by omega) rfl ?_
                have e127 : (-1) ≤ (m18.2 80) ((9 * ((m.1 73) - 1)) + v17) ∧ (m18.2 80) ((9 * ((m.1 73) - 1)) + v17) ≤ 330 := (Tm18.2.1 80) ((9 * ((m.1 73) - 1)) + v17)
                refine T_if 188 185 rfl rfl rfl (r32 (by omega) (by omega)) (fun (h128 : (0 : Int) ≤ (m18.2 80) ((9 * ((m.1 73) - 1)) + v17)) => ?_) (fun (h128 : ¬ ((0 : Int) ≤ (m18.2 80) ((9 * ((m.1 73) - 1)) + v17))) => ?_)
                · skip
                  refine T_ld 189 (.ref 189) rfl (fun _ => rfl) ?_
                  refine T_ld 191 (.int (i32 9)) rfl (fun _ => rfl) ?_
                  refine T_ld 192 (.int (i32 ((m.1 73) - 1))) rfl (fun _ => rfl) ?_
                  refine T_imul 193 rfl rfl ?_
                  refine T_ld 194 (.int (i32 v17)) rfl (fun _ => rfl) ?_
                  refine T_iadd 195 rfl rfl ?_
                  refine T_call 198 260 [.ref 189, .int (i32 ((9 * ((m.1 73) - 1)) + v17))] [] rfl (fun _ => rfl) rfl (c_join w (mO m18 [] []) c N D (by omega) Tm18 ((9 * ((m.1 73) - 1)) + v17) B (r32 (by omega) (by omega)) (show 0 ≤ ((9 * ((m.1 73) - 1)) + v17) ∧ ((9 * ((m.1 73) - 1)) + v17) ≤ 539 by omega) (show (m18.1 69) ≤ 900 by omega) (fun (h : (m18.1 10) = 0) => absurd h (by omega))) (fun rr129 k130 => ?_)
                  obtain ⟨m131, Tm131, Fm131, h132, h133, c134, rfl⟩ := k130
                  refine ⟨_, _, rfl, ?_⟩
                  refine T_nb (st' := []) rfl ?_
                  have g135 : 0 ≤ m131.1 10 ∧ m131.1 10 ≤ 8 := Tm131.1 10
                  have g136 : 0 ≤ m131.1 28 ∧ m131.1 28 ≤ 800 := Tm131.1 28
                  have g137 : 0 ≤ m131.1 69 ∧ m131.1 69 ≤ 1024 := Tm131.1 69
                  have g138 : 0 ≤ m131.1 70 ∧ m131.1 70 ≤ 4000 := Tm131.1 70
                  have g139 : 0 ≤ m131.1 71 ∧ m131.1 71 ≤ 1 := Tm131.1 71
                  have g140 : (-9223372036854775808) ≤ m131.1 72 ∧ m131.1 72 ≤ 9223372036854775807 := Tm131.1 72
                  replace h132 : (m131.1 10) = 0 → (m18.1 10) = 0 := h132
                  replace h133 : (m131.1 69) ≤ (m18.1 69) + 64 := h133
                  have hf141 : 1 ≤ (m131.1 10) := by omega
                  clear c134
                  clear h132
                  refine T_iinc 201 [(3, .int (i32 (v17 + (-1)))), (0, .ref 189), (1, .int (i32 ((m.1 73) - 1))), (2, .int (i32 v11))] rfl rfl (by decide) rfl rfl ?_
                  refine T_goto 162 rfl (fun _ => rfl) ?_
                  refine Tm_lv (a := [(0, .ref 189), (1, .int (i32 ((m.1 73) - 1))), (2, .int (i32 v11)), (3, .int (i32 (v17 + (-1))))]) rfl rfl ⟨rfl, rfl, rfl, rfl, trivial⟩ ?_
                  exact ih27 (v17 + (-1)) (mO m131 [] []) (r32 (by omega) (by omega)) Tm131 (fr_m (fr_s Fm131 (fr_m (fr_s Fm18 (fr_m fr_0 rfl rfl) rfl rfl) rfl rfl) rfl rfl) rfl rfl) (show (v17 + (-1)) ≤ 8 by omega) (show (-1) ≤ (v17 + (-1)) by omega) (show (m131.1 69) ≤ 64 * (9 - (v17 + (-1))) by omega) (fun (h : (m131.1 10) = 0) => absurd h (by omega)) (show (v17 + (-1)) + 1 < (n26 : Int) by omega)
                · skip
                  refine T_goto 198 rfl (fun _ => rfl) ?_
                  refine T_iinc 201 [(3, .int (i32 (v17 + (-1)))), (0, .ref 189), (1, .int (i32 ((m.1 73) - 1))), (2, .int (i32 v11))] rfl rfl (by decide) rfl rfl ?_
                  refine T_goto 162 rfl (fun _ => rfl) ?_
                  refine Tm_lv (a := [(0, .ref 189), (1, .int (i32 ((m.1 73) - 1))), (2, .int (i32 v11)), (3, .int (i32 (v17 + (-1))))]) rfl rfl ⟨rfl, rfl, rfl, rfl, trivial⟩ ?_
                  exact ih27 (v17 + (-1)) (mO m18 [] []) (r32 (by omega) (by omega)) Tm18 (fr_m (fr_s Fm18 (fr_m fr_0 rfl rfl) rfl rfl) rfl rfl) (show (v17 + (-1)) ≤ 8 by omega) (show (-1) ≤ (v17 + (-1)) by omega) (show (m18.1 69) ≤ 64 * (9 - (v17 + (-1))) by omega) (fun (h : (m18.1 10) = 0) => absurd h (by omega)) (show (v17 + (-1)) + 1 < (n26 : Int) by omega)
      refine Tm_lv (a := [(0, .ref 189), (1, .int (i32 ((m.1 73) - 1))), (2, .int (i32 v11)), (3, .int (i32 8))]) rfl rfl ⟨rfl, rfl, rfl, rfl, trivial⟩ ?_
      exact L162_19 (((8 : Int) + 1 : Int) + 1).toNat 8 (mO m [] []) ⟨by decide, by decide⟩ hT (fr_m fr_0 rfl rfl) (show (8 : Int) ≤ 8 by omega) (show (-1) ≤ (8 : Int) by omega) (show (m.1 69) ≤ 64 * (9 - (8 : Int)) by omega) (fun _ => ⟨(show XS (m.2 65) (m.2 67) (m.2 76) (m.2 78) (m.2 79) (m.2 80) B (m.1 28) (m.1 73) (m.1 74) 1 by exact hXS), (show (m.1 69) ≤ 64 by omega), (show (m.1 28) ≤ (m.1 28) by omega), (show agr (m.2 65) (m.2 65) (m.1 28) by exact hAgC)⟩) (show (8 : Int) + 1 < (((((8 : Int) + 1 : Int) + 1).toNat : Nat) : Int) by omega)
    refine T_ld 139 (.int (i32 x8)) rfl (fun _ => rfl) ?_
    refine T_ld 140 (.int (i32 2)) rfl (fun _ => rfl) ?_
    refine T_icmp 159 143 rfl rfl rfl (r32 (by omega) (by omega)) ⟨by decide, by decide⟩ (fun (h142 : x8 ≠ 2) => ?_) (fun (h142 : ¬ (x8 ≠ 2)) => ?_)
    · skip
      refine Tm_lv (a := [(0, .ref 189), (1, .int (i32 ((m.1 73) - 1))), (2, .int (i32 x8))]) rfl rfl ⟨rfl, rfl, rfl, trivial⟩ ?_
      exact J159_12 x8 (r32 (by omega) (by omega)) (show x8 = -1 ∨ (0 ≤ x8 ∧ x8 ≤ 8 ∧ 4 ≤ (m.1 7)) by omega)
    · skip
      refine T_gf 147 (.ref 242) rfl rfl rfl rfl rfl rfl ?_
      refine T_ld 149 (.int (i32 9)) rfl (fun _ => rfl) ?_
      refine T_ld 150 (.int (i32 ((m.1 73) - 1))) rfl (fun _ => rfl) ?_
      refine T_imul 151 rfl rfl ?_
      refine T_ld 152 (.int (i32 2)) rfl (fun _ => rfl) ?_
      refine T_iadd 153 rfl rfl ?_
      refine T_iald 154 80 (m.2 80) rfl rfl rfl (by omega) (show ((9 * ((m.1 73) - 1)) + 2) < (540 : Int) by omega) rfl ?_
      have e143 : (-1) ≤ (m.2 80) ((9 * ((m.1 73) - 1)) + 2) ∧ (m.2 80) ((9 * ((m.1 73) - 1)) + 2) ≤ 330 := (hT.2.1 80) ((9 * ((m.1 73) - 1)) + 2)
      refine T_if 159 157 rfl rfl rfl (r32 (by omega) (by omega)) (fun (h144 : (m.2 80) ((9 * ((m.1 73) - 1)) + 2) < 0) => ?_) (fun (h144 : ¬ ((m.2 80) ((9 * ((m.1 73) - 1)) + 2) < 0)) => ?_)
      · skip
        refine Tm_lv (a := [(0, .ref 189), (1, .int (i32 ((m.1 73) - 1))), (2, .int (i32 x8))]) rfl rfl ⟨rfl, rfl, rfl, trivial⟩ ?_
        exact J159_12 x8 (r32 (by omega) (by omega)) (show x8 = -1 ∨ (0 ≤ x8 ∧ x8 ≤ 8 ∧ 4 ≤ (m.1 7)) by omega)
      · skip
        refine T_ld 158 (.int (i32 (-1))) rfl (fun _ => rfl) ?_
        refine T_sto 159 [(2, .int (i32 (-1))), (1, .int (i32 ((m.1 73) - 1))), (0, .ref 189)] rfl (fun _ => rfl) ?_
        refine Tm_lv (a := [(0, .ref 189), (1, .int (i32 ((m.1 73) - 1))), (2, .int (i32 (-1)))]) rfl rfl ⟨rfl, rfl, rfl, trivial⟩ ?_
        exact J159_12 (-1) ⟨by decide, by decide⟩ (show (-1 : Int) = -1 ∨ (0 ≤ (-1 : Int) ∧ (-1 : Int) ≤ 8 ∧ 4 ≤ (m.1 7)) by omega)
  · skip
    obtain ⟨hXP, hh2⟩ := XS_pop1 hXS (by omega) (by omega) (hT.2.1 79 _).1
    have hos := hXS.1.2.2.2.1 ((m.1 73) - 1) (by omega) (by omega) (by omega)
    have hEX := hXP.1.1
    have hl0 : 0 ≤ lh (m.2 79) (m.2 80) ((m.1 73) - 1) := lh_0 (hT.2.1 79) _ _
    refine T_gf 21 (.ref 239) rfl rfl rfl rfl rfl rfl ?_
    refine T_ld 22 (.int (i32 ((m.1 73) - 1))) rfl (fun _ => rfl) ?_
    refine T_iald 23 77 (m.2 77) rfl rfl rfl (by omega) (show ((m.1 73) - 1) < (60 : Int) by omega) rfl ?_
    have e145 : 0 ≤ (m.2 77) ((m.1 73) - 1) ∧ (m.2 77) ((m.1 73) - 1) ≤ 4000 := (hT.2.1 77) ((m.1 73) - 1)
    refine T_sto 24 [(2, .int (i32 ((m.2 77) ((m.1 73) - 1)))), (1, .int (i32 ((m.1 73) - 1))), (0, .ref 189)] rfl (fun _ => rfl) ?_
    refine T_gf 28 (.int (i32 (m.1 69))) rfl rfl rfl rfl rfl rfl ?_
    refine T_sto 29 [(3, .int (i32 (m.1 69))), (2, .int (i32 ((m.2 77) ((m.1 73) - 1)))), (1, .int (i32 ((m.1 73) - 1))), (0, .ref 189)] rfl (fun _ => rfl) ?_
    refine T_gf 33 (.ref 240) rfl rfl rfl rfl rfl rfl ?_
    refine T_ld 34 (.int (i32 ((m.1 73) - 1))) rfl (fun _ => rfl) ?_
    refine T_iald 35 78 (m.2 78) rfl rfl rfl (by omega) (show ((m.1 73) - 1) < (60 : Int) by omega) rfl ?_
    have e146 : 0 ≤ (m.2 78) ((m.1 73) - 1) ∧ (m.2 78) ((m.1 73) - 1) ≤ 330 := (hT.2.1 78) ((m.1 73) - 1)
    refine T_ld 37 (.int (i32 33)) rfl (fun _ => rfl) ?_
    refine T_icmp 60 40 rfl rfl rfl (r32 (by omega) (by omega)) ⟨by decide, by decide⟩ (fun (h147 : (m.2 78) ((m.1 73) - 1) ≠ 33) => ?_) (fun (h147 : ¬ ((m.2 78) ((m.1 73) - 1) ≠ 33)) => ?_)
    · skip
      refine T_gf 64 (.ref 240) rfl rfl rfl rfl rfl rfl ?_
      refine T_ld 65 (.int (i32 ((m.1 73) - 1))) rfl (fun _ => rfl) ?_
      refine T_iald 66 78 (m.2 78) rfl rfl rfl (by omega) (show ((m.1 73) - 1) < (60 : Int) by omega) rfl ?_
      have e148 : 0 ≤ (m.2 78) ((m.1 73) - 1) ∧ (m.2 78) ((m.1 73) - 1) ≤ 330 := (hT.2.1 78) ((m.1 73) - 1)
      refine T_ld 68 (.int (i32 33)) rfl (fun _ => rfl) ?_
      have J73_150 : ∀ (v149 : Int), (R32 v149) → (0 ≤ v149) → (v149 ≤ 64) → TT w D pm_257 (73, [(0, .ref 189), (1, .int (i32 ((m.1 73) - 1))), (2, .int (i32 ((m.2 77) ((m.1 73) - 1)))), (3, .int (i32 v149))], [], (mhp (mO m [] []) c, N), 0, 0) (Q_goOn m c N B) := by
        intro v149 q153 ic151 ic152
        obtain ⟨q153a, q153b⟩ := id q153
        refine T_ld 74 (.ref 189) rfl (fun _ => rfl) ?_
        refine T_ld 75 (.ref 189) rfl (fun _ => rfl) ?_
        refine T_gf1 78 (.int (i32 (m.1 73))) rfl rfl rfl rfl ?_
        refine T_ld 79 (.int (i32 1)) rfl (fun _ => rfl) ?_
        refine T_isub 80 rfl rfl ?_
        refine T_pf (l' := [(73, (m.1 73) - 1)]) 83 ((m.1 73) - 1) rfl rfl rfl rfl rfl rfl ?_
        have g156 : 0 ≤ (m.1 73) - 1 ∧ (m.1 73) - 1 ≤ 60 := ⟨by omega, by omega⟩
        refine T_ld 84 (.ref 189) rfl (fun _ => rfl) ?_
        refine T_ld 85 (.ref 189) rfl (fun _ => rfl) ?_
        refine T_gf1 88 (.int (i32 (m.1 74))) rfl rfl rfl rfl ?_
        refine T_ld 89 (.int (i32 1)) rfl (fun _ => rfl) ?_
        refine T_isub 90 rfl rfl ?_
        refine T_pf (l' := [(73, (m.1 73) - 1), (74, (m.1 74) - 1)]) 93 ((m.1 74) - 1) rfl rfl rfl rfl rfl rfl ?_
        have g157 : 0 ≤ (m.1 74) - 1 ∧ (m.1 74) - 1 ≤ 24 := ⟨by omega, by omega⟩
        refine T_ld 94 (.ref 189) rfl (fun _ => rfl) ?_
        refine T_gf 98 (.ref 240) rfl rfl rfl rfl rfl rfl ?_
        refine T_ld 99 (.int (i32 ((m.1 73) - 1))) rfl (fun _ => rfl) ?_
        refine T_iald 100 78 (m.2 78) rfl rfl rfl (by omega) (show ((m.1 73) - 1) < (60 : Int) by omega) rfl ?_
        have e158 : 0 ≤ (m.2 78) ((m.1 73) - 1) ∧ (m.2 78) ((m.1 73) - 1) ≤ 330 := (hT.2.1 78) ((m.1 73) - 1)
        refine T_ld 102 (.int (i32 45)) rfl (fun _ => rfl) ?_
        refine T_icmp 111 105 rfl rfl rfl (r32 (by omega) (by omega)) ⟨by decide, by decide⟩ (fun (h159 : (m.2 78) ((m.1 73) - 1) ≠ 45) => ?_) (fun (h159 : ¬ ((m.2 78) ((m.1 73) - 1) ≠ 45)) => ?_)
        · skip
          refine T_gf 115 (.ref 240) rfl rfl rfl rfl rfl rfl ?_
          refine T_ld 116 (.int (i32 ((m.1 73) - 1))) rfl (fun _ => rfl) ?_
          refine T_iald 117 78 (m.2 78) rfl rfl rfl (by omega) (show ((m.1 73) - 1) < (60 : Int) by omega) rfl ?_
          have e160 : 0 ≤ (m.2 78) ((m.1 73) - 1) ∧ (m.2 78) ((m.1 73) - 1) ≤ 330 := (hT.2.1 78) ((m.1 73) - 1)
          have hA : ar ((m.2 78) ((m.1 73) - 1)) = 1 := ar_1 (by omega)
          have hAr : ar ((m.2 78) ((m.1 73) - 1)) ≤ 1 + lh (m.2 79) (m.2 80) ((m.1 73) - 1) := by omega
          have hCk : CNk ((m.2 78) ((m.1 73) - 1)) 0 := by refine ⟨?_, ?_, ?_, ?_⟩ <;> omega
          refine T_ld 118 (.int (i32 v149)) rfl (fun _ => rfl) ?_
          refine T_ld 119 (.int (i32 0)) rfl (fun _ => rfl) ?_
          refine T_ld 120 (.long (i64 0)) rfl (fun _ => rfl) ?_
          refine T_call 123 248 [.ref 189, .int (i32 ((m.2 78) ((m.1 73) - 1))), .int (i32 v149), .int (i32 0), .long (i64 0)] [] rfl (fun _ => rfl) rfl (c_node w (mO m [(73, (m.1 73) - 1), (74, (m.1 74) - 1)] []) c N D (by omega) (Ty_mO hT rfl rfl ⟨g156, g157, trivial⟩ trivial) ((m.2 78) ((m.1 73) - 1)) v149 0 0 B (1 + lh (m.2 79) (m.2 80) ((m.1 73) - 1)) (r32 (by omega) (by omega)) (r32 (by omega) (by omega)) ⟨by decide, by decide⟩ ⟨by decide, by decide⟩ (fun _ => ⟨(show 0 ≤ ((m.2 78) ((m.1 73) - 1)) ∧ ((m.2 78) ((m.1 73) - 1)) ≤ 408 by first | omega | decide), (show 0 ≤ v149 ∧ v149 ≤ 64 by first | omega | decide), (show 0 ≤ (0 : Int) ∧ (0 : Int) ≤ 191 by first | omega | decide), (show CNk ((m.2 78) ((m.1 73) - 1)) (0 : Int) by first | exact hCk | (refine ⟨?_, ?_, ?_, ?_⟩ <;> omega)), (show ar ((m.2 78) ((m.1 73) - 1)) ≤ (1 + lh (m.2 79) (m.2 80) ((m.1 73) - 1)) by first | exact hAr | omega), (show EX (m.2 65) (m.2 67) B (m.1 28) (1 + lh (m.2 79) (m.2 80) ((m.1 73) - 1)) by first | exact hEX | assumption)⟩)) (fun rr161 k162 => ?_)
          obtain ⟨m163, Tm163, Fm163, h164, c165, rfl⟩ := k162
          refine ⟨_, _, rfl, ?_⟩
          refine T_nb (st' := []) rfl ?_
          have g166 : 0 ≤ m163.1 10 ∧ m163.1 10 ≤ 8 := Tm163.1 10
          have g167 : 0 ≤ m163.1 28 ∧ m163.1 28 ≤ 800 := Tm163.1 28
          by_cases hf168 : (m163.1 10) = 0
          · skip
            replace h164 : (m.1 10) = 0 := h164 hf168
            obtain ⟨c169, c170, c171⟩ := c165 hf168
            replace c169 : (m163.1 28) = (m.1 28) + 1 := c169
            replace c170 : EX (m163.2 65) (m163.2 67) B (m163.1 28) ((1 + lh (m.2 79) (m.2 80) ((m.1 73) - 1)) + 1 - ar ((m.2 78) ((m.1 73) - 1))) := c170
            have hEX := c170
            replace c171 : agr (m.2 65) (m163.2 65) (m.1 28) := c171
            have hAg := c171
            clear c165
            have hAgC : agr (m.2 65) (m163.2 65) (m.1 28) := by first | exact agr_r _ _ | exact hAgC | exact agr_t hAgC hAg (by omega)
            have hXE : XS (m163.2 65) (m163.2 67) (m.2 76) (m.2 78) (m.2 79) (m.2 80) B (m163.1 28) ((m.1 73) - 1) ((m.1 74) - 1) (um (m.1 75)) := by
              rw [show um (m.1 75) = 1 from if_neg (by omega)]
              exact XS_of hXP hEX (by omega)
            refine T_ld 124 (.ref 189) rfl (fun _ => rfl) ?_
            refine T_ld 125 (.int (i32 v149)) rfl (fun _ => rfl) ?_
            refine T_ld 126 (.int (i32 ((m.2 77) ((m.1 73) - 1)))) rfl (fun _ => rfl) ?_
            refine T_call 129 250 [.ref 189, .int (i32 v149), .int (i32 ((m.2 77) ((m.1 73) - 1)))] [] rfl (fun _ => rfl) rfl (c_unit w (mO m163 [] []) c N D (by omega) Tm163 v149 ((m.2 77) ((m.1 73) - 1)) (r32 (by omega) (by omega)) (r32 (by omega) (by omega)) (show 0 ≤ v149 ∧ v149 ≤ 1024 by omega) (show 0 ≤ ((m.2 77) ((m.1 73) - 1)) ∧ ((m.2 77) ((m.1 73) - 1)) ≤ 4000 by omega)) (fun rr172 k173 => ?_)
            obtain ⟨m174, Tm174, Fm174, h175, rfl⟩ := k173
            refine ⟨_, _, rfl, ?_⟩
            refine T_nb (st' := []) rfl ?_
            have g176 : 0 ≤ m174.1 69 ∧ m174.1 69 ≤ 1024 := Tm174.1 69
            have g177 : 0 ≤ m174.1 70 ∧ m174.1 70 ≤ 4000 := Tm174.1 70
            have g178 : 0 ≤ m174.1 71 ∧ m174.1 71 ≤ 1 := Tm174.1 71
            have g179 : (-9223372036854775808) ≤ m174.1 72 ∧ m174.1 72 ≤ 9223372036854775807 := Tm174.1 72
            replace h175 : (m174.1 69) = v149 := h175
            have hAgC : agr (m.2 65) (m163.2 65) (m.1 28) := by first | exact agr_r _ _ | exact hAgC | exact agr_t hAgC hAg (by omega)
            refine T_ret rfl (fun _ => rfl) ?_
            exact ⟨(mO m174 [] []), Tm174, (fr_m (fr_s Fm174 (fr_m (fr_s Fm163 (fr_m fr_0 rfl rfl) rfl rfl) rfl rfl) rfl rfl) rfl rfl), (show (m174.1 10) = 0 → (m.1 10) = 0 by rewrite [(show (m174.1 10) = (m163.1 10) from (fr1 Fm174 10 rfl))]; omega), (show LxP (m174.1 7) (m174.1 8) (m174.1 9) (m.1 6) (m174.1 10) by rewrite [(show (m174.1 7) = (m.1 7) from ((fr1 Fm174 7 rfl).trans (fr1 Fm163 7 rfl))), (show (m174.1 8) = (m.1 8) from ((fr1 Fm174 8 rfl).trans (fr1 Fm163 8 rfl))), (show (m174.1 9) = (m.1 9) from ((fr1 Fm174 9 rfl).trans (fr1 Fm163 9 rfl))), (show (m174.1 10) = (m163.1 10) from (fr1 Fm174 10 rfl))]; first | (first | exact hLx | exact (fun _ => hLx (by omega)) | (intro h9; exfalso; omega)) | (exfalso; omega)), (fun _ => ⟨(show GPc (m.1 8) (m174.1 8) (m174.1 75) (m174.1 73) (m.1 73) by rewrite [(show (m174.1 8) = (m.1 8) from ((fr1 Fm174 8 rfl).trans (fr1 Fm163 8 rfl))), (show (m174.1 75) = (m.1 75) from ((fr1 Fm174 75 rfl).trans (fr1 Fm163 75 rfl))), (show (m174.1 73) = ((m.1 73) - 1) from ((fr1 Fm174 73 rfl).trans (fr1 Fm163 73 rfl)))]; first | (first | assumption | (unfold GPc; omega)) | (exfalso; omega)), (show GU (m174.1 75) (m174.1 69) by rewrite [(show (m174.1 75) = (m.1 75) from ((fr1 Fm174 75 rfl).trans (fr1 Fm163 75 rfl)))]; first | (first | assumption | (unfold GU; omega)) | (exfalso; omega)), (show GH (m174.1 75) (m174.1 73) by rewrite [(show (m174.1 75) = (m.1 75) from ((fr1 Fm174 75 rfl).trans (fr1 Fm163 75 rfl))), (show (m174.1 73) = ((m.1 73) - 1) from ((fr1 Fm174 73 rfl).trans (fr1 Fm163 73 rfl)))]; first | (first | assumption | (unfold GH; omega)) | (exfalso; omega)), (show (m.1 28) ≤ (m174.1 28) by rewrite [(show (m174.1 28) = (m163.1 28) from (fr1 Fm174 28 rfl))]; omega), (show XS (m174.2 65) (m174.2 67) (m174.2 76) (m174.2 78) (m174.2 79) (m174.2 80) B (m174.1 28) (m174.1 73) (m174.1 74) (um (m174.1 75)) by rewrite [(show (m174.2 65) = (m163.2 65) from (fr2 Fm174 65 rfl)), (show (m174.2 67) = (m163.2 67) from (fr2 Fm174 67 rfl)), (show (m174.2 76) = (m.2 76) from ((fr2 Fm174 76 rfl).trans (fr2 Fm163 76 rfl))), (show (m174.2 78) = (m.2 78) from ((fr2 Fm174 78 rfl).trans (fr2 Fm163 78 rfl))), (show (m174.2 79) = (m.2 79) from ((fr2 Fm174 79 rfl).trans (fr2 Fm163 79 rfl))), (show (m174.2 80) = (m.2 80) from ((fr2 Fm174 80 rfl).trans (fr2 Fm163 80 rfl))), (show (m174.1 28) = (m163.1 28) from (fr1 Fm174 28 rfl)), (show (m174.1 73) = ((m.1 73) - 1) from ((fr1 Fm174 73 rfl).trans (fr1 Fm163 73 rfl))), (show (m174.1 74) = ((m.1 74) - 1) from ((fr1 Fm174 74 rfl).trans (fr1 Fm163 74 rfl))), (show (m174.1 75) = (m.1 75) from ((fr1 Fm174 75 rfl).trans (fr1 Fm163 75 rfl)))]; first | (exact hXE) | (exfalso; omega)), (show agr (m.2 65) (m174.2 65) (m.1 28) by rewrite [(show (m174.2 65) = (m163.2 65) from (fr2 Fm174 65 rfl))]; first | (exact hAgC) | (exfalso; omega))⟩), rfl⟩
          · skip
            clear c165
            clear h164
            have hf180 : 1 ≤ (m163.1 10) := by omega
            refine T_ld 124 (.ref 189) rfl (fun _ => rfl) ?_
            refine T_ld 125 (.int (i32 v149)) rfl (fun _ => rfl) ?_
            refine T_ld 126 (.int (i32 ((m.2 77) ((m.1 73) - 1)))) rfl (fun _ => rfl) ?_
            refine T_call 129 250 [.ref 189, .int (i32 v149), .int (i32 ((m.2 77) ((m.1 73) - 1)))] [] rfl (fun _ => rfl) rfl (c_unit w (mO m163 [] []) c N D (by omega) Tm163 v149 ((m.2 77) ((m.1 73) - 1)) (r32 (by omega) (by omega)) (r32 (by omega) (by omega)) (show 0 ≤ v149 ∧ v149 ≤ 1024 by omega) (show 0 ≤ ((m.2 77) ((m.1 73) - 1)) ∧ ((m.2 77) ((m.1 73) - 1)) ≤ 4000 by omega)) (fun rr181 k182 => ?_)
            obtain ⟨m183, Tm183, Fm183, h184, rfl⟩ := k182
            refine ⟨_, _, rfl, ?_⟩
            refine T_nb (st' := []) rfl ?_
            have g185 : 0 ≤ m183.1 69 ∧ m183.1 69 ≤ 1024 := Tm183.1 69
            have g186 : 0 ≤ m183.1 70 ∧ m183.1 70 ≤ 4000 := Tm183.1 70
            have g187 : 0 ≤ m183.1 71 ∧ m183.1 71 ≤ 1 := Tm183.1 71
            have g188 : (-9223372036854775808) ≤ m183.1 72 ∧ m183.1 72 ≤ 9223372036854775807 := Tm183.1 72
            replace h184 : (m183.1 69) = v149 := h184
            refine T_ret rfl (fun _ => rfl) ?_
            exact ⟨(mO m183 [] []), Tm183, (fr_m (fr_s Fm183 (fr_m (fr_s Fm163 (fr_m fr_0 rfl rfl) rfl rfl) rfl rfl) rfl rfl) rfl rfl), (show (m183.1 10) = 0 → (m.1 10) = 0 by rewrite [(show (m183.1 10) = (m163.1 10) from (fr1 Fm183 10 rfl))]; omega), (show LxP (m183.1 7) (m183.1 8) (m183.1 9) (m.1 6) (m183.1 10) by rewrite [(show (m183.1 7) = (m.1 7) from ((fr1 Fm183 7 rfl).trans (fr1 Fm163 7 rfl))), (show (m183.1 8) = (m.1 8) from ((fr1 Fm183 8 rfl).trans (fr1 Fm163 8 rfl))), (show (m183.1 9) = (m.1 9) from ((fr1 Fm183 9 rfl).trans (fr1 Fm163 9 rfl))), (show (m183.1 10) = (m163.1 10) from (fr1 Fm183 10 rfl))]; first | (first | exact hLx | exact (fun _ => hLx (by omega)) | (intro h9; exfalso; omega)) | (exfalso; omega)), (fun (h : (m183.1 10) = 0) => absurd ((show (m183.1 10) = (m163.1 10) from (fr1 Fm183 10 rfl)).symm.trans h) (by omega)), rfl⟩
        · skip
          refine T_ld 108 (.int (i32 408)) rfl (fun _ => rfl) ?_
          refine T_goto 117 rfl (fun _ => rfl) ?_
          have hA : ar 408 = 1 := ar_1 (by omega)
          have hAr : ar 408 ≤ 1 + lh (m.2 79) (m.2 80) ((m.1 73) - 1) := by omega
          have hCk : CNk 408 0 := by refine ⟨?_, ?_, ?_, ?_⟩ <;> omega
          refine T_ld 118 (.int (i32 v149)) rfl (fun _ => rfl) ?_
          refine T_ld 119 (.int (i32 0)) rfl (fun _ => rfl) ?_
          refine T_ld 120 (.long (i64 0)) rfl (fun _ => rfl) ?_
          refine T_call 123 248 [.ref 189, .int (i32 408), .int (i32 v149), .int (i32 0), .long (i64 0)] [] rfl (fun _ => rfl) rfl (c_node w (mO m [(73, (m.1 73) - 1), (74, (m.1 74) - 1)] []) c N D (by omega) (Ty_mO hT rfl rfl ⟨g156, g157, trivial⟩ trivial) 408 v149 0 0 B (1 + lh (m.2 79) (m.2 80) ((m.1 73) - 1)) ⟨by decide, by decide⟩ (r32 (by omega) (by omega)) ⟨by decide, by decide⟩ ⟨by decide, by decide⟩ (fun _ => ⟨(show 0 ≤ (408 : Int) ∧ (408 : Int) ≤ 408 by first | omega | decide), (show 0 ≤ v149 ∧ v149 ≤ 64 by first | omega | decide), (show 0 ≤ (0 : Int) ∧ (0 : Int) ≤ 191 by first | omega | decide), (show CNk (408 : Int) (0 : Int) by first | exact hCk | (refine ⟨?_, ?_, ?_, ?_⟩ <;> omega)), (show ar (408 : Int) ≤ (1 + lh (m.2 79) (m.2 80) ((m.1 73) - 1)) by first | exact hAr | omega), (show EX (m.2 65) (m.2 67) B (m.1 28) (1 + lh (m.2 79) (m.2 80) ((m.1 73) - 1)) by first | exact hEX | assumption)⟩)) (fun rr189 k190 => ?_)
          obtain ⟨m191, Tm191, Fm191, h192, c193, rfl⟩ := k190
          refine ⟨_, _, rfl, ?_⟩
          refine T_nb (st' := []) rfl ?_
          have g194 : 0 ≤ m191.1 10 ∧ m191.1 10 ≤ 8 := Tm191.1 10
          have g195 : 0 ≤ m191.1 28 ∧ m191.1 28 ≤ 800 := Tm191.1 28
          by_cases hf196 : (m191.1 10) = 0
          · skip
            replace h192 : (m.1 10) = 0 := h192 hf196
            obtain ⟨c197, c198, c199⟩ := c193 hf196
            replace c197 : (m191.1 28) = (m.1 28) + 1 := c197
            replace c198 : EX (m191.2 65) (m191.2 67) B (m191.1 28) ((1 + lh (m.2 79) (m.2 80) ((m.1 73) - 1)) + 1 - ar (408 : Int)) := c198
            have hEX := c198
            replace c199 : agr (m.2 65) (m191.2 65) (m.1 28) := c199
            have hAg := c199
            clear c193
            have hAgC : agr (m.2 65) (m191.2 65) (m.1 28) := by first | exact agr_r _ _ | exact hAgC | exact agr_t hAgC hAg (by omega)
            have hXE : XS (m191.2 65) (m191.2 67) (m.2 76) (m.2 78) (m.2 79) (m.2 80) B (m191.1 28) ((m.1 73) - 1) ((m.1 74) - 1) (um (m.1 75)) := by
              rw [show um (m.1 75) = 1 from if_neg (by omega)]
              exact XS_of hXP hEX (by omega)
            refine T_ld 124 (.ref 189) rfl (fun _ => rfl) ?_
            refine T_ld 125 (.int (i32 v149)) rfl (fun _ => rfl) ?_
            refine T_ld 126 (.int (i32 ((m.2 77) ((m.1 73) - 1)))) rfl (fun _ => rfl) ?_
            refine T_call 129 250 [.ref 189, .int (i32 v149), .int (i32 ((m.2 77) ((m.1 73) - 1)))] [] rfl (fun _ => rfl) rfl (c_unit w (mO m191 [] []) c N D (by omega) Tm191 v149 ((m.2 77) ((m.1 73) - 1)) (r32 (by omega) (by omega)) (r32 (by omega) (by omega)) (show 0 ≤ v149 ∧ v149 ≤ 1024 by omega) (show 0 ≤ ((m.2 77) ((m.1 73) - 1)) ∧ ((m.2 77) ((m.1 73) - 1)) ≤ 4000 by omega)) (fun rr200 k201 => ?_)
            obtain ⟨m202, Tm202, Fm202, h203, rfl⟩ := k201
            refine ⟨_, _, rfl, ?_⟩
            refine T_nb (st' := []) rfl ?_
            have g204 : 0 ≤ m202.1 69 ∧ m202.1 69 ≤ 1024 := Tm202.1 69
            have g205 : 0 ≤ m202.1 70 ∧ m202.1 70 ≤ 4000 := Tm202.1 70
            have g206 : 0 ≤ m202.1 71 ∧ m202.1 71 ≤ 1 := Tm202.1 71
            have g207 : (-9223372036854775808) ≤ m202.1 72 ∧ m202.1 72 ≤ 9223372036854775807 := Tm202.1 72
            replace h203 : (m202.1 69) = v149 := h203
            have hAgC : agr (m.2 65) (m191.2 65) (m.1 28) := by first | exact agr_r _ _ | exact hAgC | exact agr_t hAgC hAg (by omega)
            refine T_ret rfl (fun _ => rfl) ?_
            exact ⟨(mO m202 [] []), Tm202, (fr_m (fr_s Fm202 (fr_m (fr_s Fm191 (fr_m fr_0 rfl rfl) rfl rfl) rfl rfl) rfl rfl) rfl rfl), (show (m202.1 10) = 0 → (m.1 10) = 0 by rewrite [(show (m202.1 10) = (m191.1 10) from (fr1 Fm202 10 rfl))]; omega), (show LxP (m202.1 7) (m202.1 8) (m202.1 9) (m.1 6) (m202.1 10) by rewrite [(show (m202.1 7) = (m.1 7) from ((fr1 Fm202 7 rfl).trans (fr1 Fm191 7 rfl))), (show (m202.1 8) = (m.1 8) from ((fr1 Fm202 8 rfl).trans (fr1 Fm191 8 rfl))), (show (m202.1 9) = (m.1 9) from ((fr1 Fm202 9 rfl).trans (fr1 Fm191 9 rfl))), (show (m202.1 10) = (m191.1 10) from (fr1 Fm202 10 rfl))]; first | (first | exact hLx | exact (fun _ => hLx (by omega)) | (intro h9; exfalso; omega)) | (exfalso; omega)), (fun _ => ⟨(show GPc (m.1 8) (m202.1 8) (m202.1 75) (m202.1 73) (m.1 73) by rewrite [(show (m202.1 8) = (m.1 8) from ((fr1 Fm202 8 rfl).trans (fr1 Fm191 8 rfl))), (show (m202.1 75) = (m.1 75) from ((fr1 Fm202 75 rfl).trans (fr1 Fm191 75 rfl))), (show (m202.1 73) = ((m.1 73) - 1) from ((fr1 Fm202 73 rfl).trans (fr1 Fm191 73 rfl)))]; first | (first | assumption | (unfold GPc; omega)) | (exfalso; omega)), (show GU (m202.1 75) (m202.1 69) by rewrite [(show (m202.1 75) = (m.1 75) from ((fr1 Fm202 75 rfl).trans (fr1 Fm191 75 rfl)))]; first | (first | assumption | (unfold GU; omega)) | (exfalso; omega)), (show GH (m202.1 75) (m202.1 73) by rewrite [(show (m202.1 75) = (m.1 75) from ((fr1 Fm202 75 rfl).trans (fr1 Fm191 75 rfl))), (show (m202.1 73) = ((m.1 73) - 1) from ((fr1 Fm202 73 rfl).trans (fr1 Fm191 73 rfl)))]; first | (first | assumption | (unfold GH; omega)) | (exfalso; omega)), (show (m.1 28) ≤ (m202.1 28) by rewrite [(show (m202.1 28) = (m191.1 28) from (fr1 Fm202 28 rfl))]; omega), (show XS (m202.2 65) (m202.2 67) (m202.2 76) (m202.2 78) (m202.2 79) (m202.2 80) B (m202.1 28) (m202.1 73) (m202.1 74) (um (m202.1 75)) by rewrite [(show (m202.2 65) = (m191.2 65) from (fr2 Fm202 65 rfl)), (show (m202.2 67) = (m191.2 67) from (fr2 Fm202 67 rfl)), (show (m202.2 76) = (m.2 76) from ((fr2 Fm202 76 rfl).trans (fr2 Fm191 76 rfl))), (show (m202.2 78) = (m.2 78) from ((fr2 Fm202 78 rfl).trans (fr2 Fm191 78 rfl))), (show (m202.2 79) = (m.2 79) from ((fr2 Fm202 79 rfl).trans (fr2 Fm191 79 rfl))), (show (m202.2 80) = (m.2 80) from ((fr2 Fm202 80 rfl).trans (fr2 Fm191 80 rfl))), (show (m202.1 28) = (m191.1 28) from (fr1 Fm202 28 rfl)), (show (m202.1 73) = ((m.1 73) - 1) from ((fr1 Fm202 73 rfl).trans (fr1 Fm191 73 rfl))), (show (m202.1 74) = ((m.1 74) - 1) from ((fr1 Fm202 74 rfl).trans (fr1 Fm191 74 rfl))), (show (m202.1 75) = (m.1 75) from ((fr1 Fm202 75 rfl).trans (fr1 Fm191 75 rfl)))]; first | (exact hXE) | (exfalso; omega)), (show agr (m.2 65) (m202.2 65) (m.1 28) by rewrite [(show (m202.2 65) = (m191.2 65) from (fr2 Fm202 65 rfl))]; first | (exact hAgC) | (exfalso; omega))⟩), rfl⟩
          · skip
            clear c193
            clear h192
            have hf208 : 1 ≤ (m191.1 10) := by omega
            refine T_ld 124 (.ref 189) rfl (fun _ => rfl) ?_
            refine T_ld 125 (.int (i32 v149)) rfl (fun _ => rfl) ?_
            refine T_ld 126 (.int (i32 ((m.2 77) ((m.1 73) - 1)))) rfl (fun _ => rfl) ?_
            refine T_call 129 250 [.ref 189, .int (i32 v149), .int (i32 ((m.2 77) ((m.1 73) - 1)))] [] rfl (fun _ => rfl) rfl (c_unit w (mO m191 [] []) c N D (by omega) Tm191 v149 ((m.2 77) ((m.1 73) - 1)) (r32 (by omega) (by omega)) (r32 (by omega) (by omega)) (show 0 ≤ v149 ∧ v149 ≤ 1024 by omega) (show 0 ≤ ((m.2 77) ((m.1 73) - 1)) ∧ ((m.2 77) ((m.1 73) - 1)) ≤ 4000 by omega)) (fun rr209 k210 => ?_)
            obtain ⟨m211, Tm211, Fm211, h212, rfl⟩ := k210
            refine ⟨_, _, rfl, ?_⟩
            refine T_nb (st' := []) rfl ?_
            have g213 : 0 ≤ m211.1 69 ∧ m211.1 69 ≤ 1024 := Tm211.1 69
            have g214 : 0 ≤ m211.1 70 ∧ m211.1 70 ≤ 4000 := Tm211.1 70
            have g215 : 0 ≤ m211.1 71 ∧ m211.1 71 ≤ 1 := Tm211.1 71
            have g216 : (-9223372036854775808) ≤ m211.1 72 ∧ m211.1 72 ≤ 9223372036854775807 := Tm211.1 72
            replace h212 : (m211.1 69) = v149 := h212
            refine T_ret rfl (fun _ => rfl) ?_
            exact ⟨(mO m211 [] []), Tm211, (fr_m (fr_s Fm211 (fr_m (fr_s Fm191 (fr_m fr_0 rfl rfl) rfl rfl) rfl rfl) rfl rfl) rfl rfl), (show (m211.1 10) = 0 → (m.1 10) = 0 by rewrite [(show (m211.1 10) = (m191.1 10) from (fr1 Fm211 10 rfl))]; omega), (show LxP (m211.1 7) (m211.1 8) (m211.1 9) (m.1 6) (m211.1 10) by rewrite [(show (m211.1 7) = (m.1 7) from ((fr1 Fm211 7 rfl).trans (fr1 Fm191 7 rfl))), (show (m211.1 8) = (m.1 8) from ((fr1 Fm211 8 rfl).trans (fr1 Fm191 8 rfl))), (show (m211.1 9) = (m.1 9) from ((fr1 Fm211 9 rfl).trans (fr1 Fm191 9 rfl))), (show (m211.1 10) = (m191.1 10) from (fr1 Fm211 10 rfl))]; first | (first | exact hLx | exact (fun _ => hLx (by omega)) | (intro h9; exfalso; omega)) | (exfalso; omega)), (fun (h : (m211.1 10) = 0) => absurd ((show (m211.1 10) = (m191.1 10) from (fr1 Fm211 10 rfl)).symm.trans h) (by omega)), rfl⟩
      refine T_icmp 73 71 rfl rfl rfl (r32 (by omega) (by omega)) ⟨by decide, by decide⟩ (fun (h217 : (m.2 78) ((m.1 73) - 1) ≠ 33) => ?_) (fun (h217 : ¬ ((m.2 78) ((m.1 73) - 1) ≠ 33)) => ?_)
      · skip
        refine Tm_lv (a := [(0, .ref 189), (1, .int (i32 ((m.1 73) - 1))), (2, .int (i32 ((m.2 77) ((m.1 73) - 1)))), (3, .int (i32 (m.1 69)))]) rfl rfl ⟨rfl, rfl, rfl, rfl, trivial⟩ ?_
        exact J73_150 (m.1 69) (r32 (by omega) (by omega)) (show 0 ≤ (m.1 69) by omega) (show (m.1 69) ≤ 64 by omega)
      · skip
        refine T_ld 72 (.int (i32 1)) rfl (fun _ => rfl) ?_
        refine T_sto 73 [(3, .int (i32 1)), (2, .int (i32 ((m.2 77) ((m.1 73) - 1)))), (1, .int (i32 ((m.1 73) - 1))), (0, .ref 189)] rfl (fun _ => rfl) ?_
        refine Tm_lv (a := [(0, .ref 189), (1, .int (i32 ((m.1 73) - 1))), (2, .int (i32 ((m.2 77) ((m.1 73) - 1)))), (3, .int (i32 1))]) rfl rfl ⟨rfl, rfl, rfl, rfl, trivial⟩ ?_
        exact J73_150 1 ⟨by decide, by decide⟩ (show 0 ≤ (1 : Int) by omega) (show (1 : Int) ≤ 64 by omega)
    · skip
      refine T_ld 41 (.ref 189) rfl (fun _ => rfl) ?_
      refine T_gf 45 (.int (i32 (m.1 69))) rfl rfl rfl rfl rfl rfl ?_
      refine T_gf 49 (.int (i32 (m.1 71))) rfl rfl rfl rfl rfl rfl ?_
      refine T_gf 53 (.long (i64 (m.1 72))) rfl rfl rfl rfl rfl rfl ?_
      refine T_gf 57 (.int (i32 (m.1 70))) rfl rfl rfl rfl rfl rfl ?_
      refine T_call 60 258 [.ref 189, .int (i32 (m.1 69)), .int (i32 (m.1 71)), .long (i64 (m.1 72)), .int (i32 (m.1 70))] [] rfl (fun _ => rfl) rfl (c_wantBit w (mO m [] []) c N D (by omega) hT (m.1 69) (m.1 71) (m.1 72) (m.1 70) (r32 (by omega) (by omega)) (r32 (by omega) (by omega)) (r64 (by omega) (by omega)) (r32 (by omega) (by omega)) (show 0 ≤ (m.1 70) ∧ (m.1 70) ≤ 4000 by omega) (fun _ => trivial)) (fun rr218 k219 => ?_)
      obtain ⟨m220, Tm220, Fm220, h221, c222, rfl⟩ := k219
      refine ⟨_, _, rfl, ?_⟩
      refine T_nb (st' := []) rfl ?_
      have g223 : 0 ≤ m220.1 10 ∧ m220.1 10 ≤ 8 := Tm220.1 10
      by_cases hf224 : (m220.1 10) = 0
      · skip
        replace h221 : (m.1 10) = 0 := h221 hf224
        clear c222
        have hAgC : agr (m.2 65) (m.2 65) (m.1 28) := by first | exact agr_r _ _ | exact hAgC | exact agr_t hAgC hAg (by omega)
        refine T_gf 64 (.ref 240) rfl rfl rfl rfl rfl rfl ?_
        refine T_ld 65 (.int (i32 ((m.1 73) - 1))) rfl (fun _ => rfl) ?_
        refine T_iald 66 78 (m.2 78) rfl rfl rfl (by omega) (show ((m.1 73) - 1) < (60 : Int) by omega) (show (m220.2 78) = (m.2 78) from (fr2 Fm220 78 rfl)) ?_
        have e225 : 0 ≤ (m.2 78) ((m.1 73) - 1) ∧ (m.2 78) ((m.1 73) - 1) ≤ 330 := (hT.2.1 78) ((m.1 73) - 1)
        refine T_ld 68 (.int (i32 33)) rfl (fun _ => rfl) ?_
        refine T_icmp 73 71 rfl rfl rfl (r32 (by omega) (by omega)) ⟨by decide, by decide⟩ (fun (h226 : (m.2 78) ((m.1 73) - 1) ≠ 33) => by exfalso; omega) (fun (h226 : ¬ ((m.2 78) ((m.1 73) - 1) ≠ 33)) => ?_)
        refine T_ld 72 (.int (i32 1)) rfl (fun _ => rfl) ?_
        refine T_sto 73 [(3, .int (i32 1)), (2, .int (i32 ((m.2 77) ((m.1 73) - 1)))), (1, .int (i32 ((m.1 73) - 1))), (0, .ref 189)] rfl (fun _ => rfl) ?_
        refine T_ld 74 (.ref 189) rfl (fun _ => rfl) ?_
        refine T_ld 75 (.ref 189) rfl (fun _ => rfl) ?_
        refine T_gf1 78 (.int (i32 (m.1 73))) rfl rfl (mfv_c (F := fun x => .int (i32 x)) rfl (show (m220.1 73) = (m.1 73) from (fr1 Fm220 73 rfl))) rfl ?_
        refine T_ld 79 (.int (i32 1)) rfl (fun _ => rfl) ?_
        refine T_isub 80 rfl rfl ?_
        refine T_pf (l' := [(73, (m.1 73) - 1)]) 83 ((m.1 73) - 1) rfl rfl rfl rfl rfl rfl ?_
        have g227 : 0 ≤ (m.1 73) - 1 ∧ (m.1 73) - 1 ≤ 60 := ⟨by omega, by omega⟩
        refine T_ld 84 (.ref 189) rfl (fun _ => rfl) ?_
        refine T_ld 85 (.ref 189) rfl (fun _ => rfl) ?_
        refine T_gf1 88 (.int (i32 (m.1 74))) rfl rfl (mfv_c (F := fun x => .int (i32 x)) rfl (show (m220.1 74) = (m.1 74) from (fr1 Fm220 74 rfl))) rfl ?_
        refine T_ld 89 (.int (i32 1)) rfl (fun _ => rfl) ?_
        refine T_isub 90 rfl rfl ?_
        refine T_pf (l' := [(73, (m.1 73) - 1), (74, (m.1 74) - 1)]) 93 ((m.1 74) - 1) rfl rfl rfl rfl rfl rfl ?_
        have g228 : 0 ≤ (m.1 74) - 1 ∧ (m.1 74) - 1 ≤ 24 := ⟨by omega, by omega⟩
        refine T_ld 94 (.ref 189) rfl (fun _ => rfl) ?_
        refine T_gf 98 (.ref 240) rfl rfl rfl rfl rfl rfl ?_
        refine T_ld 99 (.int (i32 ((m.1 73) - 1))) rfl (fun _ => rfl) ?_
        refine T_iald 100 78 (m.2 78) rfl rfl rfl (by omega) (show ((m.1 73) - 1) < (60 : Int) by omega) (show (m220.2 78) = (m.2 78) from (fr2 Fm220 78 rfl)) ?_
        have e229 : 0 ≤ (m.2 78) ((m.1 73) - 1) ∧ (m.2 78) ((m.1 73) - 1) ≤ 330 := (hT.2.1 78) ((m.1 73) - 1)
        refine T_ld 102 (.int (i32 45)) rfl (fun _ => rfl) ?_
        refine T_icmp 111 105 rfl rfl rfl (r32 (by omega) (by omega)) ⟨by decide, by decide⟩ (fun (h230 : (m.2 78) ((m.1 73) - 1) ≠ 45) => ?_) (fun (h230 : ¬ ((m.2 78) ((m.1 73) - 1) ≠ 45)) => by exfalso; omega)
        refine T_gf 115 (.ref 240) rfl rfl rfl rfl rfl rfl ?_
        refine T_ld 116 (.int (i32 ((m.1 73) - 1))) rfl (fun _ => rfl) ?_
        refine T_iald 117 78 (m.2 78) rfl rfl rfl (by omega) (show ((m.1 73) - 1) < (60 : Int) by omega) (show (m220.2 78) = (m.2 78) from (fr2 Fm220 78 rfl)) ?_
        have e231 : 0 ≤ (m.2 78) ((m.1 73) - 1) ∧ (m.2 78) ((m.1 73) - 1) ≤ 330 := (hT.2.1 78) ((m.1 73) - 1)
        have hA : ar ((m.2 78) ((m.1 73) - 1)) = 1 := ar_1 (by omega)
        have hAr : ar ((m.2 78) ((m.1 73) - 1)) ≤ 1 + lh (m.2 79) (m.2 80) ((m.1 73) - 1) := by omega
        have hCk : CNk ((m.2 78) ((m.1 73) - 1)) 0 := by refine ⟨?_, ?_, ?_, ?_⟩ <;> omega
        refine T_ld 118 (.int (i32 1)) rfl (fun _ => rfl) ?_
        refine T_ld 119 (.int (i32 0)) rfl (fun _ => rfl) ?_
        refine T_ld 120 (.long (i64 0)) rfl (fun _ => rfl) ?_
        refine T_call 123 248 [.ref 189, .int (i32 ((m.2 78) ((m.1 73) - 1))), .int (i32 1), .int (i32 0), .long (i64 0)] [] rfl (fun _ => rfl) rfl (c_node w (mO m220 [(73, (m.1 73) - 1), (74, (m.1 74) - 1)] []) c N D (by omega) (Ty_mO Tm220 rfl rfl ⟨g227, g228, trivial⟩ trivial) ((m.2 78) ((m.1 73) - 1)) 1 0 0 B (1 + lh (m.2 79) (m.2 80) ((m.1 73) - 1)) (r32 (by omega) (by omega)) ⟨by decide, by decide⟩ ⟨by decide, by decide⟩ ⟨by decide, by decide⟩ (fun _ => ⟨(show 0 ≤ ((m.2 78) ((m.1 73) - 1)) ∧ ((m.2 78) ((m.1 73) - 1)) ≤ 408 by first | omega | decide), (show 0 ≤ (1 : Int) ∧ (1 : Int) ≤ 64 by first | omega | decide), (show 0 ≤ (0 : Int) ∧ (0 : Int) ≤ 191 by first | omega | decide), (show CNk ((m.2 78) ((m.1 73) - 1)) (0 : Int) by first | exact hCk | (refine ⟨?_, ?_, ?_, ?_⟩ <;> omega)), (show ar ((m.2 78) ((m.1 73) - 1)) ≤ (1 + lh (m.2 79) (m.2 80) ((m.1 73) - 1)) by first | exact hAr | omega), (show EX (m220.2 65) (m220.2 67) B (m220.1 28) (1 + lh (m.2 79) (m.2 80) ((m.1 73) - 1)) by rewrite [(show (m220.2 65) = (m.2 65) from (fr2 Fm220 65 rfl)), (show (m220.2 67) = (m.2 67) from (fr2 Fm220 67 rfl)), (show (m220.1 28) = (m.1 28) from (fr1 Fm220 28 rfl))]; first | exact hEX | assumption)⟩)) (fun rr232 k233 => ?_)
        obtain ⟨m234, Tm234, Fm234, h235, c236, rfl⟩ := k233
        refine ⟨_, _, rfl, ?_⟩
        refine T_nb (st' := []) rfl ?_
        have g237 : 0 ≤ m234.1 10 ∧ m234.1 10 ≤ 8 := Tm234.1 10
        have g238 : 0 ≤ m234.1 28 ∧ m234.1 28 ≤ 800 := Tm234.1 28
        by_cases hf239 : (m234.1 10) = 0
        · skip
          replace h235 : (m220.1 10) = 0 := h235 hf239
          obtain ⟨c240, c241, c242⟩ := c236 hf239
          replace c240 : (m234.1 28) = (m220.1 28) + 1 := c240
          rewrite [(show (m220.1 28) = (m.1 28) from (fr1 Fm220 28 rfl))] at c240
          replace c241 : EX (m234.2 65) (m234.2 67) B (m234.1 28) ((1 + lh (m.2 79) (m.2 80) ((m.1 73) - 1)) + 1 - ar ((m.2 78) ((m.1 73) - 1))) := c241
          have hEX := c241
          replace c242 : agr (m220.2 65) (m234.2 65) (m220.1 28) := c242
          rewrite [(show (m220.2 65) = (m.2 65) from (fr2 Fm220 65 rfl)), (show (m220.1 28) = (m.1 28) from (fr1 Fm220 28 rfl))] at c242
          have hAg := c242
          clear c236
          have hAgC : agr (m.2 65) (m234.2 65) (m.1 28) := by first | exact agr_r _ _ | exact hAgC | exact agr_t hAgC hAg (by omega)
          have hXE : XS (m234.2 65) (m234.2 67) (m.2 76) (m.2 78) (m.2 79) (m.2 80) B (m234.1 28) ((m.1 73) - 1) ((m.1 74) - 1) (um (m.1 75)) := by
            rw [show um (m.1 75) = 1 from if_neg (by omega)]
            exact XS_of hXP hEX (by omega)
          refine T_ld 124 (.ref 189) rfl (fun _ => rfl) ?_
          refine T_ld 125 (.int (i32 1)) rfl (fun _ => rfl) ?_
          refine T_ld 126 (.int (i32 ((m.2 77) ((m.1 73) - 1)))) rfl (fun _ => rfl) ?_
          refine T_call 129 250 [.ref 189, .int (i32 1), .int (i32 ((m.2 77) ((m.1 73) - 1)))] [] rfl (fun _ => rfl) rfl (c_unit w (mO m234 [] []) c N D (by omega) Tm234 1 ((m.2 77) ((m.1 73) - 1)) ⟨by decide, by decide⟩ (r32 (by omega) (by omega)) (show 0 ≤ (1 : Int) ∧ (1 : Int) ≤ 1024 by omega) (show 0 ≤ ((m.2 77) ((m.1 73) - 1)) ∧ ((m.2 77) ((m.1 73) - 1)) ≤ 4000 by omega)) (fun rr243 k244 => ?_)
          obtain ⟨m245, Tm245, Fm245, h246, rfl⟩ := k244
          refine ⟨_, _, rfl, ?_⟩
          refine T_nb (st' := []) rfl ?_
          have g247 : 0 ≤ m245.1 69 ∧ m245.1 69 ≤ 1024 := Tm245.1 69
          have g248 : 0 ≤ m245.1 70 ∧ m245.1 70 ≤ 4000 := Tm245.1 70
          have g249 : 0 ≤ m245.1 71 ∧ m245.1 71 ≤ 1 := Tm245.1 71
          have g250 : (-9223372036854775808) ≤ m245.1 72 ∧ m245.1 72 ≤ 9223372036854775807 := Tm245.1 72
          replace h246 : (m245.1 69) = (1 : Int) := h246
          have hAgC : agr (m.2 65) (m234.2 65) (m.1 28) := by first | exact agr_r _ _ | exact hAgC | exact agr_t hAgC hAg (by omega)
          refine T_ret rfl (fun _ => rfl) ?_
          exact ⟨(mO m245 [] []), Tm245, (fr_m (fr_s Fm245 (fr_m (fr_s Fm234 (fr_m (fr_s Fm220 (fr_m fr_0 rfl rfl) rfl rfl) rfl rfl) rfl rfl) rfl rfl) rfl rfl) rfl rfl), (show (m245.1 10) = 0 → (m.1 10) = 0 by rewrite [(show (m245.1 10) = (m234.1 10) from (fr1 Fm245 10 rfl))]; omega), (show LxP (m245.1 7) (m245.1 8) (m245.1 9) (m.1 6) (m245.1 10) by rewrite [(show (m245.1 7) = (m.1 7) from ((fr1 Fm245 7 rfl).trans ((fr1 Fm234 7 rfl).trans (fr1 Fm220 7 rfl)))), (show (m245.1 8) = (m.1 8) from ((fr1 Fm245 8 rfl).trans ((fr1 Fm234 8 rfl).trans (fr1 Fm220 8 rfl)))), (show (m245.1 9) = (m.1 9) from ((fr1 Fm245 9 rfl).trans ((fr1 Fm234 9 rfl).trans (fr1 Fm220 9 rfl)))), (show (m245.1 10) = (m234.1 10) from (fr1 Fm245 10 rfl))]; first | (first | exact hLx | exact (fun _ => hLx (by omega)) | (intro h9; exfalso; omega)) | (exfalso; omega)), (fun _ => ⟨(show GPc (m.1 8) (m245.1 8) (m245.1 75) (m245.1 73) (m.1 73) by rewrite [(show (m245.1 8) = (m.1 8) from ((fr1 Fm245 8 rfl).trans ((fr1 Fm234 8 rfl).trans (fr1 Fm220 8 rfl)))), (show (m245.1 75) = (m.1 75) from ((fr1 Fm245 75 rfl).trans ((fr1 Fm234 75 rfl).trans (fr1 Fm220 75 rfl)))), (show (m245.1 73) = ((m.1 73) - 1) from ((fr1 Fm245 73 rfl).trans (fr1 Fm234 73 rfl)))]; first | (first | assumption | (unfold GPc; omega)) | (exfalso; omega)), (show GU (m245.1 75) (m245.1 69) by rewrite [(show (m245.1 75) = (m.1 75) from ((fr1 Fm245 75 rfl).trans ((fr1 Fm234 75 rfl).trans (fr1 Fm220 75 rfl))))]; first | (first | assumption | (unfold GU; omega)) | (exfalso; omega)), (show GH (m245.1 75) (m245.1 73) by rewrite [(show (m245.1 75) = (m.1 75) from ((fr1 Fm245 75 rfl).trans ((fr1 Fm234 75 rfl).trans (fr1 Fm220 75 rfl)))), (show (m245.1 73) = ((m.1 73) - 1) from ((fr1 Fm245 73 rfl).trans (fr1 Fm234 73 rfl)))]; first | (first | assumption | (unfold GH; omega)) | (exfalso; omega)), (show (m.1 28) ≤ (m245.1 28) by rewrite [(show (m245.1 28) = (m234.1 28) from (fr1 Fm245 28 rfl))]; omega), (show XS (m245.2 65) (m245.2 67) (m245.2 76) (m245.2 78) (m245.2 79) (m245.2 80) B (m245.1 28) (m245.1 73) (m245.1 74) (um (m245.1 75)) by rewrite [(show (m245.2 65) = (m234.2 65) from (fr2 Fm245 65 rfl)), (show (m245.2 67) = (m234.2 67) from (fr2 Fm245 67 rfl)), (show (m245.2 76) = (m.2 76) from ((fr2 Fm245 76 rfl).trans ((fr2 Fm234 76 rfl).trans (fr2 Fm220 76 rfl)))), (show (m245.2 78) = (m.2 78) from ((fr2 Fm245 78 rfl).trans ((fr2 Fm234 78 rfl).trans (fr2 Fm220 78 rfl)))), (show (m245.2 79) = (m.2 79) from ((fr2 Fm245 79 rfl).trans ((fr2 Fm234 79 rfl).trans (fr2 Fm220 79 rfl)))), (show (m245.2 80) = (m.2 80) from ((fr2 Fm245 80 rfl).trans ((fr2 Fm234 80 rfl).trans (fr2 Fm220 80 rfl)))), (show (m245.1 28) = (m234.1 28) from (fr1 Fm245 28 rfl)), (show (m245.1 73) = ((m.1 73) - 1) from ((fr1 Fm245 73 rfl).trans (fr1 Fm234 73 rfl))), (show (m245.1 74) = ((m.1 74) - 1) from ((fr1 Fm245 74 rfl).trans (fr1 Fm234 74 rfl))), (show (m245.1 75) = (m.1 75) from ((fr1 Fm245 75 rfl).trans ((fr1 Fm234 75 rfl).trans (fr1 Fm220 75 rfl))))]; first | (exact hXE) | (exfalso; omega)), (show agr (m.2 65) (m245.2 65) (m.1 28) by rewrite [(show (m245.2 65) = (m234.2 65) from (fr2 Fm245 65 rfl))]; first | (exact hAgC) | (exfalso; omega))⟩), rfl⟩
        · skip
          clear c236
          clear h235
          have hf251 : 1 ≤ (m234.1 10) := by omega
          refine T_ld 124 (.ref 189) rfl (fun _ => rfl) ?_
          refine T_ld 125 (.int (i32 1)) rfl (fun _ => rfl) ?_
          refine T_ld 126 (.int (i32 ((m.2 77) ((m.1 73) - 1)))) rfl (fun _ => rfl) ?_
          refine T_call 129 250 [.ref 189, .int (i32 1), .int (i32 ((m.2 77) ((m.1 73) - 1)))] [] rfl (fun _ => rfl) rfl (c_unit w (mO m234 [] []) c N D (by omega) Tm234 1 ((m.2 77) ((m.1 73) - 1)) ⟨by decide, by decide⟩ (r32 (by omega) (by omega)) (show 0 ≤ (1 : Int) ∧ (1 : Int) ≤ 1024 by omega) (show 0 ≤ ((m.2 77) ((m.1 73) - 1)) ∧ ((m.2 77) ((m.1 73) - 1)) ≤ 4000 by omega)) (fun rr252 k253 => ?_)
          obtain ⟨m254, Tm254, Fm254, h255, rfl⟩ := k253
          refine ⟨_, _, rfl, ?_⟩
          refine T_nb (st' := []) rfl ?_
          have g256 : 0 ≤ m254.1 69 ∧ m254.1 69 ≤ 1024 := Tm254.1 69
          have g257 : 0 ≤ m254.1 70 ∧ m254.1 70 ≤ 4000 := Tm254.1 70
          have g258 : 0 ≤ m254.1 71 ∧ m254.1 71 ≤ 1 := Tm254.1 71
          have g259 : (-9223372036854775808) ≤ m254.1 72 ∧ m254.1 72 ≤ 9223372036854775807 := Tm254.1 72
          replace h255 : (m254.1 69) = (1 : Int) := h255
          refine T_ret rfl (fun _ => rfl) ?_
          exact ⟨(mO m254 [] []), Tm254, (fr_m (fr_s Fm254 (fr_m (fr_s Fm234 (fr_m (fr_s Fm220 (fr_m fr_0 rfl rfl) rfl rfl) rfl rfl) rfl rfl) rfl rfl) rfl rfl) rfl rfl), (show (m254.1 10) = 0 → (m.1 10) = 0 by rewrite [(show (m254.1 10) = (m234.1 10) from (fr1 Fm254 10 rfl))]; omega), (show LxP (m254.1 7) (m254.1 8) (m254.1 9) (m.1 6) (m254.1 10) by rewrite [(show (m254.1 7) = (m.1 7) from ((fr1 Fm254 7 rfl).trans ((fr1 Fm234 7 rfl).trans (fr1 Fm220 7 rfl)))), (show (m254.1 8) = (m.1 8) from ((fr1 Fm254 8 rfl).trans ((fr1 Fm234 8 rfl).trans (fr1 Fm220 8 rfl)))), (show (m254.1 9) = (m.1 9) from ((fr1 Fm254 9 rfl).trans ((fr1 Fm234 9 rfl).trans (fr1 Fm220 9 rfl)))), (show (m254.1 10) = (m234.1 10) from (fr1 Fm254 10 rfl))]; first | (first | exact hLx | exact (fun _ => hLx (by omega)) | (intro h9; exfalso; omega)) | (exfalso; omega)), (fun (h : (m254.1 10) = 0) => absurd ((show (m254.1 10) = (m234.1 10) from (fr1 Fm254 10 rfl)).symm.trans h) (by omega)), rfl⟩
      · skip
        clear c222
        clear h221
        have hf260 : 1 ≤ (m220.1 10) := by omega
        refine T_gf 64 (.ref 240) rfl rfl rfl rfl rfl rfl ?_
        refine T_ld 65 (.int (i32 ((m.1 73) - 1))) rfl (fun _ => rfl) ?_
        refine T_iald 66 78 (m.2 78) rfl rfl rfl (by omega) (show ((m.1 73) - 1) < (60 : Int) by omega) (show (m220.2 78) = (m.2 78) from (fr2 Fm220 78 rfl)) ?_
        have e261 : 0 ≤ (m.2 78) ((m.1 73) - 1) ∧ (m.2 78) ((m.1 73) - 1) ≤ 330 := (hT.2.1 78) ((m.1 73) - 1)
        refine T_ld 68 (.int (i32 33)) rfl (fun _ => rfl) ?_
        refine T_icmp 73 71 rfl rfl rfl (r32 (by omega) (by omega)) ⟨by decide, by decide⟩ (fun (h262 : (m.2 78) ((m.1 73) - 1) ≠ 33) => by exfalso; omega) (fun (h262 : ¬ ((m.2 78) ((m.1 73) - 1) ≠ 33)) => ?_)
        refine T_ld 72 (.int (i32 1)) rfl (fun _ => rfl) ?_
        refine T_sto 73 [(3, .int (i32 1)), (2, .int (i32 ((m.2 77) ((m.1 73) - 1)))), (1, .int (i32 ((m.1 73) - 1))), (0, .ref 189)] rfl (fun _ => rfl) ?_
        refine T_ld 74 (.ref 189) rfl (fun _ => rfl) ?_
        refine T_ld 75 (.ref 189) rfl (fun _ => rfl) ?_
        refine T_gf1 78 (.int (i32 (m.1 73))) rfl rfl (mfv_c (F := fun x => .int (i32 x)) rfl (show (m220.1 73) = (m.1 73) from (fr1 Fm220 73 rfl))) rfl ?_
        refine T_ld 79 (.int (i32 1)) rfl (fun _ => rfl) ?_
        refine T_isub 80 rfl rfl ?_
        refine T_pf (l' := [(73, (m.1 73) - 1)]) 83 ((m.1 73) - 1) rfl rfl rfl rfl rfl rfl ?_
        have g263 : 0 ≤ (m.1 73) - 1 ∧ (m.1 73) - 1 ≤ 60 := ⟨by omega, by omega⟩
        refine T_ld 84 (.ref 189) rfl (fun _ => rfl) ?_
        refine T_ld 85 (.ref 189) rfl (fun _ => rfl) ?_
        refine T_gf1 88 (.int (i32 (m.1 74))) rfl rfl (mfv_c (F := fun x => .int (i32 x)) rfl (show (m220.1 74) = (m.1 74) from (fr1 Fm220 74 rfl))) rfl ?_
        refine T_ld 89 (.int (i32 1)) rfl (fun _ => rfl) ?_
        refine T_isub 90 rfl rfl ?_
        refine T_pf (l' := [(73, (m.1 73) - 1), (74, (m.1 74) - 1)]) 93 ((m.1 74) - 1) rfl rfl rfl rfl rfl rfl ?_
        have g264 : 0 ≤ (m.1 74) - 1 ∧ (m.1 74) - 1 ≤ 24 := ⟨by omega, by omega⟩
        refine T_ld 94 (.ref 189) rfl (fun _ => rfl) ?_
        refine T_gf 98 (.ref 240) rfl rfl rfl rfl rfl rfl ?_
        refine T_ld 99 (.int (i32 ((m.1 73) - 1))) rfl (fun _ => rfl) ?_
        refine T_iald 100 78 (m.2 78) rfl rfl rfl (by omega) (show ((m.1 73) - 1) < (60 : Int) by omega) (show (m220.2 78) = (m.2 78) from (fr2 Fm220 78 rfl)) ?_
        have e265 : 0 ≤ (m.2 78) ((m.1 73) - 1) ∧ (m.2 78) ((m.1 73) - 1) ≤ 330 := (hT.2.1 78) ((m.1 73) - 1)
        refine T_ld 102 (.int (i32 45)) rfl (fun _ => rfl) ?_
        refine T_icmp 111 105 rfl rfl rfl (r32 (by omega) (by omega)) ⟨by decide, by decide⟩ (fun (h266 : (m.2 78) ((m.1 73) - 1) ≠ 45) => ?_) (fun (h266 : ¬ ((m.2 78) ((m.1 73) - 1) ≠ 45)) => by exfalso; omega)
        refine T_gf 115 (.ref 240) rfl rfl rfl rfl rfl rfl ?_
        refine T_ld 116 (.int (i32 ((m.1 73) - 1))) rfl (fun _ => rfl) ?_
        refine T_iald 117 78 (m.2 78) rfl rfl rfl (by omega) (show ((m.1 73) - 1) < (60 : Int) by omega) (show (m220.2 78) = (m.2 78) from (fr2 Fm220 78 rfl)) ?_
        have e267 : 0 ≤ (m.2 78) ((m.1 73) - 1) ∧ (m.2 78) ((m.1 73) - 1) ≤ 330 := (hT.2.1 78) ((m.1 73) - 1)
        refine T_ld 118 (.int (i32 1)) rfl (fun _ => rfl) ?_
        refine T_ld 119 (.int (i32 0)) rfl (fun _ => rfl) ?_
        refine T_ld 120 (.long (i64 0)) rfl (fun _ => rfl) ?_
        refine T_call 123 248 [.ref 189, .int (i32 ((m.2 78) ((m.1 73) - 1))), .int (i32 1), .int (i32 0), .long (i64 0)] [] rfl (fun _ => rfl) rfl (c_node w (mO m220 [(73, (m.1 73) - 1), (74, (m.1 74) - 1)] []) c N D (by omega) (Ty_mO Tm220 rfl rfl ⟨g263, g264, trivial⟩ trivial) ((m.2 78) ((m.1 73) - 1)) 1 0 0 B (1 + lh (m.2 79) (m.2 80) ((m.1 73) - 1)) (r32 (by omega) (by omega)) ⟨by decide, by decide⟩ ⟨by decide, by decide⟩ ⟨by decide, by decide⟩ (fun (h : (m220.1 10) = 0) => absurd h (by omega))) (fun rr268 k269 => ?_)
        obtain ⟨m270, Tm270, Fm270, h271, c272, rfl⟩ := k269
        refine ⟨_, _, rfl, ?_⟩
        refine T_nb (st' := []) rfl ?_
        have g273 : 0 ≤ m270.1 10 ∧ m270.1 10 ≤ 8 := Tm270.1 10
        have g274 : 0 ≤ m270.1 28 ∧ m270.1 28 ≤ 800 := Tm270.1 28
        replace h271 : (m270.1 10) = 0 → (m220.1 10) = 0 := h271
        have hf275 : 1 ≤ (m270.1 10) := by omega
        clear c272
        clear h271
        refine T_ld 124 (.ref 189) rfl (fun _ => rfl) ?_
        refine T_ld 125 (.int (i32 1)) rfl (fun _ => rfl) ?_
        refine T_ld 126 (.int (i32 ((m.2 77) ((m.1 73) - 1)))) rfl (fun _ => rfl) ?_
        refine T_call 129 250 [.ref 189, .int (i32 1), .int (i32 ((m.2 77) ((m.1 73) - 1)))] [] rfl (fun _ => rfl) rfl (c_unit w (mO m270 [] []) c N D (by omega) Tm270 1 ((m.2 77) ((m.1 73) - 1)) ⟨by decide, by decide⟩ (r32 (by omega) (by omega)) (show 0 ≤ (1 : Int) ∧ (1 : Int) ≤ 1024 by omega) (show 0 ≤ ((m.2 77) ((m.1 73) - 1)) ∧ ((m.2 77) ((m.1 73) - 1)) ≤ 4000 by omega)) (fun rr276 k277 => ?_)
        obtain ⟨m278, Tm278, Fm278, h279, rfl⟩ := k277
        refine ⟨_, _, rfl, ?_⟩
        refine T_nb (st' := []) rfl ?_
        have g280 : 0 ≤ m278.1 69 ∧ m278.1 69 ≤ 1024 := Tm278.1 69
        have g281 : 0 ≤ m278.1 70 ∧ m278.1 70 ≤ 4000 := Tm278.1 70
        have g282 : 0 ≤ m278.1 71 ∧ m278.1 71 ≤ 1 := Tm278.1 71
        have g283 : (-9223372036854775808) ≤ m278.1 72 ∧ m278.1 72 ≤ 9223372036854775807 := Tm278.1 72
        replace h279 : (m278.1 69) = (1 : Int) := h279
        refine T_ret rfl (fun _ => rfl) ?_
        exact ⟨(mO m278 [] []), Tm278, (fr_m (fr_s Fm278 (fr_m (fr_s Fm270 (fr_m (fr_s Fm220 (fr_m fr_0 rfl rfl) rfl rfl) rfl rfl) rfl rfl) rfl rfl) rfl rfl) rfl rfl), (show (m278.1 10) = 0 → (m.1 10) = 0 by rewrite [(show (m278.1 10) = (m270.1 10) from (fr1 Fm278 10 rfl))]; omega), (show LxP (m278.1 7) (m278.1 8) (m278.1 9) (m.1 6) (m278.1 10) by rewrite [(show (m278.1 7) = (m.1 7) from ((fr1 Fm278 7 rfl).trans ((fr1 Fm270 7 rfl).trans (fr1 Fm220 7 rfl)))), (show (m278.1 8) = (m.1 8) from ((fr1 Fm278 8 rfl).trans ((fr1 Fm270 8 rfl).trans (fr1 Fm220 8 rfl)))), (show (m278.1 9) = (m.1 9) from ((fr1 Fm278 9 rfl).trans ((fr1 Fm270 9 rfl).trans (fr1 Fm220 9 rfl)))), (show (m278.1 10) = (m270.1 10) from (fr1 Fm278 10 rfl))]; first | (first | exact hLx | exact (fun _ => hLx (by omega)) | (intro h9; exfalso; omega)) | (exfalso; omega)), (fun (h : (m278.1 10) = 0) => absurd ((show (m278.1 10) = (m270.1 10) from (fr1 Fm278 10 rfl)).symm.trans h) (by omega)), rfl⟩
