def fF_after : List Nat := [7, 8, 9, 10, 11, 12, 28, 69, 70, 71, 72, 75]
def fA_after : List Nat := [65, 66, 67, 68]
def Q_after (m : mR) (c : Nat → Option am_C) (N : Nat) (B : Int) : ag_Re af_T → Prop := fun R => ∃ (M : mR), Ty M ∧ fr fF_after fA_after m M ∧ ((M.1 10) = 0 → (m.1 10) = 0) ∧ (LxP (M.1 7) (M.1 8) (M.1 9) (m.1 6) (M.1 10)) ∧ (M.1 10 = 0 → (((M.1 75) = 1 ∧ (m.1 8) + 1 ≤ (M.1 8)) ∨ ((M.1 75) = 2 ∧ (M.1 8) = (m.1 8))) ∧ ((M.1 69) ≤ 64) ∧ ((m.1 28) ≤ (M.1 28)) ∧ (XS (M.2 65) (M.2 67) (m.2 76) (m.2 78) (m.2 79) (m.2 80) B (M.1 28) (m.1 73) (m.1 74) 1) ∧ (agr (m.2 65) (M.2 65) (m.1 28))) ∧ R = (.inl (none), (mhp M c, N), 0, 0)
set_option maxHeartbeats 3000000 in
theorem c_after (w : wX) (m : mR) (c : Nat → Option am_C) (N D : Nat) (hD : 7 ≤ D) (hT : Ty m) (B : Int) (hLx0 : LxP (m.1 7) (m.1 8) (m.1 9) (m.1 6) (m.1 10)) (hf0 : m.1 10 = 0) (hC : (XS (m.2 65) (m.2 67) (m.2 76) (m.2 78) (m.2 79) (m.2 80) B (m.1 28) (m.1 73) (m.1 74) 1) ∧ ((m.1 75) = 1) ∧ ((m.1 69) ≤ 64)) : TC w D 255 [.ref 189] (mhp m c, N) (Q_after m c N B) := by
  obtain ⟨D, rfl⟩ : ∃ k, D = k + 1 := ⟨D - 1, by omega⟩
  have hLx := hLx0
  have f7 : 0 ≤ m.1 7 ∧ m.1 7 ≤ 330 := hT.1 7
  have f8 : 0 ≤ m.1 8 ∧ m.1 8 ≤ 4000 := hT.1 8
  have f9 : 0 ≤ m.1 9 ∧ m.1 9 ≤ 4000 := hT.1 9
  have f10 : 0 ≤ m.1 10 ∧ m.1 10 ≤ 8 := hT.1 10
  have f11 : (-1) ≤ m.1 11 ∧ m.1 11 ≤ 4000 := hT.1 11
  have f12 : (-9223372036854775808) ≤ m.1 12 ∧ m.1 12 ≤ 9223372036854775807 := hT.1 12
  have f28 : 0 ≤ m.1 28 ∧ m.1 28 ≤ 800 := hT.1 28
  have f69 : 0 ≤ m.1 69 ∧ m.1 69 ≤ 1024 := hT.1 69
  have f70 : 0 ≤ m.1 70 ∧ m.1 70 ≤ 4000 := hT.1 70
  have f75 : 0 ≤ m.1 75 ∧ m.1 75 ≤ 3 := hT.1 75
  have f74 : 0 ≤ m.1 74 ∧ m.1 74 ≤ 24 := hT.1 74
  have f73 : 0 ≤ m.1 73 ∧ m.1 73 ≤ 60 := hT.1 73
  have f6 : 0 ≤ m.1 6 ∧ m.1 6 ≤ 4000 := hT.1 6
  refine Tc_of rfl ?_
  show TT w D pm_255 (0, [(0, .ref 189)], [], (mhp (mO m [] []) c, N), 0, 0) (Q_after m c N B)
  obtain ⟨hXS, c1, c2⟩ := hC
  have h7 := hLx (by omega)
  have hEX := hXS.1.1
  have hl0 : 0 ≤ lh (m.2 79) (m.2 80) (m.1 73) := lh_0 (hT.2.1 79) _ _
  have hXE := hXS
  have hAgC := agr_r (m.2 65) (m.1 28)
  have J207_38 : ∀ (v36 : Int) (m37 : mR), (R32 v36) → Ty m37 → fr [7, 8, 9, 10, 11, 12, 28] [65, 66, 67, 68] (mO m [] []) m37 → (1 ≤ v36) → (v36 ≤ 64) → (1 ≤ (m37.1 10)) → TT w D pm_255 (207, [(0, .ref 189), (1, .int (i32 v36))], [], (mhp (mO m37 [] []) c, N), 0, 0) (Q_after m c N B) := by
    intro v36 m37 q42 Tm37 Fm37 ic39 ic40 ic41
    obtain ⟨q42a, q42b⟩ := id q42
    have q43_7 : 0 ≤ m37.1 7 ∧ m37.1 7 ≤ 330 := Tm37.1 7
    have q43_8 : 0 ≤ m37.1 8 ∧ m37.1 8 ≤ 4000 := Tm37.1 8
    have q43_9 : 0 ≤ m37.1 9 ∧ m37.1 9 ≤ 4000 := Tm37.1 9
    have q43_10 : 0 ≤ m37.1 10 ∧ m37.1 10 ≤ 8 := Tm37.1 10
    have q43_11 : (-1) ≤ m37.1 11 ∧ m37.1 11 ≤ 4000 := Tm37.1 11
    have q43_12 : (-9223372036854775808) ≤ m37.1 12 ∧ m37.1 12 ≤ 9223372036854775807 := Tm37.1 12
    have q43_28 : 0 ≤ m37.1 28 ∧ m37.1 28 ≤ 800 := Tm37.1 28
    refine T_ld 208 (.ref 189) rfl (fun _ => rfl) ?_
    refine T_ld 209 (.int (i32 v36)) rfl (fun _ => rfl) ?_
    refine T_gf 213 (.int (i32 (m.1 70))) rfl rfl rfl rfl (mfv_c (F := fun x => .int (i32 x)) rfl (show (m37.1 70) = (m.1 70) from (fr1 Fm37 70 rfl))) rfl ?_
    refine T_call 216 250 [.ref 189, .int (i32 v36), .int (i32 (m.1 70))] [] rfl (fun _ => rfl) rfl (c_unit w (mO m37 [] []) c N D (by omega) Tm37 v36 (m.1 70) (r32 (by omega) (by omega)) (r32 (by omega) (by omega)) (show 0 ≤ v36 ∧ v36 ≤ 1024 by omega) (show 0 ≤ (m.1 70) ∧ (m.1 70) ≤ 4000 by omega)) (fun rr45 k46 => ?_)
    obtain ⟨m47, Tm47, Fm47, h48, rfl⟩ := k46
    refine ⟨_, _, rfl, ?_⟩
    refine T_nb (st' := []) rfl ?_
    have g49 : 0 ≤ m47.1 69 ∧ m47.1 69 ≤ 1024 := Tm47.1 69
    have g50 : 0 ≤ m47.1 70 ∧ m47.1 70 ≤ 4000 := Tm47.1 70
    replace h48 : (m47.1 69) = v36 := h48
    refine T_goto 224 rfl (fun _ => rfl) ?_
    refine T_ret rfl (fun _ => rfl) ?_
    exact ⟨(mO m47 [] []), Tm47, (fr_m (fr_s Fm47 (fr_m (fr_s Fm37 (fr_m fr_0 rfl rfl) rfl rfl) rfl rfl) rfl rfl) rfl rfl), (show (m47.1 10) = 0 → (m.1 10) = 0 by rewrite [(show (m47.1 10) = (m37.1 10) from (fr1 Fm47 10 rfl))]; omega), (show LxP (m47.1 7) (m47.1 8) (m47.1 9) (m.1 6) (m47.1 10) by rewrite [(show (m47.1 7) = (m37.1 7) from (fr1 Fm47 7 rfl)), (show (m47.1 8) = (m37.1 8) from (fr1 Fm47 8 rfl)), (show (m47.1 9) = (m37.1 9) from (fr1 Fm47 9 rfl)), (show (m47.1 10) = (m37.1 10) from (fr1 Fm47 10 rfl))]; first | (first | exact hLx | exact (fun _ => hLx (by omega)) | (intro h9; exfalso; omega)) | (exfalso; omega)), (fun (h : (m47.1 10) = 0) => absurd ((show (m47.1 10) = (m37.1 10) from (fr1 Fm47 10 rfl)).symm.trans h) (by omega)), rfl⟩
  have J196_53 : ∀ (s51 : Int) (m52 : mR), (R32 s51) → Ty m52 → fr [7, 8, 9, 10, 11, 12] [] (mO m [] []) m52 → (1 ≤ s51) → (s51 ≤ 64) → (1 ≤ (m52.1 10)) → TT w D pm_255 (196, [(0, .ref 189)], [.int (i32 s51)], (mhp (mO m52 [] []) c, N), 0, 0) (Q_after m c N B) := by
    intro s51 m52 q57 Tm52 Fm52 ic54 ic55 ic56
    obtain ⟨q57a, q57b⟩ := id q57
    have q58_7 : 0 ≤ m52.1 7 ∧ m52.1 7 ≤ 330 := Tm52.1 7
    have q58_8 : 0 ≤ m52.1 8 ∧ m52.1 8 ≤ 4000 := Tm52.1 8
    have q58_9 : 0 ≤ m52.1 9 ∧ m52.1 9 ≤ 4000 := Tm52.1 9
    have q58_10 : 0 ≤ m52.1 10 ∧ m52.1 10 ≤ 8 := Tm52.1 10
    have q58_11 : (-1) ≤ m52.1 11 ∧ m52.1 11 ≤ 4000 := Tm52.1 11
    have q58_12 : (-9223372036854775808) ≤ m52.1 12 ∧ m52.1 12 ≤ 9223372036854775807 := Tm52.1 12
    refine T_sto 197 [(1, .int (i32 s51)), (0, .ref 189)] rfl (fun _ => rfl) ?_
    refine T_ld 198 (.ref 189) rfl (fun _ => rfl) ?_
    refine T_ld 201 (.int (i32 406)) rfl (fun _ => rfl) ?_
    refine T_ld 202 (.int (i32 s51)) rfl (fun _ => rfl) ?_
    refine T_ld 203 (.int (i32 0)) rfl (fun _ => rfl) ?_
    refine T_ld 204 (.long (i64 0)) rfl (fun _ => rfl) ?_
    refine T_call 207 248 [.ref 189, .int (i32 406), .int (i32 s51), .int (i32 0), .long (i64 0)] [] rfl (fun _ => rfl) rfl (c_node w (mO m52 [] []) c N D (by omega) Tm52 406 s51 0 0 B (1 + lh (m.2 79) (m.2 80) (m.1 73)) ⟨by decide, by decide⟩ (r32 (by omega) (by omega)) ⟨by decide, by decide⟩ ⟨by decide, by decide⟩ (fun (h : (m52.1 10) = 0) => absurd h (by omega))) (fun rr60 k61 => ?_)
    obtain ⟨m62, Tm62, Fm62, h63, c64, rfl⟩ := k61
    refine ⟨_, _, rfl, ?_⟩
    refine T_nb (st' := []) rfl ?_
    have g65 : 0 ≤ m62.1 10 ∧ m62.1 10 ≤ 8 := Tm62.1 10
    have g66 : (-1) ≤ m62.1 11 ∧ m62.1 11 ≤ 4000 := Tm62.1 11
    have g67 : 0 ≤ m62.1 28 ∧ m62.1 28 ≤ 800 := Tm62.1 28
    replace h63 : (m62.1 10) = 0 → (m52.1 10) = 0 := h63
    have hf68 : 1 ≤ (m62.1 10) := by omega
    clear c64
    clear h63
    clear q58_10 q58_11 ic56
    refine Tm_lv (a := [(0, .ref 189), (1, .int (i32 s51))]) rfl rfl ⟨rfl, rfl, trivial⟩ ?_
    exact J207_38 s51 (mO m62 [] []) (r32 (by omega) (by omega)) Tm62 (fr_m (fr_s Fm62 (fr_m (fr_s Fm52 (fr_m fr_0 rfl rfl) rfl rfl) rfl rfl) rfl rfl) rfl rfl) (show 1 ≤ s51 by omega) (show s51 ≤ 64 by omega) (show 1 ≤ (m62.1 10) by omega)
  have J159_73 : ∀ (v69 : Int) (v70 : Int) (v71 : Int) (m72 : mR), (R32 v69) → (R64 v70) → (R64 v71) → Ty m72 → fr [7, 8, 9, 10, 11, 12, 28] [65, 66, 67, 68] (mO m [] []) m72 → (0 ≤ v69) → (v69 ≤ 4000) → (0 ≤ v70 - v71 ∧ v70 - v71 ≤ 63) → (0 ≤ (m.1 70) ∧ (m.1 70) ≤ 4000) → (1 ≤ (m72.1 10)) → TT w D pm_255 (159, [(0, .ref 189), (1, .int (i32 v69)), (2, .long (i64 v70)), (4, .long (i64 v71)), (6, .int (i32 (m.1 70)))], [], (mhp (mO m72 [] []) c, N), 0, 0) (Q_after m c N B) := by
    intro v69 v70 v71 m72 q79 q80 q81 Tm72 Fm72 ic74 ic75 ic76 ic77 ic78
    obtain ⟨q79a, q79b⟩ := id q79
    obtain ⟨q80a, q80b⟩ := id q80
    obtain ⟨q81a, q81b⟩ := id q81
    have q82_7 : 0 ≤ m72.1 7 ∧ m72.1 7 ≤ 330 := Tm72.1 7
    have q82_8 : 0 ≤ m72.1 8 ∧ m72.1 8 ≤ 4000 := Tm72.1 8
    have q82_9 : 0 ≤ m72.1 9 ∧ m72.1 9 ≤ 4000 := Tm72.1 9
    have q82_10 : 0 ≤ m72.1 10 ∧ m72.1 10 ≤ 8 := Tm72.1 10
    have q82_11 : (-1) ≤ m72.1 11 ∧ m72.1 11 ≤ 4000 := Tm72.1 11
    have q82_12 : (-9223372036854775808) ≤ m72.1 12 ∧ m72.1 12 ≤ 9223372036854775807 := Tm72.1 12
    have q82_28 : 0 ≤ m72.1 28 ∧ m72.1 28 ≤ 800 := Tm72.1 28
    refine T_ld 160 (.ref 189) rfl (fun _ => rfl) ?_
    refine T_ld 161 (.long (i64 v70)) rfl (fun _ => rfl) ?_
    refine T_ld 163 (.long (i64 v71)) rfl (fun _ => rfl) ?_
    refine T_lsub 164 rfl rfl ?_
    refine T_l2i 165 rfl rfl ?_
    refine T_ld 166 (.int (i32 1)) rfl (fun _ => rfl) ?_
    refine T_iadd 167 rfl rfl ?_
    refine T_ld 169 (.int (i32 (m.1 70))) rfl (fun _ => rfl) ?_
    refine T_call 172 250 [.ref 189, .int (i32 ((v70 - v71) + 1)), .int (i32 (m.1 70))] [] rfl (fun _ => rfl) rfl (c_unit w (mO m72 [] []) c N D (by omega) Tm72 ((v70 - v71) + 1) (m.1 70) (r32 (by omega) (by omega)) (r32 (by omega) (by omega)) (show 0 ≤ ((v70 - v71) + 1) ∧ ((v70 - v71) + 1) ≤ 1024 by omega) (show 0 ≤ (m.1 70) ∧ (m.1 70) ≤ 4000 by omega)) (fun rr84 k85 => ?_)
    obtain ⟨m86, Tm86, Fm86, h87, rfl⟩ := k85
    refine ⟨_, _, rfl, ?_⟩
    refine T_nb (st' := []) rfl ?_
    have g88 : 0 ≤ m86.1 69 ∧ m86.1 69 ≤ 1024 := Tm86.1 69
    have g89 : 0 ≤ m86.1 70 ∧ m86.1 70 ≤ 4000 := Tm86.1 70
    replace h87 : (m86.1 69) = ((v70 - v71) + 1) := h87
    refine T_goto 224 rfl (fun _ => rfl) ?_
    refine T_ret rfl (fun _ => rfl) ?_
    exact ⟨(mO m86 [] []), Tm86, (fr_m (fr_s Fm86 (fr_m (fr_s Fm72 (fr_m fr_0 rfl rfl) rfl rfl) rfl rfl) rfl rfl) rfl rfl), (show (m86.1 10) = 0 → (m.1 10) = 0 by rewrite [(show (m86.1 10) = (m72.1 10) from (fr1 Fm86 10 rfl))]; omega), (show LxP (m86.1 7) (m86.1 8) (m86.1 9) (m.1 6) (m86.1 10) by rewrite [(show (m86.1 7) = (m72.1 7) from (fr1 Fm86 7 rfl)), (show (m86.1 8) = (m72.1 8) from (fr1 Fm86 8 rfl)), (show (m86.1 9) = (m72.1 9) from (fr1 Fm86 9 rfl)), (show (m86.1 10) = (m72.1 10) from (fr1 Fm86 10 rfl))]; first | (first | exact hLx | exact (fun _ => hLx (by omega)) | (intro h9; exfalso; omega)) | (exfalso; omega)), (fun (h : (m86.1 10) = 0) => absurd ((show (m86.1 10) = (m72.1 10) from (fr1 Fm86 10 rfl)).symm.trans h) (by omega)), rfl⟩
  have J127_94 : ∀ (v90 : Int) (v91 : Int) (v92 : Int) (m93 : mR), (R32 v90) → (R64 v91) → (R64 v92) → Ty m93 → fr [7, 8, 9, 10, 11, 12] [] (mO m [] []) m93 → (0 ≤ v90) → (v90 ≤ 4000) → (1 ≤ (m93.1 10)) → TT w D pm_255 (127, [(0, .ref 189), (1, .int (i32 v90)), (2, .long (i64 v91)), (4, .long (i64 v92))], [], (mhp (mO m93 [] []) c, N), 0, 0) (Q_after m c N B) := by
    intro v90 v91 v92 m93 q98 q99 q100 Tm93 Fm93 ic95 ic96 ic97
    obtain ⟨q98a, q98b⟩ := id q98
    obtain ⟨q99a, q99b⟩ := id q99
    obtain ⟨q100a, q100b⟩ := id q100
    have q101_7 : 0 ≤ m93.1 7 ∧ m93.1 7 ≤ 330 := Tm93.1 7
    have q101_8 : 0 ≤ m93.1 8 ∧ m93.1 8 ≤ 4000 := Tm93.1 8
    have q101_9 : 0 ≤ m93.1 9 ∧ m93.1 9 ≤ 4000 := Tm93.1 9
    have q101_10 : 0 ≤ m93.1 10 ∧ m93.1 10 ≤ 8 := Tm93.1 10
    have q101_11 : (-1) ≤ m93.1 11 ∧ m93.1 11 ≤ 4000 := Tm93.1 11
    have q101_12 : (-9223372036854775808) ≤ m93.1 12 ∧ m93.1 12 ≤ 9223372036854775807 := Tm93.1 12
    refine T_gf 131 (.int (i32 (m93.1 10))) rfl rfl rfl rfl rfl rfl ?_
    refine T_if 135 134 rfl rfl rfl (r32 (by omega) (by omega)) (fun (h103 : (m93.1 10) ≤ 0) => by exfalso; omega) (fun (h103 : ¬ ((m93.1 10) ≤ 0)) => ?_)
    refine T_ret rfl (fun _ => rfl) ?_
    exact ⟨(mO m93 [] []), Tm93, (fr_m (fr_s Fm93 (fr_m fr_0 rfl rfl) rfl rfl) rfl rfl), (show (m93.1 10) = 0 → (m.1 10) = 0 by omega), (show LxP (m93.1 7) (m93.1 8) (m93.1 9) (m.1 6) (m93.1 10) by first | (first | exact hLx | exact (fun _ => hLx (by omega)) | (intro h9; exfalso; omega)) | (exfalso; omega)), (fun (h : (m93.1 10) = 0) => absurd h (by omega)), rfl⟩
  have J121_108 : ∀ (v104 : Int) (v105 : Int) (v106 : Int) (m107 : mR), (R32 v104) → (R64 v105) → (R64 v106) → Ty m107 → fr [7, 8, 9, 10, 11, 12] [] (mO m [] []) m107 → (0 ≤ v104) → (v104 ≤ 4000) → (1 ≤ (m107.1 10)) → TT w D pm_255 (121, [(0, .ref 189), (1, .int (i32 v104)), (2, .long (i64 v105)), (4, .long (i64 v106))], [], (mhp (mO m107 [] []) c, N), 0, 0) (Q_after m c N B) := by
    intro v104 v105 v106 m107 q112 q113 q114 Tm107 Fm107 ic109 ic110 ic111
    obtain ⟨q112a, q112b⟩ := id q112
    obtain ⟨q113a, q113b⟩ := id q113
    obtain ⟨q114a, q114b⟩ := id q114
    have q115_7 : 0 ≤ m107.1 7 ∧ m107.1 7 ≤ 330 := Tm107.1 7
    have q115_8 : 0 ≤ m107.1 8 ∧ m107.1 8 ≤ 4000 := Tm107.1 8
    have q115_9 : 0 ≤ m107.1 9 ∧ m107.1 9 ≤ 4000 := Tm107.1 9
    have q115_10 : 0 ≤ m107.1 10 ∧ m107.1 10 ≤ 8 := Tm107.1 10
    have q115_11 : (-1) ≤ m107.1 11 ∧ m107.1 11 ≤ 4000 := Tm107.1 11
    have q115_12 : (-9223372036854775808) ≤ m107.1 12 ∧ m107.1 12 ≤ 9223372036854775807 := Tm107.1 12
    refine T_ld 122 (.ref 189) rfl (fun _ => rfl) ?_
    refine T_ld 124 (.int (i32 93)) rfl (fun _ => rfl) ?_
    refine T_call 127 232 [.ref 189, .int (i32 93)] [] rfl (fun _ => rfl) rfl (d_need w (mO m107 [] []) c N D (by omega) Tm107 93 ⟨by decide, by decide⟩ (show 1 ≤ (93 : Int) by omega) (show LxP (m107.1 7) (m107.1 8) (m107.1 9) (m107.1 6) (m107.1 10) by rewrite [(show (m107.1 6) = (m.1 6) from (fr1 Fm107 6 rfl))]; first | exact hLx | (intro h9; exfalso; omega) | (intro h9; have h8 := hLx (by omega); omega))) (fun rr117 k118 => ?_)
    obtain ⟨m119, Tm119, Fm119, h120, h121, h122, h123, rfl⟩ := k118
    refine ⟨_, _, rfl, ?_⟩
    refine T_nb (st' := []) rfl ?_
    have g124 : 0 ≤ m119.1 7 ∧ m119.1 7 ≤ 330 := Tm119.1 7
    have g125 : 0 ≤ m119.1 8 ∧ m119.1 8 ≤ 4000 := Tm119.1 8
    have g126 : 0 ≤ m119.1 9 ∧ m119.1 9 ≤ 4000 := Tm119.1 9
    have g127 : 0 ≤ m119.1 10 ∧ m119.1 10 ≤ 8 := Tm119.1 10
    have g128 : (-1) ≤ m119.1 11 ∧ m119.1 11 ≤ 4000 := Tm119.1 11
    have g129 : (-9223372036854775808) ≤ m119.1 12 ∧ m119.1 12 ≤ 9223372036854775807 := Tm119.1 12
    replace h120 : LxP (m119.1 7) (m119.1 8) (m119.1 9) (m107.1 6) (m119.1 10) := h120
    rewrite [(show (m107.1 6) = (m.1 6) from (fr1 Fm107 6 rfl))] at h120
    replace h121 : (m119.1 10) = 0 → (m107.1 10) = 0 ∧ (m107.1 7) = (93 : Int) := h121
    replace h122 : (m107.1 8) ≤ (m119.1 8) := h122
    replace h123 : (m119.1 10) = 0 → (m107.1 8) + (m107.1 9) ≤ (m119.1 8) := h123
    have hf130 : 1 ≤ (m119.1 10) := by omega
    clear h121
    clear h123
    have hLx := h120
    clear q115_7 q115_8 q115_9 q115_10 q115_11 q115_12 ic111 h122
    exact J127_94 v104 v105 v106 (mO m119 [] []) (r32 (by omega) (by omega)) (r64 (by omega) (by omega)) (r64 (by omega) (by omega)) Tm119 (fr_m (fr_s Fm119 (fr_m (fr_s Fm107 (fr_m fr_0 rfl rfl) rfl rfl) rfl rfl) rfl rfl) rfl rfl) (show 0 ≤ v104 by omega) (show v104 ≤ 4000 by omega) (show 1 ≤ (m119.1 10) by omega)
  have J74_135 : ∀ (v131 : Int) (v132 : Int) (v133 : Int) (m134 : mR), (R32 v131) → (R64 v132) → (R64 v133) → Ty m134 → fr [7, 8, 9, 10, 11, 12] [] (mO m [] []) m134 → (0 ≤ v131) → (v131 ≤ 4000) → (1 ≤ (m134.1 10)) → TT w D pm_255 (74, [(0, .ref 189), (1, .int (i32 v131)), (2, .long (i64 v132)), (4, .long (i64 v133))], [], (mhp (mO m134 [] []) c, N), 0, 0) (Q_after m c N B) := by
    intro v131 v132 v133 m134 q139 q140 q141 Tm134 Fm134 ic136 ic137 ic138
    obtain ⟨q139a, q139b⟩ := id q139
    obtain ⟨q140a, q140b⟩ := id q140
    obtain ⟨q141a, q141b⟩ := id q141
    have q142_7 : 0 ≤ m134.1 7 ∧ m134.1 7 ≤ 330 := Tm134.1 7
    have q142_8 : 0 ≤ m134.1 8 ∧ m134.1 8 ≤ 4000 := Tm134.1 8
    have q142_9 : 0 ≤ m134.1 9 ∧ m134.1 9 ≤ 4000 := Tm134.1 9
    have q142_10 : 0 ≤ m134.1 10 ∧ m134.1 10 ≤ 8 := Tm134.1 10
    have q142_11 : (-1) ≤ m134.1 11 ∧ m134.1 11 ≤ 4000 := Tm134.1 11
    have q142_12 : (-9223372036854775808) ≤ m134.1 12 ∧ m134.1 12 ≤ 9223372036854775807 := Tm134.1 12
    refine T_gf 78 (.int (i32 (m134.1 10))) rfl rfl rfl rfl rfl rfl ?_
    refine T_if 121 81 rfl rfl rfl (r32 (by omega) (by omega)) (fun (h144 : (m134.1 10) ≠ 0) => ?_) (fun (h144 : ¬ ((m134.1 10) ≠ 0)) => by exfalso; omega)
    refine T_ld 122 (.ref 189) rfl (fun _ => rfl) ?_
    refine T_ld 124 (.int (i32 93)) rfl (fun _ => rfl) ?_
    refine T_call 127 232 [.ref 189, .int (i32 93)] [] rfl (fun _ => rfl) rfl (d_need w (mO m134 [] []) c N D (by omega) Tm134 93 ⟨by decide, by decide⟩ (show 1 ≤ (93 : Int) by omega) (show LxP (m134.1 7) (m134.1 8) (m134.1 9) (m134.1 6) (m134.1 10) by rewrite [(show (m134.1 6) = (m.1 6) from (fr1 Fm134 6 rfl))]; first | exact hLx | (intro h9; exfalso; omega) | (intro h9; have h8 := hLx (by omega); omega))) (fun rr145 k146 => ?_)
    obtain ⟨m147, Tm147, Fm147, h148, h149, h150, h151, rfl⟩ := k146
    refine ⟨_, _, rfl, ?_⟩
    refine T_nb (st' := []) rfl ?_
    have g152 : 0 ≤ m147.1 7 ∧ m147.1 7 ≤ 330 := Tm147.1 7
    have g153 : 0 ≤ m147.1 8 ∧ m147.1 8 ≤ 4000 := Tm147.1 8
    have g154 : 0 ≤ m147.1 9 ∧ m147.1 9 ≤ 4000 := Tm147.1 9
    have g155 : 0 ≤ m147.1 10 ∧ m147.1 10 ≤ 8 := Tm147.1 10
    have g156 : (-1) ≤ m147.1 11 ∧ m147.1 11 ≤ 4000 := Tm147.1 11
    have g157 : (-9223372036854775808) ≤ m147.1 12 ∧ m147.1 12 ≤ 9223372036854775807 := Tm147.1 12
    replace h148 : LxP (m147.1 7) (m147.1 8) (m147.1 9) (m134.1 6) (m147.1 10) := h148
    rewrite [(show (m134.1 6) = (m.1 6) from (fr1 Fm134 6 rfl))] at h148
    replace h149 : (m147.1 10) = 0 → (m134.1 10) = 0 ∧ (m134.1 7) = (93 : Int) := h149
    replace h150 : (m134.1 8) ≤ (m147.1 8) := h150
    replace h151 : (m147.1 10) = 0 → (m134.1 8) + (m134.1 9) ≤ (m147.1 8) := h151
    have hf158 : 1 ≤ (m147.1 10) := by omega
    clear h149
    clear h151
    have hLx := h148
    clear q142_7 q142_8 q142_9 q142_10 q142_11 q142_12 ic138 h144 h150
    exact J127_94 v131 v132 v133 (mO m147 [] []) (r32 (by omega) (by omega)) (r64 (by omega) (by omega)) (r64 (by omega) (by omega)) Tm147 (fr_m (fr_s Fm147 (fr_m (fr_s Fm134 (fr_m fr_0 rfl rfl) rfl rfl) rfl rfl) rfl rfl) rfl rfl) (show 0 ≤ v131 by omega) (show v131 ≤ 4000 by omega) (show 1 ≤ (m147.1 10) by omega)
  have J45_162 : ∀ (v159 : Int) (v160 : Int) (m161 : mR), (R32 v159) → (R64 v160) → Ty m161 → fr [7, 8, 9, 10, 11, 12] [] (mO m [] []) m161 → (0 ≤ v159) → (v159 ≤ 4000) → (1 ≤ (m161.1 10)) → TT w D pm_255 (45, [(0, .ref 189), (1, .int (i32 v159)), (2, .long (i64 v160))], [], (mhp (mO m161 [] []) c, N), 0, 0) (Q_after m c N B) := by
    intro v159 v160 m161 q166 q167 Tm161 Fm161 ic163 ic164 ic165
    obtain ⟨q166a, q166b⟩ := id q166
    obtain ⟨q167a, q167b⟩ := id q167
    have q168_7 : 0 ≤ m161.1 7 ∧ m161.1 7 ≤ 330 := Tm161.1 7
    have q168_8 : 0 ≤ m161.1 8 ∧ m161.1 8 ≤ 4000 := Tm161.1 8
    have q168_9 : 0 ≤ m161.1 9 ∧ m161.1 9 ≤ 4000 := Tm161.1 9
    have q168_10 : 0 ≤ m161.1 10 ∧ m161.1 10 ≤ 8 := Tm161.1 10
    have q168_11 : (-1) ≤ m161.1 11 ∧ m161.1 11 ≤ 4000 := Tm161.1 11
    have q168_12 : (-9223372036854775808) ≤ m161.1 12 ∧ m161.1 12 ≤ 9223372036854775807 := Tm161.1 12
    refine T_gf 49 (.int (i32 (m161.1 10))) rfl rfl rfl rfl rfl rfl ?_
    refine T_if 64 52 rfl rfl rfl (r32 (by omega) (by omega)) (fun (h170 : (m161.1 10) ≠ 0) => ?_) (fun (h170 : ¬ ((m161.1 10) ≠ 0)) => by exfalso; omega)
    refine T_gf 68 (.long (i64 (m161.1 12))) rfl rfl rfl rfl rfl rfl ?_
    refine T_sto 70 [(4, .long (i64 (m161.1 12))), (0, .ref 189), (1, .int (i32 v159)), (2, .long (i64 v160))] rfl (fun _ => rfl) ?_
    refine T_ld 71 (.ref 189) rfl (fun _ => rfl) ?_
    refine T_call 74 212 [.ref 189] [] rfl (fun _ => rfl) rfl (d_next w (mO m161 [] []) c N D (by omega) Tm161 (show (m161.1 10) = 0 → (m161.1 8) + (m161.1 9) ≤ (m161.1 6) by rewrite [(show (m161.1 6) = (m.1 6) from (fr1 Fm161 6 rfl))]; first | omega | (intro h9; have h8 := hLx h9; omega))) (fun rr171 k172 => ?_)
    obtain ⟨m173, Tm173, Fm173, h174, h175, h176, h177, rfl⟩ := k172
    refine ⟨_, _, rfl, ?_⟩
    refine T_nb (st' := []) rfl ?_
    have g178 : 0 ≤ m173.1 7 ∧ m173.1 7 ≤ 330 := Tm173.1 7
    have g179 : 0 ≤ m173.1 8 ∧ m173.1 8 ≤ 4000 := Tm173.1 8
    have g180 : 0 ≤ m173.1 9 ∧ m173.1 9 ≤ 4000 := Tm173.1 9
    have g181 : 0 ≤ m173.1 10 ∧ m173.1 10 ≤ 8 := Tm173.1 10
    have g182 : (-1) ≤ m173.1 11 ∧ m173.1 11 ≤ 4000 := Tm173.1 11
    have g183 : (-9223372036854775808) ≤ m173.1 12 ∧ m173.1 12 ≤ 9223372036854775807 := Tm173.1 12
    replace h174 : LxP (m173.1 7) (m173.1 8) (m173.1 9) (m161.1 6) (m173.1 10) := h174
    rewrite [(show (m161.1 6) = (m.1 6) from (fr1 Fm161 6 rfl))] at h174
    replace h175 : (m173.1 10) = 0 → (m161.1 10) = 0 := h175
    replace h176 : (m161.1 8) ≤ (m173.1 8) := h176
    replace h177 : (m173.1 10) = 0 → (m161.1 8) + (m161.1 9) ≤ (m173.1 8) := h177
    have hf184 : 1 ≤ (m173.1 10) := by omega
    clear h175
    clear h177
    have hLx := h174
    clear q168_7 q168_8 q168_9 q168_10 q168_11 ic165 h170 h176
    refine Tm_lv (a := [(0, .ref 189), (1, .int (i32 v159)), (2, .long (i64 v160)), (4, .long (i64 (m161.1 12)))]) rfl rfl ⟨rfl, rfl, rfl, rfl, trivial⟩ ?_
    exact J74_135 v159 v160 (m161.1 12) (mO m173 [] []) (r32 (by omega) (by omega)) (r64 (by omega) (by omega)) (r64 (by omega) (by omega)) Tm173 (fr_m (fr_s Fm173 (fr_m (fr_s Fm161 (fr_m fr_0 rfl rfl) rfl rfl) rfl rfl) rfl rfl) rfl rfl) (show 0 ≤ v159 by omega) (show v159 ≤ 4000 by omega) (show 1 ≤ (m173.1 10) by omega)
  have J39_188 : ∀ (v185 : Int) (v186 : Int) (m187 : mR), (R32 v185) → (R64 v186) → Ty m187 → fr [7, 8, 9, 10, 11, 12] [] (mO m [] []) m187 → (0 ≤ v185) → (v185 ≤ 4000) → (1 ≤ (m187.1 10)) → TT w D pm_255 (39, [(0, .ref 189), (1, .int (i32 v185)), (2, .long (i64 v186))], [], (mhp (mO m187 [] []) c, N), 0, 0) (Q_after m c N B) := by
    intro v185 v186 m187 q192 q193 Tm187 Fm187 ic189 ic190 ic191
    obtain ⟨q192a, q192b⟩ := id q192
    obtain ⟨q193a, q193b⟩ := id q193
    have q194_7 : 0 ≤ m187.1 7 ∧ m187.1 7 ≤ 330 := Tm187.1 7
    have q194_8 : 0 ≤ m187.1 8 ∧ m187.1 8 ≤ 4000 := Tm187.1 8
    have q194_9 : 0 ≤ m187.1 9 ∧ m187.1 9 ≤ 4000 := Tm187.1 9
    have q194_10 : 0 ≤ m187.1 10 ∧ m187.1 10 ≤ 8 := Tm187.1 10
    have q194_11 : (-1) ≤ m187.1 11 ∧ m187.1 11 ≤ 4000 := Tm187.1 11
    have q194_12 : (-9223372036854775808) ≤ m187.1 12 ∧ m187.1 12 ≤ 9223372036854775807 := Tm187.1 12
    refine T_ld 40 (.ref 189) rfl (fun _ => rfl) ?_
    refine T_ld 42 (.int (i32 58)) rfl (fun _ => rfl) ?_
    refine T_call 45 232 [.ref 189, .int (i32 58)] [] rfl (fun _ => rfl) rfl (d_need w (mO m187 [] []) c N D (by omega) Tm187 58 ⟨by decide, by decide⟩ (show 1 ≤ (58 : Int) by omega) (show LxP (m187.1 7) (m187.1 8) (m187.1 9) (m187.1 6) (m187.1 10) by rewrite [(show (m187.1 6) = (m.1 6) from (fr1 Fm187 6 rfl))]; first | exact hLx | (intro h9; exfalso; omega) | (intro h9; have h8 := hLx (by omega); omega))) (fun rr196 k197 => ?_)
    obtain ⟨m198, Tm198, Fm198, h199, h200, h201, h202, rfl⟩ := k197
    refine ⟨_, _, rfl, ?_⟩
    refine T_nb (st' := []) rfl ?_
    have g203 : 0 ≤ m198.1 7 ∧ m198.1 7 ≤ 330 := Tm198.1 7
    have g204 : 0 ≤ m198.1 8 ∧ m198.1 8 ≤ 4000 := Tm198.1 8
    have g205 : 0 ≤ m198.1 9 ∧ m198.1 9 ≤ 4000 := Tm198.1 9
    have g206 : 0 ≤ m198.1 10 ∧ m198.1 10 ≤ 8 := Tm198.1 10
    have g207 : (-1) ≤ m198.1 11 ∧ m198.1 11 ≤ 4000 := Tm198.1 11
    have g208 : (-9223372036854775808) ≤ m198.1 12 ∧ m198.1 12 ≤ 9223372036854775807 := Tm198.1 12
    replace h199 : LxP (m198.1 7) (m198.1 8) (m198.1 9) (m187.1 6) (m198.1 10) := h199
    rewrite [(show (m187.1 6) = (m.1 6) from (fr1 Fm187 6 rfl))] at h199
    replace h200 : (m198.1 10) = 0 → (m187.1 10) = 0 ∧ (m187.1 7) = (58 : Int) := h200
    replace h201 : (m187.1 8) ≤ (m198.1 8) := h201
    replace h202 : (m198.1 10) = 0 → (m187.1 8) + (m187.1 9) ≤ (m198.1 8) := h202
    have hf209 : 1 ≤ (m198.1 10) := by omega
    clear h200
    clear h202
    have hLx := h199
    clear q194_7 q194_8 q194_9 q194_10 q194_11 q194_12 ic191 h201
    exact J45_162 v185 v186 (mO m198 [] []) (r32 (by omega) (by omega)) (r64 (by omega) (by omega)) Tm198 (fr_m (fr_s Fm198 (fr_m (fr_s Fm187 (fr_m fr_0 rfl rfl) rfl rfl) rfl rfl) rfl rfl) rfl rfl) (show 0 ≤ v185 by omega) (show v185 ≤ 4000 by omega) (show 1 ≤ (m198.1 10) by omega)
  have J30_212 : ∀ (v210 : Int) (m211 : mR), (R32 v210) → Ty m211 → fr [7, 8, 9, 10, 11, 12] [] (mO m [] []) m211 → (0 ≤ v210) → (v210 ≤ 4000) → (1 ≤ (m211.1 10)) → TT w D pm_255 (30, [(0, .ref 189), (1, .int (i32 v210))], [], (mhp (mO m211 [] []) c, N), 0, 0) (Q_after m c N B) := by
    intro v210 m211 q216 Tm211 Fm211 ic213 ic214 ic215
    obtain ⟨q216a, q216b⟩ := id q216
    have q217_7 : 0 ≤ m211.1 7 ∧ m211.1 7 ≤ 330 := Tm211.1 7
    have q217_8 : 0 ≤ m211.1 8 ∧ m211.1 8 ≤ 4000 := Tm211.1 8
    have q217_9 : 0 ≤ m211.1 9 ∧ m211.1 9 ≤ 4000 := Tm211.1 9
    have q217_10 : 0 ≤ m211.1 10 ∧ m211.1 10 ≤ 8 := Tm211.1 10
    have q217_11 : (-1) ≤ m211.1 11 ∧ m211.1 11 ≤ 4000 := Tm211.1 11
    have q217_12 : (-9223372036854775808) ≤ m211.1 12 ∧ m211.1 12 ≤ 9223372036854775807 := Tm211.1 12
    refine T_gf 34 (.long (i64 (m211.1 12))) rfl rfl rfl rfl rfl rfl ?_
    refine T_sto 35 [(2, .long (i64 (m211.1 12))), (0, .ref 189), (1, .int (i32 v210))] rfl (fun _ => rfl) ?_
    refine T_ld 36 (.ref 189) rfl (fun _ => rfl) ?_
    refine T_call 39 212 [.ref 189] [] rfl (fun _ => rfl) rfl (d_next w (mO m211 [] []) c N D (by omega) Tm211 (show (m211.1 10) = 0 → (m211.1 8) + (m211.1 9) ≤ (m211.1 6) by rewrite [(show (m211.1 6) = (m.1 6) from (fr1 Fm211 6 rfl))]; first | omega | (intro h9; have h8 := hLx h9; omega))) (fun rr219 k220 => ?_)
    obtain ⟨m221, Tm221, Fm221, h222, h223, h224, h225, rfl⟩ := k220
    refine ⟨_, _, rfl, ?_⟩
    refine T_nb (st' := []) rfl ?_
    have g226 : 0 ≤ m221.1 7 ∧ m221.1 7 ≤ 330 := Tm221.1 7
    have g227 : 0 ≤ m221.1 8 ∧ m221.1 8 ≤ 4000 := Tm221.1 8
    have g228 : 0 ≤ m221.1 9 ∧ m221.1 9 ≤ 4000 := Tm221.1 9
    have g229 : 0 ≤ m221.1 10 ∧ m221.1 10 ≤ 8 := Tm221.1 10
    have g230 : (-1) ≤ m221.1 11 ∧ m221.1 11 ≤ 4000 := Tm221.1 11
    have g231 : (-9223372036854775808) ≤ m221.1 12 ∧ m221.1 12 ≤ 9223372036854775807 := Tm221.1 12
    replace h222 : LxP (m221.1 7) (m221.1 8) (m221.1 9) (m211.1 6) (m221.1 10) := h222
    rewrite [(show (m211.1 6) = (m.1 6) from (fr1 Fm211 6 rfl))] at h222
    replace h223 : (m221.1 10) = 0 → (m211.1 10) = 0 := h223
    replace h224 : (m211.1 8) ≤ (m221.1 8) := h224
    replace h225 : (m221.1 10) = 0 → (m211.1 8) + (m211.1 9) ≤ (m221.1 8) := h225
    have hf232 : 1 ≤ (m221.1 10) := by omega
    clear h223
    clear h225
    have hLx := h222
    clear q217_7 q217_8 q217_9 q217_10 q217_11 ic215 h224
    refine Tm_lv (a := [(0, .ref 189), (1, .int (i32 v210)), (2, .long (i64 (m211.1 12)))]) rfl rfl ⟨rfl, rfl, rfl, trivial⟩ ?_
    exact J39_188 v210 (m211.1 12) (mO m221 [] []) (r32 (by omega) (by omega)) (r64 (by omega) (by omega)) Tm221 (fr_m (fr_s Fm221 (fr_m (fr_s Fm211 (fr_m fr_0 rfl rfl) rfl rfl) rfl rfl) rfl rfl) rfl rfl) (show 0 ≤ v210 by omega) (show v210 ≤ 4000 by omega) (show 1 ≤ (m221.1 10) by omega)
  refine T_gf 4 (.int (i32 (m.1 7))) rfl rfl rfl rfl rfl rfl ?_
  refine T_ld 6 (.int (i32 91)) rfl (fun _ => rfl) ?_
  refine T_icmp 175 9 rfl rfl rfl (r32 (by omega) (by omega)) ⟨by decide, by decide⟩ (fun (h233 : (m.1 7) ≠ 91) => ?_) (fun (h233 : ¬ ((m.1 7) ≠ 91)) => ?_)
  · skip
    refine T_gf 179 (.int (i32 (m.1 7))) rfl rfl rfl rfl rfl rfl ?_
    refine T_ld 182 (.int (i32 330)) rfl (fun _ => rfl) ?_
    refine T_icmp 219 185 rfl rfl rfl (r32 (by omega) (by omega)) ⟨by decide, by decide⟩ (fun (h234 : (m.1 7) ≠ 330) => ?_) (fun (h234 : ¬ ((m.1 7) ≠ 330)) => ?_)
    · skip
      refine T_ld 220 (.ref 189) rfl (fun _ => rfl) ?_
      refine T_ld 221 (.int (i32 2)) rfl (fun _ => rfl) ?_
      refine T_pf (l' := [(75, 2)]) 224 2 rfl rfl rfl rfl rfl rfl ?_
      refine T_ret rfl (fun _ => rfl) ?_
      exact ⟨(mO m [(75, 2)] []), (Ty_mO hT rfl rfl ⟨⟨(by omega : (0 : Int) ≤ 2), (by omega : (2 : Int) ≤ 3)⟩, trivial⟩ trivial), (fr_m fr_0 rfl rfl), (show (m.1 10) = 0 → (m.1 10) = 0 by omega), (show LxP (m.1 7) (m.1 8) (m.1 9) (m.1 6) (m.1 10) by first | (first | exact hLx | exact (fun _ => hLx (by omega)) | (intro h9; exfalso; omega)) | (exfalso; omega)), (fun _ => ⟨(show ((2 : Int) = 1 ∧ (m.1 8) + 1 ≤ (m.1 8)) ∨ ((2 : Int) = 2 ∧ (m.1 8) = (m.1 8)) by omega), (show (m.1 69) ≤ 64 by omega), (show (m.1 28) ≤ (m.1 28) by omega), (show XS (m.2 65) (m.2 67) (m.2 76) (m.2 78) (m.2 79) (m.2 80) B (m.1 28) (m.1 73) (m.1 74) 1 by first | (exact hXE) | (exfalso; omega)), (show agr (m.2 65) (m.2 65) (m.1 28) by first | (exact hAgC) | (exfalso; omega))⟩), rfl⟩
    · skip
      refine T_ld 186 (.ref 189) rfl (fun _ => rfl) ?_
      refine T_call 189 212 [.ref 189] [] rfl (fun _ => rfl) rfl (d_next w (mO m [] []) c N D (by omega) hT (show (m.1 10) = 0 → (m.1 8) + (m.1 9) ≤ (m.1 6) by first | omega | (intro h9; have h8 := hLx h9; omega))) (fun rr235 k236 => ?_)
      obtain ⟨m237, Tm237, Fm237, h238, h239, h240, h241, rfl⟩ := k236
      refine ⟨_, _, rfl, ?_⟩
      refine T_nb (st' := []) rfl ?_
      have g242 : 0 ≤ m237.1 7 ∧ m237.1 7 ≤ 330 := Tm237.1 7
      have g243 : 0 ≤ m237.1 8 ∧ m237.1 8 ≤ 4000 := Tm237.1 8
      have g244 : 0 ≤ m237.1 9 ∧ m237.1 9 ≤ 4000 := Tm237.1 9
      have g245 : 0 ≤ m237.1 10 ∧ m237.1 10 ≤ 8 := Tm237.1 10
      have g246 : (-1) ≤ m237.1 11 ∧ m237.1 11 ≤ 4000 := Tm237.1 11
      have g247 : (-9223372036854775808) ≤ m237.1 12 ∧ m237.1 12 ≤ 9223372036854775807 := Tm237.1 12
      by_cases hf248 : (m237.1 10) = 0
      · skip
        replace h238 : LxP (m237.1 7) (m237.1 8) (m237.1 9) (m.1 6) (m237.1 10) := h238
        have hLx := h238
        replace h239 : (m.1 10) = 0 := h239 hf248
        replace h240 : (m.1 8) ≤ (m237.1 8) := h240
        replace h241 : (m.1 8) + (m.1 9) ≤ (m237.1 8) := h241 hf248
        have u249 : (m.1 8) + 1 ≤ (m237.1 8) := by omega
        have hAgC : agr (m.2 65) (m.2 65) (m.1 28) := by first | exact agr_r _ _ | exact hAgC | exact agr_t hAgC hAg (by omega)
        refine T_ld 190 (.ref 189) rfl (fun _ => rfl) ?_
        refine T_ld 191 (.int (i32 1)) rfl (fun _ => rfl) ?_
        refine T_ld 193 (.int (i32 64)) rfl (fun _ => rfl) ?_
        refine T_call 196 234 [.ref 189, .int (i32 1), .int (i32 64)] [] rfl (fun _ => rfl) rfl (d_number w (mO m237 [] []) c N D (by omega) Tm237 1 64 ⟨by decide, by decide⟩ ⟨by decide, by decide⟩ (show LxP (m237.1 7) (m237.1 8) (m237.1 9) (m237.1 6) (m237.1 10) by rewrite [(show (m237.1 6) = (m.1 6) from (fr1 Fm237 6 rfl))]; first | exact hLx | (intro h9; exfalso; omega) | (intro h9; have h8 := hLx (by omega); omega)) (show (1 : Int) ≤ (64 : Int) by omega)) (fun rr250 k251 => ?_)
        obtain ⟨m252, nu, Tm252, Fm252, g253, h254, h255, h256, h257, h258, h259, rfl⟩ := k251
        refine ⟨_, _, rfl, ?_⟩
        refine T_nb (st' := [.int (i32 nu)]) rfl ?_
        obtain ⟨g253a, g253b⟩ := g253
        have g260 : 0 ≤ m252.1 7 ∧ m252.1 7 ≤ 330 := Tm252.1 7
        have g261 : 0 ≤ m252.1 8 ∧ m252.1 8 ≤ 4000 := Tm252.1 8
        have g262 : 0 ≤ m252.1 9 ∧ m252.1 9 ≤ 4000 := Tm252.1 9
        have g263 : 0 ≤ m252.1 10 ∧ m252.1 10 ≤ 8 := Tm252.1 10
        have g264 : (-1) ≤ m252.1 11 ∧ m252.1 11 ≤ 4000 := Tm252.1 11
        have g265 : (-9223372036854775808) ≤ m252.1 12 ∧ m252.1 12 ≤ 9223372036854775807 := Tm252.1 12
        by_cases hf266 : (m252.1 10) = 0
        · skip
          replace h254 : LxP (m252.1 7) (m252.1 8) (m252.1 9) (m237.1 6) (m252.1 10) := h254
          rewrite [(show (m237.1 6) = (m.1 6) from (fr1 Fm237 6 rfl))] at h254
          have hLx := h254
          replace h255 : (m237.1 8) ≤ (m252.1 8) := h255
          replace h256 : (m237.1 10) = 0 ∧ (m237.1 8) + (m237.1 9) ≤ (m252.1 8) := h256 hf266
          replace h257 : (m237.1 7) = 2 := h257 hf266
          replace h258 : (1 : Int) ≤ nu ∧ nu ≤ (64 : Int) := h258
          replace h259 : nu = (m237.1 12) := h259 hf266
          have u267 : (m.1 8) + 1 ≤ (m252.1 8) := by omega
          have hAgC : agr (m.2 65) (m.2 65) (m.1 28) := by first | exact agr_r _ _ | exact hAgC | exact agr_t hAgC hAg (by omega)
          clear g242 g243 g244 g245 g246 g247 h238 h240 h241 u249 h255 h256 h257 h259
          refine T_sto 197 [(1, .int (i32 nu)), (0, .ref 189)] rfl (fun _ => rfl) ?_
          have hAr : ar 406 ≤ 1 + lh (m.2 79) (m.2 80) (m.1 73) := by rw [show ar 406 = 1 from rfl]; omega
          have hCk : CNk 406 0 := by refine ⟨?_, ?_, ?_, ?_⟩ <;> omega
          refine T_ld 198 (.ref 189) rfl (fun _ => rfl) ?_
          refine T_ld 201 (.int (i32 406)) rfl (fun _ => rfl) ?_
          refine T_ld 202 (.int (i32 nu)) rfl (fun _ => rfl) ?_
          refine T_ld 203 (.int (i32 0)) rfl (fun _ => rfl) ?_
          refine T_ld 204 (.long (i64 0)) rfl (fun _ => rfl) ?_
          refine T_call 207 248 [.ref 189, .int (i32 406), .int (i32 nu), .int (i32 0), .long (i64 0)] [] rfl (fun _ => rfl) rfl (c_node w (mO m252 [] []) c N D (by omega) Tm252 406 nu 0 0 B (1 + lh (m.2 79) (m.2 80) (m.1 73)) ⟨by decide, by decide⟩ (r32 (by omega) (by omega)) ⟨by decide, by decide⟩ ⟨by decide, by decide⟩ (fun _ => ⟨(show 0 ≤ (406 : Int) ∧ (406 : Int) ≤ 408 by first | omega | decide), (show 0 ≤ nu ∧ nu ≤ 64 by first | omega | decide), (show 0 ≤ (0 : Int) ∧ (0 : Int) ≤ 191 by first | omega | decide), (show CNk (406 : Int) (0 : Int) by first | exact hCk | (refine ⟨?_, ?_, ?_, ?_⟩ <;> omega)), (show ar (406 : Int) ≤ (1 + lh (m.2 79) (m.2 80) (m.1 73)) by first | exact hAr | omega), (show EX (m252.2 65) (m252.2 67) B (m252.1 28) (1 + lh (m.2 79) (m.2 80) (m.1 73)) by rewrite [(show (m252.2 65) = (m.2 65) from ((fr2 Fm252 65 rfl).trans (fr2 Fm237 65 rfl))), (show (m252.2 67) = (m.2 67) from ((fr2 Fm252 67 rfl).trans (fr2 Fm237 67 rfl))), (show (m252.1 28) = (m.1 28) from ((fr1 Fm252 28 rfl).trans (fr1 Fm237 28 rfl)))]; first | exact hEX | assumption)⟩)) (fun rr268 k269 => ?_)
          obtain ⟨m270, Tm270, Fm270, h271, c272, rfl⟩ := k269
          refine ⟨_, _, rfl, ?_⟩
          refine T_nb (st' := []) rfl ?_
          have g273 : 0 ≤ m270.1 10 ∧ m270.1 10 ≤ 8 := Tm270.1 10
          have g274 : (-1) ≤ m270.1 11 ∧ m270.1 11 ≤ 4000 := Tm270.1 11
          have g275 : 0 ≤ m270.1 28 ∧ m270.1 28 ≤ 800 := Tm270.1 28
          by_cases hf276 : (m270.1 10) = 0
          · skip
            replace h271 : (m252.1 10) = 0 := h271 hf276
            obtain ⟨c277, c278, c279⟩ := c272 hf276
            replace c277 : (m270.1 28) = (m252.1 28) + 1 := c277
            rewrite [(show (m252.1 28) = (m.1 28) from ((fr1 Fm252 28 rfl).trans (fr1 Fm237 28 rfl)))] at c277
            replace c278 : EX (m270.2 65) (m270.2 67) B (m270.1 28) ((1 + lh (m.2 79) (m.2 80) (m.1 73)) + 1 - ar (406 : Int)) := c278
            have hEX := c278
            replace c279 : agr (m252.2 65) (m270.2 65) (m252.1 28) := c279
            rewrite [(show (m252.2 65) = (m.2 65) from ((fr2 Fm252 65 rfl).trans (fr2 Fm237 65 rfl))), (show (m252.1 28) = (m.1 28) from ((fr1 Fm252 28 rfl).trans (fr1 Fm237 28 rfl)))] at c279
            have hAg := c279
            clear c272
            have u280 : (m.1 8) + 1 ≤ (m252.1 8) := by omega
            have hAgC : agr (m.2 65) (m270.2 65) (m.1 28) := by first | exact agr_r _ _ | exact hAgC | exact agr_t hAgC hAg (by omega)
            clear g263 g264 h254 h271
            refine T_ld 208 (.ref 189) rfl (fun _ => rfl) ?_
            refine T_ld 209 (.int (i32 nu)) rfl (fun _ => rfl) ?_
            refine T_gf 213 (.int (i32 (m.1 70))) rfl rfl rfl rfl (mfv_c (F := fun x => .int (i32 x)) rfl (show (m270.1 70) = (m.1 70) from ((fr1 Fm270 70 rfl).trans ((fr1 Fm252 70 rfl).trans (fr1 Fm237 70 rfl))))) rfl ?_
            refine T_call 216 250 [.ref 189, .int (i32 nu), .int (i32 (m.1 70))] [] rfl (fun _ => rfl) rfl (c_unit w (mO m270 [] []) c N D (by omega) Tm270 nu (m.1 70) (r32 (by omega) (by omega)) (r32 (by omega) (by omega)) (show 0 ≤ nu ∧ nu ≤ 1024 by omega) (show 0 ≤ (m.1 70) ∧ (m.1 70) ≤ 4000 by omega)) (fun rr281 k282 => ?_)
            obtain ⟨m283, Tm283, Fm283, h284, rfl⟩ := k282
            refine ⟨_, _, rfl, ?_⟩
            refine T_nb (st' := []) rfl ?_
            have g285 : 0 ≤ m283.1 69 ∧ m283.1 69 ≤ 1024 := Tm283.1 69
            have g286 : 0 ≤ m283.1 70 ∧ m283.1 70 ≤ 4000 := Tm283.1 70
            replace h284 : (m283.1 69) = nu := h284
            have u287 : (m.1 8) + 1 ≤ (m252.1 8) := by omega
            have hAgC : agr (m.2 65) (m270.2 65) (m.1 28) := by first | exact agr_r _ _ | exact hAgC | exact agr_t hAgC hAg (by omega)
            have hXE : XS (m270.2 65) (m270.2 67) (m.2 76) (m.2 78) (m.2 79) (m.2 80) B (m270.1 28) (m.1 73) (m.1 74) 1 := XS_of hXS hEX (by rw [show ar 406 = 1 from rfl]; omega)
            refine T_goto 224 rfl (fun _ => rfl) ?_
            refine T_ret rfl (fun _ => rfl) ?_
            exact ⟨(mO m283 [] []), Tm283, (fr_m (fr_s Fm283 (fr_m (fr_s Fm270 (fr_m (fr_s Fm252 (fr_m (fr_s Fm237 (fr_m fr_0 rfl rfl) rfl rfl) rfl rfl) rfl rfl) rfl rfl) rfl rfl) rfl rfl) rfl rfl) rfl rfl), (show (m283.1 10) = 0 → (m.1 10) = 0 by rewrite [(show (m283.1 10) = (m270.1 10) from (fr1 Fm283 10 rfl))]; omega), (show LxP (m283.1 7) (m283.1 8) (m283.1 9) (m.1 6) (m283.1 10) by rewrite [(show (m283.1 7) = (m252.1 7) from ((fr1 Fm283 7 rfl).trans (fr1 Fm270 7 rfl))), (show (m283.1 8) = (m252.1 8) from ((fr1 Fm283 8 rfl).trans (fr1 Fm270 8 rfl))), (show (m283.1 9) = (m252.1 9) from ((fr1 Fm283 9 rfl).trans (fr1 Fm270 9 rfl))), (show (m283.1 10) = (m270.1 10) from (fr1 Fm283 10 rfl))]; first | (first | exact hLx | exact (fun _ => hLx (by omega)) | (intro h9; exfalso; omega)) | (exfalso; omega)), (fun _ => ⟨(show ((m283.1 75) = 1 ∧ (m.1 8) + 1 ≤ (m283.1 8)) ∨ ((m283.1 75) = 2 ∧ (m283.1 8) = (m.1 8)) by rewrite [(show (m283.1 75) = (m.1 75) from ((fr1 Fm283 75 rfl).trans ((fr1 Fm270 75 rfl).trans ((fr1 Fm252 75 rfl).trans (fr1 Fm237 75 rfl))))), (show (m283.1 8) = (m252.1 8) from ((fr1 Fm283 8 rfl).trans (fr1 Fm270 8 rfl)))]; omega), (show (m283.1 69) ≤ 64 by omega), (show (m.1 28) ≤ (m283.1 28) by rewrite [(show (m283.1 28) = (m270.1 28) from (fr1 Fm283 28 rfl))]; omega), (show XS (m283.2 65) (m283.2 67) (m.2 76) (m.2 78) (m.2 79) (m.2 80) B (m283.1 28) (m.1 73) (m.1 74) 1 by rewrite [(show (m283.2 65) = (m270.2 65) from (fr2 Fm283 65 rfl)), (show (m283.2 67) = (m270.2 67) from (fr2 Fm283 67 rfl)), (show (m283.1 28) = (m270.1 28) from (fr1 Fm283 28 rfl))]; first | (exact hXE) | (exfalso; omega)), (show agr (m.2 65) (m283.2 65) (m.1 28) by rewrite [(show (m283.2 65) = (m270.2 65) from (fr2 Fm283 65 rfl))]; first | (exact hAgC) | (exfalso; omega))⟩), rfl⟩
          · skip
            clear c272
            clear h271
            have hf288 : 1 ≤ (m270.1 10) := by omega
            clear g263 g264 h254
            refine Tm_lv (a := [(0, .ref 189), (1, .int (i32 nu))]) rfl rfl ⟨rfl, rfl, trivial⟩ ?_
            exact J207_38 nu (mO m270 [] []) (r32 (by omega) (by omega)) Tm270 (fr_m (fr_s Fm270 (fr_m (fr_s Fm252 (fr_m (fr_s Fm237 (fr_m fr_0 rfl rfl) rfl rfl) rfl rfl) rfl rfl) rfl rfl) rfl rfl) rfl rfl) (show 1 ≤ nu by omega) (show nu ≤ 64 by omega) (show 1 ≤ (m270.1 10) by omega)
        · skip
          replace h254 : LxP (m252.1 7) (m252.1 8) (m252.1 9) (m237.1 6) (m252.1 10) := h254
          rewrite [(show (m237.1 6) = (m.1 6) from (fr1 Fm237 6 rfl))] at h254
          have hLx := h254
          replace h255 : (m237.1 8) ≤ (m252.1 8) := h255
          clear h256
          clear h257
          replace h258 : (1 : Int) ≤ nu ∧ nu ≤ (64 : Int) := h258
          clear h259
          have hf289 : 1 ≤ (m252.1 10) := by omega
          clear g242 g243 g244 g245 g246 g247 h238 h240 h241 u249 h255
          exact J196_53 nu (mO m252 [] []) (r32 (by omega) (by omega)) Tm252 (fr_m (fr_s Fm252 (fr_m (fr_s Fm237 (fr_m fr_0 rfl rfl) rfl rfl) rfl rfl) rfl rfl) rfl rfl) (show 1 ≤ nu by omega) (show nu ≤ 64 by omega) (show 1 ≤ (m252.1 10) by omega)
      · skip
        replace h238 : LxP (m237.1 7) (m237.1 8) (m237.1 9) (m.1 6) (m237.1 10) := h238
        have hLx := h238
        clear h239
        replace h240 : (m.1 8) ≤ (m237.1 8) := h240
        clear h241
        have hf290 : 1 ≤ (m237.1 10) := by omega
        refine T_ld 190 (.ref 189) rfl (fun _ => rfl) ?_
        refine T_ld 191 (.int (i32 1)) rfl (fun _ => rfl) ?_
        refine T_ld 193 (.int (i32 64)) rfl (fun _ => rfl) ?_
        refine T_call 196 234 [.ref 189, .int (i32 1), .int (i32 64)] [] rfl (fun _ => rfl) rfl (d_number w (mO m237 [] []) c N D (by omega) Tm237 1 64 ⟨by decide, by decide⟩ ⟨by decide, by decide⟩ (show LxP (m237.1 7) (m237.1 8) (m237.1 9) (m237.1 6) (m237.1 10) by rewrite [(show (m237.1 6) = (m.1 6) from (fr1 Fm237 6 rfl))]; first | exact hLx | (intro h9; exfalso; omega) | (intro h9; have h8 := hLx (by omega); omega)) (show (1 : Int) ≤ (64 : Int) by omega)) (fun rr291 k292 => ?_)
        obtain ⟨m293, nu, Tm293, Fm293, g294, h295, h296, h297, h298, h299, h300, rfl⟩ := k292
        refine ⟨_, _, rfl, ?_⟩
        refine T_nb (st' := [.int (i32 nu)]) rfl ?_
        obtain ⟨g294a, g294b⟩ := g294
        have g301 : 0 ≤ m293.1 7 ∧ m293.1 7 ≤ 330 := Tm293.1 7
        have g302 : 0 ≤ m293.1 8 ∧ m293.1 8 ≤ 4000 := Tm293.1 8
        have g303 : 0 ≤ m293.1 9 ∧ m293.1 9 ≤ 4000 := Tm293.1 9
        have g304 : 0 ≤ m293.1 10 ∧ m293.1 10 ≤ 8 := Tm293.1 10
        have g305 : (-1) ≤ m293.1 11 ∧ m293.1 11 ≤ 4000 := Tm293.1 11
        have g306 : (-9223372036854775808) ≤ m293.1 12 ∧ m293.1 12 ≤ 9223372036854775807 := Tm293.1 12
        replace h295 : LxP (m293.1 7) (m293.1 8) (m293.1 9) (m237.1 6) (m293.1 10) := h295
        rewrite [(show (m237.1 6) = (m.1 6) from (fr1 Fm237 6 rfl))] at h295
        replace h296 : (m237.1 8) ≤ (m293.1 8) := h296
        replace h297 : (m293.1 10) = 0 → (m237.1 10) = 0 ∧ (m237.1 8) + (m237.1 9) ≤ (m293.1 8) := h297
        replace h298 : (m293.1 10) = 0 → (m237.1 7) = 2 := h298
        replace h299 : (1 : Int) ≤ nu ∧ nu ≤ (64 : Int) := h299
        replace h300 : (m293.1 10) = 0 → nu = (m237.1 12) := h300
        have hf307 : 1 ≤ (m293.1 10) := by omega
        clear h297
        clear h298
        clear h300
        have hLx := h295
        clear g242 g243 g244 g245 g246 g247 h238 h240 hf290 h296
        exact J196_53 nu (mO m293 [] []) (r32 (by omega) (by omega)) Tm293 (fr_m (fr_s Fm293 (fr_m (fr_s Fm237 (fr_m fr_0 rfl rfl) rfl rfl) rfl rfl) rfl rfl) rfl rfl) (show 1 ≤ nu by omega) (show nu ≤ 64 by omega) (show 1 ≤ (m293.1 10) by omega)
  · skip
    refine T_ld 10 (.ref 189) rfl (fun _ => rfl) ?_
    refine T_call 13 212 [.ref 189] [] rfl (fun _ => rfl) rfl (d_next w (mO m [] []) c N D (by omega) hT (show (m.1 10) = 0 → (m.1 8) + (m.1 9) ≤ (m.1 6) by first | omega | (intro h9; have h8 := hLx h9; omega))) (fun rr308 k309 => ?_)
    obtain ⟨m310, Tm310, Fm310, h311, h312, h313, h314, rfl⟩ := k309
    refine ⟨_, _, rfl, ?_⟩
    refine T_nb (st' := []) rfl ?_
    have g315 : 0 ≤ m310.1 7 ∧ m310.1 7 ≤ 330 := Tm310.1 7
    have g316 : 0 ≤ m310.1 8 ∧ m310.1 8 ≤ 4000 := Tm310.1 8
    have g317 : 0 ≤ m310.1 9 ∧ m310.1 9 ≤ 4000 := Tm310.1 9
    have g318 : 0 ≤ m310.1 10 ∧ m310.1 10 ≤ 8 := Tm310.1 10
    have g319 : (-1) ≤ m310.1 11 ∧ m310.1 11 ≤ 4000 := Tm310.1 11
    have g320 : (-9223372036854775808) ≤ m310.1 12 ∧ m310.1 12 ≤ 9223372036854775807 := Tm310.1 12
    by_cases hf321 : (m310.1 10) = 0
    · skip
      replace h311 : LxP (m310.1 7) (m310.1 8) (m310.1 9) (m.1 6) (m310.1 10) := h311
      have hLx := h311
      replace h312 : (m.1 10) = 0 := h312 hf321
      replace h313 : (m.1 8) ≤ (m310.1 8) := h313
      replace h314 : (m.1 8) + (m.1 9) ≤ (m310.1 8) := h314 hf321
      have u322 : (m.1 8) + 1 ≤ (m310.1 8) := by omega
      have hAgC : agr (m.2 65) (m.2 65) (m.1 28) := by first | exact agr_r _ _ | exact hAgC | exact agr_t hAgC hAg (by omega)
      refine T_gf 17 (.int (i32 (m310.1 8))) rfl rfl rfl rfl rfl rfl ?_
      refine T_sto 18 [(1, .int (i32 (m310.1 8))), (0, .ref 189)] rfl (fun _ => rfl) ?_
      refine T_gf 22 (.int (i32 (m310.1 7))) rfl rfl rfl rfl rfl rfl ?_
      refine T_ld 23 (.int (i32 2)) rfl (fun _ => rfl) ?_
      refine T_icmp 30 26 rfl rfl rfl (r32 (by omega) (by omega)) ⟨by decide, by decide⟩ (fun (h323 : (m310.1 7) = 2) => ?_) (fun (h323 : ¬ ((m310.1 7) = 2)) => ?_)
      · skip
        refine T_gf 34 (.long (i64 (m310.1 12))) rfl rfl rfl rfl rfl rfl ?_
        refine T_sto 35 [(2, .long (i64 (m310.1 12))), (1, .int (i32 (m310.1 8))), (0, .ref 189)] rfl (fun _ => rfl) ?_
        refine T_ld 36 (.ref 189) rfl (fun _ => rfl) ?_
        refine T_call 39 212 [.ref 189] [] rfl (fun _ => rfl) rfl (d_next w (mO m310 [] []) c N D (by omega) Tm310 (show (m310.1 10) = 0 → (m310.1 8) + (m310.1 9) ≤ (m310.1 6) by rewrite [(show (m310.1 6) = (m.1 6) from (fr1 Fm310 6 rfl))]; first | omega | (intro h9; have h8 := hLx h9; omega))) (fun rr324 k325 => ?_)
        obtain ⟨m326, Tm326, Fm326, h327, h328, h329, h330, rfl⟩ := k325
        refine ⟨_, _, rfl, ?_⟩
        refine T_nb (st' := []) rfl ?_
        have g331 : 0 ≤ m326.1 7 ∧ m326.1 7 ≤ 330 := Tm326.1 7
        have g332 : 0 ≤ m326.1 8 ∧ m326.1 8 ≤ 4000 := Tm326.1 8
        have g333 : 0 ≤ m326.1 9 ∧ m326.1 9 ≤ 4000 := Tm326.1 9
        have g334 : 0 ≤ m326.1 10 ∧ m326.1 10 ≤ 8 := Tm326.1 10
        have g335 : (-1) ≤ m326.1 11 ∧ m326.1 11 ≤ 4000 := Tm326.1 11
        have g336 : (-9223372036854775808) ≤ m326.1 12 ∧ m326.1 12 ≤ 9223372036854775807 := Tm326.1 12
        by_cases hf337 : (m326.1 10) = 0
        · skip
          replace h327 : LxP (m326.1 7) (m326.1 8) (m326.1 9) (m310.1 6) (m326.1 10) := h327
          rewrite [(show (m310.1 6) = (m.1 6) from (fr1 Fm310 6 rfl))] at h327
          have hLx := h327
          replace h328 : (m310.1 10) = 0 := h328 hf337
          replace h329 : (m310.1 8) ≤ (m326.1 8) := h329
          replace h330 : (m310.1 8) + (m310.1 9) ≤ (m326.1 8) := h330 hf337
          have u338 : (m.1 8) + 1 ≤ (m326.1 8) := by omega
          have hAgC : agr (m.2 65) (m.2 65) (m.1 28) := by first | exact agr_r _ _ | exact hAgC | exact agr_t hAgC hAg (by omega)
          clear g315 g317 g318 g319 h311 h323 h328 h330
          refine T_ld 40 (.ref 189) rfl (fun _ => rfl) ?_
          refine T_ld 42 (.int (i32 58)) rfl (fun _ => rfl) ?_
          refine T_call 45 232 [.ref 189, .int (i32 58)] [] rfl (fun _ => rfl) rfl (d_need w (mO m326 [] []) c N D (by omega) Tm326 58 ⟨by decide, by decide⟩ (show 1 ≤ (58 : Int) by omega) (show LxP (m326.1 7) (m326.1 8) (m326.1 9) (m326.1 6) (m326.1 10) by rewrite [(show (m326.1 6) = (m.1 6) from ((fr1 Fm326 6 rfl).trans (fr1 Fm310 6 rfl)))]; first | exact hLx | (intro h9; exfalso; omega) | (intro h9; have h8 := hLx (by omega); omega))) (fun rr339 k340 => ?_)
          obtain ⟨m341, Tm341, Fm341, h342, h343, h344, h345, rfl⟩ := k340
          refine ⟨_, _, rfl, ?_⟩
          refine T_nb (st' := []) rfl ?_
          have g346 : 0 ≤ m341.1 7 ∧ m341.1 7 ≤ 330 := Tm341.1 7
          have g347 : 0 ≤ m341.1 8 ∧ m341.1 8 ≤ 4000 := Tm341.1 8
          have g348 : 0 ≤ m341.1 9 ∧ m341.1 9 ≤ 4000 := Tm341.1 9
          have g349 : 0 ≤ m341.1 10 ∧ m341.1 10 ≤ 8 := Tm341.1 10
          have g350 : (-1) ≤ m341.1 11 ∧ m341.1 11 ≤ 4000 := Tm341.1 11
          have g351 : (-9223372036854775808) ≤ m341.1 12 ∧ m341.1 12 ≤ 9223372036854775807 := Tm341.1 12
          by_cases hf352 : (m341.1 10) = 0
          · skip
            replace h342 : LxP (m341.1 7) (m341.1 8) (m341.1 9) (m326.1 6) (m341.1 10) := h342
            rewrite [(show (m326.1 6) = (m.1 6) from ((fr1 Fm326 6 rfl).trans (fr1 Fm310 6 rfl)))] at h342
            have hLx := h342
            replace h343 : (m326.1 10) = 0 ∧ (m326.1 7) = (58 : Int) := h343 hf352
            replace h344 : (m326.1 8) ≤ (m341.1 8) := h344
            replace h345 : (m326.1 8) + (m326.1 9) ≤ (m341.1 8) := h345 hf352
            have u353 : (m.1 8) + 1 ≤ (m341.1 8) := by omega
            have hAgC : agr (m.2 65) (m.2 65) (m.1 28) := by first | exact agr_r _ _ | exact hAgC | exact agr_t hAgC hAg (by omega)
            clear g331 g332 g333 g334 g335 g336 h327 h329 u338 h343 h344 h345
            refine T_gf 49 (.int (i32 (m341.1 10))) rfl rfl rfl rfl rfl rfl ?_
            refine T_if 64 52 rfl rfl rfl (r32 (by omega) (by omega)) (fun (h354 : (m341.1 10) ≠ 0) => by exfalso; omega) (fun (h354 : ¬ ((m341.1 10) ≠ 0)) => ?_)
            refine T_gf 56 (.int (i32 (m341.1 7))) rfl rfl rfl rfl rfl rfl ?_
            refine T_ld 57 (.int (i32 2)) rfl (fun _ => rfl) ?_
            refine T_icmp 64 60 rfl rfl rfl (r32 (by omega) (by omega)) ⟨by decide, by decide⟩ (fun (h355 : (m341.1 7) = 2) => ?_) (fun (h355 : ¬ ((m341.1 7) = 2)) => ?_)
            · skip
              refine T_gf 68 (.long (i64 (m341.1 12))) rfl rfl rfl rfl rfl rfl ?_
              refine T_sto 70 [(4, .long (i64 (m341.1 12))), (2, .long (i64 (m310.1 12))), (1, .int (i32 (m310.1 8))), (0, .ref 189)] rfl (fun _ => rfl) ?_
              refine T_ld 71 (.ref 189) rfl (fun _ => rfl) ?_
              refine T_call 74 212 [.ref 189] [] rfl (fun _ => rfl) rfl (d_next w (mO m341 [] []) c N D (by omega) Tm341 (show (m341.1 10) = 0 → (m341.1 8) + (m341.1 9) ≤ (m341.1 6) by rewrite [(show (m341.1 6) = (m.1 6) from ((fr1 Fm341 6 rfl).trans ((fr1 Fm326 6 rfl).trans (fr1 Fm310 6 rfl))))]; first | omega | (intro h9; have h8 := hLx h9; omega))) (fun rr356 k357 => ?_)
              obtain ⟨m358, Tm358, Fm358, h359, h360, h361, h362, rfl⟩ := k357
              refine ⟨_, _, rfl, ?_⟩
              refine T_nb (st' := []) rfl ?_
              have g363 : 0 ≤ m358.1 7 ∧ m358.1 7 ≤ 330 := Tm358.1 7
              have g364 : 0 ≤ m358.1 8 ∧ m358.1 8 ≤ 4000 := Tm358.1 8
              have g365 : 0 ≤ m358.1 9 ∧ m358.1 9 ≤ 4000 := Tm358.1 9
              have g366 : 0 ≤ m358.1 10 ∧ m358.1 10 ≤ 8 := Tm358.1 10
              have g367 : (-1) ≤ m358.1 11 ∧ m358.1 11 ≤ 4000 := Tm358.1 11
              have g368 : (-9223372036854775808) ≤ m358.1 12 ∧ m358.1 12 ≤ 9223372036854775807 := Tm358.1 12
              by_cases hf369 : (m358.1 10) = 0
              · skip
                replace h359 : LxP (m358.1 7) (m358.1 8) (m358.1 9) (m341.1 6) (m358.1 10) := h359
                rewrite [(show (m341.1 6) = (m.1 6) from ((fr1 Fm341 6 rfl).trans ((fr1 Fm326 6 rfl).trans (fr1 Fm310 6 rfl))))] at h359
                have hLx := h359
                replace h360 : (m341.1 10) = 0 := h360 hf369
                replace h361 : (m341.1 8) ≤ (m358.1 8) := h361
                replace h362 : (m341.1 8) + (m341.1 9) ≤ (m358.1 8) := h362 hf369
                have u370 : (m.1 8) + 1 ≤ (m358.1 8) := by omega
                have hAgC : agr (m.2 65) (m.2 65) (m.1 28) := by first | exact agr_r _ _ | exact hAgC | exact agr_t hAgC hAg (by omega)
                clear g346 g347 g348 g349 g350 h342 u353 h354 h355 h360 h361 h362
                refine T_gf 78 (.int (i32 (m358.1 10))) rfl rfl rfl rfl rfl rfl ?_
                refine T_if 121 81 rfl rfl rfl (r32 (by omega) (by omega)) (fun (h371 : (m358.1 10) ≠ 0) => by exfalso; omega) (fun (h371 : ¬ ((m358.1 10) ≠ 0)) => ?_)
                refine T_ld 82 (.ref 189) rfl (fun _ => rfl) ?_
                refine T_ld 83 (.long (i64 (m310.1 12))) rfl (fun _ => rfl) ?_
                refine T_ld 84 (.long (i64 0)) rfl (fun _ => rfl) ?_
                refine T_lcmp 85 rfl rfl (r64 (by omega) (by omega)) ⟨by decide, by decide⟩ (fun z372 h373 => ?_)
                obtain ⟨h373a, h373b, h373c, h373d, h373e⟩ := h373
                refine T_if 116 88 rfl rfl rfl (r32 (by omega) (by omega)) (fun (h374 : z372 < 0) => ?_) (fun (h374 : ¬ (z372 < 0)) => ?_)
                · skip
                  have hl375 : (m310.1 12) < 0 := by omega
                  refine T_ld 117 (.int (i32 0)) rfl (fun _ => rfl) ?_
                  refine T_ld 118 (.int (i32 (m310.1 8))) rfl (fun _ => rfl) ?_
                  refine T_call 121 256 [.ref 189, .int (i32 0), .int (i32 (m310.1 8))] [] rfl (fun _ => rfl) rfl (c_want w (mO m358 [] []) c N D (by omega) Tm358 0 (m310.1 8) ⟨by decide, by decide⟩ (r32 (by omega) (by omega)) (show 0 ≤ (m310.1 8) ∧ (m310.1 8) ≤ 4000 by omega) (fun _ => trivial)) (fun rr376 k377 => ?_)
                  obtain ⟨m378, Tm378, Fm378, h379, c380, rfl⟩ := k377
                  refine ⟨_, _, rfl, ?_⟩
                  refine T_nb (st' := []) rfl ?_
                  have g381 : 0 ≤ m378.1 10 ∧ m378.1 10 ≤ 8 := Tm378.1 10
                  have g382 : (-1) ≤ m378.1 11 ∧ m378.1 11 ≤ 4000 := Tm378.1 11
                  by_cases hf383 : (m378.1 10) = 0
                  · skip
                    replace h379 : (m358.1 10) = 0 := h379 hf383
                    have c384 := c380 hf383
                    replace c384 : (0 : Int) ≠ 0 := c384
                    clear c380
                    have u385 : (m.1 8) + 1 ≤ (m358.1 8) := by omega
                    have hAgC : agr (m.2 65) (m.2 65) (m.1 28) := by first | exact agr_r _ _ | exact hAgC | exact agr_t hAgC hAg (by omega)
                    clear g366 g367 h359 h371 h373a h373b h373c h373d h373e h374 h379
                    refine T_ld 122 (.ref 189) rfl (fun _ => rfl) ?_
                    refine T_ld 124 (.int (i32 93)) rfl (fun _ => rfl) ?_
                    refine T_call 127 232 [.ref 189, .int (i32 93)] [] rfl (fun _ => rfl) rfl (d_need w (mO m378 [] []) c N D (by omega) Tm378 93 ⟨by decide, by decide⟩ (show 1 ≤ (93 : Int) by omega) (show LxP (m378.1 7) (m378.1 8) (m378.1 9) (m378.1 6) (m378.1 10) by rewrite [(show (m378.1 7) = (m358.1 7) from (fr1 Fm378 7 rfl)), (show (m378.1 8) = (m358.1 8) from (fr1 Fm378 8 rfl)), (show (m378.1 9) = (m358.1 9) from (fr1 Fm378 9 rfl)), (show (m378.1 6) = (m.1 6) from ((fr1 Fm378 6 rfl).trans ((fr1 Fm358 6 rfl).trans ((fr1 Fm341 6 rfl).trans ((fr1 Fm326 6 rfl).trans (fr1 Fm310 6 rfl))))))]; first | exact hLx | (intro h9; exfalso; omega) | (intro h9; have h8 := hLx (by omega); omega))) (fun rr386 k387 => ?_)
                    obtain ⟨m388, Tm388, Fm388, h389, h390, h391, h392, rfl⟩ := k387
                    refine ⟨_, _, rfl, ?_⟩
                    refine T_nb (st' := []) rfl ?_
                    have g393 : 0 ≤ m388.1 7 ∧ m388.1 7 ≤ 330 := Tm388.1 7
                    have g394 : 0 ≤ m388.1 8 ∧ m388.1 8 ≤ 4000 := Tm388.1 8
                    have g395 : 0 ≤ m388.1 9 ∧ m388.1 9 ≤ 4000 := Tm388.1 9
                    have g396 : 0 ≤ m388.1 10 ∧ m388.1 10 ≤ 8 := Tm388.1 10
                    have g397 : (-1) ≤ m388.1 11 ∧ m388.1 11 ≤ 4000 := Tm388.1 11
                    have g398 : (-9223372036854775808) ≤ m388.1 12 ∧ m388.1 12 ≤ 9223372036854775807 := Tm388.1 12
                    by_cases hf399 : (m388.1 10) = 0
                    · skip
                      replace h389 : LxP (m388.1 7) (m388.1 8) (m388.1 9) (m378.1 6) (m388.1 10) := h389
                      rewrite [(show (m378.1 6) = (m.1 6) from ((fr1 Fm378 6 rfl).trans ((fr1 Fm358 6 rfl).trans ((fr1 Fm341 6 rfl).trans ((fr1 Fm326 6 rfl).trans (fr1 Fm310 6 rfl))))))] at h389
                      have hLx := h389
                      replace h390 : (m378.1 10) = 0 ∧ (m378.1 7) = (93 : Int) := h390 hf399
                      rewrite [(show (m378.1 7) = (m358.1 7) from (fr1 Fm378 7 rfl))] at h390
                      replace h391 : (m378.1 8) ≤ (m388.1 8) := h391
                      rewrite [(show (m378.1 8) = (m358.1 8) from (fr1 Fm378 8 rfl))] at h391
                      replace h392 : (m378.1 8) + (m378.1 9) ≤ (m388.1 8) := h392 hf399
                      rewrite [(show (m378.1 8) = (m358.1 8) from (fr1 Fm378 8 rfl)), (show (m378.1 9) = (m358.1 9) from (fr1 Fm378 9 rfl))] at h392
                      have u400 : (m.1 8) + 1 ≤ (m388.1 8) := by omega
                      have hAgC : agr (m.2 65) (m.2 65) (m.1 28) := by first | exact agr_r _ _ | exact hAgC | exact agr_t hAgC hAg (by omega)
                      clear g363 g364 g365 g368 u370 g381 g382 u385 h390 h391 h392
                      refine T_gf 131 (.int (i32 (m388.1 10))) rfl rfl rfl rfl rfl rfl ?_
                      refine T_if 135 134 rfl rfl rfl (r32 (by omega) (by omega)) (fun (h401 : (m388.1 10) ≤ 0) => ?_) (fun (h401 : ¬ ((m388.1 10) ≤ 0)) => by exfalso; omega)
                      refine T_gf 139 (.int (i32 (m.1 70))) rfl rfl rfl rfl (mfv_c (F := fun x => .int (i32 x)) rfl (show (m388.1 70) = (m.1 70) from ((fr1 Fm388 70 rfl).trans ((fr1 Fm378 70 rfl).trans ((fr1 Fm358 70 rfl).trans ((fr1 Fm341 70 rfl).trans ((fr1 Fm326 70 rfl).trans (fr1 Fm310 70 rfl)))))))) rfl ?_
                      refine T_sto 141 [(6, .int (i32 (m.1 70))), (4, .long (i64 (m341.1 12))), (2, .long (i64 (m310.1 12))), (1, .int (i32 (m310.1 8))), (0, .ref 189)] rfl (fun _ => rfl) ?_
                      have hAr : ar 405 ≤ 1 + lh (m.2 79) (m.2 80) (m.1 73) := by rw [show ar 405 = 1 from rfl]; omega
                      have hCk : CNk 405 (m341.1 12) := by refine ⟨?_, ?_, ?_, ?_⟩ <;> omega
                      refine T_ld 142 (.ref 189) rfl (fun _ => rfl) ?_
                      refine T_ld 145 (.int (i32 405)) rfl (fun _ => rfl) ?_
                      refine T_ld 146 (.long (i64 (m310.1 12))) rfl (fun _ => rfl) ?_
                      refine T_ld 148 (.long (i64 (m341.1 12))) rfl (fun _ => rfl) ?_
                      refine T_lsub 149 rfl rfl ?_
                      refine T_l2i 150 rfl rfl ?_
                      refine T_ld 151 (.int (i32 1)) rfl (fun _ => rfl) ?_
                      refine T_iadd 152 rfl rfl ?_
                      refine T_ld 154 (.long (i64 (m341.1 12))) rfl (fun _ => rfl) ?_
                      refine T_l2i 155 rfl rfl ?_
                      refine T_ld 156 (.long (i64 0)) rfl (fun _ => rfl) ?_
                      refine T_call 159 248 [.ref 189, .int (i32 405), .int (i32 (((m310.1 12) - (m341.1 12)) + 1)), .int (i32 (m341.1 12)), .long (i64 0)] [] rfl (fun _ => rfl) rfl (c_node w (mO m388 [] []) c N D (by omega) Tm388 405 (((m310.1 12) - (m341.1 12)) + 1) (m341.1 12) 0 B (1 + lh (m.2 79) (m.2 80) (m.1 73)) ⟨by decide, by decide⟩ (r32 (by omega) (by omega)) (r32 (by omega) (by omega)) ⟨by decide, by decide⟩ (fun _ => ⟨(show 0 ≤ (405 : Int) ∧ (405 : Int) ≤ 408 by first | omega | decide), (show 0 ≤ (((m310.1 12) - (m341.1 12)) + 1) ∧ (((m310.1 12) - (m341.1 12)) + 1) ≤ 64 by first | omega | decide), (show 0 ≤ (m341.1 12) ∧ (m341.1 12) ≤ 191 by first | omega | decide), (show CNk (405 : Int) (m341.1 12) by first | exact hCk | (refine ⟨?_, ?_, ?_, ?_⟩ <;> omega)), (show ar (405 : Int) ≤ (1 + lh (m.2 79) (m.2 80) (m.1 73)) by first | exact hAr | omega), (show EX (m388.2 65) (m388.2 67) B (m388.1 28) (1 + lh (m.2 79) (m.2 80) (m.1 73)) by rewrite [(show (m388.2 65) = (m.2 65) from ((fr2 Fm388 65 rfl).trans ((fr2 Fm378 65 rfl).trans ((fr2 Fm358 65 rfl).trans ((fr2 Fm341 65 rfl).trans ((fr2 Fm326 65 rfl).trans (fr2 Fm310 65 rfl))))))), (show (m388.2 67) = (m.2 67) from ((fr2 Fm388 67 rfl).trans ((fr2 Fm378 67 rfl).trans ((fr2 Fm358 67 rfl).trans ((fr2 Fm341 67 rfl).trans ((fr2 Fm326 67 rfl).trans (fr2 Fm310 67 rfl))))))), (show (m388.1 28) = (m.1 28) from ((fr1 Fm388 28 rfl).trans ((fr1 Fm378 28 rfl).trans ((fr1 Fm358 28 rfl).trans ((fr1 Fm341 28 rfl).trans ((fr1 Fm326 28 rfl).trans (fr1 Fm310 28 rfl)))))))]; first | exact hEX | assumption)⟩)) (fun rr402 k403 => ?_)
                      obtain ⟨m404, Tm404, Fm404, h405, c406, rfl⟩ := k403
                      refine ⟨_, _, rfl, ?_⟩
                      refine T_nb (st' := []) rfl ?_
                      have g407 : 0 ≤ m404.1 10 ∧ m404.1 10 ≤ 8 := Tm404.1 10
                      have g408 : (-1) ≤ m404.1 11 ∧ m404.1 11 ≤ 4000 := Tm404.1 11
                      have g409 : 0 ≤ m404.1 28 ∧ m404.1 28 ≤ 800 := Tm404.1 28
                      by_cases hf410 : (m404.1 10) = 0
                      · skip
                        replace h405 : (m388.1 10) = 0 := h405 hf410
                        obtain ⟨c411, c412, c413⟩ := c406 hf410
                        replace c411 : (m404.1 28) = (m388.1 28) + 1 := c411
                        rewrite [(show (m388.1 28) = (m.1 28) from ((fr1 Fm388 28 rfl).trans ((fr1 Fm378 28 rfl).trans ((fr1 Fm358 28 rfl).trans ((fr1 Fm341 28 rfl).trans ((fr1 Fm326 28 rfl).trans (fr1 Fm310 28 rfl)))))))] at c411
                        replace c412 : EX (m404.2 65) (m404.2 67) B (m404.1 28) ((1 + lh (m.2 79) (m.2 80) (m.1 73)) + 1 - ar (405 : Int)) := c412
                        have hEX := c412
                        replace c413 : agr (m388.2 65) (m404.2 65) (m388.1 28) := c413
                        rewrite [(show (m388.2 65) = (m.2 65) from ((fr2 Fm388 65 rfl).trans ((fr2 Fm378 65 rfl).trans ((fr2 Fm358 65 rfl).trans ((fr2 Fm341 65 rfl).trans ((fr2 Fm326 65 rfl).trans (fr2 Fm310 65 rfl))))))), (show (m388.1 28) = (m.1 28) from ((fr1 Fm388 28 rfl).trans ((fr1 Fm378 28 rfl).trans ((fr1 Fm358 28 rfl).trans ((fr1 Fm341 28 rfl).trans ((fr1 Fm326 28 rfl).trans (fr1 Fm310 28 rfl)))))))] at c413
                        have hAg := c413
                        clear c406
                        have u414 : (m.1 8) + 1 ≤ (m388.1 8) := by omega
                        have hAgC : agr (m.2 65) (m404.2 65) (m.1 28) := by first | exact agr_r _ _ | exact hAgC | exact agr_t hAgC hAg (by omega)
                        clear g396 g397 h389 h401 h405
                        refine T_ld 160 (.ref 189) rfl (fun _ => rfl) ?_
                        refine T_ld 161 (.long (i64 (m310.1 12))) rfl (fun _ => rfl) ?_
                        refine T_ld 163 (.long (i64 (m341.1 12))) rfl (fun _ => rfl) ?_
                        refine T_lsub 164 rfl rfl ?_
                        refine T_l2i 165 rfl rfl ?_
                        refine T_ld 166 (.int (i32 1)) rfl (fun _ => rfl) ?_
                        refine T_iadd 167 rfl rfl ?_
                        refine T_ld 169 (.int (i32 (m.1 70))) rfl (fun _ => rfl) ?_
                        refine T_call 172 250 [.ref 189, .int (i32 (((m310.1 12) - (m341.1 12)) + 1)), .int (i32 (m.1 70))] [] rfl (fun _ => rfl) rfl (c_unit w (mO m404 [] []) c N D (by omega) Tm404 (((m310.1 12) - (m341.1 12)) + 1) (m.1 70) (r32 (by omega) (by omega)) (r32 (by omega) (by omega)) (show 0 ≤ (((m310.1 12) - (m341.1 12)) + 1) ∧ (((m310.1 12) - (m341.1 12)) + 1) ≤ 1024 by omega) (show 0 ≤ (m.1 70) ∧ (m.1 70) ≤ 4000 by omega)) (fun rr415 k416 => ?_)
                        obtain ⟨m417, Tm417, Fm417, h418, rfl⟩ := k416
                        refine ⟨_, _, rfl, ?_⟩
                        refine T_nb (st' := []) rfl ?_
                        have g419 : 0 ≤ m417.1 69 ∧ m417.1 69 ≤ 1024 := Tm417.1 69
                        have g420 : 0 ≤ m417.1 70 ∧ m417.1 70 ≤ 4000 := Tm417.1 70
                        replace h418 : (m417.1 69) = (((m310.1 12) - (m341.1 12)) + 1) := h418
                        have u421 : (m.1 8) + 1 ≤ (m388.1 8) := by omega
                        have hAgC : agr (m.2 65) (m404.2 65) (m.1 28) := by first | exact agr_r _ _ | exact hAgC | exact agr_t hAgC hAg (by omega)
                        have hXE : XS (m404.2 65) (m404.2 67) (m.2 76) (m.2 78) (m.2 79) (m.2 80) B (m404.1 28) (m.1 73) (m.1 74) 1 := XS_of hXS hEX (by rw [show ar 405 = 1 from rfl]; omega)
                        refine T_goto 224 rfl (fun _ => rfl) ?_
                        refine T_ret rfl (fun _ => rfl) ?_
                        exact ⟨(mO m417 [] []), Tm417, (fr_m (fr_s Fm417 (fr_m (fr_s Fm404 (fr_m (fr_s Fm388 (fr_m (fr_s Fm378 (fr_m (fr_s Fm358 (fr_m (fr_s Fm341 (fr_m (fr_s Fm326 (fr_m (fr_s Fm310 (fr_m fr_0 rfl rfl) rfl rfl) rfl rfl) rfl rfl) rfl rfl) rfl rfl) rfl rfl) rfl rfl) rfl rfl) rfl rfl) rfl rfl) rfl rfl) rfl rfl) rfl rfl) rfl rfl) rfl rfl) rfl rfl), (show (m417.1 10) = 0 → (m.1 10) = 0 by rewrite [(show (m417.1 10) = (m404.1 10) from (fr1 Fm417 10 rfl))]; omega), (show LxP (m417.1 7) (m417.1 8) (m417.1 9) (m.1 6) (m417.1 10) by rewrite [(show (m417.1 7) = (m388.1 7) from ((fr1 Fm417 7 rfl).trans (fr1 Fm404 7 rfl))), (show (m417.1 8) = (m388.1 8) from ((fr1 Fm417 8 rfl).trans (fr1 Fm404 8 rfl))), (show (m417.1 9) = (m388.1 9) from ((fr1 Fm417 9 rfl).trans (fr1 Fm404 9 rfl))), (show (m417.1 10) = (m404.1 10) from (fr1 Fm417 10 rfl))]; first | (first | exact hLx | exact (fun _ => hLx (by omega)) | (intro h9; exfalso; omega)) | (exfalso; omega)), (fun _ => ⟨(show ((m417.1 75) = 1 ∧ (m.1 8) + 1 ≤ (m417.1 8)) ∨ ((m417.1 75) = 2 ∧ (m417.1 8) = (m.1 8)) by rewrite [(show (m417.1 75) = (m.1 75) from ((fr1 Fm417 75 rfl).trans ((fr1 Fm404 75 rfl).trans ((fr1 Fm388 75 rfl).trans ((fr1 Fm378 75 rfl).trans ((fr1 Fm358 75 rfl).trans ((fr1 Fm341 75 rfl).trans ((fr1 Fm326 75 rfl).trans (fr1 Fm310 75 rfl))))))))), (show (m417.1 8) = (m388.1 8) from ((fr1 Fm417 8 rfl).trans (fr1 Fm404 8 rfl)))]; omega), (show (m417.1 69) ≤ 64 by omega), (show (m.1 28) ≤ (m417.1 28) by rewrite [(show (m417.1 28) = (m404.1 28) from (fr1 Fm417 28 rfl))]; omega), (show XS (m417.2 65) (m417.2 67) (m.2 76) (m.2 78) (m.2 79) (m.2 80) B (m417.1 28) (m.1 73) (m.1 74) 1 by rewrite [(show (m417.2 65) = (m404.2 65) from (fr2 Fm417 65 rfl)), (show (m417.2 67) = (m404.2 67) from (fr2 Fm417 67 rfl)), (show (m417.1 28) = (m404.1 28) from (fr1 Fm417 28 rfl))]; first | (exact hXE) | (exfalso; omega)), (show agr (m.2 65) (m417.2 65) (m.1 28) by rewrite [(show (m417.2 65) = (m404.2 65) from (fr2 Fm417 65 rfl))]; first | (exact hAgC) | (exfalso; omega))⟩), rfl⟩
                      · skip
                        clear c406
                        clear h405
                        have hf422 : 1 ≤ (m404.1 10) := by omega
                        clear g396 g397 h389 h401
                        refine Tm_lv (a := [(0, .ref 189), (1, .int (i32 (m310.1 8))), (2, .long (i64 (m310.1 12))), (4, .long (i64 (m341.1 12))), (6, .int (i32 (m.1 70)))]) rfl rfl ⟨rfl, rfl, rfl, rfl, rfl, trivial⟩ ?_
                        exact J159_73 (m310.1 8) (m310.1 12) (m341.1 12) (mO m404 [] []) (r32 (by omega) (by omega)) (r64 (by omega) (by omega)) (r64 (by omega) (by omega)) Tm404 (fr_m (fr_s Fm404 (fr_m (fr_s Fm388 (fr_m (fr_s Fm378 (fr_m (fr_s Fm358 (fr_m (fr_s Fm341 (fr_m (fr_s Fm326 (fr_m (fr_s Fm310 (fr_m fr_0 rfl rfl) rfl rfl) rfl rfl) rfl rfl) rfl rfl) rfl rfl) rfl rfl) rfl rfl) rfl rfl) rfl rfl) rfl rfl) rfl rfl) rfl rfl) rfl rfl) rfl rfl) (show 0 ≤ (m310.1 8) by omega) (show (m310.1 8) ≤ 4000 by omega) (show 0 ≤ (m310.1 12) - (m341.1 12) ∧ (m310.1 12) - (m341.1 12) ≤ 63 by omega) (show 0 ≤ (m.1 70) ∧ (m.1 70) ≤ 4000 by omega) (show 1 ≤ (m404.1 10) by omega)
                    · skip
                      replace h389 : LxP (m388.1 7) (m388.1 8) (m388.1 9) (m378.1 6) (m388.1 10) := h389
                      rewrite [(show (m378.1 6) = (m.1 6) from ((fr1 Fm378 6 rfl).trans ((fr1 Fm358 6 rfl).trans ((fr1 Fm341 6 rfl).trans ((fr1 Fm326 6 rfl).trans (fr1 Fm310 6 rfl))))))] at h389
                      have hLx := h389
                      clear h390
                      replace h391 : (m378.1 8) ≤ (m388.1 8) := h391
                      rewrite [(show (m378.1 8) = (m358.1 8) from (fr1 Fm378 8 rfl))] at h391
                      clear h392
                      have hf423 : 1 ≤ (m388.1 10) := by omega
                      clear g363 g364 g365 g368 u370 g381 g382 u385 h391
                      refine Tm_lv (a := [(0, .ref 189), (1, .int (i32 (m310.1 8))), (2, .long (i64 (m310.1 12))), (4, .long (i64 (m341.1 12)))]) rfl rfl ⟨rfl, rfl, rfl, rfl, trivial⟩ ?_
                      exact J127_94 (m310.1 8) (m310.1 12) (m341.1 12) (mO m388 [] []) (r32 (by omega) (by omega)) (r64 (by omega) (by omega)) (r64 (by omega) (by omega)) Tm388 (fr_m (fr_s Fm388 (fr_m (fr_s Fm378 (fr_m (fr_s Fm358 (fr_m (fr_s Fm341 (fr_m (fr_s Fm326 (fr_m (fr_s Fm310 (fr_m fr_0 rfl rfl) rfl rfl) rfl rfl) rfl rfl) rfl rfl) rfl rfl) rfl rfl) rfl rfl) rfl rfl) rfl rfl) rfl rfl) rfl rfl) rfl rfl) (show 0 ≤ (m310.1 8) by omega) (show (m310.1 8) ≤ 4000 by omega) (show 1 ≤ (m388.1 10) by omega)
                  · skip
                    clear c380
                    clear h379
                    have hf424 : 1 ≤ (m378.1 10) := by omega
                    clear g366 g367 h359 h371 h373a h373b h373c h373d h373e h374
                    refine Tm_lv (a := [(0, .ref 189), (1, .int (i32 (m310.1 8))), (2, .long (i64 (m310.1 12))), (4, .long (i64 (m341.1 12)))]) rfl rfl ⟨rfl, rfl, rfl, rfl, trivial⟩ ?_
                    exact J121_108 (m310.1 8) (m310.1 12) (m341.1 12) (mO m378 [] []) (r32 (by omega) (by omega)) (r64 (by omega) (by omega)) (r64 (by omega) (by omega)) Tm378 (fr_m (fr_s Fm378 (fr_m (fr_s Fm358 (fr_m (fr_s Fm341 (fr_m (fr_s Fm326 (fr_m (fr_s Fm310 (fr_m fr_0 rfl rfl) rfl rfl) rfl rfl) rfl rfl) rfl rfl) rfl rfl) rfl rfl) rfl rfl) rfl rfl) rfl rfl) rfl rfl) (show 0 ≤ (m310.1 8) by omega) (show (m310.1 8) ≤ 4000 by omega) (show 1 ≤ (m378.1 10) by omega)
                · skip
                  have hl425 : (m310.1 12) ≥ 0 := by omega
                  refine T_ld 90 (.long (i64 (m341.1 12))) rfl (fun _ => rfl) ?_
                  refine T_ld 91 (.long (i64 0)) rfl (fun _ => rfl) ?_
                  refine T_lcmp 92 rfl rfl (r64 (by omega) (by omega)) ⟨by decide, by decide⟩ (fun z426 h427 => ?_)
                  obtain ⟨h427a, h427b, h427c, h427d, h427e⟩ := h427
                  refine T_if 116 95 rfl rfl rfl (r32 (by omega) (by omega)) (fun (h428 : z426 < 0) => ?_) (fun (h428 : ¬ (z426 < 0)) => ?_)
                  · skip
                    have hl429 : (m341.1 12) < 0 := by omega
                    refine T_ld 117 (.int (i32 0)) rfl (fun _ => rfl) ?_
                    refine T_ld 118 (.int (i32 (m310.1 8))) rfl (fun _ => rfl) ?_
                    refine T_call 121 256 [.ref 189, .int (i32 0), .int (i32 (m310.1 8))] [] rfl (fun _ => rfl) rfl (c_want w (mO m358 [] []) c N D (by omega) Tm358 0 (m310.1 8) ⟨by decide, by decide⟩ (r32 (by omega) (by omega)) (show 0 ≤ (m310.1 8) ∧ (m310.1 8) ≤ 4000 by omega) (fun _ => trivial)) (fun rr430 k431 => ?_)
                    obtain ⟨m432, Tm432, Fm432, h433, c434, rfl⟩ := k431
                    refine ⟨_, _, rfl, ?_⟩
                    refine T_nb (st' := []) rfl ?_
                    have g435 : 0 ≤ m432.1 10 ∧ m432.1 10 ≤ 8 := Tm432.1 10
                    have g436 : (-1) ≤ m432.1 11 ∧ m432.1 11 ≤ 4000 := Tm432.1 11
                    by_cases hf437 : (m432.1 10) = 0
                    · skip
                      replace h433 : (m358.1 10) = 0 := h433 hf437
                      have c438 := c434 hf437
                      replace c438 : (0 : Int) ≠ 0 := c438
                      clear c434
                      have u439 : (m.1 8) + 1 ≤ (m358.1 8) := by omega
                      have hAgC : agr (m.2 65) (m.2 65) (m.1 28) := by first | exact agr_r _ _ | exact hAgC | exact agr_t hAgC hAg (by omega)
                      clear g366 g367 h359 h371 h373a h373b h373c h373d h373e h374 h427a h427b h427c h427d h427e h428 h433
                      refine T_ld 122 (.ref 189) rfl (fun _ => rfl) ?_
                      refine T_ld 124 (.int (i32 93)) rfl (fun _ => rfl) ?_
                      refine T_call 127 232 [.ref 189, .int (i32 93)] [] rfl (fun _ => rfl) rfl (d_need w (mO m432 [] []) c N D (by omega) Tm432 93 ⟨by decide, by decide⟩ (show 1 ≤ (93 : Int) by omega) (show LxP (m432.1 7) (m432.1 8) (m432.1 9) (m432.1 6) (m432.1 10) by rewrite [(show (m432.1 7) = (m358.1 7) from (fr1 Fm432 7 rfl)), (show (m432.1 8) = (m358.1 8) from (fr1 Fm432 8 rfl)), (show (m432.1 9) = (m358.1 9) from (fr1 Fm432 9 rfl)), (show (m432.1 6) = (m.1 6) from ((fr1 Fm432 6 rfl).trans ((fr1 Fm358 6 rfl).trans ((fr1 Fm341 6 rfl).trans ((fr1 Fm326 6 rfl).trans (fr1 Fm310 6 rfl))))))]; first | exact hLx | (intro h9; exfalso; omega) | (intro h9; have h8 := hLx (by omega); omega))) (fun rr440 k441 => ?_)
                      obtain ⟨m442, Tm442, Fm442, h443, h444, h445, h446, rfl⟩ := k441
                      refine ⟨_, _, rfl, ?_⟩
                      refine T_nb (st' := []) rfl ?_
                      have g447 : 0 ≤ m442.1 7 ∧ m442.1 7 ≤ 330 := Tm442.1 7
                      have g448 : 0 ≤ m442.1 8 ∧ m442.1 8 ≤ 4000 := Tm442.1 8
                      have g449 : 0 ≤ m442.1 9 ∧ m442.1 9 ≤ 4000 := Tm442.1 9
                      have g450 : 0 ≤ m442.1 10 ∧ m442.1 10 ≤ 8 := Tm442.1 10
                      have g451 : (-1) ≤ m442.1 11 ∧ m442.1 11 ≤ 4000 := Tm442.1 11
                      have g452 : (-9223372036854775808) ≤ m442.1 12 ∧ m442.1 12 ≤ 9223372036854775807 := Tm442.1 12
                      by_cases hf453 : (m442.1 10) = 0
                      · skip
                        replace h443 : LxP (m442.1 7) (m442.1 8) (m442.1 9) (m432.1 6) (m442.1 10) := h443
                        rewrite [(show (m432.1 6) = (m.1 6) from ((fr1 Fm432 6 rfl).trans ((fr1 Fm358 6 rfl).trans ((fr1 Fm341 6 rfl).trans ((fr1 Fm326 6 rfl).trans (fr1 Fm310 6 rfl))))))] at h443
                        have hLx := h443
                        replace h444 : (m432.1 10) = 0 ∧ (m432.1 7) = (93 : Int) := h444 hf453
                        rewrite [(show (m432.1 7) = (m358.1 7) from (fr1 Fm432 7 rfl))] at h444
                        replace h445 : (m432.1 8) ≤ (m442.1 8) := h445
                        rewrite [(show (m432.1 8) = (m358.1 8) from (fr1 Fm432 8 rfl))] at h445
                        replace h446 : (m432.1 8) + (m432.1 9) ≤ (m442.1 8) := h446 hf453
                        rewrite [(show (m432.1 8) = (m358.1 8) from (fr1 Fm432 8 rfl)), (show (m432.1 9) = (m358.1 9) from (fr1 Fm432 9 rfl))] at h446
                        have u454 : (m.1 8) + 1 ≤ (m442.1 8) := by omega
                        have hAgC : agr (m.2 65) (m.2 65) (m.1 28) := by first | exact agr_r _ _ | exact hAgC | exact agr_t hAgC hAg (by omega)
                        clear g363 g364 g365 g368 u370 g435 g436 u439 h444 h445 h446
                        refine T_gf 131 (.int (i32 (m442.1 10))) rfl rfl rfl rfl rfl rfl ?_
                        refine T_if 135 134 rfl rfl rfl (r32 (by omega) (by omega)) (fun (h455 : (m442.1 10) ≤ 0) => ?_) (fun (h455 : ¬ ((m442.1 10) ≤ 0)) => by exfalso; omega)
                        refine T_gf 139 (.int (i32 (m.1 70))) rfl rfl rfl rfl (mfv_c (F := fun x => .int (i32 x)) rfl (show (m442.1 70) = (m.1 70) from ((fr1 Fm442 70 rfl).trans ((fr1 Fm432 70 rfl).trans ((fr1 Fm358 70 rfl).trans ((fr1 Fm341 70 rfl).trans ((fr1 Fm326 70 rfl).trans (fr1 Fm310 70 rfl)))))))) rfl ?_
                        refine T_sto 141 [(6, .int (i32 (m.1 70))), (4, .long (i64 (m341.1 12))), (2, .long (i64 (m310.1 12))), (1, .int (i32 (m310.1 8))), (0, .ref 189)] rfl (fun _ => rfl) ?_
                        have hAr : ar 405 ≤ 1 + lh (m.2 79) (m.2 80) (m.1 73) := by rw [show ar 405 = 1 from rfl]; omega
                        have hCk : CNk 405 (m341.1 12) := by refine ⟨?_, ?_, ?_, ?_⟩ <;> omega
                        refine T_ld 142 (.ref 189) rfl (fun _ => rfl) ?_
                        refine T_ld 145 (.int (i32 405)) rfl (fun _ => rfl) ?_
                        refine T_ld 146 (.long (i64 (m310.1 12))) rfl (fun _ => rfl) ?_
                        refine T_ld 148 (.long (i64 (m341.1 12))) rfl (fun _ => rfl) ?_
                        refine T_lsub 149 rfl rfl ?_
                        refine T_l2i 150 rfl rfl ?_
                        refine T_ld 151 (.int (i32 1)) rfl (fun _ => rfl) ?_
                        refine T_iadd 152 rfl rfl ?_
                        refine T_ld 154 (.long (i64 (m341.1 12))) rfl (fun _ => rfl) ?_
                        refine T_l2i 155 rfl rfl ?_
                        refine T_ld 156 (.long (i64 0)) rfl (fun _ => rfl) ?_
                        refine T_call 159 248 [.ref 189, .int (i32 405), .int (i32 (((m310.1 12) - (m341.1 12)) + 1)), .int (i32 (m341.1 12)), .long (i64 0)] [] rfl (fun _ => rfl) rfl (c_node w (mO m442 [] []) c N D (by omega) Tm442 405 (((m310.1 12) - (m341.1 12)) + 1) (m341.1 12) 0 B (1 + lh (m.2 79) (m.2 80) (m.1 73)) ⟨by decide, by decide⟩ (r32 (by omega) (by omega)) (r32 (by omega) (by omega)) ⟨by decide, by decide⟩ (fun _ => ⟨(show 0 ≤ (405 : Int) ∧ (405 : Int) ≤ 408 by first | omega | decide), (show 0 ≤ (((m310.1 12) - (m341.1 12)) + 1) ∧ (((m310.1 12) - (m341.1 12)) + 1) ≤ 64 by first | omega | decide), (show 0 ≤ (m341.1 12) ∧ (m341.1 12) ≤ 191 by first | omega | decide), (show CNk (405 : Int) (m341.1 12) by first | exact hCk | (refine ⟨?_, ?_, ?_, ?_⟩ <;> omega)), (show ar (405 : Int) ≤ (1 + lh (m.2 79) (m.2 80) (m.1 73)) by first | exact hAr | omega), (show EX (m442.2 65) (m442.2 67) B (m442.1 28) (1 + lh (m.2 79) (m.2 80) (m.1 73)) by rewrite [(show (m442.2 65) = (m.2 65) from ((fr2 Fm442 65 rfl).trans ((fr2 Fm432 65 rfl).trans ((fr2 Fm358 65 rfl).trans ((fr2 Fm341 65 rfl).trans ((fr2 Fm326 65 rfl).trans (fr2 Fm310 65 rfl))))))), (show (m442.2 67) = (m.2 67) from ((fr2 Fm442 67 rfl).trans ((fr2 Fm432 67 rfl).trans ((fr2 Fm358 67 rfl).trans ((fr2 Fm341 67 rfl).trans ((fr2 Fm326 67 rfl).trans (fr2 Fm310 67 rfl))))))), (show (m442.1 28) = (m.1 28) from ((fr1 Fm442 28 rfl).trans ((fr1 Fm432 28 rfl).trans ((fr1 Fm358 28 rfl).trans ((fr1 Fm341 28 rfl).trans ((fr1 Fm326 28 rfl).trans (fr1 Fm310 28 rfl)))))))]; first | exact hEX | assumption)⟩)) (fun rr456 k457 => ?_)
                        obtain ⟨m458, Tm458, Fm458, h459, c460, rfl⟩ := k457
                        refine ⟨_, _, rfl, ?_⟩
                        refine T_nb (st' := []) rfl ?_
                        have g461 : 0 ≤ m458.1 10 ∧ m458.1 10 ≤ 8 := Tm458.1 10
                        have g462 : (-1) ≤ m458.1 11 ∧ m458.1 11 ≤ 4000 := Tm458.1 11
                        have g463 : 0 ≤ m458.1 28 ∧ m458.1 28 ≤ 800 := Tm458.1 28
                        by_cases hf464 : (m458.1 10) = 0
                        · skip
                          replace h459 : (m442.1 10) = 0 := h459 hf464
                          obtain ⟨c465, c466, c467⟩ := c460 hf464
                          replace c465 : (m458.1 28) = (m442.1 28) + 1 := c465
                          rewrite [(show (m442.1 28) = (m.1 28) from ((fr1 Fm442 28 rfl).trans ((fr1 Fm432 28 rfl).trans ((fr1 Fm358 28 rfl).trans ((fr1 Fm341 28 rfl).trans ((fr1 Fm326 28 rfl).trans (fr1 Fm310 28 rfl)))))))] at c465
                          replace c466 : EX (m458.2 65) (m458.2 67) B (m458.1 28) ((1 + lh (m.2 79) (m.2 80) (m.1 73)) + 1 - ar (405 : Int)) := c466
                          have hEX := c466
                          replace c467 : agr (m442.2 65) (m458.2 65) (m442.1 28) := c467
                          rewrite [(show (m442.2 65) = (m.2 65) from ((fr2 Fm442 65 rfl).trans ((fr2 Fm432 65 rfl).trans ((fr2 Fm358 65 rfl).trans ((fr2 Fm341 65 rfl).trans ((fr2 Fm326 65 rfl).trans (fr2 Fm310 65 rfl))))))), (show (m442.1 28) = (m.1 28) from ((fr1 Fm442 28 rfl).trans ((fr1 Fm432 28 rfl).trans ((fr1 Fm358 28 rfl).trans ((fr1 Fm341 28 rfl).trans ((fr1 Fm326 28 rfl).trans (fr1 Fm310 28 rfl)))))))] at c467
                          have hAg := c467
                          clear c460
                          have u468 : (m.1 8) + 1 ≤ (m442.1 8) := by omega
                          have hAgC : agr (m.2 65) (m458.2 65) (m.1 28) := by first | exact agr_r _ _ | exact hAgC | exact agr_t hAgC hAg (by omega)
                          clear g450 g451 h443 h455 h459
                          refine T_ld 160 (.ref 189) rfl (fun _ => rfl) ?_
                          refine T_ld 161 (.long (i64 (m310.1 12))) rfl (fun _ => rfl) ?_
                          refine T_ld 163 (.long (i64 (m341.1 12))) rfl (fun _ => rfl) ?_
                          refine T_lsub 164 rfl rfl ?_
                          refine T_l2i 165 rfl rfl ?_
                          refine T_ld 166 (.int (i32 1)) rfl (fun _ => rfl) ?_
                          refine T_iadd 167 rfl rfl ?_
                          refine T_ld 169 (.int (i32 (m.1 70))) rfl (fun _ => rfl) ?_
                          refine T_call 172 250 [.ref 189, .int (i32 (((m310.1 12) - (m341.1 12)) + 1)), .int (i32 (m.1 70))] [] rfl (fun _ => rfl) rfl (c_unit w (mO m458 [] []) c N D (by omega) Tm458 (((m310.1 12) - (m341.1 12)) + 1) (m.1 70) (r32 (by omega) (by omega)) (r32 (by omega) (by omega)) (show 0 ≤ (((m310.1 12) - (m341.1 12)) + 1) ∧ (((m310.1 12) - (m341.1 12)) + 1) ≤ 1024 by omega) (show 0 ≤ (m.1 70) ∧ (m.1 70) ≤ 4000 by omega)) (fun rr469 k470 => ?_)
                          obtain ⟨m471, Tm471, Fm471, h472, rfl⟩ := k470
                          refine ⟨_, _, rfl, ?_⟩
                          refine T_nb (st' := []) rfl ?_
                          have g473 : 0 ≤ m471.1 69 ∧ m471.1 69 ≤ 1024 := Tm471.1 69
                          have g474 : 0 ≤ m471.1 70 ∧ m471.1 70 ≤ 4000 := Tm471.1 70
                          replace h472 : (m471.1 69) = (((m310.1 12) - (m341.1 12)) + 1) := h472
                          have u475 : (m.1 8) + 1 ≤ (m442.1 8) := by omega
                          have hAgC : agr (m.2 65) (m458.2 65) (m.1 28) := by first | exact agr_r _ _ | exact hAgC | exact agr_t hAgC hAg (by omega)
                          have hXE : XS (m458.2 65) (m458.2 67) (m.2 76) (m.2 78) (m.2 79) (m.2 80) B (m458.1 28) (m.1 73) (m.1 74) 1 := XS_of hXS hEX (by rw [show ar 405 = 1 from rfl]; omega)
                          refine T_goto 224 rfl (fun _ => rfl) ?_
                          refine T_ret rfl (fun _ => rfl) ?_
                          exact ⟨(mO m471 [] []), Tm471, (fr_m (fr_s Fm471 (fr_m (fr_s Fm458 (fr_m (fr_s Fm442 (fr_m (fr_s Fm432 (fr_m (fr_s Fm358 (fr_m (fr_s Fm341 (fr_m (fr_s Fm326 (fr_m (fr_s Fm310 (fr_m fr_0 rfl rfl) rfl rfl) rfl rfl) rfl rfl) rfl rfl) rfl rfl) rfl rfl) rfl rfl) rfl rfl) rfl rfl) rfl rfl) rfl rfl) rfl rfl) rfl rfl) rfl rfl) rfl rfl) rfl rfl), (show (m471.1 10) = 0 → (m.1 10) = 0 by rewrite [(show (m471.1 10) = (m458.1 10) from (fr1 Fm471 10 rfl))]; omega), (show LxP (m471.1 7) (m471.1 8) (m471.1 9) (m.1 6) (m471.1 10) by rewrite [(show (m471.1 7) = (m442.1 7) from ((fr1 Fm471 7 rfl).trans (fr1 Fm458 7 rfl))), (show (m471.1 8) = (m442.1 8) from ((fr1 Fm471 8 rfl).trans (fr1 Fm458 8 rfl))), (show (m471.1 9) = (m442.1 9) from ((fr1 Fm471 9 rfl).trans (fr1 Fm458 9 rfl))), (show (m471.1 10) = (m458.1 10) from (fr1 Fm471 10 rfl))]; first | (first | exact hLx | exact (fun _ => hLx (by omega)) | (intro h9; exfalso; omega)) | (exfalso; omega)), (fun _ => ⟨(show ((m471.1 75) = 1 ∧ (m.1 8) + 1 ≤ (m471.1 8)) ∨ ((m471.1 75) = 2 ∧ (m471.1 8) = (m.1 8)) by rewrite [(show (m471.1 75) = (m.1 75) from ((fr1 Fm471 75 rfl).trans ((fr1 Fm458 75 rfl).trans ((fr1 Fm442 75 rfl).trans ((fr1 Fm432 75 rfl).trans ((fr1 Fm358 75 rfl).trans ((fr1 Fm341 75 rfl).trans ((fr1 Fm326 75 rfl).trans (fr1 Fm310 75 rfl))))))))), (show (m471.1 8) = (m442.1 8) from ((fr1 Fm471 8 rfl).trans (fr1 Fm458 8 rfl)))]; omega), (show (m471.1 69) ≤ 64 by omega), (show (m.1 28) ≤ (m471.1 28) by rewrite [(show (m471.1 28) = (m458.1 28) from (fr1 Fm471 28 rfl))]; omega), (show XS (m471.2 65) (m471.2 67) (m.2 76) (m.2 78) (m.2 79) (m.2 80) B (m471.1 28) (m.1 73) (m.1 74) 1 by rewrite [(show (m471.2 65) = (m458.2 65) from (fr2 Fm471 65 rfl)), (show (m471.2 67) = (m458.2 67) from (fr2 Fm471 67 rfl)), (show (m471.1 28) = (m458.1 28) from (fr1 Fm471 28 rfl))]; first | (exact hXE) | (exfalso; omega)), (show agr (m.2 65) (m471.2 65) (m.1 28) by rewrite [(show (m471.2 65) = (m458.2 65) from (fr2 Fm471 65 rfl))]; first | (exact hAgC) | (exfalso; omega))⟩), rfl⟩
                        · skip
                          clear c460
                          clear h459
                          have hf476 : 1 ≤ (m458.1 10) := by omega
                          clear g450 g451 h443 h455
                          refine Tm_lv (a := [(0, .ref 189), (1, .int (i32 (m310.1 8))), (2, .long (i64 (m310.1 12))), (4, .long (i64 (m341.1 12))), (6, .int (i32 (m.1 70)))]) rfl rfl ⟨rfl, rfl, rfl, rfl, rfl, trivial⟩ ?_
                          exact J159_73 (m310.1 8) (m310.1 12) (m341.1 12) (mO m458 [] []) (r32 (by omega) (by omega)) (r64 (by omega) (by omega)) (r64 (by omega) (by omega)) Tm458 (fr_m (fr_s Fm458 (fr_m (fr_s Fm442 (fr_m (fr_s Fm432 (fr_m (fr_s Fm358 (fr_m (fr_s Fm341 (fr_m (fr_s Fm326 (fr_m (fr_s Fm310 (fr_m fr_0 rfl rfl) rfl rfl) rfl rfl) rfl rfl) rfl rfl) rfl rfl) rfl rfl) rfl rfl) rfl rfl) rfl rfl) rfl rfl) rfl rfl) rfl rfl) rfl rfl) rfl rfl) (show 0 ≤ (m310.1 8) by omega) (show (m310.1 8) ≤ 4000 by omega) (show 0 ≤ (m310.1 12) - (m341.1 12) ∧ (m310.1 12) - (m341.1 12) ≤ 63 by omega) (show 0 ≤ (m.1 70) ∧ (m.1 70) ≤ 4000 by omega) (show 1 ≤ (m458.1 10) by omega)
                      · skip
                        replace h443 : LxP (m442.1 7) (m442.1 8) (m442.1 9) (m432.1 6) (m442.1 10) := h443
                        rewrite [(show (m432.1 6) = (m.1 6) from ((fr1 Fm432 6 rfl).trans ((fr1 Fm358 6 rfl).trans ((fr1 Fm341 6 rfl).trans ((fr1 Fm326 6 rfl).trans (fr1 Fm310 6 rfl))))))] at h443
                        have hLx := h443
                        clear h444
                        replace h445 : (m432.1 8) ≤ (m442.1 8) := h445
                        rewrite [(show (m432.1 8) = (m358.1 8) from (fr1 Fm432 8 rfl))] at h445
                        clear h446
                        have hf477 : 1 ≤ (m442.1 10) := by omega
                        clear g363 g364 g365 g368 u370 g435 g436 u439 h445
                        refine Tm_lv (a := [(0, .ref 189), (1, .int (i32 (m310.1 8))), (2, .long (i64 (m310.1 12))), (4, .long (i64 (m341.1 12)))]) rfl rfl ⟨rfl, rfl, rfl, rfl, trivial⟩ ?_
                        exact J127_94 (m310.1 8) (m310.1 12) (m341.1 12) (mO m442 [] []) (r32 (by omega) (by omega)) (r64 (by omega) (by omega)) (r64 (by omega) (by omega)) Tm442 (fr_m (fr_s Fm442 (fr_m (fr_s Fm432 (fr_m (fr_s Fm358 (fr_m (fr_s Fm341 (fr_m (fr_s Fm326 (fr_m (fr_s Fm310 (fr_m fr_0 rfl rfl) rfl rfl) rfl rfl) rfl rfl) rfl rfl) rfl rfl) rfl rfl) rfl rfl) rfl rfl) rfl rfl) rfl rfl) rfl rfl) rfl rfl) (show 0 ≤ (m310.1 8) by omega) (show (m310.1 8) ≤ 4000 by omega) (show 1 ≤ (m442.1 10) by omega)
                    · skip
                      clear c434
                      clear h433
                      have hf478 : 1 ≤ (m432.1 10) := by omega
                      clear g366 g367 h359 h371 h373a h373b h373c h373d h373e h374 h427a h427b h427c h427d h427e h428
                      refine Tm_lv (a := [(0, .ref 189), (1, .int (i32 (m310.1 8))), (2, .long (i64 (m310.1 12))), (4, .long (i64 (m341.1 12)))]) rfl rfl ⟨rfl, rfl, rfl, rfl, trivial⟩ ?_
                      exact J121_108 (m310.1 8) (m310.1 12) (m341.1 12) (mO m432 [] []) (r32 (by omega) (by omega)) (r64 (by omega) (by omega)) (r64 (by omega) (by omega)) Tm432 (fr_m (fr_s Fm432 (fr_m (fr_s Fm358 (fr_m (fr_s Fm341 (fr_m (fr_s Fm326 (fr_m (fr_s Fm310 (fr_m fr_0 rfl rfl) rfl rfl) rfl rfl) rfl rfl) rfl rfl) rfl rfl) rfl rfl) rfl rfl) rfl rfl) rfl rfl) rfl rfl) (show 0 ≤ (m310.1 8) by omega) (show (m310.1 8) ≤ 4000 by omega) (show 1 ≤ (m432.1 10) by omega)
                  · skip
                    have hl479 : (m341.1 12) ≥ 0 := by omega
                    refine T_ld 97 (.long (i64 (m341.1 12))) rfl (fun _ => rfl) ?_
                    refine T_ld 98 (.long (i64 (m310.1 12))) rfl (fun _ => rfl) ?_
                    refine T_lcmp 99 rfl rfl (r64 (by omega) (by omega)) (r64 (by omega) (by omega)) (fun z480 h481 => ?_)
                    obtain ⟨h481a, h481b, h481c, h481d, h481e⟩ := h481
                    refine T_if 116 102 rfl rfl rfl (r32 (by omega) (by omega)) (fun (h482 : (0 : Int) < z480) => ?_) (fun (h482 : ¬ ((0 : Int) < z480)) => ?_)
                    · skip
                      have hl483 : (m341.1 12) > (m310.1 12) := by omega
                      refine T_ld 117 (.int (i32 0)) rfl (fun _ => rfl) ?_
                      refine T_ld 118 (.int (i32 (m310.1 8))) rfl (fun _ => rfl) ?_
                      refine T_call 121 256 [.ref 189, .int (i32 0), .int (i32 (m310.1 8))] [] rfl (fun _ => rfl) rfl (c_want w (mO m358 [] []) c N D (by omega) Tm358 0 (m310.1 8) ⟨by decide, by decide⟩ (r32 (by omega) (by omega)) (show 0 ≤ (m310.1 8) ∧ (m310.1 8) ≤ 4000 by omega) (fun _ => trivial)) (fun rr484 k485 => ?_)
                      obtain ⟨m486, Tm486, Fm486, h487, c488, rfl⟩ := k485
                      refine ⟨_, _, rfl, ?_⟩
                      refine T_nb (st' := []) rfl ?_
                      have g489 : 0 ≤ m486.1 10 ∧ m486.1 10 ≤ 8 := Tm486.1 10
                      have g490 : (-1) ≤ m486.1 11 ∧ m486.1 11 ≤ 4000 := Tm486.1 11
                      by_cases hf491 : (m486.1 10) = 0
                      · skip
                        replace h487 : (m358.1 10) = 0 := h487 hf491
                        have c492 := c488 hf491
                        replace c492 : (0 : Int) ≠ 0 := c492
                        clear c488
                        have u493 : (m.1 8) + 1 ≤ (m358.1 8) := by omega
                        have hAgC : agr (m.2 65) (m.2 65) (m.1 28) := by first | exact agr_r _ _ | exact hAgC | exact agr_t hAgC hAg (by omega)
                        clear g366 g367 h359 h371 h373a h373b h373c h373d h373e h374 h427a h427b h427c h427d h427e h428 h481a h481b h481c h481d h481e h482 h487
                        refine T_ld 122 (.ref 189) rfl (fun _ => rfl) ?_
                        refine T_ld 124 (.int (i32 93)) rfl (fun _ => rfl) ?_
                        refine T_call 127 232 [.ref 189, .int (i32 93)] [] rfl (fun _ => rfl) rfl (d_need w (mO m486 [] []) c N D (by omega) Tm486 93 ⟨by decide, by decide⟩ (show 1 ≤ (93 : Int) by omega) (show LxP (m486.1 7) (m486.1 8) (m486.1 9) (m486.1 6) (m486.1 10) by rewrite [(show (m486.1 7) = (m358.1 7) from (fr1 Fm486 7 rfl)), (show (m486.1 8) = (m358.1 8) from (fr1 Fm486 8 rfl)), (show (m486.1 9) = (m358.1 9) from (fr1 Fm486 9 rfl)), (show (m486.1 6) = (m.1 6) from ((fr1 Fm486 6 rfl).trans ((fr1 Fm358 6 rfl).trans ((fr1 Fm341 6 rfl).trans ((fr1 Fm326 6 rfl).trans (fr1 Fm310 6 rfl))))))]; first | exact hLx | (intro h9; exfalso; omega) | (intro h9; have h8 := hLx (by omega); omega))) (fun rr494 k495 => ?_)
                        obtain ⟨m496, Tm496, Fm496, h497, h498, h499, h500, rfl⟩ := k495
                        refine ⟨_, _, rfl, ?_⟩
                        refine T_nb (st' := []) rfl ?_
                        have g501 : 0 ≤ m496.1 7 ∧ m496.1 7 ≤ 330 := Tm496.1 7
                        have g502 : 0 ≤ m496.1 8 ∧ m496.1 8 ≤ 4000 := Tm496.1 8
                        have g503 : 0 ≤ m496.1 9 ∧ m496.1 9 ≤ 4000 := Tm496.1 9
                        have g504 : 0 ≤ m496.1 10 ∧ m496.1 10 ≤ 8 := Tm496.1 10
                        have g505 : (-1) ≤ m496.1 11 ∧ m496.1 11 ≤ 4000 := Tm496.1 11
                        have g506 : (-9223372036854775808) ≤ m496.1 12 ∧ m496.1 12 ≤ 9223372036854775807 := Tm496.1 12
                        by_cases hf507 : (m496.1 10) = 0
                        · skip
                          replace h497 : LxP (m496.1 7) (m496.1 8) (m496.1 9) (m486.1 6) (m496.1 10) := h497
                          rewrite [(show (m486.1 6) = (m.1 6) from ((fr1 Fm486 6 rfl).trans ((fr1 Fm358 6 rfl).trans ((fr1 Fm341 6 rfl).trans ((fr1 Fm326 6 rfl).trans (fr1 Fm310 6 rfl))))))] at h497
                          have hLx := h497
                          replace h498 : (m486.1 10) = 0 ∧ (m486.1 7) = (93 : Int) := h498 hf507
                          rewrite [(show (m486.1 7) = (m358.1 7) from (fr1 Fm486 7 rfl))] at h498
                          replace h499 : (m486.1 8) ≤ (m496.1 8) := h499
                          rewrite [(show (m486.1 8) = (m358.1 8) from (fr1 Fm486 8 rfl))] at h499
                          replace h500 : (m486.1 8) + (m486.1 9) ≤ (m496.1 8) := h500 hf507
                          rewrite [(show (m486.1 8) = (m358.1 8) from (fr1 Fm486 8 rfl)), (show (m486.1 9) = (m358.1 9) from (fr1 Fm486 9 rfl))] at h500
                          have u508 : (m.1 8) + 1 ≤ (m496.1 8) := by omega
                          have hAgC : agr (m.2 65) (m.2 65) (m.1 28) := by first | exact agr_r _ _ | exact hAgC | exact agr_t hAgC hAg (by omega)
                          clear g363 g364 g365 g368 u370 g489 g490 u493 h498 h499 h500
                          refine T_gf 131 (.int (i32 (m496.1 10))) rfl rfl rfl rfl rfl rfl ?_
                          refine T_if 135 134 rfl rfl rfl (r32 (by omega) (by omega)) (fun (h509 : (m496.1 10) ≤ 0) => ?_) (fun (h509 : ¬ ((m496.1 10) ≤ 0)) => by exfalso; omega)
                          refine T_gf 139 (.int (i32 (m.1 70))) rfl rfl rfl rfl (mfv_c (F := fun x => .int (i32 x)) rfl (show (m496.1 70) = (m.1 70) from ((fr1 Fm496 70 rfl).trans ((fr1 Fm486 70 rfl).trans ((fr1 Fm358 70 rfl).trans ((fr1 Fm341 70 rfl).trans ((fr1 Fm326 70 rfl).trans (fr1 Fm310 70 rfl)))))))) rfl ?_
                          refine T_sto 141 [(6, .int (i32 (m.1 70))), (4, .long (i64 (m341.1 12))), (2, .long (i64 (m310.1 12))), (1, .int (i32 (m310.1 8))), (0, .ref 189)] rfl (fun _ => rfl) ?_
                          have hAr : ar 405 ≤ 1 + lh (m.2 79) (m.2 80) (m.1 73) := by rw [show ar 405 = 1 from rfl]; omega
                          have hCk : CNk 405 (m341.1 12) := by refine ⟨?_, ?_, ?_, ?_⟩ <;> omega
                          refine T_ld 142 (.ref 189) rfl (fun _ => rfl) ?_
                          refine T_ld 145 (.int (i32 405)) rfl (fun _ => rfl) ?_
                          refine T_ld 146 (.long (i64 (m310.1 12))) rfl (fun _ => rfl) ?_
                          refine T_ld 148 (.long (i64 (m341.1 12))) rfl (fun _ => rfl) ?_
                          refine T_lsub 149 rfl rfl ?_
                          refine T_l2i 150 rfl rfl ?_
                          refine T_ld 151 (.int (i32 1)) rfl (fun _ => rfl) ?_
                          refine T_iadd 152 rfl rfl ?_
                          refine T_ld 154 (.long (i64 (m341.1 12))) rfl (fun _ => rfl) ?_
                          refine T_l2i 155 rfl rfl ?_
                          refine T_ld 156 (.long (i64 0)) rfl (fun _ => rfl) ?_
                          refine T_call 159 248 [.ref 189, .int (i32 405), .int (i32 (((m310.1 12) - (m341.1 12)) + 1)), .int (i32 (m341.1 12)), .long (i64 0)] [] rfl (fun _ => rfl) rfl (c_node w (mO m496 [] []) c N D (by omega) Tm496 405 (((m310.1 12) - (m341.1 12)) + 1) (m341.1 12) 0 B (1 + lh (m.2 79) (m.2 80) (m.1 73)) ⟨by decide, by decide⟩ (r32 (by omega) (by omega)) (r32 (by omega) (by omega)) ⟨by decide, by decide⟩ (fun _ => ⟨(show 0 ≤ (405 : Int) ∧ (405 : Int) ≤ 408 by first | omega | decide), (show 0 ≤ (((m310.1 12) - (m341.1 12)) + 1) ∧ (((m310.1 12) - (m341.1 12)) + 1) ≤ 64 by first | omega | decide), (show 0 ≤ (m341.1 12) ∧ (m341.1 12) ≤ 191 by first | omega | decide), (show CNk (405 : Int) (m341.1 12) by first | exact hCk | (refine ⟨?_, ?_, ?_, ?_⟩ <;> omega)), (show ar (405 : Int) ≤ (1 + lh (m.2 79) (m.2 80) (m.1 73)) by first | exact hAr | omega), (show EX (m496.2 65) (m496.2 67) B (m496.1 28) (1 + lh (m.2 79) (m.2 80) (m.1 73)) by rewrite [(show (m496.2 65) = (m.2 65) from ((fr2 Fm496 65 rfl).trans ((fr2 Fm486 65 rfl).trans ((fr2 Fm358 65 rfl).trans ((fr2 Fm341 65 rfl).trans ((fr2 Fm326 65 rfl).trans (fr2 Fm310 65 rfl))))))), (show (m496.2 67) = (m.2 67) from ((fr2 Fm496 67 rfl).trans ((fr2 Fm486 67 rfl).trans ((fr2 Fm358 67 rfl).trans ((fr2 Fm341 67 rfl).trans ((fr2 Fm326 67 rfl).trans (fr2 Fm310 67 rfl))))))), (show (m496.1 28) = (m.1 28) from ((fr1 Fm496 28 rfl).trans ((fr1 Fm486 28 rfl).trans ((fr1 Fm358 28 rfl).trans ((fr1 Fm341 28 rfl).trans ((fr1 Fm326 28 rfl).trans (fr1 Fm310 28 rfl)))))))]; first | exact hEX | assumption)⟩)) (fun rr510 k511 => ?_)
                          obtain ⟨m512, Tm512, Fm512, h513, c514, rfl⟩ := k511
                          refine ⟨_, _, rfl, ?_⟩
                          refine T_nb (st' := []) rfl ?_
                          have g515 : 0 ≤ m512.1 10 ∧ m512.1 10 ≤ 8 := Tm512.1 10
                          have g516 : (-1) ≤ m512.1 11 ∧ m512.1 11 ≤ 4000 := Tm512.1 11
                          have g517 : 0 ≤ m512.1 28 ∧ m512.1 28 ≤ 800 := Tm512.1 28
                          by_cases hf518 : (m512.1 10) = 0
                          · skip
                            replace h513 : (m496.1 10) = 0 := h513 hf518
                            obtain ⟨c519, c520, c521⟩ := c514 hf518
                            replace c519 : (m512.1 28) = (m496.1 28) + 1 := c519
                            rewrite [(show (m496.1 28) = (m.1 28) from ((fr1 Fm496 28 rfl).trans ((fr1 Fm486 28 rfl).trans ((fr1 Fm358 28 rfl).trans ((fr1 Fm341 28 rfl).trans ((fr1 Fm326 28 rfl).trans (fr1 Fm310 28 rfl)))))))] at c519
                            replace c520 : EX (m512.2 65) (m512.2 67) B (m512.1 28) ((1 + lh (m.2 79) (m.2 80) (m.1 73)) + 1 - ar (405 : Int)) := c520
                            have hEX := c520
                            replace c521 : agr (m496.2 65) (m512.2 65) (m496.1 28) := c521
                            rewrite [(show (m496.2 65) = (m.2 65) from ((fr2 Fm496 65 rfl).trans ((fr2 Fm486 65 rfl).trans ((fr2 Fm358 65 rfl).trans ((fr2 Fm341 65 rfl).trans ((fr2 Fm326 65 rfl).trans (fr2 Fm310 65 rfl))))))), (show (m496.1 28) = (m.1 28) from ((fr1 Fm496 28 rfl).trans ((fr1 Fm486 28 rfl).trans ((fr1 Fm358 28 rfl).trans ((fr1 Fm341 28 rfl).trans ((fr1 Fm326 28 rfl).trans (fr1 Fm310 28 rfl)))))))] at c521
                            have hAg := c521
                            clear c514
                            have u522 : (m.1 8) + 1 ≤ (m496.1 8) := by omega
                            have hAgC : agr (m.2 65) (m512.2 65) (m.1 28) := by first | exact agr_r _ _ | exact hAgC | exact agr_t hAgC hAg (by omega)
                            clear g504 g505 h497 h509 h513
                            refine T_ld 160 (.ref 189) rfl (fun _ => rfl) ?_
                            refine T_ld 161 (.long (i64 (m310.1 12))) rfl (fun _ => rfl) ?_
                            refine T_ld 163 (.long (i64 (m341.1 12))) rfl (fun _ => rfl) ?_
                            refine T_lsub 164 rfl rfl ?_
                            refine T_l2i 165 rfl rfl ?_
                            refine T_ld 166 (.int (i32 1)) rfl (fun _ => rfl) ?_
                            refine T_iadd 167 rfl rfl ?_
                            refine T_ld 169 (.int (i32 (m.1 70))) rfl (fun _ => rfl) ?_
                            refine T_call 172 250 [.ref 189, .int (i32 (((m310.1 12) - (m341.1 12)) + 1)), .int (i32 (m.1 70))] [] rfl (fun _ => rfl) rfl (c_unit w (mO m512 [] []) c N D (by omega) Tm512 (((m310.1 12) - (m341.1 12)) + 1) (m.1 70) (r32 (by omega) (by omega)) (r32 (by omega) (by omega)) (show 0 ≤ (((m310.1 12) - (m341.1 12)) + 1) ∧ (((m310.1 12) - (m341.1 12)) + 1) ≤ 1024 by omega) (show 0 ≤ (m.1 70) ∧ (m.1 70) ≤ 4000 by omega)) (fun rr523 k524 => ?_)
                            obtain ⟨m525, Tm525, Fm525, h526, rfl⟩ := k524
                            refine ⟨_, _, rfl, ?_⟩
                            refine T_nb (st' := []) rfl ?_
                            have g527 : 0 ≤ m525.1 69 ∧ m525.1 69 ≤ 1024 := Tm525.1 69
                            have g528 : 0 ≤ m525.1 70 ∧ m525.1 70 ≤ 4000 := Tm525.1 70
                            replace h526 : (m525.1 69) = (((m310.1 12) - (m341.1 12)) + 1) := h526
                            have u529 : (m.1 8) + 1 ≤ (m496.1 8) := by omega
                            have hAgC : agr (m.2 65) (m512.2 65) (m.1 28) := by first | exact agr_r _ _ | exact hAgC | exact agr_t hAgC hAg (by omega)
                            have hXE : XS (m512.2 65) (m512.2 67) (m.2 76) (m.2 78) (m.2 79) (m.2 80) B (m512.1 28) (m.1 73) (m.1 74) 1 := XS_of hXS hEX (by rw [show ar 405 = 1 from rfl]; omega)
                            refine T_goto 224 rfl (fun _ => rfl) ?_
                            refine T_ret rfl (fun _ => rfl) ?_
                            exact ⟨(mO m525 [] []), Tm525, (fr_m (fr_s Fm525 (fr_m (fr_s Fm512 (fr_m (fr_s Fm496 (fr_m (fr_s Fm486 (fr_m (fr_s Fm358 (fr_m (fr_s Fm341 (fr_m (fr_s Fm326 (fr_m (fr_s Fm310 (fr_m fr_0 rfl rfl) rfl rfl) rfl rfl) rfl rfl) rfl rfl) rfl rfl) rfl rfl) rfl rfl) rfl rfl) rfl rfl) rfl rfl) rfl rfl) rfl rfl) rfl rfl) rfl rfl) rfl rfl) rfl rfl), (show (m525.1 10) = 0 → (m.1 10) = 0 by rewrite [(show (m525.1 10) = (m512.1 10) from (fr1 Fm525 10 rfl))]; omega), (show LxP (m525.1 7) (m525.1 8) (m525.1 9) (m.1 6) (m525.1 10) by rewrite [(show (m525.1 7) = (m496.1 7) from ((fr1 Fm525 7 rfl).trans (fr1 Fm512 7 rfl))), (show (m525.1 8) = (m496.1 8) from ((fr1 Fm525 8 rfl).trans (fr1 Fm512 8 rfl))), (show (m525.1 9) = (m496.1 9) from ((fr1 Fm525 9 rfl).trans (fr1 Fm512 9 rfl))), (show (m525.1 10) = (m512.1 10) from (fr1 Fm525 10 rfl))]; first | (first | exact hLx | exact (fun _ => hLx (by omega)) | (intro h9; exfalso; omega)) | (exfalso; omega)), (fun _ => ⟨(show ((m525.1 75) = 1 ∧ (m.1 8) + 1 ≤ (m525.1 8)) ∨ ((m525.1 75) = 2 ∧ (m525.1 8) = (m.1 8)) by rewrite [(show (m525.1 75) = (m.1 75) from ((fr1 Fm525 75 rfl).trans ((fr1 Fm512 75 rfl).trans ((fr1 Fm496 75 rfl).trans ((fr1 Fm486 75 rfl).trans ((fr1 Fm358 75 rfl).trans ((fr1 Fm341 75 rfl).trans ((fr1 Fm326 75 rfl).trans (fr1 Fm310 75 rfl))))))))), (show (m525.1 8) = (m496.1 8) from ((fr1 Fm525 8 rfl).trans (fr1 Fm512 8 rfl)))]; omega), (show (m525.1 69) ≤ 64 by omega), (show (m.1 28) ≤ (m525.1 28) by rewrite [(show (m525.1 28) = (m512.1 28) from (fr1 Fm525 28 rfl))]; omega), (show XS (m525.2 65) (m525.2 67) (m.2 76) (m.2 78) (m.2 79) (m.2 80) B (m525.1 28) (m.1 73) (m.1 74) 1 by rewrite [(show (m525.2 65) = (m512.2 65) from (fr2 Fm525 65 rfl)), (show (m525.2 67) = (m512.2 67) from (fr2 Fm525 67 rfl)), (show (m525.1 28) = (m512.1 28) from (fr1 Fm525 28 rfl))]; first | (exact hXE) | (exfalso; omega)), (show agr (m.2 65) (m525.2 65) (m.1 28) by rewrite [(show (m525.2 65) = (m512.2 65) from (fr2 Fm525 65 rfl))]; first | (exact hAgC) | (exfalso; omega))⟩), rfl⟩
                          · skip
                            clear c514
                            clear h513
                            have hf530 : 1 ≤ (m512.1 10) := by omega
                            clear g504 g505 h497 h509
                            refine Tm_lv (a := [(0, .ref 189), (1, .int (i32 (m310.1 8))), (2, .long (i64 (m310.1 12))), (4, .long (i64 (m341.1 12))), (6, .int (i32 (m.1 70)))]) rfl rfl ⟨rfl, rfl, rfl, rfl, rfl, trivial⟩ ?_
                            exact J159_73 (m310.1 8) (m310.1 12) (m341.1 12) (mO m512 [] []) (r32 (by omega) (by omega)) (r64 (by omega) (by omega)) (r64 (by omega) (by omega)) Tm512 (fr_m (fr_s Fm512 (fr_m (fr_s Fm496 (fr_m (fr_s Fm486 (fr_m (fr_s Fm358 (fr_m (fr_s Fm341 (fr_m (fr_s Fm326 (fr_m (fr_s Fm310 (fr_m fr_0 rfl rfl) rfl rfl) rfl rfl) rfl rfl) rfl rfl) rfl rfl) rfl rfl) rfl rfl) rfl rfl) rfl rfl) rfl rfl) rfl rfl) rfl rfl) rfl rfl) rfl rfl) (show 0 ≤ (m310.1 8) by omega) (show (m310.1 8) ≤ 4000 by omega) (show 0 ≤ (m310.1 12) - (m341.1 12) ∧ (m310.1 12) - (m341.1 12) ≤ 63 by omega) (show 0 ≤ (m.1 70) ∧ (m.1 70) ≤ 4000 by omega) (show 1 ≤ (m512.1 10) by omega)
                        · skip
                          replace h497 : LxP (m496.1 7) (m496.1 8) (m496.1 9) (m486.1 6) (m496.1 10) := h497
                          rewrite [(show (m486.1 6) = (m.1 6) from ((fr1 Fm486 6 rfl).trans ((fr1 Fm358 6 rfl).trans ((fr1 Fm341 6 rfl).trans ((fr1 Fm326 6 rfl).trans (fr1 Fm310 6 rfl))))))] at h497
                          have hLx := h497
                          clear h498
                          replace h499 : (m486.1 8) ≤ (m496.1 8) := h499
                          rewrite [(show (m486.1 8) = (m358.1 8) from (fr1 Fm486 8 rfl))] at h499
                          clear h500
                          have hf531 : 1 ≤ (m496.1 10) := by omega
                          clear g363 g364 g365 g368 u370 g489 g490 u493 h499
                          refine Tm_lv (a := [(0, .ref 189), (1, .int (i32 (m310.1 8))), (2, .long (i64 (m310.1 12))), (4, .long (i64 (m341.1 12)))]) rfl rfl ⟨rfl, rfl, rfl, rfl, trivial⟩ ?_
                          exact J127_94 (m310.1 8) (m310.1 12) (m341.1 12) (mO m496 [] []) (r32 (by omega) (by omega)) (r64 (by omega) (by omega)) (r64 (by omega) (by omega)) Tm496 (fr_m (fr_s Fm496 (fr_m (fr_s Fm486 (fr_m (fr_s Fm358 (fr_m (fr_s Fm341 (fr_m (fr_s Fm326 (fr_m (fr_s Fm310 (fr_m fr_0 rfl rfl) rfl rfl) rfl rfl) rfl rfl) rfl rfl) rfl rfl) rfl rfl) rfl rfl) rfl rfl) rfl rfl) rfl rfl) rfl rfl) rfl rfl) (show 0 ≤ (m310.1 8) by omega) (show (m310.1 8) ≤ 4000 by omega) (show 1 ≤ (m496.1 10) by omega)
                      · skip
                        clear c488
                        clear h487
                        have hf532 : 1 ≤ (m486.1 10) := by omega
                        clear g366 g367 h359 h371 h373a h373b h373c h373d h373e h374 h427a h427b h427c h427d h427e h428 h481a h481b h481c h481d h481e h482
                        refine Tm_lv (a := [(0, .ref 189), (1, .int (i32 (m310.1 8))), (2, .long (i64 (m310.1 12))), (4, .long (i64 (m341.1 12)))]) rfl rfl ⟨rfl, rfl, rfl, rfl, trivial⟩ ?_
                        exact J121_108 (m310.1 8) (m310.1 12) (m341.1 12) (mO m486 [] []) (r32 (by omega) (by omega)) (r64 (by omega) (by omega)) (r64 (by omega) (by omega)) Tm486 (fr_m (fr_s Fm486 (fr_m (fr_s Fm358 (fr_m (fr_s Fm341 (fr_m (fr_s Fm326 (fr_m (fr_s Fm310 (fr_m fr_0 rfl rfl) rfl rfl) rfl rfl) rfl rfl) rfl rfl) rfl rfl) rfl rfl) rfl rfl) rfl rfl) rfl rfl) rfl rfl) (show 0 ≤ (m310.1 8) by omega) (show (m310.1 8) ≤ 4000 by omega) (show 1 ≤ (m486.1 10) by omega)
                    · skip
                      have hl533 : (m341.1 12) ≤ (m310.1 12) := by omega
                      refine T_ld 103 (.long (i64 (m310.1 12))) rfl (fun _ => rfl) ?_
                      refine T_gf 107 (.int (i32 (m.1 69))) rfl rfl rfl rfl (mfv_c (F := fun x => .int (i32 x)) rfl (show (m358.1 69) = (m.1 69) from ((fr1 Fm358 69 rfl).trans ((fr1 Fm341 69 rfl).trans ((fr1 Fm326 69 rfl).trans (fr1 Fm310 69 rfl)))))) rfl ?_
                      refine T_i2l 108 rfl rfl (r32 (by omega) (by omega)) ?_
                      refine T_lcmp 109 rfl rfl (r64 (by omega) (by omega)) (r64 (by omega) (by omega)) (fun z534 h535 => ?_)
                      obtain ⟨h535a, h535b, h535c, h535d, h535e⟩ := h535
                      refine T_if 116 112 rfl rfl rfl (r32 (by omega) (by omega)) (fun (h536 : (0 : Int) ≤ z534) => ?_) (fun (h536 : ¬ ((0 : Int) ≤ z534)) => ?_)
                      · skip
                        have hl537 : (m310.1 12) ≥ (m.1 69) := by omega
                        refine T_ld 117 (.int (i32 0)) rfl (fun _ => rfl) ?_
                        refine T_ld 118 (.int (i32 (m310.1 8))) rfl (fun _ => rfl) ?_
                        refine T_call 121 256 [.ref 189, .int (i32 0), .int (i32 (m310.1 8))] [] rfl (fun _ => rfl) rfl (c_want w (mO m358 [] []) c N D (by omega) Tm358 0 (m310.1 8) ⟨by decide, by decide⟩ (r32 (by omega) (by omega)) (show 0 ≤ (m310.1 8) ∧ (m310.1 8) ≤ 4000 by omega) (fun _ => trivial)) (fun rr538 k539 => ?_)
                        obtain ⟨m540, Tm540, Fm540, h541, c542, rfl⟩ := k539
                        refine ⟨_, _, rfl, ?_⟩
                        refine T_nb (st' := []) rfl ?_
                        have g543 : 0 ≤ m540.1 10 ∧ m540.1 10 ≤ 8 := Tm540.1 10
                        have g544 : (-1) ≤ m540.1 11 ∧ m540.1 11 ≤ 4000 := Tm540.1 11
                        by_cases hf545 : (m540.1 10) = 0
                        · skip
                          replace h541 : (m358.1 10) = 0 := h541 hf545
                          have c546 := c542 hf545
                          replace c546 : (0 : Int) ≠ 0 := c546
                          clear c542
                          have u547 : (m.1 8) + 1 ≤ (m358.1 8) := by omega
                          have hAgC : agr (m.2 65) (m.2 65) (m.1 28) := by first | exact agr_r _ _ | exact hAgC | exact agr_t hAgC hAg (by omega)
                          clear g366 g367 h359 h371 h373a h373b h373c h373d h373e h374 h427a h427b h427c h427d h427e h428 h481a h481b h481c h481d h481e h482 h535a h535b h535c h535d h535e h536 h541
                          refine T_ld 122 (.ref 189) rfl (fun _ => rfl) ?_
                          refine T_ld 124 (.int (i32 93)) rfl (fun _ => rfl) ?_
                          refine T_call 127 232 [.ref 189, .int (i32 93)] [] rfl (fun _ => rfl) rfl (d_need w (mO m540 [] []) c N D (by omega) Tm540 93 ⟨by decide, by decide⟩ (show 1 ≤ (93 : Int) by omega) (show LxP (m540.1 7) (m540.1 8) (m540.1 9) (m540.1 6) (m540.1 10) by rewrite [(show (m540.1 7) = (m358.1 7) from (fr1 Fm540 7 rfl)), (show (m540.1 8) = (m358.1 8) from (fr1 Fm540 8 rfl)), (show (m540.1 9) = (m358.1 9) from (fr1 Fm540 9 rfl)), (show (m540.1 6) = (m.1 6) from ((fr1 Fm540 6 rfl).trans ((fr1 Fm358 6 rfl).trans ((fr1 Fm341 6 rfl).trans ((fr1 Fm326 6 rfl).trans (fr1 Fm310 6 rfl))))))]; first | exact hLx | (intro h9; exfalso; omega) | (intro h9; have h8 := hLx (by omega); omega))) (fun rr548 k549 => ?_)
                          obtain ⟨m550, Tm550, Fm550, h551, h552, h553, h554, rfl⟩ := k549
                          refine ⟨_, _, rfl, ?_⟩
                          refine T_nb (st' := []) rfl ?_
                          have g555 : 0 ≤ m550.1 7 ∧ m550.1 7 ≤ 330 := Tm550.1 7
                          have g556 : 0 ≤ m550.1 8 ∧ m550.1 8 ≤ 4000 := Tm550.1 8
                          have g557 : 0 ≤ m550.1 9 ∧ m550.1 9 ≤ 4000 := Tm550.1 9
                          have g558 : 0 ≤ m550.1 10 ∧ m550.1 10 ≤ 8 := Tm550.1 10
                          have g559 : (-1) ≤ m550.1 11 ∧ m550.1 11 ≤ 4000 := Tm550.1 11
                          have g560 : (-9223372036854775808) ≤ m550.1 12 ∧ m550.1 12 ≤ 9223372036854775807 := Tm550.1 12
                          by_cases hf561 : (m550.1 10) = 0
                          · skip
                            replace h551 : LxP (m550.1 7) (m550.1 8) (m550.1 9) (m540.1 6) (m550.1 10) := h551
                            rewrite [(show (m540.1 6) = (m.1 6) from ((fr1 Fm540 6 rfl).trans ((fr1 Fm358 6 rfl).trans ((fr1 Fm341 6 rfl).trans ((fr1 Fm326 6 rfl).trans (fr1 Fm310 6 rfl))))))] at h551
                            have hLx := h551
                            replace h552 : (m540.1 10) = 0 ∧ (m540.1 7) = (93 : Int) := h552 hf561
                            rewrite [(show (m540.1 7) = (m358.1 7) from (fr1 Fm540 7 rfl))] at h552
                            replace h553 : (m540.1 8) ≤ (m550.1 8) := h553
                            rewrite [(show (m540.1 8) = (m358.1 8) from (fr1 Fm540 8 rfl))] at h553
                            replace h554 : (m540.1 8) + (m540.1 9) ≤ (m550.1 8) := h554 hf561
                            rewrite [(show (m540.1 8) = (m358.1 8) from (fr1 Fm540 8 rfl)), (show (m540.1 9) = (m358.1 9) from (fr1 Fm540 9 rfl))] at h554
                            have u562 : (m.1 8) + 1 ≤ (m550.1 8) := by omega
                            have hAgC : agr (m.2 65) (m.2 65) (m.1 28) := by first | exact agr_r _ _ | exact hAgC | exact agr_t hAgC hAg (by omega)
                            clear g363 g364 g365 g368 u370 g543 g544 u547 h552 h553 h554
                            refine T_gf 131 (.int (i32 (m550.1 10))) rfl rfl rfl rfl rfl rfl ?_
                            refine T_if 135 134 rfl rfl rfl (r32 (by omega) (by omega)) (fun (h563 : (m550.1 10) ≤ 0) => ?_) (fun (h563 : ¬ ((m550.1 10) ≤ 0)) => by exfalso; omega)
                            refine T_gf 139 (.int (i32 (m.1 70))) rfl rfl rfl rfl (mfv_c (F := fun x => .int (i32 x)) rfl (show (m550.1 70) = (m.1 70) from ((fr1 Fm550 70 rfl).trans ((fr1 Fm540 70 rfl).trans ((fr1 Fm358 70 rfl).trans ((fr1 Fm341 70 rfl).trans ((fr1 Fm326 70 rfl).trans (fr1 Fm310 70 rfl)))))))) rfl ?_
                            refine T_sto 141 [(6, .int (i32 (m.1 70))), (4, .long (i64 (m341.1 12))), (2, .long (i64 (m310.1 12))), (1, .int (i32 (m310.1 8))), (0, .ref 189)] rfl (fun _ => rfl) ?_
                            have hAr : ar 405 ≤ 1 + lh (m.2 79) (m.2 80) (m.1 73) := by rw [show ar 405 = 1 from rfl]; omega
                            have hCk : CNk 405 (m341.1 12) := by refine ⟨?_, ?_, ?_, ?_⟩ <;> omega
                            refine T_ld 142 (.ref 189) rfl (fun _ => rfl) ?_
                            refine T_ld 145 (.int (i32 405)) rfl (fun _ => rfl) ?_
                            refine T_ld 146 (.long (i64 (m310.1 12))) rfl (fun _ => rfl) ?_
                            refine T_ld 148 (.long (i64 (m341.1 12))) rfl (fun _ => rfl) ?_
                            refine T_lsub 149 rfl rfl ?_
                            refine T_l2i 150 rfl rfl ?_
                            refine T_ld 151 (.int (i32 1)) rfl (fun _ => rfl) ?_
                            refine T_iadd 152 rfl rfl ?_
                            refine T_ld 154 (.long (i64 (m341.1 12))) rfl (fun _ => rfl) ?_
                            refine T_l2i 155 rfl rfl ?_
                            refine T_ld 156 (.long (i64 0)) rfl (fun _ => rfl) ?_
                            refine T_call 159 248 [.ref 189, .int (i32 405), .int (i32 (((m310.1 12) - (m341.1 12)) + 1)), .int (i32 (m341.1 12)), .long (i64 0)] [] rfl (fun _ => rfl) rfl (c_node w (mO m550 [] []) c N D (by omega) Tm550 405 (((m310.1 12) - (m341.1 12)) + 1) (m341.1 12) 0 B (1 + lh (m.2 79) (m.2 80) (m.1 73)) ⟨by decide, by decide⟩ (r32 (by omega) (by omega)) (r32 (by omega) (by omega)) ⟨by decide, by decide⟩ (fun _ => ⟨(show 0 ≤ (405 : Int) ∧ (405 : Int) ≤ 408 by first | omega | decide), (show 0 ≤ (((m310.1 12) - (m341.1 12)) + 1) ∧ (((m310.1 12) - (m341.1 12)) + 1) ≤ 64 by first | omega | decide), (show 0 ≤ (m341.1 12) ∧ (m341.1 12) ≤ 191 by first | omega | decide), (show CNk (405 : Int) (m341.1 12) by first | exact hCk | (refine ⟨?_, ?_, ?_, ?_⟩ <;> omega)), (show ar (405 : Int) ≤ (1 + lh (m.2 79) (m.2 80) (m.1 73)) by first | exact hAr | omega), (show EX (m550.2 65) (m550.2 67) B (m550.1 28) (1 + lh (m.2 79) (m.2 80) (m.1 73)) by rewrite [(show (m550.2 65) = (m.2 65) from ((fr2 Fm550 65 rfl).trans ((fr2 Fm540 65 rfl).trans ((fr2 Fm358 65 rfl).trans ((fr2 Fm341 65 rfl).trans ((fr2 Fm326 65 rfl).trans (fr2 Fm310 65 rfl))))))), (show (m550.2 67) = (m.2 67) from ((fr2 Fm550 67 rfl).trans ((fr2 Fm540 67 rfl).trans ((fr2 Fm358 67 rfl).trans ((fr2 Fm341 67 rfl).trans ((fr2 Fm326 67 rfl).trans (fr2 Fm310 67 rfl))))))), (show (m550.1 28) = (m.1 28) from ((fr1 Fm550 28 rfl).trans ((fr1 Fm540 28 rfl).trans ((fr1 Fm358 28 rfl).trans ((fr1 Fm341 28 rfl).trans ((fr1 Fm326 28 rfl).trans (fr1 Fm310 28 rfl)))))))]; first | exact hEX | assumption)⟩)) (fun rr564 k565 => ?_)
                            obtain ⟨m566, Tm566, Fm566, h567, c568, rfl⟩ := k565
                            refine ⟨_, _, rfl, ?_⟩
                            refine T_nb (st' := []) rfl ?_
                            have g569 : 0 ≤ m566.1 10 ∧ m566.1 10 ≤ 8 := Tm566.1 10
                            have g570 : (-1) ≤ m566.1 11 ∧ m566.1 11 ≤ 4000 := Tm566.1 11
                            have g571 : 0 ≤ m566.1 28 ∧ m566.1 28 ≤ 800 := Tm566.1 28
                            by_cases hf572 : (m566.1 10) = 0
                            · skip
                              replace h567 : (m550.1 10) = 0 := h567 hf572
                              obtain ⟨c573, c574, c575⟩ := c568 hf572
                              replace c573 : (m566.1 28) = (m550.1 28) + 1 := c573
                              rewrite [(show (m550.1 28) = (m.1 28) from ((fr1 Fm550 28 rfl).trans ((fr1 Fm540 28 rfl).trans ((fr1 Fm358 28 rfl).trans ((fr1 Fm341 28 rfl).trans ((fr1 Fm326 28 rfl).trans (fr1 Fm310 28 rfl)))))))] at c573
                              replace c574 : EX (m566.2 65) (m566.2 67) B (m566.1 28) ((1 + lh (m.2 79) (m.2 80) (m.1 73)) + 1 - ar (405 : Int)) := c574
                              have hEX := c574
                              replace c575 : agr (m550.2 65) (m566.2 65) (m550.1 28) := c575
                              rewrite [(show (m550.2 65) = (m.2 65) from ((fr2 Fm550 65 rfl).trans ((fr2 Fm540 65 rfl).trans ((fr2 Fm358 65 rfl).trans ((fr2 Fm341 65 rfl).trans ((fr2 Fm326 65 rfl).trans (fr2 Fm310 65 rfl))))))), (show (m550.1 28) = (m.1 28) from ((fr1 Fm550 28 rfl).trans ((fr1 Fm540 28 rfl).trans ((fr1 Fm358 28 rfl).trans ((fr1 Fm341 28 rfl).trans ((fr1 Fm326 28 rfl).trans (fr1 Fm310 28 rfl)))))))] at c575
                              have hAg := c575
                              clear c568
                              have u576 : (m.1 8) + 1 ≤ (m550.1 8) := by omega
                              have hAgC : agr (m.2 65) (m566.2 65) (m.1 28) := by first | exact agr_r _ _ | exact hAgC | exact agr_t hAgC hAg (by omega)
                              clear g558 g559 h551 h563 h567
                              refine T_ld 160 (.ref 189) rfl (fun _ => rfl) ?_
                              refine T_ld 161 (.long (i64 (m310.1 12))) rfl (fun _ => rfl) ?_
                              refine T_ld 163 (.long (i64 (m341.1 12))) rfl (fun _ => rfl) ?_
                              refine T_lsub 164 rfl rfl ?_
                              refine T_l2i 165 rfl rfl ?_
                              refine T_ld 166 (.int (i32 1)) rfl (fun _ => rfl) ?_
                              refine T_iadd 167 rfl rfl ?_
                              refine T_ld 169 (.int (i32 (m.1 70))) rfl (fun _ => rfl) ?_
                              refine T_call 172 250 [.ref 189, .int (i32 (((m310.1 12) - (m341.1 12)) + 1)), .int (i32 (m.1 70))] [] rfl (fun _ => rfl) rfl (c_unit w (mO m566 [] []) c N D (by omega) Tm566 (((m310.1 12) - (m341.1 12)) + 1) (m.1 70) (r32 (by omega) (by omega)) (r32 (by omega) (by omega)) (show 0 ≤ (((m310.1 12) - (m341.1 12)) + 1) ∧ (((m310.1 12) - (m341.1 12)) + 1) ≤ 1024 by omega) (show 0 ≤ (m.1 70) ∧ (m.1 70) ≤ 4000 by omega)) (fun rr577 k578 => ?_)
                              obtain ⟨m579, Tm579, Fm579, h580, rfl⟩ := k578
                              refine ⟨_, _, rfl, ?_⟩
                              refine T_nb (st' := []) rfl ?_
                              have g581 : 0 ≤ m579.1 69 ∧ m579.1 69 ≤ 1024 := Tm579.1 69
                              have g582 : 0 ≤ m579.1 70 ∧ m579.1 70 ≤ 4000 := Tm579.1 70
                              replace h580 : (m579.1 69) = (((m310.1 12) - (m341.1 12)) + 1) := h580
                              have u583 : (m.1 8) + 1 ≤ (m550.1 8) := by omega
                              have hAgC : agr (m.2 65) (m566.2 65) (m.1 28) := by first | exact agr_r _ _ | exact hAgC | exact agr_t hAgC hAg (by omega)
                              have hXE : XS (m566.2 65) (m566.2 67) (m.2 76) (m.2 78) (m.2 79) (m.2 80) B (m566.1 28) (m.1 73) (m.1 74) 1 := XS_of hXS hEX (by rw [show ar 405 = 1 from rfl]; omega)
                              refine T_goto 224 rfl (fun _ => rfl) ?_
                              refine T_ret rfl (fun _ => rfl) ?_
                              exact ⟨(mO m579 [] []), Tm579, (fr_m (fr_s Fm579 (fr_m (fr_s Fm566 (fr_m (fr_s Fm550 (fr_m (fr_s Fm540 (fr_m (fr_s Fm358 (fr_m (fr_s Fm341 (fr_m (fr_s Fm326 (fr_m (fr_s Fm310 (fr_m fr_0 rfl rfl) rfl rfl) rfl rfl) rfl rfl) rfl rfl) rfl rfl) rfl rfl) rfl rfl) rfl rfl) rfl rfl) rfl rfl) rfl rfl) rfl rfl) rfl rfl) rfl rfl) rfl rfl) rfl rfl), (show (m579.1 10) = 0 → (m.1 10) = 0 by rewrite [(show (m579.1 10) = (m566.1 10) from (fr1 Fm579 10 rfl))]; omega), (show LxP (m579.1 7) (m579.1 8) (m579.1 9) (m.1 6) (m579.1 10) by rewrite [(show (m579.1 7) = (m550.1 7) from ((fr1 Fm579 7 rfl).trans (fr1 Fm566 7 rfl))), (show (m579.1 8) = (m550.1 8) from ((fr1 Fm579 8 rfl).trans (fr1 Fm566 8 rfl))), (show (m579.1 9) = (m550.1 9) from ((fr1 Fm579 9 rfl).trans (fr1 Fm566 9 rfl))), (show (m579.1 10) = (m566.1 10) from (fr1 Fm579 10 rfl))]; first | (first | exact hLx | exact (fun _ => hLx (by omega)) | (intro h9; exfalso; omega)) | (exfalso; omega)), (fun _ => ⟨(show ((m579.1 75) = 1 ∧ (m.1 8) + 1 ≤ (m579.1 8)) ∨ ((m579.1 75) = 2 ∧ (m579.1 8) = (m.1 8)) by rewrite [(show (m579.1 75) = (m.1 75) from ((fr1 Fm579 75 rfl).trans ((fr1 Fm566 75 rfl).trans ((fr1 Fm550 75 rfl).trans ((fr1 Fm540 75 rfl).trans ((fr1 Fm358 75 rfl).trans ((fr1 Fm341 75 rfl).trans ((fr1 Fm326 75 rfl).trans (fr1 Fm310 75 rfl))))))))), (show (m579.1 8) = (m550.1 8) from ((fr1 Fm579 8 rfl).trans (fr1 Fm566 8 rfl)))]; omega), (show (m579.1 69) ≤ 64 by omega), (show (m.1 28) ≤ (m579.1 28) by rewrite [(show (m579.1 28) = (m566.1 28) from (fr1 Fm579 28 rfl))]; omega), (show XS (m579.2 65) (m579.2 67) (m.2 76) (m.2 78) (m.2 79) (m.2 80) B (m579.1 28) (m.1 73) (m.1 74) 1 by rewrite [(show (m579.2 65) = (m566.2 65) from (fr2 Fm579 65 rfl)), (show (m579.2 67) = (m566.2 67) from (fr2 Fm579 67 rfl)), (show (m579.1 28) = (m566.1 28) from (fr1 Fm579 28 rfl))]; first | (exact hXE) | (exfalso; omega)), (show agr (m.2 65) (m579.2 65) (m.1 28) by rewrite [(show (m579.2 65) = (m566.2 65) from (fr2 Fm579 65 rfl))]; first | (exact hAgC) | (exfalso; omega))⟩), rfl⟩
                            · skip
                              clear c568
                              clear h567
                              have hf584 : 1 ≤ (m566.1 10) := by omega
                              clear g558 g559 h551 h563
                              refine Tm_lv (a := [(0, .ref 189), (1, .int (i32 (m310.1 8))), (2, .long (i64 (m310.1 12))), (4, .long (i64 (m341.1 12))), (6, .int (i32 (m.1 70)))]) rfl rfl ⟨rfl, rfl, rfl, rfl, rfl, trivial⟩ ?_
                              exact J159_73 (m310.1 8) (m310.1 12) (m341.1 12) (mO m566 [] []) (r32 (by omega) (by omega)) (r64 (by omega) (by omega)) (r64 (by omega) (by omega)) Tm566 (fr_m (fr_s Fm566 (fr_m (fr_s Fm550 (fr_m (fr_s Fm540 (fr_m (fr_s Fm358 (fr_m (fr_s Fm341 (fr_m (fr_s Fm326 (fr_m (fr_s Fm310 (fr_m fr_0 rfl rfl) rfl rfl) rfl rfl) rfl rfl) rfl rfl) rfl rfl) rfl rfl) rfl rfl) rfl rfl) rfl rfl) rfl rfl) rfl rfl) rfl rfl) rfl rfl) rfl rfl) (show 0 ≤ (m310.1 8) by omega) (show (m310.1 8) ≤ 4000 by omega) (show 0 ≤ (m310.1 12) - (m341.1 12) ∧ (m310.1 12) - (m341.1 12) ≤ 63 by omega) (show 0 ≤ (m.1 70) ∧ (m.1 70) ≤ 4000 by omega) (show 1 ≤ (m566.1 10) by omega)
                          · skip
                            replace h551 : LxP (m550.1 7) (m550.1 8) (m550.1 9) (m540.1 6) (m550.1 10) := h551
                            rewrite [(show (m540.1 6) = (m.1 6) from ((fr1 Fm540 6 rfl).trans ((fr1 Fm358 6 rfl).trans ((fr1 Fm341 6 rfl).trans ((fr1 Fm326 6 rfl).trans (fr1 Fm310 6 rfl))))))] at h551
                            have hLx := h551
                            clear h552
                            replace h553 : (m540.1 8) ≤ (m550.1 8) := h553
                            rewrite [(show (m540.1 8) = (m358.1 8) from (fr1 Fm540 8 rfl))] at h553
                            clear h554
                            have hf585 : 1 ≤ (m550.1 10) := by omega
                            clear g363 g364 g365 g368 u370 g543 g544 u547 h553
                            refine Tm_lv (a := [(0, .ref 189), (1, .int (i32 (m310.1 8))), (2, .long (i64 (m310.1 12))), (4, .long (i64 (m341.1 12)))]) rfl rfl ⟨rfl, rfl, rfl, rfl, trivial⟩ ?_
                            exact J127_94 (m310.1 8) (m310.1 12) (m341.1 12) (mO m550 [] []) (r32 (by omega) (by omega)) (r64 (by omega) (by omega)) (r64 (by omega) (by omega)) Tm550 (fr_m (fr_s Fm550 (fr_m (fr_s Fm540 (fr_m (fr_s Fm358 (fr_m (fr_s Fm341 (fr_m (fr_s Fm326 (fr_m (fr_s Fm310 (fr_m fr_0 rfl rfl) rfl rfl) rfl rfl) rfl rfl) rfl rfl) rfl rfl) rfl rfl) rfl rfl) rfl rfl) rfl rfl) rfl rfl) rfl rfl) rfl rfl) (show 0 ≤ (m310.1 8) by omega) (show (m310.1 8) ≤ 4000 by omega) (show 1 ≤ (m550.1 10) by omega)
                        · skip
                          clear c542
                          clear h541
                          have hf586 : 1 ≤ (m540.1 10) := by omega
                          clear g366 g367 h359 h371 h373a h373b h373c h373d h373e h374 h427a h427b h427c h427d h427e h428 h481a h481b h481c h481d h481e h482 h535a h535b h535c h535d h535e h536
                          refine Tm_lv (a := [(0, .ref 189), (1, .int (i32 (m310.1 8))), (2, .long (i64 (m310.1 12))), (4, .long (i64 (m341.1 12)))]) rfl rfl ⟨rfl, rfl, rfl, rfl, trivial⟩ ?_
                          exact J121_108 (m310.1 8) (m310.1 12) (m341.1 12) (mO m540 [] []) (r32 (by omega) (by omega)) (r64 (by omega) (by omega)) (r64 (by omega) (by omega)) Tm540 (fr_m (fr_s Fm540 (fr_m (fr_s Fm358 (fr_m (fr_s Fm341 (fr_m (fr_s Fm326 (fr_m (fr_s Fm310 (fr_m fr_0 rfl rfl) rfl rfl) rfl rfl) rfl rfl) rfl rfl) rfl rfl) rfl rfl) rfl rfl) rfl rfl) rfl rfl) rfl rfl) (show 0 ≤ (m310.1 8) by omega) (show (m310.1 8) ≤ 4000 by omega) (show 1 ≤ (m540.1 10) by omega)
                      · skip
                        have hl587 : (m310.1 12) < (m.1 69) := by omega
                        refine T_ld 113 (.int (i32 1)) rfl (fun _ => rfl) ?_
                        refine T_goto 117 rfl (fun _ => rfl) ?_
                        refine T_ld 118 (.int (i32 (m310.1 8))) rfl (fun _ => rfl) ?_
                        refine T_call 121 256 [.ref 189, .int (i32 1), .int (i32 (m310.1 8))] [] rfl (fun _ => rfl) rfl (c_want w (mO m358 [] []) c N D (by omega) Tm358 1 (m310.1 8) ⟨by decide, by decide⟩ (r32 (by omega) (by omega)) (show 0 ≤ (m310.1 8) ∧ (m310.1 8) ≤ 4000 by omega) (fun _ => trivial)) (fun rr588 k589 => ?_)
                        obtain ⟨m590, Tm590, Fm590, h591, c592, rfl⟩ := k589
                        refine ⟨_, _, rfl, ?_⟩
                        refine T_nb (st' := []) rfl ?_
                        have g593 : 0 ≤ m590.1 10 ∧ m590.1 10 ≤ 8 := Tm590.1 10
                        have g594 : (-1) ≤ m590.1 11 ∧ m590.1 11 ≤ 4000 := Tm590.1 11
                        by_cases hf595 : (m590.1 10) = 0
                        · skip
                          replace h591 : (m358.1 10) = 0 := h591 hf595
                          have c596 := c592 hf595
                          replace c596 : (1 : Int) ≠ 0 := c596
                          clear c592
                          have u597 : (m.1 8) + 1 ≤ (m358.1 8) := by omega
                          have hAgC : agr (m.2 65) (m.2 65) (m.1 28) := by first | exact agr_r _ _ | exact hAgC | exact agr_t hAgC hAg (by omega)
                          clear g366 g367 h359 h371 h373a h373b h373c h373d h373e h374 h427a h427b h427c h427d h427e h428 h481a h481b h481c h481d h481e h482 h535a h535b h535c h535d h535e h536 h591
                          refine T_ld 122 (.ref 189) rfl (fun _ => rfl) ?_
                          refine T_ld 124 (.int (i32 93)) rfl (fun _ => rfl) ?_
                          refine T_call 127 232 [.ref 189, .int (i32 93)] [] rfl (fun _ => rfl) rfl (d_need w (mO m590 [] []) c N D (by omega) Tm590 93 ⟨by decide, by decide⟩ (show 1 ≤ (93 : Int) by omega) (show LxP (m590.1 7) (m590.1 8) (m590.1 9) (m590.1 6) (m590.1 10) by rewrite [(show (m590.1 7) = (m358.1 7) from (fr1 Fm590 7 rfl)), (show (m590.1 8) = (m358.1 8) from (fr1 Fm590 8 rfl)), (show (m590.1 9) = (m358.1 9) from (fr1 Fm590 9 rfl)), (show (m590.1 6) = (m.1 6) from ((fr1 Fm590 6 rfl).trans ((fr1 Fm358 6 rfl).trans ((fr1 Fm341 6 rfl).trans ((fr1 Fm326 6 rfl).trans (fr1 Fm310 6 rfl))))))]; first | exact hLx | (intro h9; exfalso; omega) | (intro h9; have h8 := hLx (by omega); omega))) (fun rr598 k599 => ?_)
                          obtain ⟨m600, Tm600, Fm600, h601, h602, h603, h604, rfl⟩ := k599
                          refine ⟨_, _, rfl, ?_⟩
                          refine T_nb (st' := []) rfl ?_
                          have g605 : 0 ≤ m600.1 7 ∧ m600.1 7 ≤ 330 := Tm600.1 7
                          have g606 : 0 ≤ m600.1 8 ∧ m600.1 8 ≤ 4000 := Tm600.1 8
                          have g607 : 0 ≤ m600.1 9 ∧ m600.1 9 ≤ 4000 := Tm600.1 9
                          have g608 : 0 ≤ m600.1 10 ∧ m600.1 10 ≤ 8 := Tm600.1 10
                          have g609 : (-1) ≤ m600.1 11 ∧ m600.1 11 ≤ 4000 := Tm600.1 11
                          have g610 : (-9223372036854775808) ≤ m600.1 12 ∧ m600.1 12 ≤ 9223372036854775807 := Tm600.1 12
                          by_cases hf611 : (m600.1 10) = 0
                          · skip
                            replace h601 : LxP (m600.1 7) (m600.1 8) (m600.1 9) (m590.1 6) (m600.1 10) := h601
                            rewrite [(show (m590.1 6) = (m.1 6) from ((fr1 Fm590 6 rfl).trans ((fr1 Fm358 6 rfl).trans ((fr1 Fm341 6 rfl).trans ((fr1 Fm326 6 rfl).trans (fr1 Fm310 6 rfl))))))] at h601
                            have hLx := h601
                            replace h602 : (m590.1 10) = 0 ∧ (m590.1 7) = (93 : Int) := h602 hf611
                            rewrite [(show (m590.1 7) = (m358.1 7) from (fr1 Fm590 7 rfl))] at h602
                            replace h603 : (m590.1 8) ≤ (m600.1 8) := h603
                            rewrite [(show (m590.1 8) = (m358.1 8) from (fr1 Fm590 8 rfl))] at h603
                            replace h604 : (m590.1 8) + (m590.1 9) ≤ (m600.1 8) := h604 hf611
                            rewrite [(show (m590.1 8) = (m358.1 8) from (fr1 Fm590 8 rfl)), (show (m590.1 9) = (m358.1 9) from (fr1 Fm590 9 rfl))] at h604
                            have u612 : (m.1 8) + 1 ≤ (m600.1 8) := by omega
                            have hAgC : agr (m.2 65) (m.2 65) (m.1 28) := by first | exact agr_r _ _ | exact hAgC | exact agr_t hAgC hAg (by omega)
                            clear g363 g364 g365 g368 u370 g593 g594 u597 h602 h603 h604
                            refine T_gf 131 (.int (i32 (m600.1 10))) rfl rfl rfl rfl rfl rfl ?_
                            refine T_if 135 134 rfl rfl rfl (r32 (by omega) (by omega)) (fun (h613 : (m600.1 10) ≤ 0) => ?_) (fun (h613 : ¬ ((m600.1 10) ≤ 0)) => by exfalso; omega)
                            refine T_gf 139 (.int (i32 (m.1 70))) rfl rfl rfl rfl (mfv_c (F := fun x => .int (i32 x)) rfl (show (m600.1 70) = (m.1 70) from ((fr1 Fm600 70 rfl).trans ((fr1 Fm590 70 rfl).trans ((fr1 Fm358 70 rfl).trans ((fr1 Fm341 70 rfl).trans ((fr1 Fm326 70 rfl).trans (fr1 Fm310 70 rfl)))))))) rfl ?_
                            refine T_sto 141 [(6, .int (i32 (m.1 70))), (4, .long (i64 (m341.1 12))), (2, .long (i64 (m310.1 12))), (1, .int (i32 (m310.1 8))), (0, .ref 189)] rfl (fun _ => rfl) ?_
                            have hAr : ar 405 ≤ 1 + lh (m.2 79) (m.2 80) (m.1 73) := by rw [show ar 405 = 1 from rfl]; omega
                            have hCk : CNk 405 (m341.1 12) := by refine ⟨?_, ?_, ?_, ?_⟩ <;> omega
                            refine T_ld 142 (.ref 189) rfl (fun _ => rfl) ?_
                            refine T_ld 145 (.int (i32 405)) rfl (fun _ => rfl) ?_
                            refine T_ld 146 (.long (i64 (m310.1 12))) rfl (fun _ => rfl) ?_
                            refine T_ld 148 (.long (i64 (m341.1 12))) rfl (fun _ => rfl) ?_
                            refine T_lsub 149 rfl rfl ?_
                            refine T_l2i 150 rfl rfl ?_
                            refine T_ld 151 (.int (i32 1)) rfl (fun _ => rfl) ?_
                            refine T_iadd 152 rfl rfl ?_
                            refine T_ld 154 (.long (i64 (m341.1 12))) rfl (fun _ => rfl) ?_
                            refine T_l2i 155 rfl rfl ?_
                            refine T_ld 156 (.long (i64 0)) rfl (fun _ => rfl) ?_
                            refine T_call 159 248 [.ref 189, .int (i32 405), .int (i32 (((m310.1 12) - (m341.1 12)) + 1)), .int (i32 (m341.1 12)), .long (i64 0)] [] rfl (fun _ => rfl) rfl (c_node w (mO m600 [] []) c N D (by omega) Tm600 405 (((m310.1 12) - (m341.1 12)) + 1) (m341.1 12) 0 B (1 + lh (m.2 79) (m.2 80) (m.1 73)) ⟨by decide, by decide⟩ (r32 (by omega) (by omega)) (r32 (by omega) (by omega)) ⟨by decide, by decide⟩ (fun _ => ⟨(show 0 ≤ (405 : Int) ∧ (405 : Int) ≤ 408 by first | omega | decide), (show 0 ≤ (((m310.1 12) - (m341.1 12)) + 1) ∧ (((m310.1 12) - (m341.1 12)) + 1) ≤ 64 by first | omega | decide), (show 0 ≤ (m341.1 12) ∧ (m341.1 12) ≤ 191 by first | omega | decide), (show CNk (405 : Int) (m341.1 12) by first | exact hCk | (refine ⟨?_, ?_, ?_, ?_⟩ <;> omega)), (show ar (405 : Int) ≤ (1 + lh (m.2 79) (m.2 80) (m.1 73)) by first | exact hAr | omega), (show EX (m600.2 65) (m600.2 67) B (m600.1 28) (1 + lh (m.2 79) (m.2 80) (m.1 73)) by rewrite [(show (m600.2 65) = (m.2 65) from ((fr2 Fm600 65 rfl).trans ((fr2 Fm590 65 rfl).trans ((fr2 Fm358 65 rfl).trans ((fr2 Fm341 65 rfl).trans ((fr2 Fm326 65 rfl).trans (fr2 Fm310 65 rfl))))))), (show (m600.2 67) = (m.2 67) from ((fr2 Fm600 67 rfl).trans ((fr2 Fm590 67 rfl).trans ((fr2 Fm358 67 rfl).trans ((fr2 Fm341 67 rfl).trans ((fr2 Fm326 67 rfl).trans (fr2 Fm310 67 rfl))))))), (show (m600.1 28) = (m.1 28) from ((fr1 Fm600 28 rfl).trans ((fr1 Fm590 28 rfl).trans ((fr1 Fm358 28 rfl).trans ((fr1 Fm341 28 rfl).trans ((fr1 Fm326 28 rfl).trans (fr1 Fm310 28 rfl)))))))]; first | exact hEX | assumption)⟩)) (fun rr614 k615 => ?_)
                            obtain ⟨m616, Tm616, Fm616, h617, c618, rfl⟩ := k615
                            refine ⟨_, _, rfl, ?_⟩
                            refine T_nb (st' := []) rfl ?_
                            have g619 : 0 ≤ m616.1 10 ∧ m616.1 10 ≤ 8 := Tm616.1 10
                            have g620 : (-1) ≤ m616.1 11 ∧ m616.1 11 ≤ 4000 := Tm616.1 11
                            have g621 : 0 ≤ m616.1 28 ∧ m616.1 28 ≤ 800 := Tm616.1 28
                            by_cases hf622 : (m616.1 10) = 0
                            · skip
                              replace h617 : (m600.1 10) = 0 := h617 hf622
                              obtain ⟨c623, c624, c625⟩ := c618 hf622
                              replace c623 : (m616.1 28) = (m600.1 28) + 1 := c623
                              rewrite [(show (m600.1 28) = (m.1 28) from ((fr1 Fm600 28 rfl).trans ((fr1 Fm590 28 rfl).trans ((fr1 Fm358 28 rfl).trans ((fr1 Fm341 28 rfl).trans ((fr1 Fm326 28 rfl).trans (fr1 Fm310 28 rfl)))))))] at c623
                              replace c624 : EX (m616.2 65) (m616.2 67) B (m616.1 28) ((1 + lh (m.2 79) (m.2 80) (m.1 73)) + 1 - ar (405 : Int)) := c624
                              have hEX := c624
                              replace c625 : agr (m600.2 65) (m616.2 65) (m600.1 28) := c625
                              rewrite [(show (m600.2 65) = (m.2 65) from ((fr2 Fm600 65 rfl).trans ((fr2 Fm590 65 rfl).trans ((fr2 Fm358 65 rfl).trans ((fr2 Fm341 65 rfl).trans ((fr2 Fm326 65 rfl).trans (fr2 Fm310 65 rfl))))))), (show (m600.1 28) = (m.1 28) from ((fr1 Fm600 28 rfl).trans ((fr1 Fm590 28 rfl).trans ((fr1 Fm358 28 rfl).trans ((fr1 Fm341 28 rfl).trans ((fr1 Fm326 28 rfl).trans (fr1 Fm310 28 rfl)))))))] at c625
                              have hAg := c625
                              clear c618
                              have u626 : (m.1 8) + 1 ≤ (m600.1 8) := by omega
                              have hAgC : agr (m.2 65) (m616.2 65) (m.1 28) := by first | exact agr_r _ _ | exact hAgC | exact agr_t hAgC hAg (by omega)
                              clear g608 g609 h601 h613 h617
                              refine T_ld 160 (.ref 189) rfl (fun _ => rfl) ?_
                              refine T_ld 161 (.long (i64 (m310.1 12))) rfl (fun _ => rfl) ?_
                              refine T_ld 163 (.long (i64 (m341.1 12))) rfl (fun _ => rfl) ?_
                              refine T_lsub 164 rfl rfl ?_
                              refine T_l2i 165 rfl rfl ?_
                              refine T_ld 166 (.int (i32 1)) rfl (fun _ => rfl) ?_
                              refine T_iadd 167 rfl rfl ?_
                              refine T_ld 169 (.int (i32 (m.1 70))) rfl (fun _ => rfl) ?_
                              refine T_call 172 250 [.ref 189, .int (i32 (((m310.1 12) - (m341.1 12)) + 1)), .int (i32 (m.1 70))] [] rfl (fun _ => rfl) rfl (c_unit w (mO m616 [] []) c N D (by omega) Tm616 (((m310.1 12) - (m341.1 12)) + 1) (m.1 70) (r32 (by omega) (by omega)) (r32 (by omega) (by omega)) (show 0 ≤ (((m310.1 12) - (m341.1 12)) + 1) ∧ (((m310.1 12) - (m341.1 12)) + 1) ≤ 1024 by omega) (show 0 ≤ (m.1 70) ∧ (m.1 70) ≤ 4000 by omega)) (fun rr627 k628 => ?_)
                              obtain ⟨m629, Tm629, Fm629, h630, rfl⟩ := k628
                              refine ⟨_, _, rfl, ?_⟩
                              refine T_nb (st' := []) rfl ?_
                              have g631 : 0 ≤ m629.1 69 ∧ m629.1 69 ≤ 1024 := Tm629.1 69
                              have g632 : 0 ≤ m629.1 70 ∧ m629.1 70 ≤ 4000 := Tm629.1 70
                              replace h630 : (m629.1 69) = (((m310.1 12) - (m341.1 12)) + 1) := h630
                              have u633 : (m.1 8) + 1 ≤ (m600.1 8) := by omega
                              have hAgC : agr (m.2 65) (m616.2 65) (m.1 28) := by first | exact agr_r _ _ | exact hAgC | exact agr_t hAgC hAg (by omega)
                              have hXE : XS (m616.2 65) (m616.2 67) (m.2 76) (m.2 78) (m.2 79) (m.2 80) B (m616.1 28) (m.1 73) (m.1 74) 1 := XS_of hXS hEX (by rw [show ar 405 = 1 from rfl]; omega)
                              refine T_goto 224 rfl (fun _ => rfl) ?_
                              refine T_ret rfl (fun _ => rfl) ?_
                              exact ⟨(mO m629 [] []), Tm629, (fr_m (fr_s Fm629 (fr_m (fr_s Fm616 (fr_m (fr_s Fm600 (fr_m (fr_s Fm590 (fr_m (fr_s Fm358 (fr_m (fr_s Fm341 (fr_m (fr_s Fm326 (fr_m (fr_s Fm310 (fr_m fr_0 rfl rfl) rfl rfl) rfl rfl) rfl rfl) rfl rfl) rfl rfl) rfl rfl) rfl rfl) rfl rfl) rfl rfl) rfl rfl) rfl rfl) rfl rfl) rfl rfl) rfl rfl) rfl rfl) rfl rfl), (show (m629.1 10) = 0 → (m.1 10) = 0 by rewrite [(show (m629.1 10) = (m616.1 10) from (fr1 Fm629 10 rfl))]; omega), (show LxP (m629.1 7) (m629.1 8) (m629.1 9) (m.1 6) (m629.1 10) by rewrite [(show (m629.1 7) = (m600.1 7) from ((fr1 Fm629 7 rfl).trans (fr1 Fm616 7 rfl))), (show (m629.1 8) = (m600.1 8) from ((fr1 Fm629 8 rfl).trans (fr1 Fm616 8 rfl))), (show (m629.1 9) = (m600.1 9) from ((fr1 Fm629 9 rfl).trans (fr1 Fm616 9 rfl))), (show (m629.1 10) = (m616.1 10) from (fr1 Fm629 10 rfl))]; first | (first | exact hLx | exact (fun _ => hLx (by omega)) | (intro h9; exfalso; omega)) | (exfalso; omega)), (fun _ => ⟨(show ((m629.1 75) = 1 ∧ (m.1 8) + 1 ≤ (m629.1 8)) ∨ ((m629.1 75) = 2 ∧ (m629.1 8) = (m.1 8)) by rewrite [(show (m629.1 75) = (m.1 75) from ((fr1 Fm629 75 rfl).trans ((fr1 Fm616 75 rfl).trans ((fr1 Fm600 75 rfl).trans ((fr1 Fm590 75 rfl).trans ((fr1 Fm358 75 rfl).trans ((fr1 Fm341 75 rfl).trans ((fr1 Fm326 75 rfl).trans (fr1 Fm310 75 rfl))))))))), (show (m629.1 8) = (m600.1 8) from ((fr1 Fm629 8 rfl).trans (fr1 Fm616 8 rfl)))]; omega), (show (m629.1 69) ≤ 64 by omega), (show (m.1 28) ≤ (m629.1 28) by rewrite [(show (m629.1 28) = (m616.1 28) from (fr1 Fm629 28 rfl))]; omega), (show XS (m629.2 65) (m629.2 67) (m.2 76) (m.2 78) (m.2 79) (m.2 80) B (m629.1 28) (m.1 73) (m.1 74) 1 by rewrite [(show (m629.2 65) = (m616.2 65) from (fr2 Fm629 65 rfl)), (show (m629.2 67) = (m616.2 67) from (fr2 Fm629 67 rfl)), (show (m629.1 28) = (m616.1 28) from (fr1 Fm629 28 rfl))]; first | (exact hXE) | (exfalso; omega)), (show agr (m.2 65) (m629.2 65) (m.1 28) by rewrite [(show (m629.2 65) = (m616.2 65) from (fr2 Fm629 65 rfl))]; first | (exact hAgC) | (exfalso; omega))⟩), rfl⟩
                            · skip
                              clear c618
                              clear h617
                              have hf634 : 1 ≤ (m616.1 10) := by omega
                              clear g608 g609 h601 h613
                              refine Tm_lv (a := [(0, .ref 189), (1, .int (i32 (m310.1 8))), (2, .long (i64 (m310.1 12))), (4, .long (i64 (m341.1 12))), (6, .int (i32 (m.1 70)))]) rfl rfl ⟨rfl, rfl, rfl, rfl, rfl, trivial⟩ ?_
                              exact J159_73 (m310.1 8) (m310.1 12) (m341.1 12) (mO m616 [] []) (r32 (by omega) (by omega)) (r64 (by omega) (by omega)) (r64 (by omega) (by omega)) Tm616 (fr_m (fr_s Fm616 (fr_m (fr_s Fm600 (fr_m (fr_s Fm590 (fr_m (fr_s Fm358 (fr_m (fr_s Fm341 (fr_m (fr_s Fm326 (fr_m (fr_s Fm310 (fr_m fr_0 rfl rfl) rfl rfl) rfl rfl) rfl rfl) rfl rfl) rfl rfl) rfl rfl) rfl rfl) rfl rfl) rfl rfl) rfl rfl) rfl rfl) rfl rfl) rfl rfl) rfl rfl) (show 0 ≤ (m310.1 8) by omega) (show (m310.1 8) ≤ 4000 by omega) (show 0 ≤ (m310.1 12) - (m341.1 12) ∧ (m310.1 12) - (m341.1 12) ≤ 63 by omega) (show 0 ≤ (m.1 70) ∧ (m.1 70) ≤ 4000 by omega) (show 1 ≤ (m616.1 10) by omega)
                          · skip
                            replace h601 : LxP (m600.1 7) (m600.1 8) (m600.1 9) (m590.1 6) (m600.1 10) := h601
                            rewrite [(show (m590.1 6) = (m.1 6) from ((fr1 Fm590 6 rfl).trans ((fr1 Fm358 6 rfl).trans ((fr1 Fm341 6 rfl).trans ((fr1 Fm326 6 rfl).trans (fr1 Fm310 6 rfl))))))] at h601
                            have hLx := h601
                            clear h602
                            replace h603 : (m590.1 8) ≤ (m600.1 8) := h603
                            rewrite [(show (m590.1 8) = (m358.1 8) from (fr1 Fm590 8 rfl))] at h603
                            clear h604
                            have hf635 : 1 ≤ (m600.1 10) := by omega
                            clear g363 g364 g365 g368 u370 g593 g594 u597 h603
                            refine Tm_lv (a := [(0, .ref 189), (1, .int (i32 (m310.1 8))), (2, .long (i64 (m310.1 12))), (4, .long (i64 (m341.1 12)))]) rfl rfl ⟨rfl, rfl, rfl, rfl, trivial⟩ ?_
                            exact J127_94 (m310.1 8) (m310.1 12) (m341.1 12) (mO m600 [] []) (r32 (by omega) (by omega)) (r64 (by omega) (by omega)) (r64 (by omega) (by omega)) Tm600 (fr_m (fr_s Fm600 (fr_m (fr_s Fm590 (fr_m (fr_s Fm358 (fr_m (fr_s Fm341 (fr_m (fr_s Fm326 (fr_m (fr_s Fm310 (fr_m fr_0 rfl rfl) rfl rfl) rfl rfl) rfl rfl) rfl rfl) rfl rfl) rfl rfl) rfl rfl) rfl rfl) rfl rfl) rfl rfl) rfl rfl) rfl rfl) (show 0 ≤ (m310.1 8) by omega) (show (m310.1 8) ≤ 4000 by omega) (show 1 ≤ (m600.1 10) by omega)
                        · skip
                          clear c592
                          clear h591
                          have hf636 : 1 ≤ (m590.1 10) := by omega
                          clear g366 g367 h359 h371 h373a h373b h373c h373d h373e h374 h427a h427b h427c h427d h427e h428 h481a h481b h481c h481d h481e h482 h535a h535b h535c h535d h535e h536
                          refine Tm_lv (a := [(0, .ref 189), (1, .int (i32 (m310.1 8))), (2, .long (i64 (m310.1 12))), (4, .long (i64 (m341.1 12)))]) rfl rfl ⟨rfl, rfl, rfl, rfl, trivial⟩ ?_
                          exact J121_108 (m310.1 8) (m310.1 12) (m341.1 12) (mO m590 [] []) (r32 (by omega) (by omega)) (r64 (by omega) (by omega)) (r64 (by omega) (by omega)) Tm590 (fr_m (fr_s Fm590 (fr_m (fr_s Fm358 (fr_m (fr_s Fm341 (fr_m (fr_s Fm326 (fr_m (fr_s Fm310 (fr_m fr_0 rfl rfl) rfl rfl) rfl rfl) rfl rfl) rfl rfl) rfl rfl) rfl rfl) rfl rfl) rfl rfl) rfl rfl) rfl rfl) (show 0 ≤ (m310.1 8) by omega) (show (m310.1 8) ≤ 4000 by omega) (show 1 ≤ (m590.1 10) by omega)
              · skip
                replace h359 : LxP (m358.1 7) (m358.1 8) (m358.1 9) (m341.1 6) (m358.1 10) := h359
                rewrite [(show (m341.1 6) = (m.1 6) from ((fr1 Fm341 6 rfl).trans ((fr1 Fm326 6 rfl).trans (fr1 Fm310 6 rfl))))] at h359
                have hLx := h359
                clear h360
                replace h361 : (m341.1 8) ≤ (m358.1 8) := h361
                clear h362
                have hf637 : 1 ≤ (m358.1 10) := by omega
                clear g346 g347 g348 g349 g350 h342 u353 h354 h355 h361
                refine Tm_lv (a := [(0, .ref 189), (1, .int (i32 (m310.1 8))), (2, .long (i64 (m310.1 12))), (4, .long (i64 (m341.1 12)))]) rfl rfl ⟨rfl, rfl, rfl, rfl, trivial⟩ ?_
                exact J74_135 (m310.1 8) (m310.1 12) (m341.1 12) (mO m358 [] []) (r32 (by omega) (by omega)) (r64 (by omega) (by omega)) (r64 (by omega) (by omega)) Tm358 (fr_m (fr_s Fm358 (fr_m (fr_s Fm341 (fr_m (fr_s Fm326 (fr_m (fr_s Fm310 (fr_m fr_0 rfl rfl) rfl rfl) rfl rfl) rfl rfl) rfl rfl) rfl rfl) rfl rfl) rfl rfl) rfl rfl) (show 0 ≤ (m310.1 8) by omega) (show (m310.1 8) ≤ 4000 by omega) (show 1 ≤ (m358.1 10) by omega)
            · skip
              refine T_ld 61 (.ref 189) rfl (fun _ => rfl) ?_
              refine T_call 64 226 [.ref 189] [] rfl (fun _ => rfl) rfl (d_bad w (mO m341 [] []) c N D (by omega) Tm341 ) (fun rr638 k639 => ?_)
              obtain ⟨m640, Tm640, Fm640, h641, rfl⟩ := k639
              refine ⟨_, _, rfl, ?_⟩
              refine T_nb (st' := []) rfl ?_
              have g642 : 0 ≤ m640.1 10 ∧ m640.1 10 ≤ 8 := Tm640.1 10
              have g643 : (-1) ≤ m640.1 11 ∧ m640.1 11 ≤ 4000 := Tm640.1 11
              replace h641 : (0 < (m341.1 10) → (m640.1 10) = (m341.1 10) ∧ (m640.1 11) = (m341.1 11)) ∧ ((m341.1 10) ≤ 0 → (m640.1 10) = 1 ∧ (m640.1 11) = (m341.1 8)) := h641
              have hf644 : 1 ≤ (m640.1 10) := by omega
              clear g349 g350 h342 h354 h641
              refine T_gf 68 (.long (i64 (m341.1 12))) rfl rfl rfl rfl (mfv_c (F := fun x => .long (i64 x)) rfl (show (m640.1 12) = (m341.1 12) from (fr1 Fm640 12 rfl))) rfl ?_
              refine T_sto 70 [(4, .long (i64 (m341.1 12))), (2, .long (i64 (m310.1 12))), (1, .int (i32 (m310.1 8))), (0, .ref 189)] rfl (fun _ => rfl) ?_
              refine T_ld 71 (.ref 189) rfl (fun _ => rfl) ?_
              refine T_call 74 212 [.ref 189] [] rfl (fun _ => rfl) rfl (d_next w (mO m640 [] []) c N D (by omega) Tm640 (show (m640.1 10) = 0 → (m640.1 8) + (m640.1 9) ≤ (m640.1 6) by rewrite [(show (m640.1 8) = (m341.1 8) from (fr1 Fm640 8 rfl)), (show (m640.1 9) = (m341.1 9) from (fr1 Fm640 9 rfl)), (show (m640.1 6) = (m.1 6) from ((fr1 Fm640 6 rfl).trans ((fr1 Fm341 6 rfl).trans ((fr1 Fm326 6 rfl).trans (fr1 Fm310 6 rfl)))))]; first | omega | (intro h9; have h8 := hLx h9; omega))) (fun rr645 k646 => ?_)
              obtain ⟨m647, Tm647, Fm647, h648, h649, h650, h651, rfl⟩ := k646
              refine ⟨_, _, rfl, ?_⟩
              refine T_nb (st' := []) rfl ?_
              have g652 : 0 ≤ m647.1 7 ∧ m647.1 7 ≤ 330 := Tm647.1 7
              have g653 : 0 ≤ m647.1 8 ∧ m647.1 8 ≤ 4000 := Tm647.1 8
              have g654 : 0 ≤ m647.1 9 ∧ m647.1 9 ≤ 4000 := Tm647.1 9
              have g655 : 0 ≤ m647.1 10 ∧ m647.1 10 ≤ 8 := Tm647.1 10
              have g656 : (-1) ≤ m647.1 11 ∧ m647.1 11 ≤ 4000 := Tm647.1 11
              have g657 : (-9223372036854775808) ≤ m647.1 12 ∧ m647.1 12 ≤ 9223372036854775807 := Tm647.1 12
              replace h648 : LxP (m647.1 7) (m647.1 8) (m647.1 9) (m640.1 6) (m647.1 10) := h648
              rewrite [(show (m640.1 6) = (m.1 6) from ((fr1 Fm640 6 rfl).trans ((fr1 Fm341 6 rfl).trans ((fr1 Fm326 6 rfl).trans (fr1 Fm310 6 rfl)))))] at h648
              replace h649 : (m647.1 10) = 0 → (m640.1 10) = 0 := h649
              replace h650 : (m640.1 8) ≤ (m647.1 8) := h650
              rewrite [(show (m640.1 8) = (m341.1 8) from (fr1 Fm640 8 rfl))] at h650
              replace h651 : (m647.1 10) = 0 → (m640.1 8) + (m640.1 9) ≤ (m647.1 8) := h651
              rewrite [(show (m640.1 8) = (m341.1 8) from (fr1 Fm640 8 rfl)), (show (m640.1 9) = (m341.1 9) from (fr1 Fm640 9 rfl))] at h651
              have hf658 : 1 ≤ (m647.1 10) := by omega
              clear h649
              clear h651
              have hLx := h648
              clear g346 g347 g348 u353 h355 g642 g643 hf644 h650
              refine Tm_lv (a := [(0, .ref 189), (1, .int (i32 (m310.1 8))), (2, .long (i64 (m310.1 12))), (4, .long (i64 (m341.1 12)))]) rfl rfl ⟨rfl, rfl, rfl, rfl, trivial⟩ ?_
              exact J74_135 (m310.1 8) (m310.1 12) (m341.1 12) (mO m647 [] []) (r32 (by omega) (by omega)) (r64 (by omega) (by omega)) (r64 (by omega) (by omega)) Tm647 (fr_m (fr_s Fm647 (fr_m (fr_s Fm640 (fr_m (fr_s Fm341 (fr_m (fr_s Fm326 (fr_m (fr_s Fm310 (fr_m fr_0 rfl rfl) rfl rfl) rfl rfl) rfl rfl) rfl rfl) rfl rfl) rfl rfl) rfl rfl) rfl rfl) rfl rfl) rfl rfl) (show 0 ≤ (m310.1 8) by omega) (show (m310.1 8) ≤ 4000 by omega) (show 1 ≤ (m647.1 10) by omega)
          · skip
            replace h342 : LxP (m341.1 7) (m341.1 8) (m341.1 9) (m326.1 6) (m341.1 10) := h342
            rewrite [(show (m326.1 6) = (m.1 6) from ((fr1 Fm326 6 rfl).trans (fr1 Fm310 6 rfl)))] at h342
            have hLx := h342
            clear h343
            replace h344 : (m326.1 8) ≤ (m341.1 8) := h344
            clear h345
            have hf659 : 1 ≤ (m341.1 10) := by omega
            clear g331 g332 g333 g334 g335 g336 h327 h329 u338 h344
            refine Tm_lv (a := [(0, .ref 189), (1, .int (i32 (m310.1 8))), (2, .long (i64 (m310.1 12)))]) rfl rfl ⟨rfl, rfl, rfl, trivial⟩ ?_
            exact J45_162 (m310.1 8) (m310.1 12) (mO m341 [] []) (r32 (by omega) (by omega)) (r64 (by omega) (by omega)) Tm341 (fr_m (fr_s Fm341 (fr_m (fr_s Fm326 (fr_m (fr_s Fm310 (fr_m fr_0 rfl rfl) rfl rfl) rfl rfl) rfl rfl) rfl rfl) rfl rfl) rfl rfl) (show 0 ≤ (m310.1 8) by omega) (show (m310.1 8) ≤ 4000 by omega) (show 1 ≤ (m341.1 10) by omega)
        · skip
          replace h327 : LxP (m326.1 7) (m326.1 8) (m326.1 9) (m310.1 6) (m326.1 10) := h327
          rewrite [(show (m310.1 6) = (m.1 6) from (fr1 Fm310 6 rfl))] at h327
          have hLx := h327
          clear h328
          replace h329 : (m310.1 8) ≤ (m326.1 8) := h329
          clear h330
          have hf660 : 1 ≤ (m326.1 10) := by omega
          clear g315 g317 g318 g319 h311 h323
          refine Tm_lv (a := [(0, .ref 189), (1, .int (i32 (m310.1 8))), (2, .long (i64 (m310.1 12)))]) rfl rfl ⟨rfl, rfl, rfl, trivial⟩ ?_
          exact J39_188 (m310.1 8) (m310.1 12) (mO m326 [] []) (r32 (by omega) (by omega)) (r64 (by omega) (by omega)) Tm326 (fr_m (fr_s Fm326 (fr_m (fr_s Fm310 (fr_m fr_0 rfl rfl) rfl rfl) rfl rfl) rfl rfl) rfl rfl) (show 0 ≤ (m310.1 8) by omega) (show (m310.1 8) ≤ 4000 by omega) (show 1 ≤ (m326.1 10) by omega)
      · skip
        refine T_ld 27 (.ref 189) rfl (fun _ => rfl) ?_
        refine T_call 30 226 [.ref 189] [] rfl (fun _ => rfl) rfl (d_bad w (mO m310 [] []) c N D (by omega) Tm310 ) (fun rr661 k662 => ?_)
        obtain ⟨m663, Tm663, Fm663, h664, rfl⟩ := k662
        refine ⟨_, _, rfl, ?_⟩
        refine T_nb (st' := []) rfl ?_
        have g665 : 0 ≤ m663.1 10 ∧ m663.1 10 ≤ 8 := Tm663.1 10
        have g666 : (-1) ≤ m663.1 11 ∧ m663.1 11 ≤ 4000 := Tm663.1 11
        replace h664 : (0 < (m310.1 10) → (m663.1 10) = (m310.1 10) ∧ (m663.1 11) = (m310.1 11)) ∧ ((m310.1 10) ≤ 0 → (m663.1 10) = 1 ∧ (m663.1 11) = (m310.1 8)) := h664
        have hf667 : 1 ≤ (m663.1 10) := by omega
        clear g318 g319 h311 h664
        refine Tm_lv (a := [(0, .ref 189), (1, .int (i32 (m310.1 8)))]) rfl rfl ⟨rfl, rfl, trivial⟩ ?_
        exact J30_212 (m310.1 8) (mO m663 [] []) (r32 (by omega) (by omega)) Tm663 (fr_m (fr_s Fm663 (fr_m (fr_s Fm310 (fr_m fr_0 rfl rfl) rfl rfl) rfl rfl) rfl rfl) rfl rfl) (show 0 ≤ (m310.1 8) by omega) (show (m310.1 8) ≤ 4000 by omega) (show 1 ≤ (m663.1 10) by omega)
    · skip
      replace h311 : LxP (m310.1 7) (m310.1 8) (m310.1 9) (m.1 6) (m310.1 10) := h311
      have hLx := h311
      clear h312
      replace h313 : (m.1 8) ≤ (m310.1 8) := h313
      clear h314
      have hf668 : 1 ≤ (m310.1 10) := by omega
      refine T_gf 17 (.int (i32 (m310.1 8))) rfl rfl rfl rfl rfl rfl ?_
      refine T_sto 18 [(1, .int (i32 (m310.1 8))), (0, .ref 189)] rfl (fun _ => rfl) ?_
      refine T_gf 22 (.int (i32 (m310.1 7))) rfl rfl rfl rfl rfl rfl ?_
      refine T_ld 23 (.int (i32 2)) rfl (fun _ => rfl) ?_
      refine T_icmp 30 26 rfl rfl rfl (r32 (by omega) (by omega)) ⟨by decide, by decide⟩ (fun (h669 : (m310.1 7) = 2) => ?_) (fun (h669 : ¬ ((m310.1 7) = 2)) => ?_)
      · skip
        refine T_gf 34 (.long (i64 (m310.1 12))) rfl rfl rfl rfl rfl rfl ?_
        refine T_sto 35 [(2, .long (i64 (m310.1 12))), (1, .int (i32 (m310.1 8))), (0, .ref 189)] rfl (fun _ => rfl) ?_
        refine T_ld 36 (.ref 189) rfl (fun _ => rfl) ?_
        refine T_call 39 212 [.ref 189] [] rfl (fun _ => rfl) rfl (d_next w (mO m310 [] []) c N D (by omega) Tm310 (show (m310.1 10) = 0 → (m310.1 8) + (m310.1 9) ≤ (m310.1 6) by rewrite [(show (m310.1 6) = (m.1 6) from (fr1 Fm310 6 rfl))]; first | omega | (intro h9; have h8 := hLx h9; omega))) (fun rr670 k671 => ?_)
        obtain ⟨m672, Tm672, Fm672, h673, h674, h675, h676, rfl⟩ := k671
        refine ⟨_, _, rfl, ?_⟩
        refine T_nb (st' := []) rfl ?_
        have g677 : 0 ≤ m672.1 7 ∧ m672.1 7 ≤ 330 := Tm672.1 7
        have g678 : 0 ≤ m672.1 8 ∧ m672.1 8 ≤ 4000 := Tm672.1 8
        have g679 : 0 ≤ m672.1 9 ∧ m672.1 9 ≤ 4000 := Tm672.1 9
        have g680 : 0 ≤ m672.1 10 ∧ m672.1 10 ≤ 8 := Tm672.1 10
        have g681 : (-1) ≤ m672.1 11 ∧ m672.1 11 ≤ 4000 := Tm672.1 11
        have g682 : (-9223372036854775808) ≤ m672.1 12 ∧ m672.1 12 ≤ 9223372036854775807 := Tm672.1 12
        replace h673 : LxP (m672.1 7) (m672.1 8) (m672.1 9) (m310.1 6) (m672.1 10) := h673
        rewrite [(show (m310.1 6) = (m.1 6) from (fr1 Fm310 6 rfl))] at h673
        replace h674 : (m672.1 10) = 0 → (m310.1 10) = 0 := h674
        replace h675 : (m310.1 8) ≤ (m672.1 8) := h675
        replace h676 : (m672.1 10) = 0 → (m310.1 8) + (m310.1 9) ≤ (m672.1 8) := h676
        have hf683 : 1 ≤ (m672.1 10) := by omega
        clear h674
        clear h676
        have hLx := h673
        clear g315 g317 g318 g319 h311 hf668 h669
        refine Tm_lv (a := [(0, .ref 189), (1, .int (i32 (m310.1 8))), (2, .long (i64 (m310.1 12)))]) rfl rfl ⟨rfl, rfl, rfl, trivial⟩ ?_
        exact J39_188 (m310.1 8) (m310.1 12) (mO m672 [] []) (r32 (by omega) (by omega)) (r64 (by omega) (by omega)) Tm672 (fr_m (fr_s Fm672 (fr_m (fr_s Fm310 (fr_m fr_0 rfl rfl) rfl rfl) rfl rfl) rfl rfl) rfl rfl) (show 0 ≤ (m310.1 8) by omega) (show (m310.1 8) ≤ 4000 by omega) (show 1 ≤ (m672.1 10) by omega)
      · skip
        refine T_ld 27 (.ref 189) rfl (fun _ => rfl) ?_
        refine T_call 30 226 [.ref 189] [] rfl (fun _ => rfl) rfl (d_bad w (mO m310 [] []) c N D (by omega) Tm310 ) (fun rr684 k685 => ?_)
        obtain ⟨m686, Tm686, Fm686, h687, rfl⟩ := k685
        refine ⟨_, _, rfl, ?_⟩
        refine T_nb (st' := []) rfl ?_
        have g688 : 0 ≤ m686.1 10 ∧ m686.1 10 ≤ 8 := Tm686.1 10
        have g689 : (-1) ≤ m686.1 11 ∧ m686.1 11 ≤ 4000 := Tm686.1 11
        replace h687 : (0 < (m310.1 10) → (m686.1 10) = (m310.1 10) ∧ (m686.1 11) = (m310.1 11)) ∧ ((m310.1 10) ≤ 0 → (m686.1 10) = 1 ∧ (m686.1 11) = (m310.1 8)) := h687
        have hf690 : 1 ≤ (m686.1 10) := by omega
        clear g318 g319 h311 hf668 h687
        refine Tm_lv (a := [(0, .ref 189), (1, .int (i32 (m310.1 8)))]) rfl rfl ⟨rfl, rfl, trivial⟩ ?_
        exact J30_212 (m310.1 8) (mO m686 [] []) (r32 (by omega) (by omega)) Tm686 (fr_m (fr_s Fm686 (fr_m (fr_s Fm310 (fr_m fr_0 rfl rfl) rfl rfl) rfl rfl) rfl rfl) rfl rfl) (show 0 ≤ (m310.1 8) by omega) (show (m310.1 8) ≤ 4000 by omega) (show 1 ≤ (m686.1 10) by omega)
