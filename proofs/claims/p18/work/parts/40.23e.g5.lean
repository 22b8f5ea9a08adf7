def fF_after : List Nat := [7, 8, 9, 10, 11, 12, 28, 69, 70, 71, 72, 75]
def fA_after : List Nat := [65, 66, 67, 68]
def Q_after (m : mR) (c : Nat → Option am_C) (N : Nat) (B : Int) : ag_Re af_T → Prop := fun R => ∃ (M : mR), Ty M ∧ fr fF_after fA_after m M ∧ ((M.1 10) = 0 → (m.1 10) = 0) ∧ (LxP (M.1 7) (M.1 8) (M.1 9) (m.1 6) (M.1 10)) ∧ (M.1 10 = 0 → (((M.1 75) = 1 ∧ (m.1 8) + 1 ≤ (M.1 8)) ∨ ((M.1 75) = 2 ∧ (M.1 8) = (m.1 8))) ∧ ((M.1 69) ≤ 64) ∧ ((m.1 28) ≤ (M.1 28)) ∧ (XS (M.2 65) (M.2 67) (m.2 76) (m.2 78) (m.2 79) (m.2 80) B (M.1 28) (m.1 73) (m.1 74) 1) ∧ (agr (m.2 65) (M.2 65) (m.1 28))) ∧ R = (.inl (none), (mhp M c, N), 0, 0)
set_option maxHeartbeats 3000000 in
theorem c_after (w : wX) (m : mR) (c : Nat → Option am_C) (N D : Nat) (hD : 7 ≤ D) (hT : Ty m) (B : Int) (hLx0 : LxP (m.1 7) (m.1 8) (m.1 9) (m.1 6) (m.1 10)) (hf0 : m.1 10 = 0) (hC : (XS (m.2 65) (m.2 67) (m.2 76) (m.2 78) (m.2 79) (m.2 80) B (m.1 28) (m.1 73) (m.1 74) 1) ∧ ((m.1 75) = 1) ∧ ((m.1 69) ≤ 64)) : TC w D 255 [.ref 189] (mhp m c, N) (Q_after m c N B) := by
  obtain ⟨D, rfl⟩ : ∃ k, D = k + 1 := ⟨D - 1, by omega⟩
  have hLx := hLx0
  have f7 : 0 ≤ m.1 7 ∧ m.1 7 ≤ 330 := hT.1 7
  have f8 : 0 ≤ m.1 8 ∧ m.1 8 ≤ 4000 := hT.1 8
  have f9 : 0 ≤ m.1 9 ∧ m.1 9 ≤ 4000 := hT.1 9
  have f10 : 0 ≤ m.1 10 ∧ m.1 10 ≤ 8 := hT.1 10
  have f11 : (-1) ≤ m.1 11 ∧ m.1 11 ≤ 4000 := hT.1 11
  have f12 : (-9223372036854775808) ≤ m.1 12 ∧ m.1 12 ≤ 9223372036854775807 := hT.1 12
  have f28 : 0 ≤ m.1 28 ∧ m.1 28 ≤ 800 := hT.1 28
  have f69 : 0 ≤ m.1 69 ∧ m.1 69 ≤ 1024 := hT.1 69
  have f70 : 0 ≤ m.1 70 ∧ m.1 70 ≤ 4000 := hT.1 70
  have f75 : 0 ≤ m.1 75 ∧ m.1 75 ≤ 3 := hT.1 75
  have f74 : 0 ≤ m.1 74 ∧ m.1 74 ≤ 24 := hT.1 74
  have f73 : 0 ≤ m.1 73 ∧ m.1 73 ≤ 60 := hT.1 73
  have f6 : 0 ≤ m.1 6 ∧ m.1 6 ≤ 4000 := hT.1 6
  refine Tc_of rfl ?_
  show TT w D pm_255 (0, [(0, .ref 189)], [], (mhp (mO m [] []) c, N), 0, 0) (Q_after m c N B)
  obtain ⟨hXS, c1, c2⟩ := hC
  have h7 := hLx (by omega)
  have hEX := hXS.1.1
  have hl0 : 0 ≤ lh (m.2 79) (m.2 80) (m.1 73) := lh_0 (hT.2.1 79) _ _
  have hXE := hXS
  have hAgC := agr_r (m.2 65) (m.1 28)
  have J207_38 : ∀ (v36 : Int) (m37 : mR), (R32 v36) → Ty m37 → fr [7, 8, 9, 10, 11, 12, 28] [65, 66, 67, 68] (mO m [] []) m37 → (1 ≤ v36) → (v36 ≤ 64) → (1 ≤ (m37.1 10)) → TT w D pm_255 (207, [(0, .ref 189), (1, .int (i32 v36))], [], (mhp (mO m37 [] []) c, N), 0, 0) (Q_after m c N B) := by
    intro v36 m37 q42 Tm37 Fm37 ic39 ic40 ic41
    obtain ⟨q42a, q42b⟩ := id q42
    have q43_7 : 0 ≤ m37.1 7 ∧ m37.1 7 ≤ 330 := Tm37.1 7
    have q43_8 : 0 ≤ m37.1 8 ∧ m37.1 8 ≤ 4000 := Tm37.1 8
    have q43_9 : 0 ≤ m37.1 9 ∧ m37.1 9 ≤ 4000 := Tm37.1 9
    have q43_10 : 0 ≤ m37.1 10 ∧ m37.1 10 ≤ 8 := Tm37.1 10
    have q43_11 : (-1) ≤ m37.1 11 ∧ m37.1 11 ≤ 4000 := Tm37.1 11
    have q43_12 : (-9223372036854775808) ≤ m37.1 12 ∧ m37.1 12 ≤ 9223372036854775807 := Tm37.1 12
    have q43_28 : 0 ≤ m37.1 28 ∧ m37.1 28 ≤ 800 := Tm37.1 28
    refine T_ld 208 (.ref 189) rfl (fun _ => rfl) ?_
    refine T_ld 209 (.int (i32 v36)) rfl (fun _ => rfl) ?_
    refine T_gf 213 (.int (i32 (m.1 70))) rfl rfl rfl rfl (mfv_c (F := fun x => .int (i32 x)) rfl (show (m37.1 70) = (m.1 70) from (fr1 Fm37 70 rfl))) rfl ?_
    refine T_call 216 250 [.ref 189, .int (i32 v36), .int (i32 (m.1 70))] [] rfl (fun _ => rfl) rfl (c_unit w (mO m37 [] []) c N D (by omega) Tm37 v36 (m.1 70) (r32 (by omega) (by omega)) (r32 (by omega) (by omega)) (show 0 ≤ v36 ∧ v36 ≤ 1024 by omega) (show 0 ≤ (m.1 70) ∧ (m.1 70) ≤ 4000 by omega)) (fun rr46 k47 => ?_)
    obtain ⟨m48, Tm48, Fm48, h49, rfl⟩ := k47
    refine ⟨_, _, rfl, ?_⟩
    refine T_nb (st' := []) rfl ?_
    have g50 : 0 ≤ m48.1 69 ∧ m48.1 69 ≤ 1024 := Tm48.1 69
    have g51 : 0 ≤ m48.1 70 ∧ m48.1 70 ≤ 4000 := Tm48.1 70
    replace h49 : (m48.1 69) = v36 := h49
    refine T_goto 224 rfl (fun _ => rfl) ?_
    refine T_ret rfl (fun _ => rfl) ?_
    exact ⟨(mO m48 [] []), Tm48, (fr_m (fr_s Fm48 (fr_m (fr_s Fm37 (fr_m fr_0 rfl rfl) rfl rfl) rfl rfl) rfl rfl) rfl rfl), (show (m48.1 10) = 0 → (m.1 10) = 0 by rewrite [(show (m48.1 10) = (m37.1 10) from (fr1 Fm48 10 rfl))]; omega), (show LxP (m48.1 7) (m48.1 8) (m48.1 9) (m.1 6) (m48.1 10) by rewrite [(show (m48.1 7) = (m37.1 7) from (fr1 Fm48 7 rfl)), (show (m48.1 8) = (m37.1 8) from (fr1 Fm48 8 rfl)), (show (m48.1 9) = (m37.1 9) from (fr1 Fm48 9 rfl)), (show (m48.1 10) = (m37.1 10) from (fr1 Fm48 10 rfl))]; first | (first | exact hLx | exact (fun _ => hLx (by omega)) | (intro h9; exfalso; omega)) | (exfalso; omega)), (fun (h : (m48.1 10) = 0) => absurd ((show (m48.1 10) = (m37.1 10) from (fr1 Fm48 10 rfl)).symm.trans h) (by omega)), rfl⟩
  have J196_54 : ∀ (s52 : Int) (m53 : mR), (R32 s52) → Ty m53 → fr [7, 8, 9, 10, 11, 12] [] (mO m [] []) m53 → (1 ≤ s52) → (s52 ≤ 64) → (1 ≤ (m53.1 10)) → TT w D pm_255 (196, [(0, .ref 189)], [.int (i32 s52)], (mhp (mO m53 [] []) c, N), 0, 0) (Q_after m c N B) := by
    intro s52 m53 q58 Tm53 Fm53 ic55 ic56 ic57
    obtain ⟨q58a, q58b⟩ := id q58
    have q59_7 : 0 ≤ m53.1 7 ∧ m53.1 7 ≤ 330 := Tm53.1 7
    have q59_8 : 0 ≤ m53.1 8 ∧ m53.1 8 ≤ 4000 := Tm53.1 8
    have q59_9 : 0 ≤ m53.1 9 ∧ m53.1 9 ≤ 4000 := Tm53.1 9
    have q59_10 : 0 ≤ m53.1 10 ∧ m53.1 10 ≤ 8 := Tm53.1 10
    have q59_11 : (-1) ≤ m53.1 11 ∧ m53.1 11 ≤ 4000 := Tm53.1 11
    have q59_12 : (-9223372036854775808) ≤ m53.1 12 ∧ m53.1 12 ≤ 9223372036854775807 := Tm53.1 12
    refine T_sto 197 [(1, .int (i32 s52)), (0, .ref 189)] rfl (fun _ => rfl) ?_
    refine T_ld 198 (.ref 189) rfl (fun _ => rfl) ?_
    refine T_ld 201 (.int (i32 406)) rfl (fun _ => rfl) ?_
    refine T_ld 202 (.int (i32 s52)) rfl (fun _ => rfl) ?_
    refine T_ld 203 (.int (i32 0)) rfl (fun _ => rfl) ?_
    refine T_ld 204 (.long (i64 0)) rfl (fun _ => rfl) ?_
    refine T_call 207 248 [.ref 189, .int (i32 406), .int (i32 s52), .int (i32 0), .long (i64 0)] [] rfl (fun _ => rfl) rfl (c_node w (mO m53 [] []) c N D (by omega) Tm53 406 s52 0 0 B (1 + lh (m.2 79) (m.2 80) (m.1 73)) ⟨by decide, by decide⟩ (r32 (by omega) (by omega)) ⟨by decide, by decide⟩ ⟨by decide, by decide⟩ (fun (h : (m53.1 10) = 0) => absurd h (by omega))) (fun rr62 k63 => ?_)
    obtain ⟨m64, Tm64, Fm64, h65, c66, rfl⟩ := k63
    refine ⟨_, _, rfl, ?_⟩
    refine T_nb (st' := []) rfl ?_
    have g67 : 0 ≤ m64.1 10 ∧ m64.1 10 ≤ 8 := Tm64.1 10
    have g68 : (-1) ≤ m64.1 11 ∧ m64.1 11 ≤ 4000 := Tm64.1 11
    have g69 : 0 ≤ m64.1 28 ∧ m64.1 28 ≤ 800 := Tm64.1 28
    replace h65 : (m64.1 10) = 0 → (m53.1 10) = 0 := h65
    have hf70 : 1 ≤ (m64.1 10) := by omega
    clear c66
    clear h65
    clear q59_10 q59_11 ic57
    refine Tm_lv (a := [(0, .ref 189), (1, .int (i32 s52))]) rfl rfl ⟨rfl, rfl, trivial⟩ ?_
    exact J207_38 s52 (mO m64 [] []) (r32 (by omega) (by omega)) Tm64 (fr_m (fr_s Fm64 (fr_m (fr_s Fm53 (fr_m fr_0 rfl rfl) rfl rfl) rfl rfl) rfl rfl) rfl rfl) (show 1 ≤ s52 by omega) (show s52 ≤ 64 by omega) (show 1 ≤ (m64.1 10) by omega)
  have J159_75 : ∀ (v71 : Int) (v72 : Int) (v73 : Int) (m74 : mR), (R32 v71) → (R64 v72) → (R64 v73) → Ty m74 → fr [7, 8, 9, 10, 11, 12, 28] [65, 66, 67, 68] (mO m [] []) m74 → (0 ≤ v71) → (v71 ≤ 4000) → (0 ≤ v72 - v73 ∧ v72 - v73 ≤ 63) → (0 ≤ (m.1 70) ∧ (m.1 70) ≤ 4000) → (1 ≤ (m74.1 10)) → TT w D pm_255 (159, [(0, .ref 189), (1, .int (i32 v71)), (2, .long (i64 v72)), (4, .long (i64 v73)), (6, .int (i32 (m.1 70)))], [], (mhp (mO m74 [] []) c, N), 0, 0) (Q_after m c N B) := by
    intro v71 v72 v73 m74 q81 q82 q83 Tm74 Fm74 ic76 ic77 ic78 ic79 ic80
    obtain ⟨q81a, q81b⟩ := id q81
    obtain ⟨q82a, q82b⟩ := id q82
    obtain ⟨q83a, q83b⟩ := id q83
    have q84_7 : 0 ≤ m74.1 7 ∧ m74.1 7 ≤ 330 := Tm74.1 7
    have q84_8 : 0 ≤ m74.1 8 ∧ m74.1 8 ≤ 4000 := Tm74.1 8
    have q84_9 : 0 ≤ m74.1 9 ∧ m74.1 9 ≤ 4000 := Tm74.1 9
    have q84_10 : 0 ≤ m74.1 10 ∧ m74.1 10 ≤ 8 := Tm74.1 10
    have q84_11 : (-1) ≤ m74.1 11 ∧ m74.1 11 ≤ 4000 := Tm74.1 11
    have q84_12 : (-9223372036854775808) ≤ m74.1 12 ∧ m74.1 12 ≤ 9223372036854775807 := Tm74.1 12
    have q84_28 : 0 ≤ m74.1 28 ∧ m74.1 28 ≤ 800 := Tm74.1 28
    refine T_ld 160 (.ref 189) rfl (fun _ => rfl) ?_
    refine T_ld 161 (.long (i64 v72)) rfl (fun _ => rfl) ?_
    refine T_ld 163 (.long (i64 v73)) rfl (fun _ => rfl) ?_
    refine T_lsub 164 rfl rfl ?_
    refine T_l2i 165 rfl rfl ?_
    refine T_ld 166 (.int (i32 1)) rfl (fun _ => rfl) ?_
    refine T_iadd 167 rfl rfl ?_
    refine T_ld 169 (.int (i32 (m.1 70))) rfl (fun _ => rfl) ?_
    refine T_call 172 250 [.ref 189, .int (i32 ((v72 - v73) + 1)), .int (i32 (m.1 70))] [] rfl (fun _ => rfl) rfl (c_unit w (mO m74 [] []) c N D (by omega) Tm74 ((v72 - v73) + 1) (m.1 70) (r32 (by omega) (by omega)) (r32 (by omega) (by omega)) (show 0 ≤ ((v72 - v73) + 1) ∧ ((v72 - v73) + 1) ≤ 1024 by omega) (show 0 ≤ (m.1 70) ∧ (m.1 70) ≤ 4000 by omega)) (fun rr87 k88 => ?_)
    obtain ⟨m89, Tm89, Fm89, h90, rfl⟩ := k88
    refine ⟨_, _, rfl, ?_⟩
    refine T_nb (st' := []) rfl ?_
    have g91 : 0 ≤ m89.1 69 ∧ m89.1 69 ≤ 1024 := Tm89.1 69
    have g92 : 0 ≤ m89.1 70 ∧ m89.1 70 ≤ 4000 := Tm89.1 70
    replace h90 : (m89.1 69) = ((v72 - v73) + 1) := h90
    refine T_goto 224 rfl (fun _ => rfl) ?_
    refine T_ret rfl (fun _ => rfl) ?_
    exact ⟨(mO m89 [] []), Tm89, (fr_m (fr_s Fm89 (fr_m (fr_s Fm74 (fr_m fr_0 rfl rfl) rfl rfl) rfl rfl) rfl rfl) rfl rfl), (show (m89.1 10) = 0 → (m.1 10) = 0 by rewrite [(show (m89.1 10) = (m74.1 10) from (fr1 Fm89 10 rfl))]; omega), (show LxP (m89.1 7) (m89.1 8) (m89.1 9) (m.1 6) (m89.1 10) by rewrite [(show (m89.1 7) = (m74.1 7) from (fr1 Fm89 7 rfl)), (show (m89.1 8) = (m74.1 8) from (fr1 Fm89 8 rfl)), (show (m89.1 9) = (m74.1 9) from (fr1 Fm89 9 rfl)), (show (m89.1 10) = (m74.1 10) from (fr1 Fm89 10 rfl))]; first | (first | exact hLx | exact (fun _ => hLx (by omega)) | (intro h9; exfalso; omega)) | (exfalso; omega)), (fun (h : (m89.1 10) = 0) => absurd ((show (m89.1 10) = (m74.1 10) from (fr1 Fm89 10 rfl)).symm.trans h) (by omega)), rfl⟩
  have J127_97 : ∀ (v93 : Int) (v94 : Int) (v95 : Int) (m96 : mR), (R32 v93) → (R64 v94) → (R64 v95) → Ty m96 → fr [7, 8, 9, 10, 11, 12] [] (mO m [] []) m96 → (0 ≤ v93) → (v93 ≤ 4000) → (1 ≤ (m96.1 10)) → TT w D pm_255 (127, [(0, .ref 189), (1, .int (i32 v93)), (2, .long (i64 v94)), (4, .long (i64 v95))], [], (mhp (mO m96 [] []) c, N), 0, 0) (Q_after m c N B) := by
    intro v93 v94 v95 m96 q101 q102 q103 Tm96 Fm96 ic98 ic99 ic100
    obtain ⟨q101a, q101b⟩ := id q101
    obtain ⟨q102a, q102b⟩ := id q102
    obtain ⟨q103a, q103b⟩ := id q103
    have q104_7 : 0 ≤ m96.1 7 ∧ m96.1 7 ≤ 330 := Tm96.1 7
    have q104_8 : 0 ≤ m96.1 8 ∧ m96.1 8 ≤ 4000 := Tm96.1 8
    have q104_9 : 0 ≤ m96.1 9 ∧ m96.1 9 ≤ 4000 := Tm96.1 9
    have q104_10 : 0 ≤ m96.1 10 ∧ m96.1 10 ≤ 8 := Tm96.1 10
    have q104_11 : (-1) ≤ m96.1 11 ∧ m96.1 11 ≤ 4000 := Tm96.1 11
    have q104_12 : (-9223372036854775808) ≤ m96.1 12 ∧ m96.1 12 ≤ 9223372036854775807 := Tm96.1 12
    refine T_gf 131 (.int (i32 (m96.1 10))) rfl rfl rfl rfl rfl rfl ?_
    refine T_if 135 134 rfl rfl rfl (r32 (by omega) (by omega)) (fun (h107 : (m96.1 10) ≤ 0) => by exfalso; omega) (fun (h107 : ¬ ((m96.1 10) ≤ 0)) => ?_)
    refine T_ret rfl (fun _ => rfl) ?_
    exact ⟨(mO m96 [] []), Tm96, (fr_m (fr_s Fm96 (fr_m fr_0 rfl rfl) rfl rfl) rfl rfl), (show (m96.1 10) = 0 → (m.1 10) = 0 by omega), (show LxP (m96.1 7) (m96.1 8) (m96.1 9) (m.1 6) (m96.1 10) by first | (first | exact hLx | exact (fun _ => hLx (by omega)) | (intro h9; exfalso; omega)) | (exfalso; omega)), (fun (h : (m96.1 10) = 0) => absurd h (by omega)), rfl⟩
  have J121_112 : ∀ (v108 : Int) (v109 : Int) (v110 : Int) (m111 : mR), (R32 v108) → (R64 v109) → (R64 v110) → Ty m111 → fr [7, 8, 9, 10, 11, 12] [] (mO m [] []) m111 → (0 ≤ v108) → (v108 ≤ 4000) → (1 ≤ (m111.1 10)) → TT w D pm_255 (121, [(0, .ref 189), (1, .int (i32 v108)), (2, .long (i64 v109)), (4, .long (i64 v110))], [], (mhp (mO m111 [] []) c, N), 0, 0) (Q_after m c N B) := by
    intro v108 v109 v110 m111 q116 q117 q118 Tm111 Fm111 ic113 ic114 ic115
    obtain ⟨q116a, q116b⟩ := id q116
    obtain ⟨q117a, q117b⟩ := id q117
    obtain ⟨q118a, q118b⟩ := id q118
    have q119_7 : 0 ≤ m111.1 7 ∧ m111.1 7 ≤ 330 := Tm111.1 7
    have q119_8 : 0 ≤ m111.1 8 ∧ m111.1 8 ≤ 4000 := Tm111.1 8
    have q119_9 : 0 ≤ m111.1 9 ∧ m111.1 9 ≤ 4000 := Tm111.1 9
    have q119_10 : 0 ≤ m111.1 10 ∧ m111.1 10 ≤ 8 := Tm111.1 10
    have q119_11 : (-1) ≤ m111.1 11 ∧ m111.1 11 ≤ 4000 := Tm111.1 11
    have q119_12 : (-9223372036854775808) ≤ m111.1 12 ∧ m111.1 12 ≤ 9223372036854775807 := Tm111.1 12
    refine T_ld 122 (.ref 189) rfl (fun _ => rfl) ?_
    refine T_ld 124 (.int (i32 93)) rfl (fun _ => rfl) ?_
    refine T_call 127 232 [.ref 189, .int (i32 93)] [] rfl (fun _ => rfl) rfl (d_need w (mO m111 [] []) c N D (by omega) Tm111 93 ⟨by decide, by decide⟩ (show 1 ≤ (93 : Int) by omega) (show LxP (m111.1 7) (m111.1 8) (m111.1 9) (m111.1 6) (m111.1 10) by rewrite [(show (m111.1 6) = (m.1 6) from (fr1 Fm111 6 rfl))]; first | exact hLx | (intro h9; exfalso; omega) | (intro h9; have h8 := hLx (by omega); omega))) (fun rr122 k123 => ?_)
    obtain ⟨m124, Tm124, Fm124, h125, h126, h127, h128, rfl⟩ := k123
    refine ⟨_, _, rfl, ?_⟩
    refine T_nb (st' := []) rfl ?_
    have g129 : 0 ≤ m124.1 7 ∧ m124.1 7 ≤ 330 := Tm124.1 7
    have g130 : 0 ≤ m124.1 8 ∧ m124.1 8 ≤ 4000 := Tm124.1 8
    have g131 : 0 ≤ m124.1 9 ∧ m124.1 9 ≤ 4000 := Tm124.1 9
    have g132 : 0 ≤ m124.1 10 ∧ m124.1 10 ≤ 8 := Tm124.1 10
    have g133 : (-1) ≤ m124.1 11 ∧ m124.1 11 ≤ 4000 := Tm124.1 11
    have g134 : (-9223372036854775808) ≤ m124.1 12 ∧ m124.1 12 ≤ 9223372036854775807 := Tm124.1 12
    replace h125 : LxP (m124.1 7) (m124.1 8) (m124.1 9) (m111.1 6) (m124.1 10) := h125
    rewrite [(show (m111.1 6) = (m.1 6) from (fr1 Fm111 6 rfl))] at h125
    replace h126 : (m124.1 10) = 0 → (m111.1 10) = 0 ∧ (m111.1 7) = (93 : Int) := h126
    replace h127 : (m111.1 8) ≤ (m124.1 8) := h127
    replace h128 : (m124.1 10) = 0 → (m111.1 8) + (m111.1 9) ≤ (m124.1 8) := h128
    have hf135 : 1 ≤ (m124.1 10) := by omega
    clear h126
    clear h128
    have hLx := h125
    clear q119_7 q119_8 q119_9 q119_10 q119_11 q119_12 ic115 h127
    exact J127_97 v108 v109 v110 (mO m124 [] []) (r32 (by omega) (by omega)) (r64 (by omega) (by omega)) (r64 (by omega) (by omega)) Tm124 (fr_m (fr_s Fm124 (fr_m (fr_s Fm111 (fr_m fr_0 rfl rfl) rfl rfl) rfl rfl) rfl rfl) rfl rfl) (show 0 ≤ v108 by omega) (show v108 ≤ 4000 by omega) (show 1 ≤ (m124.1 10) by omega)
  have J74_140 : ∀ (v136 : Int) (v137 : Int) (v138 : Int) (m139 : mR), (R32 v136) → (R64 v137) → (R64 v138) → Ty m139 → fr [7, 8, 9, 10, 11, 12] [] (mO m [] []) m139 → (0 ≤ v136) → (v136 ≤ 4000) → (1 ≤ (m139.1 10)) → TT w D pm_255 (74, [(0, .ref 189), (1, .int (i32 v136)), (2, .long (i64 v137)), (4, .long (i64 v138))], [], (mhp (mO m139 [] []) c, N), 0, 0) (Q_after m c N B) := by
    intro v136 v137 v138 m139 q144 q145 q146 Tm139 Fm139 ic141 ic142 ic143
    obtain ⟨q144a, q144b⟩ := id q144
    obtain ⟨q145a, q145b⟩ := id q145
    obtain ⟨q146a, q146b⟩ := id q146
    have q147_7 : 0 ≤ m139.1 7 ∧ m139.1 7 ≤ 330 := Tm139.1 7
    have q147_8 : 0 ≤ m139.1 8 ∧ m139.1 8 ≤ 4000 := Tm139.1 8
    have q147_9 : 0 ≤ m139.1 9 ∧ m139.1 9 ≤ 4000 := Tm139.1 9
    have q147_10 : 0 ≤ m139.1 10 ∧ m139.1 10 ≤ 8 := Tm139.1 10
    have q147_11 : (-1) ≤ m139.1 11 ∧ m139.1 11 ≤ 4000 := Tm139.1 11
    have q147_12 : (-9223372036854775808) ≤ m139.1 12 ∧ m139.1 12 ≤ 9223372036854775807 := Tm139.1 12
    refine T_gf 78 (.int (i32 (m139.1 10))) rfl rfl rfl rfl rfl rfl ?_
    refine T_if 121 81 rfl rfl rfl (r32 (by omega) (by omega)) (fun (h150 : (m139.1 10) ≠ 0) => ?_) (fun (h150 : ¬ ((m139.1 10) ≠ 0)) => by exfalso; omega)
    refine T_ld 122 (.ref 189) rfl (fun _ => rfl) ?_
    refine T_ld 124 (.int (i32 93)) rfl (fun _ => rfl) ?_
    refine T_call 127 232 [.ref 189, .int (i32 93)] [] rfl (fun _ => rfl) rfl (d_need w (mO m139 [] []) c N D (by omega) Tm139 93 ⟨by decide, by decide⟩ (show 1 ≤ (93 : Int) by omega) (show LxP (m139.1 7) (m139.1 8) (m139.1 9) (m139.1 6) (m139.1 10) by rewrite [(show (m139.1 6) = (m.1 6) from (fr1 Fm139 6 rfl))]; first | exact hLx | (intro h9; exfalso; omega) | (intro h9; have h8 := hLx (by omega); omega))) (fun rr151 k152 => ?_)
    obtain ⟨m153, Tm153, Fm153, h154, h155, h156, h157, rfl⟩ := k152
    refine ⟨_, _, rfl, ?_⟩
    refine T_nb (st' := []) rfl ?_
    have g158 : 0 ≤ m153.1 7 ∧ m153.1 7 ≤ 330 := Tm153.1 7
    have g159 : 0 ≤ m153.1 8 ∧ m153.1 8 ≤ 4000 := Tm153.1 8
    have g160 : 0 ≤ m153.1 9 ∧ m153.1 9 ≤ 4000 := Tm153.1 9
    have g161 : 0 ≤ m153.1 10 ∧ m153.1 10 ≤ 8 := Tm153.1 10
    have g162 : (-1) ≤ m153.1 11 ∧ m153.1 11 ≤ 4000 := Tm153.1 11
    have g163 : (-9223372036854775808) ≤ m153.1 12 ∧ m153.1 12 ≤ 9223372036854775807 := Tm153.1 12
    replace h154 : LxP (m153.1 7) (m153.1 8) (m153.1 9) (m139.1 6) (m153.1 10) := h154
    rewrite [(show (m139.1 6) = (m.1 6) from (fr1 Fm139 6 rfl))] at h154
    replace h155 : (m153.1 10) = 0 → (m139.1 10) = 0 ∧ (m139.1 7) = (93 : Int) := h155
    replace h156 : (m139.1 8) ≤ (m153.1 8) := h156
    replace h157 : (m153.1 10) = 0 → (m139.1 8) + (m139.1 9) ≤ (m153.1 8) := h157
    have hf164 : 1 ≤ (m153.1 10) := by omega
    clear h155
    clear h157
    have hLx := h154
    clear q147_7 q147_8 q147_9 q147_10 q147_11 q147_12 ic143 h150 h156
    exact J127_97 v136 v137 v138 (mO m153 [] []) (r32 (by omega) (by omega)) (r64 (by omega) (by omega)) (r64 (by omega) (by omega)) Tm153 (fr_m (fr_s Fm153 (fr_m (fr_s Fm139 (fr_m fr_0 rfl rfl) rfl rfl) rfl rfl) rfl rfl) rfl rfl) (show 0 ≤ v136 by omega) (show v136 ≤ 4000 by omega) (show 1 ≤ (m153.1 10) by omega)
  have J45_168 : ∀ (v165 : Int) (v166 : Int) (m167 : mR), (R32 v165) → (R64 v166) → Ty m167 → fr [7, 8, 9, 10, 11, 12] [] (mO m [] []) m167 → (0 ≤ v165) → (v165 ≤ 4000) → (1 ≤ (m167.1 10)) → TT w D pm_255 (45, [(0, .ref 189), (1, .int (i32 v165)), (2, .long (i64 v166))], [], (mhp (mO m167 [] []) c, N), 0, 0) (Q_after m c N B) := by
    intro v165 v166 m167 q172 q173 Tm167 Fm167 ic169 ic170 ic171
    obtain ⟨q172a, q172b⟩ := id q172
    obtain ⟨q173a, q173b⟩ := id q173
    have q174_7 : 0 ≤ m167.1 7 ∧ m167.1 7 ≤ 330 := Tm167.1 7
    have q174_8 : 0 ≤ m167.1 8 ∧ m167.1 8 ≤ 4000 := Tm167.1 8
    have q174_9 : 0 ≤ m167.1 9 ∧ m167.1 9 ≤ 4000 := Tm167.1 9
    have q174_10 : 0 ≤ m167.1 10 ∧ m167.1 10 ≤ 8 := Tm167.1 10
    have q174_11 : (-1) ≤ m167.1 11 ∧ m167.1 11 ≤ 4000 := Tm167.1 11
    have q174_12 : (-9223372036854775808) ≤ m167.1 12 ∧ m167.1 12 ≤ 9223372036854775807 := Tm167.1 12
    refine T_gf 49 (.int (i32 (m167.1 10))) rfl rfl rfl rfl rfl rfl ?_
    refine T_if 64 52 rfl rfl rfl (r32 (by omega) (by omega)) (fun (h177 : (m167.1 10) ≠ 0) => ?_) (fun (h177 : ¬ ((m167.1 10) ≠ 0)) => by exfalso; omega)
    refine T_gf 68 (.long (i64 (m167.1 12))) rfl rfl rfl rfl rfl rfl ?_
    refine T_sto 70 [(4, .long (i64 (m167.1 12))), (0, .ref 189), (1, .int (i32 v165)), (2, .long (i64 v166))] rfl (fun _ => rfl) ?_
    refine T_ld 71 (.ref 189) rfl (fun _ => rfl) ?_
    refine T_call 74 212 [.ref 189] [] rfl (fun _ => rfl) rfl (d_next w (mO m167 [] []) c N D (by omega) Tm167 (show (m167.1 10) = 0 → (m167.1 8) + (m167.1 9) ≤ (m167.1 6) by rewrite [(show (m167.1 6) = (m.1 6) from (fr1 Fm167 6 rfl))]; first | omega | (intro h9; have h8 := hLx h9; omega))) (fun rr178 k179 => ?_)
    obtain ⟨m180, Tm180, Fm180, h181, h182, h183, h184, rfl⟩ := k179
    refine ⟨_, _, rfl, ?_⟩
    refine T_nb (st' := []) rfl ?_
    have g185 : 0 ≤ m180.1 7 ∧ m180.1 7 ≤ 330 := Tm180.1 7
    have g186 : 0 ≤ m180.1 8 ∧ m180.1 8 ≤ 4000 := Tm180.1 8
    have g187 : 0 ≤ m180.1 9 ∧ m180.1 9 ≤ 4000 := Tm180.1 9
    have g188 : 0 ≤ m180.1 10 ∧ m180.1 10 ≤ 8 := Tm180.1 10
    have g189 : (-1) ≤ m180.1 11 ∧ m180.1 11 ≤ 4000 := Tm180.1 11
    have g190 : (-9223372036854775808) ≤ m180.1 12 ∧ m180.1 12 ≤ 9223372036854775807 := Tm180.1 12
    replace h181 : LxP (m180.1 7) (m180.1 8) (m180.1 9) (m167.1 6) (m180.1 10) := h181
    rewrite [(show (m167.1 6) = (m.1 6) from (fr1 Fm167 6 rfl))] at h181
    replace h182 : (m180.1 10) = 0 → (m167.1 10) = 0 := h182
    replace h183 : (m167.1 8) ≤ (m180.1 8) := h183
    replace h184 : (m180.1 10) = 0 → (m167.1 8) + (m167.1 9) ≤ (m180.1 8) := h184
    have hf191 : 1 ≤ (m180.1 10) := by omega
    clear h182
    clear h184
    have hLx := h181
    clear q174_7 q174_8 q174_9 q174_10 q174_11 ic171 h177 h183
    refine Tm_lv (a := [(0, .ref 189), (1, .int (i32 v165)), (2, .long (i64 v166)), (4, .long (i64 (m167.1 12)))]) rfl rfl ⟨rfl, rfl, rfl, rfl, trivial⟩ ?_
    exact J74_140 v165 v166 (m167.1 12) (mO m180 [] []) (r32 (by omega) (by omega)) (r64 (by omega) (by omega)) (r64 (by omega) (by omega)) Tm180 (fr_m (fr_s Fm180 (fr_m (fr_s Fm167 (fr_m fr_0 rfl rfl) rfl rfl) rfl rfl) rfl rfl) rfl rfl) (show 0 ≤ v165 by omega) (show v165 ≤ 4000 by omega) (show 1 ≤ (m180.1 10) by omega)
  have J39_195 : ∀ (v192 : Int) (v193 : Int) (m194 : mR), (R32 v192) → (R64 v193) → Ty m194 → fr [7, 8, 9, 10, 11, 12] [] (mO m [] []) m194 → (0 ≤ v192) → (v192 ≤ 4000) → (1 ≤ (m194.1 10)) → TT w D pm_255 (39, [(0, .ref 189), (1, .int (i32 v192)), (2, .long (i64 v193))], [], (mhp (mO m194 [] []) c, N), 0, 0) (Q_after m c N B) := by
    intro v192 v193 m194 q199 q200 Tm194 Fm194 ic196 ic197 ic198
    obtain ⟨q199a, q199b⟩ := id q199
    obtain ⟨q200a, q200b⟩ := id q200
    have q201_7 : 0 ≤ m194.1 7 ∧ m194.1 7 ≤ 330 := Tm194.1 7
    have q201_8 : 0 ≤ m194.1 8 ∧ m194.1 8 ≤ 4000 := Tm194.1 8
    have q201_9 : 0 ≤ m194.1 9 ∧ m194.1 9 ≤ 4000 := Tm194.1 9
    have q201_10 : 0 ≤ m194.1 10 ∧ m194.1 10 ≤ 8 := Tm194.1 10
    have q201_11 : (-1) ≤ m194.1 11 ∧ m194.1 11 ≤ 4000 := Tm194.1 11
    have q201_12 : (-9223372036854775808) ≤ m194.1 12 ∧ m194.1 12 ≤ 9223372036854775807 := Tm194.1 12
    refine T_ld 40 (.ref 189) rfl (fun _ => rfl) ?_
    refine T_ld 42 (.int (i32 58)) rfl (fun _ => rfl) ?_
    refine T_call 45 232 [.ref 189, .int (i32 58)] [] rfl (fun _ => rfl) rfl (d_need w (mO m194 [] []) c N D (by omega) Tm194 58 ⟨by decide, by decide⟩ (show 1 ≤ (58 : Int) by omega) (show LxP (m194.1 7) (m194.1 8) (m194.1 9) (m194.1 6) (m194.1 10) by rewrite [(show (m194.1 6) = (m.1 6) from (fr1 Fm194 6 rfl))]; first | exact hLx | (intro h9; exfalso; omega) | (intro h9; have h8 := hLx (by omega); omega))) (fun rr204 k205 => ?_)
    obtain ⟨m206, Tm206, Fm206, h207, h208, h209, h210, rfl⟩ := k205
    refine ⟨_, _, rfl, ?_⟩
    refine T_nb (st' := []) rfl ?_
    have g211 : 0 ≤ m206.1 7 ∧ m206.1 7 ≤ 330 := Tm206.1 7
    have g212 : 0 ≤ m206.1 8 ∧ m206.1 8 ≤ 4000 := Tm206.1 8
    have g213 : 0 ≤ m206.1 9 ∧ m206.1 9 ≤ 4000 := Tm206.1 9
    have g214 : 0 ≤ m206.1 10 ∧ m206.1 10 ≤ 8 := Tm206.1 10
    have g215 : (-1) ≤ m206.1 11 ∧ m206.1 11 ≤ 4000 := Tm206.1 11
    have g216 : (-9223372036854775808) ≤ m206.1 12 ∧ m206.1 12 ≤ 9223372036854775807 := Tm206.1 12
    replace h207 : LxP (m206.1 7) (m206.1 8) (m206.1 9) (m194.1 6) (m206.1 10) := h207
    rewrite [(show (m194.1 6) = (m.1 6) from (fr1 Fm194 6 rfl))] at h207
    replace h208 : (m206.1 10) = 0 → (m194.1 10) = 0 ∧ (m194.1 7) = (58 : Int) := h208
    replace h209 : (m194.1 8) ≤ (m206.1 8) := h209
    replace h210 : (m206.1 10) = 0 → (m194.1 8) + (m194.1 9) ≤ (m206.1 8) := h210
    have hf217 : 1 ≤ (m206.1 10) := by omega
    clear h208
    clear h210
    have hLx := h207
    clear q201_7 q201_8 q201_9 q201_10 q201_11 q201_12 ic198 h209
    exact J45_168 v192 v193 (mO m206 [] []) (r32 (by omega) (by omega)) (r64 (by omega) (by omega)) Tm206 (fr_m (fr_s Fm206 (fr_m (fr_s Fm194 (fr_m fr_0 rfl rfl) rfl rfl) rfl rfl) rfl rfl) rfl rfl) (show 0 ≤ v192 by omega) (show v192 ≤ 4000 by omega) (show 1 ≤ (m206.1 10) by omega)
  have J30_220 : ∀ (v218 : Int) (m219 : mR), (R32 v218) → Ty m219 → fr [7, 8, 9, 10, 11, 12] [] (mO m [] []) m219 → (0 ≤ v218) → (v218 ≤ 4000) → (1 ≤ (m219.1 10)) → TT w D pm_255 (30, [(0, .ref 189), (1, .int (i32 v218))], [], (mhp (mO m219 [] []) c, N), 0, 0) (Q_after m c N B) := by
    intro v218 m219 q224 Tm219 Fm219 ic221 ic222 ic223
    obtain ⟨q224a, q224b⟩ := id q224
    have q225_7 : 0 ≤ m219.1 7 ∧ m219.1 7 ≤ 330 := Tm219.1 7
    have q225_8 : 0 ≤ m219.1 8 ∧ m219.1 8 ≤ 4000 := Tm219.1 8
    have q225_9 : 0 ≤ m219.1 9 ∧ m219.1 9 ≤ 4000 := Tm219.1 9
    have q225_10 : 0 ≤ m219.1 10 ∧ m219.1 10 ≤ 8 := Tm219.1 10
    have q225_11 : (-1) ≤ m219.1 11 ∧ m219.1 11 ≤ 4000 := Tm219.1 11
    have q225_12 : (-9223372036854775808) ≤ m219.1 12 ∧ m219.1 12 ≤ 9223372036854775807 := Tm219.1 12
    refine T_gf 34 (.long (i64 (m219.1 12))) rfl rfl rfl rfl rfl rfl ?_
    refine T_sto 35 [(2, .long (i64 (m219.1 12))), (0, .ref 189), (1, .int (i32 v218))] rfl (fun _ => rfl) ?_
    refine T_ld 36 (.ref 189) rfl (fun _ => rfl) ?_
    refine T_call 39 212 [.ref 189] [] rfl (fun _ => rfl) rfl (d_next w (mO m219 [] []) c N D (by omega) Tm219 (show (m219.1 10) = 0 → (m219.1 8) + (m219.1 9) ≤ (m219.1 6) by rewrite [(show (m219.1 6) = (m.1 6) from (fr1 Fm219 6 rfl))]; first | omega | (intro h9; have h8 := hLx h9; omega))) (fun rr228 k229 => ?_)
    obtain ⟨m230, Tm230, Fm230, h231, h232, h233, h234, rfl⟩ := k229
    refine ⟨_, _, rfl, ?_⟩
    refine T_nb (st' := []) rfl ?_
    have g235 : 0 ≤ m230.1 7 ∧ m230.1 7 ≤ 330 := Tm230.1 7
    have g236 : 0 ≤ m230.1 8 ∧ m230.1 8 ≤ 4000 := Tm230.1 8
    have g237 : 0 ≤ m230.1 9 ∧ m230.1 9 ≤ 4000 := Tm230.1 9
    have g238 : 0 ≤ m230.1 10 ∧ m230.1 10 ≤ 8 := Tm230.1 10
    have g239 : (-1) ≤ m230.1 11 ∧ m230.1 11 ≤ 4000 := Tm230.1 11
    have g240 : (-9223372036854775808) ≤ m230.1 12 ∧ m230.1 12 ≤ 9223372036854775807 := Tm230.1 12
    replace h231 : LxP (m230.1 7) (m230.1 8) (m230.1 9) (m219.1 6) (m230.1 10) := h231
    rewrite [(show (m219.1 6) = (m.1 6) from (fr1 Fm219 6 rfl))] at h231
    replace h232 : (m230.1 10) = 0 → (m219.1 10) = 0 := h232
    replace h233 : (m219.1 8) ≤ (m230.1 8) := h233
    replace h234 : (m230.1 10) = 0 → (m219.1 8) + (m219.1 9) ≤ (m230.1 8) := h234
    have hf241 : 1 ≤ (m230.1 10) := by omega
    clear h232
    clear h234
    have hLx := h231
    clear q225_7 q225_8 q225_9 q225_10 q225_11 ic223 h233
    refine Tm_lv (a := [(0, .ref 189), (1, .int (i32 v218)), (2, .long (i64 (m219.1 12)))]) rfl rfl ⟨rfl, rfl, rfl, trivial⟩ ?_
    exact J39_195 v218 (m219.1 12) (mO m230 [] []) (r32 (by omega) (by omega)) (r64 (by omega) (by omega)) Tm230 (fr_m (fr_s Fm230 (fr_m (fr_s Fm219 (fr_m fr_0 rfl rfl) rfl rfl) rfl rfl) rfl rfl) rfl rfl) (show 0 ≤ v218 by omega) (show v218 ≤ 4000 by omega) (show 1 ≤ (m230.1 10) by omega)
  refine T_gf 4 (.int (i32 (m.1 7))) rfl rfl rfl rfl rfl rfl ?_
  refine T_ld 6 (.int (i32 91)) rfl (fun _ => rfl) ?_
  refine T_icmp 175 9 rfl rfl rfl (r32 (by omega) (by omega)) ⟨by decide, by decide⟩ (fun (h242 : (m.1 7) ≠ 91) => ?_) (fun (h242 : ¬ ((m.1 7) ≠ 91)) => ?_)
  · skip
    refine T_gf 179 (.int (i32 (m.1 7))) rfl rfl rfl rfl rfl rfl ?_
    refine T_ld 182 (.int (i32 330)) rfl (fun _ => rfl) ?_
    refine T_icmp 219 185 rfl rfl rfl (r32 (by omega) (by omega)) ⟨by decide, by decide⟩ (fun (h243 : (m.1 7) ≠ 330) => ?_) (fun (h243 : ¬ ((m.1 7) ≠ 330)) => ?_)
    · skip
      refine T_ld 220 (.ref 189) rfl (fun _ => rfl) ?_
      refine T_ld 221 (.int (i32 2)) rfl (fun _ => rfl) ?_
      refine T_pf (l' := [(75, 2)]) 224 2 rfl rfl rfl rfl rfl rfl ?_
      refine T_ret rfl (fun _ => rfl) ?_
      exact ⟨(mO m [(75, 2)] []), (Ty_mO hT rfl rfl ⟨⟨(by omega : (0 : Int) ≤ 2), (by omega : (2 : Int) ≤ 3)⟩, trivial⟩ trivial), (fr_m fr_0 rfl rfl), (show (m.1 10) = 0 → (m.1 10) = 0 by omega), (show LxP (m.1 7) (m.1 8) (m.1 9) (m.1 6) (m.1 10) by first | (first | exact hLx | exact (fun _ => hLx (by omega)) | (intro h9; exfalso; omega)) | (exfalso; omega)), (fun _ => ⟨(show ((2 : Int) = 1 ∧ (m.1 8) + 1 ≤ (m.1 8)) ∨ ((2 : Int) = 2 ∧ (m.1 8) = (m.1 8)) by omega), (show (m.1 69) ≤ 64 by omega), (show (m.1 28) ≤ (m.1 28) by omega), (show XS (m.2 65) (m.2 67) (m.2 76) (m.2 78) (m.2 79) (m.2 80) B (m.1 28) (m.1 73) (m.1 74) 1 by first | (exact hXE) | (exfalso; omega)), (show agr (m.2 65) (m.2 65) (m.1 28) by first | (exact hAgC) | (exfalso; omega))⟩), rfl⟩
    · skip
      refine T_ld 186 (.ref 189) rfl (fun _ => rfl) ?_
      refine T_call 189 212 [.ref 189] [] rfl (fun _ => rfl) rfl (d_next w (mO m [] []) c N D (by omega) hT (show (m.1 10) = 0 → (m.1 8) + (m.1 9) ≤ (m.1 6) by first | omega | (intro h9; have h8 := hLx h9; omega))) (fun rr244 k245 => ?_)
      obtain ⟨m246, Tm246, Fm246, h247, h248, h249, h250, rfl⟩ := k245
      refine ⟨_, _, rfl, ?_⟩
      refine T_nb (st' := []) rfl ?_
      have g251 : 0 ≤ m246.1 7 ∧ m246.1 7 ≤ 330 := Tm246.1 7
      have g252 : 0 ≤ m246.1 8 ∧ m246.1 8 ≤ 4000 := Tm246.1 8
      have g253 : 0 ≤ m246.1 9 ∧ m246.1 9 ≤ 4000 := Tm246.1 9
      have g254 : 0 ≤ m246.1 10 ∧ m246.1 10 ≤ 8 := Tm246.1 10
      have g255 : (-1) ≤ m246.1 11 ∧ m246.1 11 ≤ 4000 := Tm246.1 11
      have g256 : (-9223372036854775808) ≤ m246.1 12 ∧ m246.1 12 ≤ 9223372036854775807 := Tm246.1 12
      by_cases hf257 : (m246.1 10) = 0
      · skip
        replace h247 : LxP (m246.1 7) (m246.1 8) (m246.1 9) (m.1 6) (m246.1 10) := h247
        have hLx := h247
        replace h248 : (m.1 10) = 0 := h248 hf257
        replace h249 : (m.1 8) ≤ (m246.1 8) := h249
        replace h250 : (m.1 8) + (m.1 9) ≤ (m246.1 8) := h250 hf257
        have u258 : (m.1 8) + 1 ≤ (m246.1 8) := by omega
        have hAgC : agr (m.2 65) (m.2 65) (m.1 28) := by first | exact agr_r _ _ | exact hAgC | exact agr_t hAgC hAg (by omega)
        refine T_ld 190 (.ref 189) rfl (fun _ => rfl) ?_
        refine T_ld 191 (.int (i32 1)) rfl (fun _ => rfl) ?_
        refine T_ld 193 (.int (i32 64)) rfl (fun _ => rfl) ?_
        refine T_call 196 234 [.ref 189, .int (i32 1), .int (i32 64)] [] rfl (fun _ => rfl) rfl (d_number w (mO m246 [] []) c N D (by omega) Tm246 1 64 ⟨by decide, by decide⟩ ⟨by decide, by decide⟩ (show LxP (m246.1 7) (m246.1 8) (m246.1 9) (m246.1 6) (m246.1 10) by rewrite [(show (m246.1 6) = (m.1 6) from (fr1 Fm246 6 rfl))]; first | exact hLx | (intro h9; exfalso; omega) | (intro h9; have h8 := hLx (by omega); omega)) (show (1 : Int) ≤ (64 : Int) by omega)) (fun rr259 k260 => ?_)
        obtain ⟨m261, nu, Tm261, Fm261, g262, h263, h264, h265, h266, h267, h268, rfl⟩ := k260
        refine ⟨_, _, rfl, ?_⟩
        refine T_nb (st' := [.int (i32 nu)]) rfl ?_
        obtain ⟨g262a, g262b⟩ := g262
        have g269 : 0 ≤ m261.1 7 ∧ m261.1 7 ≤ 330 := Tm261.1 7
        have g270 : 0 ≤ m261.1 8 ∧ m261.1 8 ≤ 4000 := Tm261.1 8
        have g271 : 0 ≤ m261.1 9 ∧ m261.1 9 ≤ 4000 := Tm261.1 9
        have g272 : 0 ≤ m261.1 10 ∧ m261.1 10 ≤ 8 := Tm261.1 10
        have g273 : (-1) ≤ m261.1 11 ∧ m261.1 11 ≤ 4000 := Tm261.1 11
        have g274 : (-9223372036854775808) ≤ m261.1 12 ∧ m261.1 12 ≤ 9223372036854775807 := Tm261.1 12
        by_cases hf275 : (m261.1 10) = 0
        · skip
          replace h263 : LxP (m261.1 7) (m261.1 8) (m261.1 9) (m246.1 6) (m261.1 10) := h263
          rewrite [(show (m246.1 6) = (m.1 6) from (fr1 Fm246 6 rfl))] at h263
          have hLx := h263
          replace h264 : (m246.1 8) ≤ (m261.1 8) := h264
          replace h265 : (m246.1 10) = 0 ∧ (m246.1 8) + (m246.1 9) ≤ (m261.1 8) := h265 hf275
          replace h266 : (m246.1 7) = 2 := h266 hf275
          replace h267 : (1 : Int) ≤ nu ∧ nu ≤ (64 : Int) := h267
          replace h268 : nu = (m246.1 12) := h268 hf275
          have u276 : (m.1 8) + 1 ≤ (m261.1 8) := by omega
          have hAgC : agr (m.2 65) (m.2 65) (m.1 28) := by first | exact agr_r _ _ | exact hAgC | exact agr_t hAgC hAg (by omega)
          clear g251 g252 g253 g254 g255 g256 h247 h249 h250 u258 h264 h265 h266 h268
          refine T_sto 197 [(1, .int (i32 nu)), (0, .ref 189)] rfl (fun _ => rfl) ?_
          have hAr : ar 406 ≤ 1 + lh (m.2 79) (m.2 80) (m.1 73) := by rw [show ar 406 = 1 from rfl]; omega
          have hCk : CNk 406 0 := by refine ⟨?_, ?_, ?_, ?_⟩ <;> omega
          refine T_ld 198 (.ref 189) rfl (fun _ => rfl) ?_
          refine T_ld 201 (.int (i32 406)) rfl (fun _ => rfl) ?_
          refine T_ld 202 (.int (i32 nu)) rfl (fun _ => rfl) ?_
          refine T_ld 203 (.int (i32 0)) rfl (fun _ => rfl) ?_
          refine T_ld 204 (.long (i64 0)) rfl (fun _ => rfl) ?_
          refine T_call 207 248 [.ref 189, .int (i32 406), .int (i32 nu), .int (i32 0), .long (i64 0)] [] rfl (fun _ => rfl) rfl (c_node w (mO m261 [] []) c N D (by omega) Tm261 406 nu 0 0 B (1 + lh (m.2 79) (m.2 80) (m.1 73)) ⟨by decide, by decide⟩ (r32 (by omega) (by omega)) ⟨by decide, by decide⟩ ⟨by decide, by decide⟩ (fun _ => ⟨(show 0 ≤ (406 : Int) ∧ (406 : Int) ≤ 408 by first | omega | decide), (show 0 ≤ nu ∧ nu ≤ 64 by first | omega | decide), (show 0 ≤ (0 : Int) ∧ (0 : Int) ≤ 191 by first | omega | decide), (show CNk (406 : Int) (0 : Int) by first | exact hCk | (refine ⟨?_, ?_, ?_, ?_⟩ <;> omega)), (show ar (406 : Int) ≤ (1 + lh (m.2 79) (m.2 80) (m.1 73)) by first | exact hAr | omega), (show EX (m261.2 65) (m261.2 67) B (m261.1 28) (1 + lh (m.2 79) (m.2 80) (m.1 73)) by rewrite [(show (m261.2 65) = (m.2 65) from ((fr2 Fm261 65 rfl).trans (fr2 Fm246 65 rfl))), (show (m261.2 67) = (m.2 67) from ((fr2 Fm261 67 rfl).trans (fr2 Fm246 67 rfl))), (show (m261.1 28) = (m.1 28) from ((fr1 Fm261 28 rfl).trans (fr1 Fm246 28 rfl)))]; first | exact hEX | assumption)⟩)) (fun rr277 k278 => ?_)
          obtain ⟨m279, Tm279, Fm279, h280, c281, rfl⟩ := k278
          refine ⟨_, _, rfl, ?_⟩
          refine T_nb (st' := []) rfl ?_
          have g282 : 0 ≤ m279.1 10 ∧ m279.1 10 ≤ 8 := Tm279.1 10
          have g283 : (-1) ≤ m279.1 11 ∧ m279.1 11 ≤ 4000 := Tm279.1 11
          have g284 : 0 ≤ m279.1 28 ∧ m279.1 28 ≤ 800 := Tm279.1 28
          by_cases hf285 : (m279.1 10) = 0
          · skip
            replace h280 : (m261.1 10) = 0 := h280 hf285
            obtain ⟨c286, c287, c288⟩ := c281 hf285
            replace c286 : (m279.1 28) = (m261.1 28) + 1 := c286
            rewrite [(show (m261.1 28) = (m.1 28) from ((fr1 Fm261 28 rfl).trans (fr1 Fm246 28 rfl)))] at c286
            replace c287 : EX (m279.2 65) (m279.2 67) B (m279.1 28) ((1 + lh (m.2 79) (m.2 80) (m.1 73)) + 1 - ar (406 : Int)) := c287
            have hEX := c287
            replace c288 : agr (m261.2 65) (m279.2 65) (m261.1 28) := c288
            rewrite [(show (m261.2 65) = (m.2 65) from ((fr2 Fm261 65 rfl).trans (fr2 Fm246 65 rfl))), (show (m261.1 28) = (m.1 28) from ((fr1 Fm261 28 rfl).trans (fr1 Fm246 28 rfl)))] at c288
            have hAg := c288
            clear c281
            have u289 : (m.1 8) + 1 ≤ (m261.1 8) := by omega
            have hAgC : agr (m.2 65) (m279.2 65) (m.1 28) := by first | exact agr_r _ _ | exact hAgC | exact agr_t hAgC hAg (by omega)
            clear g272 g273 h263 h280
            refine T_ld 208 (.ref 189) rfl (fun _ => rfl) ?_
            refine T_ld 209 (.int (i32 nu)) rfl (fun _ => rfl) ?_
            refine T_gf 213 (.int (i32 (m.1 70))) rfl rfl rfl rfl (mfv_c (F := fun x => .int (i32 x)) rfl (show (m279.1 70) = (m.1 70) from ((fr1 Fm279 70 rfl).trans ((fr1 Fm261 70 rfl).trans (fr1 Fm246 70 rfl))))) rfl ?_
            refine T_call 216 250 [.ref 189, .int (i32 nu), .int (i32 (m.1 70))] [] rfl (fun _ => rfl) rfl (c_unit w (mO m279 [] []) c N D (by omega) Tm279 nu (m.1 70) (r32 (by omega) (by omega)) (r32 (by omega) (by omega)) (show 0 ≤ nu ∧ nu ≤ 1024 by omega) (show 0 ≤ (m.1 70) ∧ (m.1 70) ≤ 4000 by omega)) (fun rr290 k291 => ?_)
            obtain ⟨m292, Tm292, Fm292, h293, rfl⟩ := k291
            refine ⟨_, _, rfl, ?_⟩
            refine T_nb (st' := []) rfl ?_
            have g294 : 0 ≤ m292.1 69 ∧ m292.1 69 ≤ 1024 := Tm292.1 69
            have g295 : 0 ≤ m292.1 70 ∧ m292.1 70 ≤ 4000 := Tm292.1 70
            replace h293 : (m292.1 69) = nu := h293
            have u296 : (m.1 8) + 1 ≤ (m261.1 8) := by omega
            have hAgC : agr (m.2 65) (m279.2 65) (m.1 28) := by first | exact agr_r _ _ | exact hAgC | exact agr_t hAgC hAg (by omega)
            have hXE : XS (m279.2 65) (m279.2 67) (m.2 76) (m.2 78) (m.2 79) (m.2 80) B (m279.1 28) (m.1 73) (m.1 74) 1 := XS_of hXS hEX (by rw [show ar 406 = 1 from rfl]; omega)
            refine T_goto 224 rfl (fun _ => rfl) ?_
            refine T_ret rfl (fun _ => rfl) ?_
            exact ⟨(mO m292 [] []), Tm292, (fr_m (fr_s Fm292 (fr_m (fr_s Fm279 (fr_m (fr_s Fm261 (fr_m (fr_s Fm246 (fr_m fr_0 rfl rfl) rfl rfl) rfl rfl) rfl rfl) rfl rfl) rfl rfl) rfl rfl) rfl rfl) rfl rfl), (show (m292.1 10) = 0 → (m.1 10) = 0 by rewrite [(show (m292.1 10) = (m279.1 10) from (fr1 Fm292 10 rfl))]; omega), (show LxP (m292.1 7) (m292.1 8) (m292.1 9) (m.1 6) (m292.1 10) by rewrite [(show (m292.1 7) = (m261.1 7) from ((fr1 Fm292 7 rfl).trans (fr1 Fm279 7 rfl))), (show (m292.1 8) = (m261.1 8) from ((fr1 Fm292 8 rfl).trans (fr1 Fm279 8 rfl))), (show (m292.1 9) = (m261.1 9) from ((fr1 Fm292 9 rfl).trans (fr1 Fm279 9 rfl))), (show (m292.1 10) = (m279.1 10) from (fr1 Fm292 10 rfl))]; first | (first | exact hLx | exact (fun _ => hLx (by omega)) | (intro h9; exfalso; omega)) | (exfalso; omega)), (fun _ => ⟨(show ((m292.1 75) = 1 ∧ (m.1 8) + 1 ≤ (m292.1 8)) ∨ ((m292.1 75) = 2 ∧ (m292.1 8) = (m.1 8)) by rewrite [(show (m292.1 75) = (m.1 75) from ((fr1 Fm292 75 rfl).trans ((fr1 Fm279 75 rfl).trans ((fr1 Fm261 75 rfl).trans (fr1 Fm246 75 rfl))))), (show (m292.1 8) = (m261.1 8) from ((fr1 Fm292 8 rfl).trans (fr1 Fm279 8 rfl)))]; omega), (show (m292.1 69) ≤ 64 by omega), (show (m.1 28) ≤ (m292.1 28) by rewrite [(show (m292.1 28) = (m279.1 28) from (fr1 Fm292 28 rfl))]; omega), (show XS (m292.2 65) (m292.2 67) (m.2 76) (m.2 78) (m.2 79) (m.2 80) B (m292.1 28) (m.1 73) (m.1 74) 1 by rewrite [(show (m292.2 65) = (m279.2 65) from (fr2 Fm292 65 rfl)), (show (m292.2 67) = (m279.2 67) from (fr2 Fm292 67 rfl)), (show (m292.1 28) = (m279.1 28) from (fr1 Fm292 28 rfl))]; first | (exact hXE) | (exfalso; omega)), (show agr (m.2 65) (m292.2 65) (m.1 28) by rewrite [(show (m292.2 65) = (m279.2 65) from (fr2 Fm292 65 rfl))]; first | (exact hAgC) | (exfalso; omega))⟩), rfl⟩
          · skip
            clear c281
            clear h280
            have hf297 : 1 ≤ (m279.1 10) := by omega
            clear g272 g273 h263
            refine Tm_lv (a := [(0, .ref 189), (1, .int (i32 nu))]) rfl rfl ⟨rfl, rfl, trivial⟩ ?_
            exact J207_38 nu (mO m279 [] []) (r32 (by omega) (by omega)) Tm279 (fr_m (fr_s Fm279 (fr_m (fr_s Fm261 (fr_m (fr_s Fm246 (fr_m fr_0 rfl rfl) rfl rfl) rfl rfl) rfl rfl) rfl rfl) rfl rfl) rfl rfl) (show 1 ≤ nu by omega) (show nu ≤ 64 by omega) (show 1 ≤ (m279.1 10) by omega)
        · skip
          replace h263 : LxP (m261.1 7) (m261.1 8) (m261.1 9) (m246.1 6) (m261.1 10) := h263
          rewrite [(show (m246.1 6) = (m.1 6) from (fr1 Fm246 6 rfl))] at h263
          have hLx := h263
          replace h264 : (m246.1 8) ≤ (m261.1 8) := h264
          clear h265
          clear h266
          replace h267 : (1 : Int) ≤ nu ∧ nu ≤ (64 : Int) := h267
          clear h268
          have hf298 : 1 ≤ (m261.1 10) := by omega
          clear g251 g252 g253 g254 g255 g256 h247 h249 h250 u258 h264
          exact J196_54 nu (mO m261 [] []) (r32 (by omega) (by omega)) Tm261 (fr_m (fr_s Fm261 (fr_m (fr_s Fm246 (fr_m fr_0 rfl rfl) rfl rfl) rfl rfl) rfl rfl) rfl rfl) (show 1 ≤ nu by omega) (show nu ≤ 64 by omega) (show 1 ≤ (m261.1 10) by omega)
      · skip
        replace h247 : LxP (m246.1 7) (m246.1 8) (m246.1 9) (m.1 6) (m246.1 10) := h247
        have hLx := h247
        clear h248
        replace h249 : (m.1 8) ≤ (m246.1 8) := h249
        clear h250
        have hf299 : 1 ≤ (m246.1 10) := by omega
        refine T_ld 190 (.ref 189) rfl (fun _ => rfl) ?_
        refine T_ld 191 (.int (i32 1)) rfl (fun _ => rfl) ?_
        refine T_ld 193 (.int (i32 64)) rfl (fun _ => rfl) ?_
        refine T_call 196 234 [.ref 189, .int (i32 1), .int (i32 64)] [] rfl (fun _ => rfl) rfl (d_number w (mO m246 [] []) c N D (by omega) Tm246 1 64 ⟨by decide, by decide⟩ ⟨by decide, by decide⟩ (show LxP (m246.1 7) (m246.1 8) (m246.1 9) (m246.1 6) (m246.1 10) by rewrite [(show (m246.1 6) = (m.1 6) from (fr1 Fm246 6 rfl))]; first | exact hLx | (intro h9; exfalso; omega) | (intro h9; have h8 := hLx (by omega); omega)) (show (1 : Int) ≤ (64 : Int) by omega)) (fun rr300 k301 => ?_)
        obtain ⟨m302, nu, Tm302, Fm302, g303, h304, h305, h306, h307, h308, h309, rfl⟩ := k301
        refine ⟨_, _, rfl, ?_⟩
        refine T_nb (st' := [.int (i32 nu)]) rfl ?_
        obtain ⟨g303a, g303b⟩ := g303
        have g310 : 0 ≤ m302.1 7 ∧ m302.1 7 ≤ 330 := Tm302.1 7
        have g311 : 0 ≤ m302.1 8 ∧ m302.1 8 ≤ 4000 := Tm302.1 8
        have g312 : 0 ≤ m302.1 9 ∧ m302.1 9 ≤ 4000 := Tm302.1 9
        have g313 : 0 ≤ m302.1 10 ∧ m302.1 10 ≤ 8 := Tm302.1 10
        have g314 : (-1) ≤ m302.1 11 ∧ m302.1 11 ≤ 4000 := Tm302.1 11
        have g315 : (-9223372036854775808) ≤ m302.1 12 ∧ m302.1 12 ≤ 9223372036854775807 := Tm302.1 12
        replace h304 : LxP (m302.1 7) (m302.1 8) (m302.1 9) (m246.1 6) (m302.1 10) := h304
        rewrite [(show (m246.1 6) = (m.1 6) from (fr1 Fm246 6 rfl))] at h304
        replace h305 : (m246.1 8) ≤ (m302.1 8) := h305
        replace h306 : (m302.1 10) = 0 → (m246.1 10) = 0 ∧ (m246.1 8) + (m246.1 9) ≤ (m302.1 8) := h306
        replace h307 : (m302.1 10) = 0 → (m246.1 7) = 2 := h307
        replace h308 : (1 : Int) ≤ nu ∧ nu ≤ (64 : Int) := h308
        replace h309 : (m302.1 10) = 0 → nu = (m246.1 12) := h309
        have hf316 : 1 ≤ (m302.1 10) := by omega
        clear h306
        clear h307
        clear h309
        have hLx := h304
        clear g251 g252 g253 g254 g255 g256 h247 h249 hf299 h305
        exact J196_54 nu (mO m302 [] []) (r32 (by omega) (by omega)) Tm302 (fr_m (fr_s Fm302 (fr_m (fr_s Fm246 (fr_m fr_0 rfl rfl) rfl rfl) rfl rfl) rfl rfl) rfl rfl) (show 1 ≤ nu by omega) (show nu ≤ 64 by omega) (show 1 ≤ (m302.1 10) by omega)
  · skip
    refine T_ld 10 (.ref 189) rfl (fun _ => rfl) ?_
    refine T_call 13 212 [.ref 189] [] rfl (fun _ => rfl) rfl (d_next w (mO m [] []) c N D (by omega) hT (show (m.1 10) = 0 → (m.1 8) + (m.1 9) ≤ (m.1 6) by first | omega | (intro h9; have h8 := hLx h9; omega))) (fun rr317 k318 => ?_)
    obtain ⟨m319, Tm319, Fm319, h320, h321, h322, h323, rfl⟩ := k318
    refine ⟨_, _, rfl, ?_⟩
    refine T_nb (st' := []) rfl ?_
    have g324 : 0 ≤ m319.1 7 ∧ m319.1 7 ≤ 330 := Tm319.1 7
    have g325 : 0 ≤ m319.1 8 ∧ m319.1 8 ≤ 4000 := Tm319.1 8
    have g326 : 0 ≤ m319.1 9 ∧ m319.1 9 ≤ 4000 := Tm319.1 9
    have g327 : 0 ≤ m319.1 10 ∧ m319.1 10 ≤ 8 := Tm319.1 10
    have g328 : (-1) ≤ m319.1 11 ∧ m319.1 11 ≤ 4000 := Tm319.1 11
    have g329 : (-9223372036854775808) ≤ m319.1 12 ∧ m319.1 12 ≤ 9223372036854775807 := Tm319.1 12
    by_cases hf330 : (m319.1 10) = 0
    · skip
      replace h320 : LxP (m319.1 7) (m319.1 8) (m319.1 9) (m.1 6) (m319.1 10) := h320
      have hLx := h320
      replace h321 : (m.1 10) = 0 := h321 hf330
      replace h322 : (m.1 8) ≤ (m319.1 8) := h322
      replace h323 : (m.1 8) + (m.1 9) ≤ (m319.1 8) := h323 hf330
      have u331 : (m.1 8) + 1 ≤ (m319.1 8) := by omega
      have hAgC : agr (m.2 65) (m.2 65) (m.1 28) := by first | exact agr_r _ _ | exact hAgC | exact agr_t hAgC hAg (by omega)
      refine T_gf 17 (.int (i32 (m319.1 8))) rfl rfl rfl rfl rfl rfl ?_
      refine T_sto 18 [(1, .int (i32 (m319.1 8))), (0, .ref 189)] rfl (fun _ => rfl) ?_
      refine T_gf 22 (.int (i32 (m319.1 7))) rfl rfl rfl rfl rfl rfl ?_
      refine T_ld 23 (.int (i32 2)) rfl (fun _ => rfl) ?_
      refine T_icmp 30 26 rfl rfl rfl (r32 (by omega) (by omega)) ⟨by decide, by decide⟩ (fun (h332 : (m319.1 7) = 2) => ?_) (fun (h332 : ¬ ((m319.1 7) = 2)) => ?_)
      · skip
        refine T_gf 34 (.long (i64 (m319.1 12))) rfl rfl rfl rfl rfl rfl ?_
        refine T_sto 35 [(2, .long (i64 (m319.1 12))), (1, .int (i32 (m319.1 8))), (0, .ref 189)] rfl (fun _ => rfl) ?_
        refine T_ld 36 (.ref 189) rfl (fun _ => rfl) ?_
        refine T_call 39 212 [.ref 189] [] rfl (fun _ => rfl) rfl (d_next w (mO m319 [] []) c N D (by omega) Tm319 (show (m319.1 10) = 0 → (m319.1 8) + (m319.1 9) ≤ (m319.1 6) by rewrite [(show (m319.1 6) = (m.1 6) from (fr1 Fm319 6 rfl))]; first | omega | (intro h9; have h8 := hLx h9; omega))) (fun rr333 k334 => ?_)
        obtain ⟨m335, Tm335, Fm335, h336, h337, h338, h339, rfl⟩ := k334
        refine ⟨_, _, rfl, ?_⟩
        refine T_nb (st' := []) rfl ?_
        have g340 : 0 ≤ m335.1 7 ∧ m335.1 7 ≤ 330 := Tm335.1 7
        have g341 : 0 ≤ m335.1 8 ∧ m335.1 8 ≤ 4000 := Tm335.1 8
        have g342 : 0 ≤ m335.1 9 ∧ m335.1 9 ≤ 4000 := Tm335.1 9
        have g343 : 0 ≤ m335.1 10 ∧ m335.1 10 ≤ 8 := Tm335.1 10
        have g344 : (-1) ≤ m335.1 11 ∧ m335.1 11 ≤ 4000 := Tm335.1 11
        have g345 : (-9223372036854775808) ≤ m335.1 12 ∧ m335.1 12 ≤ 9223372036854775807 := Tm335.1 12
        by_cases hf346 : (m335.1 10) = 0
        · skip
          replace h336 : LxP (m335.1 7) (m335.1 8) (m335.1 9) (m319.1 6) (m335.1 10) := h336
          rewrite [(show (m319.1 6) = (m.1 6) from (fr1 Fm319 6 rfl))] at h336
          have hLx := h336
          replace h337 : (m319.1 10) = 0 := h337 hf346
          replace h338 : (m319.1 8) ≤ (m335.1 8) := h338
          replace h339 : (m319.1 8) + (m319.1 9) ≤ (m335.1 8) := h339 hf346
          have u347 : (m.1 8) + 1 ≤ (m335.1 8) := by omega
          have hAgC : agr (m.2 65) (m.2 65) (m.1 28) := by first | exact agr_r _ _ | exact hAgC | exact agr_t hAgC hAg (by omega)
          clear g324 g326 g327 g328 h320 h332 h337 h339
          refine T_ld 40 (.ref 189) rfl (fun _ => rfl) ?_
          refine T_ld 42 (.int (i32 58)) rfl (fun _ => rfl) ?_
          refine T_call 45 232 [.ref 189, .int (i32 58)] [] rfl (fun _ => rfl) rfl (d_need w (mO m335 [] []) c N D (by omega) Tm335 58 ⟨by decide, by decide⟩ (show 1 ≤ (58 : Int) by omega) (show LxP (m335.1 7) (m335.1 8) (m335.1 9) (m335.1 6) (m335.1 10) by rewrite [(show (m335.1 6) = (m.1 6) from ((fr1 Fm335 6 rfl).trans (fr1 Fm319 6 rfl)))]; first | exact hLx | (intro h9; exfalso; omega) | (intro h9; have h8 := hLx (by omega); omega))) (fun rr348 k349 => ?_)
          obtain ⟨m350, Tm350, Fm350, h351, h352, h353, h354, rfl⟩ := k349
          refine ⟨_, _, rfl, ?_⟩
          refine T_nb (st' := []) rfl ?_
          have g355 : 0 ≤ m350.1 7 ∧ m350.1 7 ≤ 330 := Tm350.1 7
          have g356 : 0 ≤ m350.1 8 ∧ m350.1 8 ≤ 4000 := Tm350.1 8
          have g357 : 0 ≤ m350.1 9 ∧ m350.1 9 ≤ 4000 := Tm350.1 9
          have g358 : 0 ≤ m350.1 10 ∧ m350.1 10 ≤ 8 := Tm350.1 10
          have g359 : (-1) ≤ m350.1 11 ∧ m350.1 11 ≤ 4000 := Tm350.1 11
          have g360 : (-9223372036854775808) ≤ m350.1 12 ∧ m350.1 12 ≤ 9223372036854775807 := Tm350.1 12
          by_cases hf361 : (m350.1 10) = 0
          · skip
            replace h351 : LxP (m350.1 7) (m350.1 8) (m350.1 9) (m335.1 6) (m350.1 10) := h351
            rewrite [(show (m335.1 6) = (m.1 6) from ((fr1 Fm335 6 rfl).trans (fr1 Fm319 6 rfl)))] at h351
            have hLx := h351
            replace h352 : (m335.1 10) = 0 ∧ (m335.1 7) = (58 : Int) := h352 hf361
            replace h353 : (m335.1 8) ≤ (m350.1 8) := h353
            replace h354 : (m335.1 8) + (m335.1 9) ≤ (m350.1 8) := h354 hf361
            have u362 : (m.1 8) + 1 ≤ (m350.1 8) := by omega
            have hAgC : agr (m.2 65) (m.2 65) (m.1 28) := by first | exact agr_r _ _ | exact hAgC | exact agr_t hAgC hAg (by omega)
            clear g340 g341 g342 g343 g344 g345 h336 h338 u347 h352 h353 h354
            refine T_gf 49 (.int (i32 (m350.1 10))) rfl rfl rfl rfl rfl rfl ?_
            refine T_if 64 52 rfl rfl rfl (r32 (by omega) (by omega)) (fun (h363 : (m350.1 10) ≠ 0) => by exfalso; omega) (fun (h363 : ¬ ((m350.1 10) ≠ 0)) => ?_)
            refine T_gf 56 (.int (i32 (m350.1 7))) rfl rfl rfl rfl rfl rfl ?_
            refine T_ld 57 (.int (i32 2)) rfl (fun _ => rfl) ?_
            refine T_icmp 64 60 rfl rfl rfl (r32 (by omega) (by omega)) ⟨by decide, by decide⟩ (fun (h364 : (m350.1 7) = 2) => ?_) (fun (h364 : ¬ ((m350.1 7) = 2)) => ?_)
            · skip
              refine T_gf 68 (.long (i64 (m350.1 12))) rfl rfl rfl rfl rfl rfl ?_
              refine T_sto 70 [(4, .long (i64 (m350.1 12))), (2, .long (i64 (m319.1 12))), (1, .int (i32 (m319.1 8))), (0, .ref 189)] rfl (fun _ => rfl) ?_
              refine T_ld 71 (.ref 189) rfl (fun _ => rfl) ?_
              refine T_call 74 212 [.ref 189] [] rfl (fun _ => rfl) rfl (d_next w (mO m350 [] []) c N D (by omega) Tm350 (show (m350.1 10) = 0 → (m350.1 8) + (m350.1 9) ≤ (m350.1 6) by rewrite [(show (m350.1 6) = (m.1 6) from ((fr1 Fm350 6 rfl).trans ((fr1 Fm335 6 rfl).trans (fr1 Fm319 6 rfl))))]; first | omega | (intro h9; have h8 := hLx h9; omega))) (fun rr365 k366 => ?_)
              obtain ⟨m367, Tm367, Fm367, h368, h369, h370, h371, rfl⟩ := k366
              refine ⟨_, _, rfl, ?_⟩
              refine T_nb (st' := []) rfl ?_
              have g372 : 0 ≤ m367.1 7 ∧ m367.1 7 ≤ 330 := Tm367.1 7
              have g373 : 0 ≤ m367.1 8 ∧ m367.1 8 ≤ 4000 := Tm367.1 8
              have g374 : 0 ≤ m367.1 9 ∧ m367.1 9 ≤ 4000 := Tm367.1 9
              have g375 : 0 ≤ m367.1 10 ∧ m367.1 10 ≤ 8 := Tm367.1 10
              have g376 : (-1) ≤ m367.1 11 ∧ m367.1 11 ≤ 4000 := Tm367.1 11
              have g377 : (-9223372036854775808) ≤ m367.1 12 ∧ m367.1 12 ≤ 9223372036854775807 := Tm367.1 12
              by_cases hf378 : (m367.1 10) = 0
              · skip
                replace h368 : LxP (m367.1 7) (m367.1 8) (m367.1 9) (m350.1 6) (m367.1 10) := h368
                rewrite [(show (m350.1 6) = (m.1 6) from ((fr1 Fm350 6 rfl).trans ((fr1 Fm335 6 rfl).trans (fr1 Fm319 6 rfl))))] at h368
                have hLx := h368
                replace h369 : (m350.1 10) = 0 := h369 hf378
                replace h370 : (m350.1 8) ≤ (m367.1 8) := h370
                replace h371 : (m350.1 8) + (m350.1 9) ≤ (m367.1 8) := h371 hf378
                have u379 : (m.1 8) + 1 ≤ (m367.1 8) := by omega
                have hAgC : agr (m.2 65) (m.2 65) (m.1 28) := by first | exact agr_r _ _ | exact hAgC | exact agr_t hAgC hAg (by omega)
                clear g355 g356 g357 g358 g359 h351 u362 h363 h364 h369 h370 h371
                refine T_gf 78 (.int (i32 (m367.1 10))) rfl rfl rfl rfl rfl rfl ?_
                refine T_if 121 81 rfl rfl rfl (r32 (by omega) (by omega)) (fun (h380 : (m367.1 10) ≠ 0) => by exfalso; omega) (fun (h380 : ¬ ((m367.1 10) ≠ 0)) => ?_)
                refine T_ld 82 (.ref 189) rfl (fun _ => rfl) ?_
                refine T_ld 83 (.long (i64 (m319.1 12))) rfl (fun _ => rfl) ?_
                refine T_ld 84 (.long (i64 0)) rfl (fun _ => rfl) ?_
                refine T_lcmp 85 rfl rfl (r64 (by omega) (by omega)) ⟨by decide, by decide⟩ (fun z381 h382 => ?_)
                obtain ⟨h382a, h382b, h382c, h382d, h382e⟩ := h382
                refine T_if 116 88 rfl rfl rfl (r32 (by omega) (by omega)) (fun (h383 : z381 < 0) => ?_) (fun (h383 : ¬ (z381 < 0)) => ?_)
                · skip
                  have hl384 : (m319.1 12) < 0 := by omega
                  refine T_ld 117 (.int (i32 0)) rfl (fun _ => rfl) ?_
                  refine T_ld 118 (.int (i32 (m319.1 8))) rfl (fun _ => rfl) ?_
                  refine T_call 121 256 [.ref 189, .int (i32 0), .int (i32 (m319.1 8))] [] rfl (fun _ => rfl) rfl (c_want w (mO m367 [] []) c N D (by omega) Tm367 0 (m319.1 8) ⟨by decide, by decide⟩ (r32 (by omega) (by omega)) (show 0 ≤ (m319.1 8) ∧ (m319.1 8) ≤ 4000 by omega) (fun _ => trivial)) (fun rr385 k386 => ?_)
                  obtain ⟨m387, Tm387, Fm387, h388, c389, rfl⟩ := k386
                  refine ⟨_, _, rfl, ?_⟩
                  refine T_nb (st' := []) rfl ?_
                  have g390 : 0 ≤ m387.1 10 ∧ m387.1 10 ≤ 8 := Tm387.1 10
                  have g391 : (-1) ≤ m387.1 11 ∧ m387.1 11 ≤ 4000 := Tm387.1 11
                  by_cases hf392 : (m387.1 10) = 0
                  · skip
                    replace h388 : (m367.1 10) = 0 := h388 hf392
                    have c393 := c389 hf392
                    replace c393 : (0 : Int) ≠ 0 := c393
                    clear c389
                    have u394 : (m.1 8) + 1 ≤ (m367.1 8) := by omega
                    have hAgC : agr (m.2 65) (m.2 65) (m.1 28) := by first | exact agr_r _ _ | exact hAgC | exact agr_t hAgC hAg (by omega)
                    clear g375 g376 h368 h380 h382a h382b h382c h382d h382e h383 h388
                    refine T_ld 122 (.ref 189) rfl (fun _ => rfl) ?_
                    refine T_ld 124 (.int (i32 93)) rfl (fun _ => rfl) ?_
                    refine T_call 127 232 [.ref 189, .int (i32 93)] [] rfl (fun _ => rfl) rfl (d_need w (mO m387 [] []) c N D (by omega) Tm387 93 ⟨by decide, by decide⟩ (show 1 ≤ (93 : Int) by omega) (show LxP (m387.1 7) (m387.1 8) (m387.1 9) (m387.1 6) (m387.1 10) by rewrite [(show (m387.1 7) = (m367.1 7) from (fr1 Fm387 7 rfl)), (show (m387.1 8) = (m367.1 8) from (fr1 Fm387 8 rfl)), (show (m387.1 9) = (m367.1 9) from (fr1 Fm387 9 rfl)), (show (m387.1 6) = (m.1 6) from ((fr1 Fm387 6 rfl).trans ((fr1 Fm367 6 rfl).trans ((fr1 Fm350 6 rfl).trans ((fr1 Fm335 6 rfl).trans (fr1 Fm319 6 rfl))))))]; first | exact hLx | (intro h9; exfalso; omega) | (intro h9; have h8 := hLx (by omega); omega))) (fun rr395 k396 => ?_)
                    obtain ⟨m397, Tm397, Fm397, h398, h399, h400, h401, rfl⟩ := k396
                    refine ⟨_, _, rfl, ?_⟩
                    refine T_nb (st' := []) rfl ?_
                    have g402 : 0 ≤ m397.1 7 ∧ m397.1 7 ≤ 330 := Tm397.1 7
                    have g403 : 0 ≤ m397.1 8 ∧ m397.1 8 ≤ 4000 := Tm397.1 8
                    have g404 : 0 ≤ m397.1 9 ∧ m397.1 9 ≤ 4000 := Tm397.1 9
                    have g405 : 0 ≤ m397.1 10 ∧ m397.1 10 ≤ 8 := Tm397.1 10
                    have g406 : (-1) ≤ m397.1 11 ∧ m397.1 11 ≤ 4000 := Tm397.1 11
                    have g407 : (-9223372036854775808) ≤ m397.1 12 ∧ m397.1 12 ≤ 9223372036854775807 := Tm397.1 12
                    by_cases hf408 : (m397.1 10) = 0
                    · skip
                      replace h398 : LxP (m397.1 7) (m397.1 8) (m397.1 9) (m387.1 6) (m397.1 10) := h398
                      rewrite [(show (m387.1 6) = (m.1 6) from ((fr1 Fm387 6 rfl).trans ((fr1 Fm367 6 rfl).trans ((fr1 Fm350 6 rfl).trans ((fr1 Fm335 6 rfl).trans (fr1 Fm319 6 rfl))))))] at h398
                      have hLx := h398
                      replace h399 : (m387.1 10) = 0 ∧ (m387.1 7) = (93 : Int) := h399 hf408
                      rewrite [(show (m387.1 7) = (m367.1 7) from (fr1 Fm387 7 rfl))] at h399
                      replace h400 : (m387.1 8) ≤ (m397.1 8) := h400
                      rewrite [(show (m387.1 8) = (m367.1 8) from (fr1 Fm387 8 rfl))] at h400
                      replace h401 : (m387.1 8) + (m387.1 9) ≤ (m397.1 8) := h401 hf408
                      rewrite [(show (m387.1 8) = (m367.1 8) from (fr1 Fm387 8 rfl)), (show (m387.1 9) = (m367.1 9) from (fr1 Fm387 9 rfl))] at h401
                      have u409 : (m.1 8) + 1 ≤ (m397.1 8) := by omega
                      have hAgC : agr (m.2 65) (m.2 65) (m.1 28) := by first | exact agr_r _ _ | exact hAgC | exact agr_t hAgC hAg (by omega)
                      clear g372 g373 g374 g377 u379 g390 g391 u394 h399 h400 h401
                      refine T_gf 131 (.int (i32 (m397.1 10))) rfl rfl rfl rfl rfl rfl ?_
                      refine T_if 135 134 rfl rfl rfl (r32 (by omega) (by omega)) (fun (h410 : (m397.1 10) ≤ 0) => ?_) (fun (h410 : ¬ ((m397.1 10) ≤ 0)) => by exfalso; omega)
                      refine T_gf 139 (.int (i32 (m.1 70))) rfl rfl rfl rfl (mfv_c (F := fun x => .int (i32 x)) rfl (show (m397.1 70) = (m.1 70) from ((fr1 Fm397 70 rfl).trans ((fr1 Fm387 70 rfl).trans ((fr1 Fm367 70 rfl).trans ((fr1 Fm350 70 rfl).trans ((fr1 Fm335 70 rfl).trans (fr1 Fm319 70 rfl)))))))) rfl ?_
                      refine T_sto 141 [(6, .int (i32 (m.1 70))), (4, .long (i64 (m350.1 12))), (2, .long (i64 (m319.1 12))), (1, .int (i32 (m319.1 8))), (0, .ref 189)] rfl (fun _ => rfl) ?_
                      have hAr : ar 405 ≤ 1 + lh (m.2 79) (m.2 80) (m.1 73) := by rw [show ar 405 = 1 from rfl]; omega
                      have hCk : CNk 405 (m350.1 12) := by refine ⟨?_, ?_, ?_, ?_⟩ <;> omega
                      refine T_ld 142 (.ref 189) rfl (fun _ => rfl) ?_
                      refine T_ld 145 (.int (i32 405)) rfl (fun _ => rfl) ?_
                      refine T_ld 146 (.long (i64 (m319.1 12))) rfl (fun _ => rfl) ?_
                      refine T_ld 148 (.long (i64 (m350.1 12))) rfl (fun _ => rfl) ?_
                      refine T_lsub 149 rfl rfl ?_
                      refine T_l2i 150 rfl rfl ?_
                      refine T_ld 151 (.int (i32 1)) rfl (fun _ => rfl) ?_
                      refine T_iadd 152 rfl rfl ?_
                      refine T_ld 154 (.long (i64 (m350.1 12))) rfl (fun _ => rfl) ?_
                      refine T_l2i 155 rfl rfl ?_
                      refine T_ld 156 (.long (i64 0)) rfl (fun _ => rfl) ?_
                      refine T_call 159 248 [.ref 189, .int (i32 405), .int (i32 (((m319.1 12) - (m350.1 12)) + 1)), .int (i32 (m350.1 12)), .long (i64 0)] [] rfl (fun _ => rfl) rfl (c_node w (mO m397 [] []) c N D (by omega) Tm397 405 (((m319.1 12) - (m350.1 12)) + 1) (m350.1 12) 0 B (1 + lh (m.2 79) (m.2 80) (m.1 73)) ⟨by decide, by decide⟩ (r32 (by omega) (by omega)) (r32 (by omega) (by omega)) ⟨by decide, by decide⟩ (fun _ => ⟨(show 0 ≤ (405 : Int) ∧ (405 : Int) ≤ 408 by first | omega | decide), (show 0 ≤ (((m319.1 12) - (m350.1 12)) + 1) ∧ (((m319.1 12) - (m350.1 12)) + 1) ≤ 64 by first | omega | decide), (show 0 ≤ (m350.1 12) ∧ (m350.1 12) ≤ 191 by first | omega | decide), (show CNk (405 : Int) (m350.1 12) by first | exact hCk | (refine ⟨?_, ?_, ?_, ?_⟩ <;> omega)), (show ar (405 : Int) ≤ (1 + lh (m.2 79) (m.2 80) (m.1 73)) by first | exact hAr | omega), (show EX (m397.2 65) (m397.2 67) B (m397.1 28) (1 + lh (m.2 79) (m.2 80) (m.1 73)) by rewrite [(show (m397.2 65) = (m.2 65) from ((fr2 Fm397 65 rfl).trans ((fr2 Fm387 65 rfl).trans ((fr2 Fm367 65 rfl).trans ((fr2 Fm350 65 rfl).trans ((fr2 Fm335 65 rfl).trans (fr2 Fm319 65 rfl))))))), (show (m397.2 67) = (m.2 67) from ((fr2 Fm397 67 rfl).trans ((fr2 Fm387 67 rfl).trans ((fr2 Fm367 67 rfl).trans ((fr2 Fm350 67 rfl).trans ((fr2 Fm335 67 rfl).trans (fr2 Fm319 67 rfl))))))), (show (m397.1 28) = (m.1 28) from ((fr1 Fm397 28 rfl).trans ((fr1 Fm387 28 rfl).trans ((fr1 Fm367 28 rfl).trans ((fr1 Fm350 28 rfl).trans ((fr1 Fm335 28 rfl).trans (fr1 Fm319 28 rfl)))))))]; first | exact hEX | assumption)⟩)) (fun rr411 k412 => ?_)
                      obtain ⟨m413, Tm413, Fm413, h414, c415, rfl⟩ := k412
                      refine ⟨_, _, rfl, ?_⟩
                      refine T_nb (st' := []) rfl ?_
                      have g416 : 0 ≤ m413.1 10 ∧ m413.1 10 ≤ 8 := Tm413.1 10
                      have g417 : (-1) ≤ m413.1 11 ∧ m413.1 11 ≤ 4000 := Tm413.1 11
                      have g418 : 0 ≤ m413.1 28 ∧ m413.1 28 ≤ 800 := Tm413.1 28
                      by_cases hf419 : (m413.1 10) = 0
                      · skip
                        replace h414 : (m397.1 10) = 0 := h414 hf419
                        obtain ⟨c420, c421, c422⟩ := c415 hf419
                        replace c420 : (m413.1 28) = (m397.1 28) + 1 := c420
                        rewrite [(show (m397.1 28) = (m.1 28) from ((fr1 Fm397 28 rfl).trans ((fr1 Fm387 28 rfl).trans ((fr1 Fm367 28 rfl).trans ((fr1 Fm350 28 rfl).trans ((fr1 Fm335 28 rfl).trans (fr1 Fm319 28 rfl)))))))] at c420
                        replace c421 : EX (m413.2 65) (m413.2 67) B (m413.1 28) ((1 + lh (m.2 79) (m.2 80) (m.1 73)) + 1 - ar (405 : Int)) := c421
                        have hEX := c421
                        replace c422 : agr (m397.2 65) (m413.2 65) (m397.1 28) := c422
                        rewrite [(show (m397.2 65) = (m.2 65) from ((fr2 Fm397 65 rfl).trans ((fr2 Fm387 65 rfl).trans ((fr2 Fm367 65 rfl).trans ((fr2 Fm350 65 rfl).trans ((fr2 Fm335 65 rfl).trans (fr2 Fm319 65 rfl))))))), (show (m397.1 28) = (m.1 28) from ((fr1 Fm397 28 rfl).trans ((fr1 Fm387 28 rfl).trans ((fr1 Fm367 28 rfl).trans ((fr1 Fm350 28 rfl).trans ((fr1 Fm335 28 rfl).trans (fr1 Fm319 28 rfl)))))))] at c422
                        have hAg := c422
                        clear c415
                        have u423 : (m.1 8) + 1 ≤ (m397.1 8) := by omega
                        have hAgC : agr (m.2 65) (m413.2 65) (m.1 28) := by first | exact agr_r _ _ | exact hAgC | exact agr_t hAgC hAg (by omega)
                        clear g405 g406 h398 h410 h414
                        refine T_ld 160 (.ref 189) rfl (fun _ => rfl) ?_
                        refine T_ld 161 (.long (i64 (m319.1 12))) rfl (fun _ => rfl) ?_
                        refine T_ld 163 (.long (i64 (m350.1 12))) rfl (fun _ => rfl) ?_
                        refine T_lsub 164 rfl rfl ?_
                        refine T_l2i 165 rfl rfl ?_
                        refine T_ld 166 (.int (i32 1)) rfl (fun _ => rfl) ?_
                        refine T_iadd 167 rfl rfl ?_
                        refine T_ld 169 (.int (i32 (m.1 70))) rfl (fun _ => rfl) ?_
                        refine T_call 172 250 [.ref 189, .int (i32 (((m319.1 12) - (m350.1 12)) + 1)), .int (i32 (m.1 70))] [] rfl (fun _ => rfl) rfl (c_unit w (mO m413 [] []) c N D (by omega) Tm413 (((m319.1 12) - (m350.1 12)) + 1) (m.1 70) (r32 (by omega) (by omega)) (r32 (by omega) (by omega)) (show 0 ≤ (((m319.1 12) - (m350.1 12)) + 1) ∧ (((m319.1 12) - (m350.1 12)) + 1) ≤ 1024 by omega) (show 0 ≤ (m.1 70) ∧ (m.1 70) ≤ 4000 by omega)) (fun rr424 k425 => ?_)
                        obtain ⟨m426, Tm426, Fm426, h427, rfl⟩ := k425
                        refine ⟨_, _, rfl, ?_⟩
                        refine T_nb (st' := []) rfl ?_
                        have g428 : 0 ≤ m426.1 69 ∧ m426.1 69 ≤ 1024 := Tm426.1 69
                        have g429 : 0 ≤ m426.1 70 ∧ m426.1 70 ≤ 4000 := Tm426.1 70
                        replace h427 : (m426.1 69) = (((m319.1 12) - (m350.1 12)) + 1) := h427
                        have u430 : (m.1 8) + 1 ≤ (m397.1 8) := by omega
                        have hAgC : agr (m.2 65) (m413.2 65) (m.1 28) := by first | exact agr_r _ _ | exact hAgC | exact agr_t hAgC hAg (by omega)
                        have hXE : XS (m413.2 65) (m413.2 67) (m.2 76) (m.2 78) (m.2 79) (m.2 80) B (m413.1 28) (m.1 73) (m.1 74) 1 := XS_of hXS hEX (by rw [show ar 405 = 1 from rfl]; omega)
                        refine T_goto 224 rfl (fun _ => rfl) ?_
                        refine T_ret rfl (fun _ => rfl) ?_
                        exact ⟨(mO m426 [] []), Tm426, (fr_m (fr_s Fm426 (fr_m (fr_s Fm413 (fr_m (fr_s Fm397 (fr_m (fr_s Fm387 (fr_m (fr_s Fm367 (fr_m (fr_s Fm350 (fr_m (fr_s Fm335 (fr_m (fr_s Fm319 (fr_m fr_0 rfl rfl) rfl rfl) rfl rfl) rfl rfl) rfl rfl) rfl rfl) rfl rfl) rfl rfl) rfl rfl) rfl rfl) rfl rfl) rfl rfl) rfl rfl) rfl rfl) rfl rfl) rfl rfl) rfl rfl), (show (m426.1 10) = 0 → (m.1 10) = 0 by rewrite [(show (m426.1 10) = (m413.1 10) from (fr1 Fm426 10 rfl))]; omega), (show LxP (m426.1 7) (m426.1 8) (m426.1 9) (m.1 6) (m426.1 10) by rewrite [(show (m426.1 7) = (m397.1 7) from ((fr1 Fm426 7 rfl).trans (fr1 Fm413 7 rfl))), (show (m426.1 8) = (m397.1 8) from ((fr1 Fm426 8 rfl).trans (fr1 Fm413 8 rfl))), (show (m426.1 9) = (m397.1 9) from ((fr1 Fm426 9 rfl).trans (fr1 Fm413 9 rfl))), (show (m426.1 10) = (m413.1 10) from (fr1 Fm426 10 rfl))]; first | (first | exact hLx | exact (fun _ => hLx (by omega)) | (intro h9; exfalso; omega)) | (exfalso; omega)), (fun _ => ⟨(show ((m426.1 75) = 1 ∧ (m.1 8) + 1 ≤ (m426.1 8)) ∨ ((m426.1 75) = 2 ∧ (m426.1 8) = (m.1 8)) by rewrite [(show (m426.1 75) = (m.1 75) from ((fr1 Fm426 75 rfl).trans ((fr1 Fm413 75 rfl).trans ((fr1 Fm397 75 rfl).trans ((fr1 Fm387 75 rfl).trans ((fr1 Fm367 75 rfl).trans ((fr1 Fm350 75 rfl).trans ((fr1 Fm335 75 rfl).trans (fr1 Fm319 75 rfl))))))))), (show (m426.1 8) = (m397.1 8) from ((fr1 Fm426 8 rfl).trans (fr1 Fm413 8 rfl)))]; omega), (show (m426.1 69) ≤ 64 by omega), (show (m.1 28) ≤ (m426.1 28) by rewrite [(show (m426.1 28) = (m413.1 28) from (fr1 Fm426 28 rfl))]; omega), (show XS (m426.2 65) (m426.2 67) (m.2 76) (m.2 78) (m.2 79) (m.2 80) B (m426.1 28) (m.1 73) (m.1 74) 1 by rewrite [(show (m426.2 65) = (m413.2 65) from (fr2 Fm426 65 rfl)), (show (m426.2 67) = (m413.2 67) from (fr2 Fm426 67 rfl)), (show (m426.1 28) = (m413.1 28) from (fr1 Fm426 28 rfl))]; first | (exact hXE) | (exfalso; omega)), (show agr (m.2 65) (m426.2 65) (m.1 28) by rewrite [(show (m426.2 65) = (m413.2 65) from (fr2 Fm426 65 rfl))]; first | (exact hAgC) | (exfalso; omega))⟩), rfl⟩
                      · skip
                        clear c415
                        clear h414
                        have hf431 : 1 ≤ (m413.1 10) := by omega
                        clear g405 g406 h398 h410
                        refine Tm_lv (a := [(0, .ref 189), (1, .int (i32 (m319.1 8))), (2, .long (i64 (m319.1 12))), (4, .long (i64 (m350.1 12))), (6, .int (i32 (m.1 70)))]) rfl rfl ⟨rfl, rfl, rfl, rfl, rfl, trivial⟩ ?_
                        exact J159_75 (m319.1 8) (m319.1 12) (m350.1 12) (mO m413 [] []) (r32 (by omega) (by omega)) (r64 (by omega) (by omega)) (r64 (by omega) (by omega)) Tm413 (fr_m (fr_s Fm413 (fr_m (fr_s Fm397 (fr_m (fr_s Fm387 (fr_m (fr_s Fm367 (fr_m (fr_s Fm350 (fr_m (fr_s Fm335 (fr_m (fr_s Fm319 (fr_m fr_0 rfl rfl) rfl rfl) rfl rfl) rfl rfl) rfl rfl) rfl rfl) rfl rfl) rfl rfl) rfl rfl) rfl rfl) rfl rfl) rfl rfl) rfl rfl) rfl rfl) rfl rfl) (show 0 ≤ (m319.1 8) by omega) (show (m319.1 8) ≤ 4000 by omega) (show 0 ≤ (m319.1 12) - (m350.1 12) ∧ (m319.1 12) - (m350.1 12) ≤ 63 by omega) (show 0 ≤ (m.1 70) ∧ (m.1 70) ≤ 4000 by omega) (show 1 ≤ (m413.1 10) by omega)
                    · skip
                      replace h398 : LxP (m397.1 7) (m397.1 8) (m397.1 9) (m387.1 6) (m397.1 10) := h398
                      rewrite [(show (m387.1 6) = (m.1 6) from ((fr1 Fm387 6 rfl).trans ((fr1 Fm367 6 rfl).trans ((fr1 Fm350 6 rfl).trans ((fr1 Fm335 6 rfl).trans (fr1 Fm319 6 rfl))))))] at h398
                      have hLx := h398
                      clear h399
                      replace h400 : (m387.1 8) ≤ (m397.1 8) := h400
                      rewrite [(show (m387.1 8) = (m367.1 8) from (fr1 Fm387 8 rfl))] at h400
                      clear h401
                      have hf432 : 1 ≤ (m397.1 10) := by omega
                      clear g372 g373 g374 g377 u379 g390 g391 u394 h400
                      refine Tm_lv (a := [(0, .ref 189), (1, .int (i32 (m319.1 8))), (2, .long (i64 (m319.1 12))), (4, .long (i64 (m350.1 12)))]) rfl rfl ⟨rfl, rfl, rfl, rfl, trivial⟩ ?_
                      exact J127_97 (m319.1 8) (m319.1 12) (m350.1 12) (mO m397 [] []) (r32 (by omega) (by omega)) (r64 (by omega) (by omega)) (r64 (by omega) (by omega)) Tm397 (fr_m (fr_s Fm397 (fr_m (fr_s Fm387 (fr_m (fr_s Fm367 (fr_m (fr_s Fm350 (fr_m (fr_s Fm335 (fr_m (fr_s Fm319 (fr_m fr_0 rfl rfl) rfl rfl) rfl rfl) rfl rfl) rfl rfl) rfl rfl) rfl rfl) rfl rfl) rfl rfl) rfl rfl) rfl rfl) rfl rfl) rfl rfl) (show 0 ≤ (m319.1 8) by omega) (show (m319.1 8) ≤ 4000 by omega) (show 1 ≤ (m397.1 10) by omega)
                  · skip
                    clear c389
                    clear h388
                    have hf433 : 1 ≤ (m387.1 10) := by omega
                    clear g375 g376 h368 h380 h382a h382b h382c h382d h382e h383
                    refine Tm_lv (a := [(0, .ref 189), (1, .int (i32 (m319.1 8))), (2, .long (i64 (m319.1 12))), (4, .long (i64 (m350.1 12)))]) rfl rfl ⟨rfl, rfl, rfl, rfl, trivial⟩ ?_
                    exact J121_112 (m319.1 8) (m319.1 12) (m350.1 12) (mO m387 [] []) (r32 (by omega) (by omega)) (r64 (by omega) (by omega)) (r64 (by omega) (by omega)) Tm387 (fr_m (fr_s Fm387 (fr_m (fr_s Fm367 (fr_m (fr_s Fm350 (fr_m (fr_s Fm335 (fr_m (fr_s Fm319 (fr_m fr_0 rfl rfl) rfl rfl) rfl rfl) rfl rfl) rfl rfl) rfl rfl) rfl rfl) rfl rfl) rfl rfl) rfl rfl) rfl rfl) (show 0 ≤ (m319.1 8) by omega) (show (m319.1 8) ≤ 4000 by omega) (show 1 ≤ (m387.1 10) by omega)
                · skip
                  have hl434 : (m319.1 12) ≥ 0 := by omega
                  refine T_ld 90 (.long (i64 (m350.1 12))) rfl (fun _ => rfl) ?_
                  refine T_ld 91 (.long (i64 0)) rfl (fun _ => rfl) ?_
                  refine T_lcmp 92 rfl rfl (r64 (by omega) (by omega)) ⟨by decide, by decide⟩ (fun z435 h436 => ?_)
                  obtain ⟨h436a, h436b, h436c, h436d, h436e⟩ := h436
                  refine T_if 116 95 rfl rfl rfl (r32 (by omega) (by omega)) (fun (h437 : z435 < 0) => ?_) (fun (h437 : ¬ (z435 < 0)) => ?_)
                  · skip
                    have hl438 : (m350.1 12) < 0 := by omega
                    refine T_ld 117 (.int (i32 0)) rfl (fun _ => rfl) ?_
                    refine T_ld 118 (.int (i32 (m319.1 8))) rfl (fun _ => rfl) ?_
                    refine T_call 121 256 [.ref 189, .int (i32 0), .int (i32 (m319.1 8))] [] rfl (fun _ => rfl) rfl (c_want w (mO m367 [] []) c N D (by omega) Tm367 0 (m319.1 8) ⟨by decide, by decide⟩ (r32 (by omega) (by omega)) (show 0 ≤ (m319.1 8) ∧ (m319.1 8) ≤ 4000 by omega) (fun _ => trivial)) (fun rr439 k440 => ?_)
                    obtain ⟨m441, Tm441, Fm441, h442, c443, rfl⟩ := k440
                    refine ⟨_, _, rfl, ?_⟩
                    refine T_nb (st' := []) rfl ?_
                    have g444 : 0 ≤ m441.1 10 ∧ m441.1 10 ≤ 8 := Tm441.1 10
                    have g445 : (-1) ≤ m441.1 11 ∧ m441.1 11 ≤ 4000 := Tm441.1 11
                    by_cases hf446 : (m441.1 10) = 0
                    · skip
                      replace h442 : (m367.1 10) = 0 := h442 hf446
                      have c447 := c443 hf446
                      replace c447 : (0 : Int) ≠ 0 := c447
                      clear c443
                      have u448 : (m.1 8) + 1 ≤ (m367.1 8) := by omega
                      have hAgC : agr (m.2 65) (m.2 65) (m.1 28) := by first | exact agr_r _ _ | exact hAgC | exact agr_t hAgC hAg (by omega)
                      clear g375 g376 h368 h380 h382a h382b h382c h382d h382e h383 h436a h436b h436c h436d h436e h437 h442
                      refine T_ld 122 (.ref 189) rfl (fun _ => rfl) ?_
                      refine T_ld 124 (.int (i32 93)) rfl (fun _ => rfl) ?_
                      refine T_call 127 232 [.ref 189, .int (i32 93)] [] rfl (fun _ => rfl) rfl (d_need w (mO m441 [] []) c N D (by omega) Tm441 93 ⟨by decide, by decide⟩ (show 1 ≤ (93 : Int) by omega) (show LxP (m441.1 7) (m441.1 8) (m441.1 9) (m441.1 6) (m441.1 10) by rewrite [(show (m441.1 7) = (m367.1 7) from (fr1 Fm441 7 rfl)), (show (m441.1 8) = (m367.1 8) from (fr1 Fm441 8 rfl)), (show (m441.1 9) = (m367.1 9) from (fr1 Fm441 9 rfl)), (show (m441.1 6) = (m.1 6) from ((fr1 Fm441 6 rfl).trans ((fr1 Fm367 6 rfl).trans ((fr1 Fm350 6 rfl).trans ((fr1 Fm335 6 rfl).trans (fr1 Fm319 6 rfl))))))]; first | exact hLx | (intro h9; exfalso; omega) | (intro h9; have h8 := hLx (by omega); omega))) (fun rr449 k450 => ?_)
                      obtain ⟨m451, Tm451, Fm451, h452, h453, h454, h455, rfl⟩ := k450
                      refine ⟨_, _, rfl, ?_⟩
                      refine T_nb (st' := []) rfl ?_
                      have g456 : 0 ≤ m451.1 7 ∧ m451.1 7 ≤ 330 := Tm451.1 7
                      have g457 : 0 ≤ m451.1 8 ∧ m451.1 8 ≤ 4000 := Tm451.1 8
                      have g458 : 0 ≤ m451.1 9 ∧ m451.1 9 ≤ 4000 := Tm451.1 9
                      have g459 : 0 ≤ m451.1 10 ∧ m451.1 10 ≤ 8 := Tm451.1 10
                      have g460 : (-1) ≤ m451.1 11 ∧ m451.1 11 ≤ 4000 := Tm451.1 11
                      have g461 : (-9223372036854775808) ≤ m451.1 12 ∧ m451.1 12 ≤ 9223372036854775807 := Tm451.1 12
                      by_cases hf462 : (m451.1 10) = 0
                      · skip
                        replace h452 : LxP (m451.1 7) (m451.1 8) (m451.1 9) (m441.1 6) (m451.1 10) := h452
                        rewrite [(show (m441.1 6) = (m.1 6) from ((fr1 Fm441 6 rfl).trans ((fr1 Fm367 6 rfl).trans ((fr1 Fm350 6 rfl).trans ((fr1 Fm335 6 rfl).trans (fr1 Fm319 6 rfl))))))] at h452
                        have hLx := h452
                        replace h453 : (m441.1 10) = 0 ∧ (m441.1 7) = (93 : Int) := h453 hf462
                        rewrite [(show (m441.1 7) = (m367.1 7) from (fr1 Fm441 7 rfl))] at h453
                        replace h454 : (m441.1 8) ≤ (m451.1 8) := h454
                        rewrite [(show (m441.1 8) = (m367.1 8) from (fr1 Fm441 8 rfl))] at h454
                        replace h455 : (m441.1 8) + (m441.1 9) ≤ (m451.1 8) := h455 hf462
                        rewrite [(show (m441.1 8) = (m367.1 8) from (fr1 Fm441 8 rfl)), (show (m441.1 9) = (m367.1 9) from (fr1 Fm441 9 rfl))] at h455
                        have u463 : (m.1 8) + 1 ≤ (m451.1 8) := by omega
                        have hAgC : agr (m.2 65) (m.2 65) (m.1 28) := by first | exact agr_r _ _ | exact hAgC | exact agr_t hAgC hAg (by omega)
                        clear g372 g373 g374 g377 u379 g444 g445 u448 h453 h454 h455
                        refine T_gf 131 (.int (i32 (m451.1 10))) rfl rfl rfl rfl rfl rfl ?_
                        refine T_if 135 134 rfl rfl rfl (r32 (by omega) (by omega)) (fun (h464 : (m451.1 10) ≤ 0) => ?_) (fun (h464 : ¬ ((m451.1 10) ≤ 0)) => by exfalso; omega)
                        refine T_gf 139 (.int (i32 (m.1 70))) rfl rfl rfl rfl (mfv_c (F := fun x => .int (i32 x)) rfl (show (m451.1 70) = (m.1 70) from ((fr1 Fm451 70 rfl).trans ((fr1 Fm441 70 rfl).trans ((fr1 Fm367 70 rfl).trans ((fr1 Fm350 70 rfl).trans ((fr1 Fm335 70 rfl).trans (fr1 Fm319 70 rfl)))))))) rfl ?_
                        refine T_sto 141 [(6, .int (i32 (m.1 70))), (4, .long (i64 (m350.1 12))), (2, .long (i64 (m319.1 12))), (1, .int (i32 (m319.1 8))), (0, .ref 189)] rfl (fun _ => rfl) ?_
                        have hAr : ar 405 ≤ 1 + lh (m.2 79) (m.2 80) (m.1 73) := by rw [show ar 405 = 1 from rfl]; omega
                        have hCk : CNk 405 (m350.1 12) := by refine ⟨?_, ?_, ?_, ?_⟩ <;> omega
                        refine T_ld 142 (.ref 189) rfl (fun _ => rfl) ?_
                        refine T_ld 145 (.int (i32 405)) rfl (fun _ => rfl) ?_
                        refine T_ld 146 (.long (i64 (m319.1 12))) rfl (fun _ => rfl) ?_
                        refine T_ld 148 (.long (i64 (m350.1 12))) rfl (fun _ => rfl) ?_
                        refine T_lsub 149 rfl rfl ?_
                        refine T_l2i 150 rfl rfl ?_
                        refine T_ld 151 (.int (i32 1)) rfl (fun _ => rfl) ?_
                        refine T_iadd 152 rfl rfl ?_
                        refine T_ld 154 (.long (i64 (m350.1 12))) rfl (fun _ => rfl) ?_
                        refine T_l2i 155 rfl rfl ?_
                        refine T_ld 156 (.long (i64 0)) rfl (fun _ => rfl) ?_
                        refine T_call 159 248 [.ref 189, .int (i32 405), .int (i32 (((m319.1 12) - (m350.1 12)) + 1)), .int (i32 (m350.1 12)), .long (i64 0)] [] rfl (fun _ => rfl) rfl (c_node w (mO m451 [] []) c N D (by omega) Tm451 405 (((m319.1 12) - (m350.1 12)) + 1) (m350.1 12) 0 B (1 + lh (m.2 79) (m.2 80) (m.1 73)) ⟨by decide, by decide⟩ (r32 (by omega) (by omega)) (r32 (by omega) (by omega)) ⟨by decide, by decide⟩ (fun _ => ⟨(show 0 ≤ (405 : Int) ∧ (405 : Int) ≤ 408 by first | omega | decide), (show 0 ≤ (((m319.1 12) - (m350.1 12)) + 1) ∧ (((m319.1 12) - (m350.1 12)) + 1) ≤ 64 by first | omega | decide), (show 0 ≤ (m350.1 12) ∧ (m350.1 12) ≤ 191 by first | omega | decide), (show CNk (405 : Int) (m350.1 12) by first | exact hCk | (refine ⟨?_, ?_, ?_, ?_⟩ <;> omega)), (show ar (405 : Int) ≤ (1 + lh (m.2 79) (m.2 80) (m.1 73)) by first | exact hAr | omega), (show EX (m451.2 65) (m451.2 67) B (m451.1 28) (1 + lh (m.2 79) (m.2 80) (m.1 73)) by rewrite [(show (m451.2 65) = (m.2 65) from ((fr2 Fm451 65 rfl).trans ((fr2 Fm441 65 rfl).trans ((fr2 Fm367 65 rfl).trans ((fr2 Fm350 65 rfl).trans ((fr2 Fm335 65 rfl).trans (fr2 Fm319 65 rfl))))))), (show (m451.2 67) = (m.2 67) from ((fr2 Fm451 67 rfl).trans ((fr2 Fm441 67 rfl).trans ((fr2 Fm367 67 rfl).trans ((fr2 Fm350 67 rfl).trans ((fr2 Fm335 67 rfl).trans (fr2 Fm319 67 rfl))))))), (show (m451.1 28) = (m.1 28) from ((fr1 Fm451 28 rfl).trans ((fr1 Fm441 28 rfl).trans ((fr1 Fm367 28 rfl).trans ((fr1 Fm350 28 rfl).trans ((fr1 Fm335 28 rfl).trans (fr1 Fm319 28 rfl)))))))]; first | exact hEX | assumption)⟩)) (fun rr465 k466 => ?_)
                        obtain ⟨m467, Tm467, Fm467, h468, c469, rfl⟩ := k466
                        refine ⟨_, _, rfl, ?_⟩
                        refine T_nb (st' := []) rfl ?_
                        have g470 : 0 ≤ m467.1 10 ∧ m467.1 10 ≤ 8 := Tm467.1 10
                        have g471 : (-1) ≤ m467.1 11 ∧ m467.1 11 ≤ 4000 := Tm467.1 11
                        have g472 : 0 ≤ m467.1 28 ∧ m467.1 28 ≤ 800 := Tm467.1 28
                        by_cases hf473 : (m467.1 10) = 0
                        · skip
                          replace h468 : (m451.1 10) = 0 := h468 hf473
                          obtain ⟨c474, c475, c476⟩ := c469 hf473
                          replace c474 : (m467.1 28) = (m451.1 28) + 1 := c474
                          rewrite [(show (m451.1 28) = (m.1 28) from ((fr1 Fm451 28 rfl).trans ((fr1 Fm441 28 rfl).trans ((fr1 Fm367 28 rfl).trans ((fr1 Fm350 28 rfl).trans ((fr1 Fm335 28 rfl).trans (fr1 Fm319 28 rfl)))))))] at c474
                          replace c475 : EX (m467.2 65) (m467.2 67) B (m467.1 28) ((1 + lh (m.2 79) (m.2 80) (m.1 73)) + 1 - ar (405 : Int)) := c475
                          have hEX := c475
                          replace c476 : agr (m451.2 65) (m467.2 65) (m451.1 28) := c476
                          rewrite [(show (m451.2 65) = (m.2 65) from ((fr2 Fm451 65 rfl).trans ((fr2 Fm441 65 rfl).trans ((fr2 Fm367 65 rfl).trans ((fr2 Fm350 65 rfl).trans ((fr2 Fm335 65 rfl).trans (fr2 Fm319 65 rfl))))))), (show (m451.1 28) = (m.1 28) from ((fr1 Fm451 28 rfl).trans ((fr1 Fm441 28 rfl).trans ((fr1 Fm367 28 rfl).trans ((fr1 Fm350 28 rfl).trans ((fr1 Fm335 28 rfl).trans (fr1 Fm319 28 rfl)))))))] at c476
                          have hAg := c476
                          clear c469
                          have u477 : (m.1 8) + 1 ≤ (m451.1 8) := by omega
                          have hAgC : agr (m.2 65) (m467.2 65) (m.1 28) := by first | exact agr_r _ _ | exact hAgC | exact agr_t hAgC hAg (by omega)
                          clear g459 g460 h452 h464 h468
                          refine T_ld 160 (.ref 189) rfl (fun _ => rfl) ?_
                          refine T_ld 161 (.long (i64 (m319.1 12))) rfl (fun _ => rfl) ?_
                          refine T_ld 163 (.long (i64 (m350.1 12))) rfl (fun _ => rfl) ?_
                          refine T_lsub 164 rfl rfl ?_
                          refine T_l2i 165 rfl rfl ?_
                          refine T_ld 166 (.int (i32 1)) rfl (fun _ => rfl) ?_
                          refine T_iadd 167 rfl rfl ?_
                          refine T_ld 169 (.int (i32 (m.1 70))) rfl (fun _ => rfl) ?_
                          refine T_call 172 250 [.ref 189, .int (i32 (((m319.1 12) - (m350.1 12)) + 1)), .int (i32 (m.1 70))] [] rfl (fun _ => rfl) rfl (c_unit w (mO m467 [] []) c N D (by omega) Tm467 (((m319.1 12) - (m350.1 12)) + 1) (m.1 70) (r32 (by omega) (by omega)) (r32 (by omega) (by omega)) (show 0 ≤ (((m319.1 12) - (m350.1 12)) + 1) ∧ (((m319.1 12) - (m350.1 12)) + 1) ≤ 1024 by omega) (show 0 ≤ (m.1 70) ∧ (m.1 70) ≤ 4000 by omega)) (fun rr478 k479 => ?_)
                          obtain ⟨m480, Tm480, Fm480, h481, rfl⟩ := k479
                          refine ⟨_, _, rfl, ?_⟩
                          refine T_nb (st' := []) rfl ?_
                          have g482 : 0 ≤ m480.1 69 ∧ m480.1 69 ≤ 1024 := Tm480.1 69
                          have g483 : 0 ≤ m480.1 70 ∧ m480.1 70 ≤ 4000 := Tm480.1 70
                          replace h481 : (m480.1 69) = (((m319.1 12) - (m350.1 12)) + 1) := h481
                          have u484 : (m.1 8) + 1 ≤ (m451.1 8) := by omega
                          have hAgC : agr (m.2 65) (m467.2 65) (m.1 28) := by first | exact agr_r _ _ | exact hAgC | exact agr_t hAgC hAg (by omega)
                          have hXE : XS (m467.2 65) (m467.2 67) (m.2 76) (m.2 78) (m.2 79) (m.2 80) B (m467.1 28) (m.1 73) (m.1 74) 1 := XS_of hXS hEX (by rw [show ar 405 = 1 from rfl]; omega)
                          refine T_goto 224 rfl (fun _ => rfl) ?_
                          refine T_ret rfl (fun _ => rfl) ?_
                          exact ⟨(mO m480 [] []), Tm480, (fr_m (fr_s Fm480 (fr_m (fr_s Fm467 (fr_m (fr_s Fm451 (fr_m (fr_s Fm441 (fr_m (fr_s Fm367 (fr_m (fr_s Fm350 (fr_m (fr_s Fm335 (fr_m (fr_s Fm319 (fr_m fr_0 rfl rfl) rfl rfl) rfl rfl) rfl rfl) rfl rfl) rfl rfl) rfl rfl) rfl rfl) rfl rfl) rfl rfl) rfl rfl) rfl rfl) rfl rfl) rfl rfl) rfl rfl) rfl rfl) rfl rfl), (show (m480.1 10) = 0 → (m.1 10) = 0 by rewrite [(show (m480.1 10) = (m467.1 10) from (fr1 Fm480 10 rfl))]; omega), (show LxP (m480.1 7) (m480.1 8) (m480.1 9) (m.1 6) (m480.1 10) by rewrite [(show (m480.1 7) = (m451.1 7) from ((fr1 Fm480 7 rfl).trans (fr1 Fm467 7 rfl))), (show (m480.1 8) = (m451.1 8) from ((fr1 Fm480 8 rfl).trans (fr1 Fm467 8 rfl))), (show (m480.1 9) = (m451.1 9) from ((fr1 Fm480 9 rfl).trans (fr1 Fm467 9 rfl))), (show (m480.1 10) = (m467.1 10) from (fr1 Fm480 10 rfl))]; first | (first | exact hLx | exact (fun _ => hLx (by omega)) | (intro h9; exfalso; omega)) | (exfalso; omega)), (fun _ => ⟨(show ((m480.1 75) = 1 ∧ (m.1 8) + 1 ≤ (m480.1 8)) ∨ ((m480.1 75) = 2 ∧ (m480.1 8) = (m.1 8)) by rewrite [(show (m480.1 75) = (m.1 75) from ((fr1 Fm480 75 rfl).trans ((fr1 Fm467 75 rfl).trans ((fr1 Fm451 75 rfl).trans ((fr1 Fm441 75 rfl).trans ((fr1 Fm367 75 rfl).trans ((fr1 Fm350 75 rfl).trans ((fr1 Fm335 75 rfl).trans (fr1 Fm319 75 rfl))))))))), (show (m480.1 8) = (m451.1 8) from ((fr1 Fm480 8 rfl).trans (fr1 Fm467 8 rfl)))]; omega), (show (m480.1 69) ≤ 64 by omega), (show (m.1 28) ≤ (m480.1 28) by rewrite [(show (m480.1 28) = (m467.1 28) from (fr1 Fm480 28 rfl))]; omega), (show XS (m480.2 65) (m480.2 67) (m.2 76) (m.2 78) (m.2 79) (m.2 80) B (m480.1 28) (m.1 73) (m.1 74) 1 by rewrite [(show (m480.2 65) = (m467.2 65) from (fr2 Fm480 65 rfl)), (show (m480.2 67) = (m467.2 67) from (fr2 Fm480 67 rfl)), (show (m480.1 28) = (m467.1 28) from (fr1 Fm480 28 rfl))]; first | (exact hXE) | (exfalso; omega)), (show agr (m.2 65) (m480.2 65) (m.1 28) by rewrite [(show (m480.2 65) = (m467.2 65) from (fr2 Fm480 65 rfl))]; first | (exact hAgC) | (exfalso; omega))⟩), rfl⟩
                        · skip
                          clear c469
                          clear h468
                          have hf485 : 1 ≤ (m467.1 10) := by omega
                          clear g459 g460 h452 h464
                          refine Tm_lv (a := [(0, .ref 189), (1, .int (i32 (m319.1 8))), (2, .long (i64 (m319.1 12))), (4, .long (i64 (m350.1 12))), (6, .int (i32 (m.1 70)))]) rfl rfl ⟨rfl, rfl, rfl, rfl, rfl, trivial⟩ ?_
                          exact J159_75 (m319.1 8) (m319.1 12) (m350.1 12) (mO m467 [] []) (r32 (by omega) (by omega)) (r64 (by omega) (by omega)) (r64 (by omega) (by omega)) Tm467 (fr_m (fr_s Fm467 (fr_m (fr_s Fm451 (fr_m (fr_s Fm441 (fr_m (fr_s Fm367 (fr_m (fr_s Fm350 (fr_m (fr_s Fm335 (fr_m (fr_s Fm319 (fr_m fr_0 rfl rfl) rfl rfl) rfl rfl) rfl rfl) rfl rfl) rfl rfl) rfl rfl) rfl rfl) rfl rfl) rfl rfl) rfl rfl) rfl rfl) rfl rfl) rfl rfl) rfl rfl) (show 0 ≤ (m319.1 8) by omega) (show (m319.1 8) ≤ 4000 by omega) (show 0 ≤ (m319.1 12) - (m350.1 12) ∧ (m319.1 12) - (m350.1 12) ≤ 63 by omega) (show 0 ≤ (m.1 70) ∧ (m.1 70) ≤ 4000 by omega) (show 1 ≤ (m467.1 10) by omega)
                      · skip
                        replace h452 : LxP (m451.1 7) (m451.1 8) (m451.1 9) (m441.1 6) (m451.1 10) := h452
                        rewrite [(show (m441.1 6) = (m.1 6) from ((fr1 Fm441 6 rfl).trans ((fr1 Fm367 6 rfl).trans ((fr1 Fm350 6 rfl).trans ((fr1 Fm335 6 rfl).trans (fr1 Fm319 6 rfl))))))] at h452
                        have hLx := h452
                        clear h453
                        replace h454 : (m441.1 8) ≤ (m451.1 8) := h454
                        rewrite [(show (m441.1 8) = (m367.1 8) from (fr1 Fm441 8 rfl))] at h454
                        clear h455
                        have hf486 : 1 ≤ (m451.1 10) := by omega
                        clear g372 g373 g374 g377 u379 g444 g445 u448 h454
                        refine Tm_lv (a := [(0, .ref 189), (1, .int (i32 (m319.1 8))), (2, .long (i64 (m319.1 12))), (4, .long (i64 (m350.1 12)))]) rfl rfl ⟨rfl, rfl, rfl, rfl, trivial⟩ ?_
                        exact J127_97 (m319.1 8) (m319.1 12) (m350.1 12) (mO m451 [] []) (r32 (by omega) (by omega)) (r64 (by omega) (by omega)) (r64 (by omega) (by omega)) Tm451 (fr_m (fr_s Fm451 (fr_m (fr_s Fm441 (fr_m (fr_s Fm367 (fr_m (fr_s Fm350 (fr_m (fr_s Fm335 (fr_m (fr_s Fm319 (fr_m fr_0 rfl rfl) rfl rfl) rfl rfl) rfl rfl) rfl rfl) rfl rfl) rfl rfl) rfl rfl) rfl rfl) rfl rfl) rfl rfl) rfl rfl) rfl rfl) (show 0 ≤ (m319.1 8) by omega) (show (m319.1 8) ≤ 4000 by omega) (show 1 ≤ (m451.1 10) by omega)
                    · skip
                      clear c443
                      clear h442
                      have hf487 : 1 ≤ (m441.1 10) := by omega
                      clear g375 g376 h368 h380 h382a h382b h382c h382d h382e h383 h436a h436b h436c h436d h436e h437
                      refine Tm_lv (a := [(0, .ref 189), (1, .int (i32 (m319.1 8))), (2, .long (i64 (m319.1 12))), (4, .long (i64 (m350.1 12)))]) rfl rfl ⟨rfl, rfl, rfl, rfl, trivial⟩ ?_
                      exact J121_112 (m319.1 8) (m319.1 12) (m350.1 12) (mO m441 [] []) (r32 (by omega) (by omega)) (r64 (by omega) (by omega)) (r64 (by omega) (by omega)) Tm441 (fr_m (fr_s Fm441 (fr_m (fr_s Fm367 (fr_m (fr_s Fm350 (fr_m (fr_s Fm335 (fr_m (fr_s Fm319 (fr_m fr_0 rfl rfl) rfl rfl) rfl rfl) rfl rfl) rfl rfl) rfl rfl) rfl rfl) rfl rfl) rfl rfl) rfl rfl) rfl rfl) (show 0 ≤ (m319.1 8) by omega) (show (m319.1 8) ≤ 4000 by omega) (show 1 ≤ (m441.1 10) by omega)
                  · skip
                    have hl488 : (m350.1 12) ≥ 0 := by omega
                    refine T_ld 97 (.long (i64 (m350.1 12))) rfl (fun _ => rfl) ?_
                    refine T_ld 98 (.long (i64 (m319.1 12))) rfl (fun _ => rfl) ?_
                    refine T_lcmp 99 rfl rfl (r64 (by omega) (by omega)) (r64 (by omega) (by omega)) (fun z489 h490 => ?_)
                    obtain ⟨h490a, h490b, h490c, h490d, h490e⟩ := h490
                    refine T_if 116 102 rfl rfl rfl (r32 (by omega) (by omega)) (fun (h491 : (0 : Int) < z489) => ?_) (fun (h491 : ¬ ((0 : Int) < z489)) => ?_)
                    · skip
                      have hl492 : (m350.1 12) > (m319.1 12) := by omega
                      refine T_ld 117 (.int (i32 0)) rfl (fun _ => rfl) ?_
                      refine T_ld 118 (.int (i32 (m319.1 8))) rfl (fun _ => rfl) ?_
                      refine T_call 121 256 [.ref 189, .int (i32 0), .int (i32 (m319.1 8))] [] rfl (fun _ => rfl) rfl (c_want w (mO m367 [] []) c N D (by omega) Tm367 0 (m319.1 8) ⟨by decide, by decide⟩ (r32 (by omega) (by omega)) (show 0 ≤ (m319.1 8) ∧ (m319.1 8) ≤ 4000 by omega) (fun _ => trivial)) (fun rr493 k494 => ?_)
                      obtain ⟨m495, Tm495, Fm495, h496, c497, rfl⟩ := k494
                      refine ⟨_, _, rfl, ?_⟩
                      refine T_nb (st' := []) rfl ?_
                      have g498 : 0 ≤ m495.1 10 ∧ m495.1 10 ≤ 8 := Tm495.1 10
                      have g499 : (-1) ≤ m495.1 11 ∧ m495.1 11 ≤ 4000 := Tm495.1 11
                      by_cases hf500 : (m495.1 10) = 0
                      · skip
                        replace h496 : (m367.1 10) = 0 := h496 hf500
                        have c501 := c497 hf500
                        replace c501 : (0 : Int) ≠ 0 := c501
                        clear c497
                        have u502 : (m.1 8) + 1 ≤ (m367.1 8) := by omega
                        have hAgC : agr (m.2 65) (m.2 65) (m.1 28) := by first | exact agr_r _ _ | exact hAgC | exact agr_t hAgC hAg (by omega)
                        clear g375 g376 h368 h380 h382a h382b h382c h382d h382e h383 h436a h436b h436c h436d h436e h437 h490a h490b h490c h490d h490e h491 h496
                        refine T_ld 122 (.ref 189) rfl (fun _ => rfl) ?_
                        refine T_ld 124 (.int (i32 93)) rfl (fun _ => rfl) ?_
                        refine T_call 127 232 [.ref 189, .int (i32 93)] [] rfl (fun _ => rfl) rfl (d_need w (mO m495 [] []) c N D (by omega) Tm495 93 ⟨by decide, by decide⟩ (show 1 ≤ (93 : Int) by omega) (show LxP (m495.1 7) (m495.1 8) (m495.1 9) (m495.1 6) (m495.1 10) by rewrite [(show (m495.1 7) = (m367.1 7) from (fr1 Fm495 7 rfl)), (show (m495.1 8) = (m367.1 8) from (fr1 Fm495 8 rfl)), (show (m495.1 9) = (m367.1 9) from (fr1 Fm495 9 rfl)), (show (m495.1 6) = (m.1 6) from ((fr1 Fm495 6 rfl).trans ((fr1 Fm367 6 rfl).trans ((fr1 Fm350 6 rfl).trans ((fr1 Fm335 6 rfl).trans (fr1 Fm319 6 rfl))))))]; first | exact hLx | (intro h9; exfalso; omega) | (intro h9; have h8 := hLx (by omega); omega))) (fun rr503 k504 => ?_)
                        obtain ⟨m505, Tm505, Fm505, h506, h507, h508, h509, rfl⟩ := k504
                        refine ⟨_, _, rfl, ?_⟩
                        refine T_nb (st' := []) rfl ?_
                        have g510 : 0 ≤ m505.1 7 ∧ m505.1 7 ≤ 330 := Tm505.1 7
                        have g511 : 0 ≤ m505.1 8 ∧ m505.1 8 ≤ 4000 := Tm505.1 8
                        have g512 : 0 ≤ m505.1 9 ∧ m505.1 9 ≤ 4000 := Tm505.1 9
                        have g513 : 0 ≤ m505.1 10 ∧ m505.1 10 ≤ 8 := Tm505.1 10
                        have g514 : (-1) ≤ m505.1 11 ∧ m505.1 11 ≤ 4000 := Tm505.1 11
                        have g515 : (-9223372036854775808) ≤ m505.1 12 ∧ m505.1 12 ≤ 9223372036854775807 := Tm505.1 12
                        by_cases hf516 : (m505.1 10) = 0
                        · skip
                          replace h506 : LxP (m505.1 7) (m505.1 8) (m505.1 9) (m495.1 6) (m505.1 10) := h506
                          rewrite [(show (m495.1 6) = (m.1 6) from ((fr1 Fm495 6 rfl).trans ((fr1 Fm367 6 rfl).trans ((fr1 Fm350 6 rfl).trans ((fr1 Fm335 6 rfl).trans (fr1 Fm319 6 rfl))))))] at h506
                          have hLx := h506
                          replace h507 : (m495.1 10) = 0 ∧ (m495.1 7) = (93 : Int) := h507 hf516
                          rewrite [(show (m495.1 7) = (m367.1 7) from (fr1 Fm495 7 rfl))] at h507
                          replace h508 : (m495.1 8) ≤ (m505.1 8) := h508
                          rewrite [(show (m495.1 8) = (m367.1 8) from (fr1 Fm495 8 rfl))] at h508
                          replace h509 : (m495.1 8) + (m495.1 9) ≤ (m505.1 8) := h509 hf516
                          rewrite [(show (m495.1 8) = (m367.1 8) from (fr1 Fm495 8 rfl)), (show (m495.1 9) = (m367.1 9) from (fr1 Fm495 9 rfl))] at h509
                          have u517 : (m.1 8) + 1 ≤ (m505.1 8) := by omega
                          have hAgC : agr (m.2 65) (m.2 65) (m.1 28) := by first | exact agr_r _ _ | exact hAgC | exact agr_t hAgC hAg (by omega)
                          clear g372 g373 g374 g377 u379 g498 g499 u502 h507 h508 h509
                          refine T_gf 131 (.int (i32 (m505.1 10))) rfl rfl rfl rfl rfl rfl ?_
                          refine T_if 135 134 rfl rfl rfl (r32 (by omega) (by omega)) (fun (h518 : (m505.1 10) ≤ 0) => ?_) (fun (h518 : ¬ ((m505.1 10) ≤ 0)) => by exfalso; omega)
                          refine T_gf 139 (.int (i32 (m.1 70))) rfl rfl rfl rfl (mfv_c (F := fun x => .int (i32 x)) rfl (show (m505.1 70) = (m.1 70) from ((fr1 Fm505 70 rfl).trans ((fr1 Fm495 70 rfl).trans ((fr1 Fm367 70 rfl).trans ((fr1 Fm350 70 rfl).trans ((fr1 Fm335 70 rfl).trans (fr1 Fm319 70 rfl)))))))) rfl ?_
                          refine T_sto 141 [(6, .int (i32 (m.1 70))), (4, .long (i64 (m350.1 12))), (2, .long (i64 (m319.1 12))), (1, .int (i32 (m319.1 8))), (0, .ref 189)] rfl (fun _ => rfl) ?_
                          have hAr : ar 405 ≤ 1 + lh (m.2 79) (m.2 80) (m.1 73) := by rw [show ar 405 = 1 from rfl]; omega
                          have hCk : CNk 405 (m350.1 12) := by refine ⟨?_, ?_, ?_, ?_⟩ <;> omega
                          refine T_ld 142 (.ref 189) rfl (fun _ => rfl) ?_
                          refine T_ld 145 (.int (i32 405)) rfl (fun _ => rfl) ?_
                          refine T_ld 146 (.long (i64 (m319.1 12))) rfl (fun _ => rfl) ?_
                          refine T_ld 148 (.long (i64 (m350.1 12))) rfl (fun _ => rfl) ?_
                          refine T_lsub 149 rfl rfl ?_
                          refine T_l2i 150 rfl rfl ?_
                          refine T_ld 151 (.int (i32 1)) rfl (fun _ => rfl) ?_
                          refine T_iadd 152 rfl rfl ?_
                          refine T_ld 154 (.long (i64 (m350.1 12))) rfl (fun _ => rfl) ?_
                          refine T_l2i 155 rfl rfl ?_
                          refine T_ld 156 (.long (i64 0)) rfl (fun _ => rfl) ?_
                          refine T_call 159 248 [.ref 189, .int (i32 405), .int (i32 (((m319.1 12) - (m350.1 12)) + 1)), .int (i32 (m350.1 12)), .long (i64 0)] [] rfl (fun _ => rfl) rfl (c_node w (mO m505 [] []) c N D (by omega) Tm505 405 (((m319.1 12) - (m350.1 12)) + 1) (m350.1 12) 0 B (1 + lh (m.2 79) (m.2 80) (m.1 73)) ⟨by decide, by decide⟩ (r32 (by omega) (by omega)) (r32 (by omega) (by omega)) ⟨by decide, by decide⟩ (fun _ => ⟨(show 0 ≤ (405 : Int) ∧ (405 : Int) ≤ 408 by first | omega | decide), (show 0 ≤ (((m319.1 12) - (m350.1 12)) + 1) ∧ (((m319.1 12) - (m350.1 12)) + 1) ≤ 64 by first | omega | decide), (show 0 ≤ (m350.1 12) ∧ (m350.1 12) ≤ 191 by first | omega | decide), (show CNk (405 : Int) (m350.1 12) by first | exact hCk | (refine ⟨?_, ?_, ?_, ?_⟩ <;> omega)), (show ar (405 : Int) ≤ (1 + lh (m.2 79) (m.2 80) (m.1 73)) by first | exact hAr | omega), (show EX (m505.2 65) (m505.2 67) B (m505.1 28) (1 + lh (m.2 79) (m.2 80) (m.1 73)) by rewrite [(show (m505.2 65) = (m.2 65) from ((fr2 Fm505 65 rfl).trans ((fr2 Fm495 65 rfl).trans ((fr2 Fm367 65 rfl).trans ((fr2 Fm350 65 rfl).trans ((fr2 Fm335 65 rfl).trans (fr2 Fm319 65 rfl))))))), (show (m505.2 67) = (m.2 67) from ((fr2 Fm505 67 rfl).trans ((fr2 Fm495 67 rfl).trans ((fr2 Fm367 67 rfl).trans ((fr2 Fm350 67 rfl).trans ((fr2 Fm335 67 rfl).trans (fr2 Fm319 67 rfl))))))), (show (m505.1 28) = (m.1 28) from ((fr1 Fm505 28 rfl).trans ((fr1 Fm495 28 rfl).trans ((fr1 Fm367 28 rfl).trans ((fr1 Fm350 28 rfl).trans ((fr1 Fm335 28 rfl).trans (fr1 Fm319 28 rfl)))))))]; first | exact hEX | assumption)⟩)) (fun rr519 k520 => ?_)
                          obtain ⟨m521, Tm521, Fm521, h522, c523, rfl⟩ := k520
                          refine ⟨_, _, rfl, ?_⟩
                          refine T_nb (st' := []) rfl ?_
                          have g524 : 0 ≤ m521.1 10 ∧ m521.1 10 ≤ 8 := Tm521.1 10
                          have g525 : (-1) ≤ m521.1 11 ∧ m521.1 11 ≤ 4000 := Tm521.1 11
                          have g526 : 0 ≤ m521.1 28 ∧ m521.1 28 ≤ 800 := Tm521.1 28
                          by_cases hf527 : (m521.1 10) = 0
                          · skip
                            replace h522 : (m505.1 10) = 0 := h522 hf527
                            obtain ⟨c528, c529, c530⟩ := c523 hf527
                            replace c528 : (m521.1 28) = (m505.1 28) + 1 := c528
                            rewrite [(show (m505.1 28) = (m.1 28) from ((fr1 Fm505 28 rfl).trans ((fr1 Fm495 28 rfl).trans ((fr1 Fm367 28 rfl).trans ((fr1 Fm350 28 rfl).trans ((fr1 Fm335 28 rfl).trans (fr1 Fm319 28 rfl)))))))] at c528
                            replace c529 : EX (m521.2 65) (m521.2 67) B (m521.1 28) ((1 + lh (m.2 79) (m.2 80) (m.1 73)) + 1 - ar (405 : Int)) := c529
                            have hEX := c529
                            replace c530 : agr (m505.2 65) (m521.2 65) (m505.1 28) := c530
                            rewrite [(show (m505.2 65) = (m.2 65) from ((fr2 Fm505 65 rfl).trans ((fr2 Fm495 65 rfl).trans ((fr2 Fm367 65 rfl).trans ((fr2 Fm350 65 rfl).trans ((fr2 Fm335 65 rfl).trans (fr2 Fm319 65 rfl))))))), (show (m505.1 28) = (m.1 28) from ((fr1 Fm505 28 rfl).trans ((fr1 Fm495 28 rfl).trans ((fr1 Fm367 28 rfl).trans ((fr1 Fm350 28 rfl).trans ((fr1 Fm335 28 rfl).trans (fr1 Fm319 28 rfl)))))))] at c530
                            have hAg := c530
                            clear c523
                            have u531 : (m.1 8) + 1 ≤ (m505.1 8) := by omega
                            have hAgC : agr (m.2 65) (m521.2 65) (m.1 28) := by first | exact agr_r _ _ | exact hAgC | exact agr_t hAgC hAg (by omega)
                            clear g513 g514 h506 h518 h522
                            refine T_ld 160 (.ref 189) rfl (fun _ => rfl) ?_
                            refine T_ld 161 (.long (i64 (m319.1 12))) rfl (fun _ => rfl) ?_
                            refine T_ld 163 (.long (i64 (m350.1 12))) rfl (fun _ => rfl) ?_
                            refine T_lsub 164 rfl rfl ?_
                            refine T_l2i 165 rfl rfl ?_
                            refine T_ld 166 (.int (i32 1)) rfl (fun _ => rfl) ?_
                            refine T_iadd 167 rfl rfl ?_
                            refine T_ld 169 (.int (i32 (m.1 70))) rfl (fun _ => rfl) ?_
                            refine T_call 172 250 [.ref 189, .int (i32 (((m319.1 12) - (m350.1 12)) + 1)), .int (i32 (m.1 70))] [] rfl (fun _ => rfl) rfl (c_unit w (mO m521 [] []) c N D (by omega) Tm521 (((m319.1 12) - (m350.1 12)) + 1) (m.1 70) (r32 (by omega) (by omega)) (r32 (by omega) (by omega)) (show 0 ≤ (((m319.1 12) - (m350.1 12)) + 1) ∧ (((m319.1 12) - (m350.1 12)) + 1) ≤ 1024 by omega) (show 0 ≤ (m.1 70) ∧ (m.1 70) ≤ 4000 by omega)) (fun rr532 k533 => ?_)
                            obtain ⟨m534, Tm534, Fm534, h535, rfl⟩ := k533
                            refine ⟨_, _, rfl, ?_⟩
                            refine T_nb (st' := []) rfl ?_
                            have g536 : 0 ≤ m534.1 69 ∧ m534.1 69 ≤ 1024 := Tm534.1 69
                            have g537 : 0 ≤ m534.1 70 ∧ m534.1 70 ≤ 4000 := Tm534.1 70
                            replace h535 : (m534.1 69) = (((m319.1 12) - (m350.1 12)) + 1) := h535
                            have u538 : (m.1 8) + 1 ≤ (m505.1 8) := by omega
                            have hAgC : agr (m.2 65) (m521.2 65) (m.1 28) := by first | exact agr_r _ _ | exact hAgC | exact agr_t hAgC hAg (by omega)
                            have hXE : XS (m521.2 65) (m521.2 67) (m.2 76) (m.2 78) (m.2 79) (m.2 80) B (m521.1 28) (m.1 73) (m.1 74) 1 := XS_of hXS hEX (by rw [show ar 405 = 1 from rfl]; omega)
                            refine T_goto 224 rfl (fun _ => rfl) ?_
                            refine T_ret rfl (fun _ => rfl) ?_
                            exact ⟨(mO m534 [] []), Tm534, (fr_m (fr_s Fm534 (fr_m (fr_s Fm521 (fr_m (fr_s Fm505 (fr_m (fr_s Fm495 (fr_m (fr_s Fm367 (fr_m (fr_s Fm350 (fr_m (fr_s Fm335 (fr_m (fr_s Fm319 (fr_m fr_0 rfl rfl) rfl rfl) rfl rfl) rfl rfl) rfl rfl) rfl rfl) rfl rfl) rfl rfl) rfl rfl) rfl rfl) rfl rfl) rfl rfl) rfl rfl) rfl rfl) rfl rfl) rfl rfl) rfl rfl), (show (m534.1 10) = 0 → (m.1 10) = 0 by rewrite [(show (m534.1 10) = (m521.1 10) from (fr1 Fm534 10 rfl))]; omega), (show LxP (m534.1 7) (m534.1 8) (m534.1 9) (m.1 6) (m534.1 10) by rewrite [(show (m534.1 7) = (m505.1 7) from ((fr1 Fm534 7 rfl).trans (fr1 Fm521 7 rfl))), (show (m534.1 8) = (m505.1 8) from ((fr1 Fm534 8 rfl).trans (fr1 Fm521 8 rfl))), (show (m534.1 9) = (m505.1 9) from ((fr1 Fm534 9 rfl).trans (fr1 Fm521 9 rfl))), (show (m534.1 10) = (m521.1 10) from (fr1 Fm534 10 rfl))]; first | (first | exact hLx | exact (fun _ => hLx (by omega)) | (intro h9; exfalso; omega)) | (exfalso; omega)), (fun _ => ⟨(show ((m534.1 75) = 1 ∧ (m.1 8) + 1 ≤ (m534.1 8)) ∨ ((m534.1 75) = 2 ∧ (m534.1 8) = (m.1 8)) by rewrite [(show (m534.1 75) = (m.1 75) from ((fr1 Fm534 75 rfl).trans ((fr1 Fm521 75 rfl).trans ((fr1 Fm505 75 rfl).trans ((fr1 Fm495 75 rfl).trans ((fr1 Fm367 75 rfl).trans ((fr1 Fm350 75 rfl).trans ((fr1 Fm335 75 rfl).trans (fr1 Fm319 75 rfl))))))))), (show (m534.1 8) = (m505.1 8) from ((fr1 Fm534 8 rfl).trans (fr1 Fm521 8 rfl)))]; omega), (show (m534.1 69) ≤ 64 by omega), (show (m.1 28) ≤ (m534.1 28) by rewrite [(show (m534.1 28) = (m521.1 28) from (fr1 Fm534 28 rfl))]; omega), (show XS (m534.2 65) (m534.2 67) (m.2 76) (m.2 78) (m.2 79) (m.2 80) B (m534.1 28) (m.1 73) (m.1 74) 1 by rewrite [(show (m534.2 65) = (m521.2 65) from (fr2 Fm534 65 rfl)), (show (m534.2 67) = (m521.2 67) from (fr2 Fm534 67 rfl)), (show (m534.1 28) = (m521.1 28) from (fr1 Fm534 28 rfl))]; first | (exact hXE) | (exfalso; omega)), (show agr (m.2 65) (m534.2 65) (m.1 28) by rewrite [(show (m534.2 65) = (m521.2 65) from (fr2 Fm534 65 rfl))]; first | (exact hAgC) | (exfalso; omega))⟩), rfl⟩
                          · skip
                            clear c523
                            clear h522
                            have hf539 : 1 ≤ (m521.1 10) := by omega
                            clear g513 g514 h506 h518
                            refine Tm_lv (a := [(0, .ref 189), (1, .int (i32 (m319.1 8))), (2, .long (i64 (m319.1 12))), (4, .long (i64 (m350.1 12))), (6, .int (i32 (m.1 70)))]) rfl rfl ⟨rfl, rfl, rfl, rfl, rfl, trivial⟩ ?_
                            exact J159_75 (m319.1 8) (m319.1 12) (m350.1 12) (mO m521 [] []) (r32 (by omega) (by omega)) (r64 (by omega) (by omega)) (r64 (by omega) (by omega)) Tm521 (fr_m (fr_s Fm521 (fr_m (fr_s Fm505 (fr_m (fr_s Fm495 (fr_m (fr_s Fm367 (fr_m (fr_s Fm350 (fr_m (fr_s Fm335 (fr_m (fr_s Fm319 (fr_m fr_0 rfl rfl) rfl rfl) rfl rfl) rfl rfl) rfl rfl) rfl rfl) rfl rfl) rfl rfl) rfl rfl) rfl rfl) rfl rfl) rfl rfl) rfl rfl) rfl rfl) rfl rfl) (show 0 ≤ (m319.1 8) by omega) (show (m319.1 8) ≤ 4000 by omega) (show 0 ≤ (m319.1 12) - (m350.1 12) ∧ (m319.1 12) - (m350.1 12) ≤ 63 by omega) (show 0 ≤ (m.1 70) ∧ (m.1 70) ≤ 4000 by omega) (show 1 ≤ (m521.1 10) by omega)
                        · skip
                          replace h506 : LxP (m505.1 7) (m505.1 8) (m505.1 9) (m495.1 6) (m505.1 10) := h506
                          rewrite [(show (m495.1 6) = (m.1 6) from ((fr1 Fm495 6 rfl).trans ((fr1 Fm367 6 rfl).trans ((fr1 Fm350 6 rfl).trans ((fr1 Fm335 6 rfl).trans (fr1 Fm319 6 rfl))))))] at h506
                          have hLx := h506
                          clear h507
                          replace h508 : (m495.1 8) ≤ (m505.1 8) := h508
                          rewrite [(show (m495.1 8) = (m367.1 8) from (fr1 Fm495 8 rfl))] at h508
                          clear h509
                          have hf540 : 1 ≤ (m505.1 10) := by omega
                          clear g372 g373 g374 g377 u379 g498 g499 u502 h508
                          refine Tm_lv (a := [(0, .ref 189), (1, .int (i32 (m319.1 8))), (2, .long (i64 (m319.1 12))), (4, .long (i64 (m350.1 12)))]) rfl rfl ⟨rfl, rfl, rfl, rfl, trivial⟩ ?_
                          exact J127_97 (m319.1 8) (m319.1 12) (m350.1 12) (mO m505 [] []) (r32 (by omega) (by omega)) (r64 (by omega) (by omega)) (r64 (by omega) (by omega)) Tm505 (fr_m (fr_s Fm505 (fr_m (fr_s Fm495 (fr_m (fr_s Fm367 (fr_m (fr_s Fm350 (fr_m (fr_s Fm335 (fr_m (fr_s Fm319 (fr_m fr_0 rfl rfl) rfl rfl) rfl rfl) rfl rfl) rfl rfl) rfl rfl) rfl rfl) rfl rfl) rfl rfl) rfl rfl) rfl rfl) rfl rfl) rfl rfl) (show 0 ≤ (m319.1 8) by omega) (show (m319.1 8) ≤ 4000 by omega) (show 1 ≤ (m505.1 10) by omega)
                      · skip
                        clear c497
                        clear h496
                        have hf541 : 1 ≤ (m495.1 10) := by omega
                        clear g375 g376 h368 h380 h382a h382b h382c h382d h382e h383 h436a h436b h436c h436d h436e h437 h490a h490b h490c h490d h490e h491
                        refine Tm_lv (a := [(0, .ref 189), (1, .int (i32 (m319.1 8))), (2, .long (i64 (m319.1 12))), (4, .long (i64 (m350.1 12)))]) rfl rfl ⟨rfl, rfl, rfl, rfl, trivial⟩ ?_
                        exact J121_112 (m319.1 8) (m319.1 12) (m350.1 12) (mO m495 [] []) (r32 (by omega) (by omega)) (r64 (by omega) (by omega)) (r64 (by omega) (by omega)) Tm495 (fr_m (fr_s Fm495 (fr_m (fr_s Fm367 (fr_m (fr_s Fm350 (fr_m (fr_s Fm335 (fr_m (fr_s Fm319 (fr_m fr_0 rfl rfl) rfl rfl) rfl rfl) rfl rfl) rfl rfl) rfl rfl) rfl rfl) rfl rfl) rfl rfl) rfl rfl) rfl rfl) (show 0 ≤ (m319.1 8) by omega) (show (m319.1 8) ≤ 4000 by omega) (show 1 ≤ (m495.1 10) by omega)
                    · skip
                      have hl542 : (m350.1 12) ≤ (m319.1 12) := by omega
                      refine T_ld 103 (.long (i64 (m319.1 12))) rfl (fun _ => rfl) ?_
                      refine T_gf 107 (.int (i32 (m.1 69))) rfl rfl rfl rfl (mfv_c (F := fun x => .int (i32 x)) rfl (show (m367.1 69) = (m.1 69) from ((fr1 Fm367 69 rfl).trans ((fr1 Fm350 69 rfl).trans ((fr1 Fm335 69 rfl).trans (fr1 Fm319 69 rfl)))))) rfl ?_
                      refine T_i2l 108 rfl rfl (r32 (by omega) (by omega)) ?_
                      refine T_lcmp 109 rfl rfl (r64 (by omega) (by omega)) (r64 (by omega) (by omega)) (fun z543 h544 => ?_)
                      obtain ⟨h544a, h544b, h544c, h544d, h544e⟩ := h544
                      refine T_if 116 112 rfl rfl rfl (r32 (by omega) (by omega)) (fun (h545 : (0 : Int) ≤ z543) => ?_) (fun (h545 : ¬ ((0 : Int) ≤ z543)) => ?_)
                      · skip
                        have hl546 : (m319.1 12) ≥ (m.1 69) := by omega
                        refine T_ld 117 (.int (i32 0)) rfl (fun _ => rfl) ?_
                        refine T_ld 118 (.int (i32 (m319.1 8))) rfl (fun _ => rfl) ?_
                        refine T_call 121 256 [.ref 189, .int (i32 0), .int (i32 (m319.1 8))] [] rfl (fun _ => rfl) rfl (c_want w (mO m367 [] []) c N D (by omega) Tm367 0 (m319.1 8) ⟨by decide, by decide⟩ (r32 (by omega) (by omega)) (show 0 ≤ (m319.1 8) ∧ (m319.1 8) ≤ 4000 by omega) (fun _ => trivial)) (fun rr547 k548 => ?_)
                        obtain ⟨m549, Tm549, Fm549, h550, c551, rfl⟩ := k548
                        refine ⟨_, _, rfl, ?_⟩
                        refine T_nb (st' := []) rfl ?_
                        have g552 : 0 ≤ m549.1 10 ∧ m549.1 10 ≤ 8 := Tm549.1 10
                        have g553 : (-1) ≤ m549.1 11 ∧ m549.1 11 ≤ 4000 := Tm549.1 11
                        by_cases hf554 : (m549.1 10) = 0
                        · skip
                          replace h550 : (m367.1 10) = 0 := h550 hf554
                          have c555 := c551 hf554
                          replace c555 : (0 : Int) ≠ 0 := c555
                          clear c551
                          have u556 : (m.1 8) + 1 ≤ (m367.1 8) := by omega
                          have hAgC : agr (m.2 65) (m.2 65) (m.1 28) := by first | exact agr_r _ _ | exact hAgC | exact agr_t hAgC hAg (by omega)
                          clear g375 g376 h368 h380 h382a h382b h382c h382d h382e h383 h436a h436b h436c h436d h436e h437 h490a h490b h490c h490d h490e h491 h544a h544b h544c h544d h544e h545 h550
                          refine T_ld 122 (.ref 189) rfl (fun _ => rfl) ?_
                          refine T_ld 124 (.int (i32 93)) rfl (fun _ => rfl) ?_
                          refine T_call 127 232 [.ref 189, .int (i32 93)] [] rfl (fun _ => rfl) rfl (d_need w (mO m549 [] []) c N D (by omega) Tm549 93 ⟨by decide, by decide⟩ (show 1 ≤ (93 : Int) by omega) (show LxP (m549.1 7) (m549.1 8) (m549.1 9) (m549.1 6) (m549.1 10) by rewrite [(show (m549.1 7) = (m367.1 7) from (fr1 Fm549 7 rfl)), (show (m549.1 8) = (m367.1 8) from (fr1 Fm549 8 rfl)), (show (m549.1 9) = (m367.1 9) from (fr1 Fm549 9 rfl)), (show (m549.1 6) = (m.1 6) from ((fr1 Fm549 6 rfl).trans ((fr1 Fm367 6 rfl).trans ((fr1 Fm350 6 rfl).trans ((fr1 Fm335 6 rfl).trans (fr1 Fm319 6 rfl))))))]; first | exact hLx | (intro h9; exfalso; omega) | (intro h9; have h8 := hLx (by omega); omega))) (fun rr557 k558 => ?_)
                          obtain ⟨m559, Tm559, Fm559, h560, h561, h562, h563, rfl⟩ := k558
                          refine ⟨_, _, rfl, ?_⟩
                          refine T_nb (st' := []) rfl ?_
                          have g564 : 0 ≤ m559.1 7 ∧ m559.1 7 ≤ 330 := Tm559.1 7
                          have g565 : 0 ≤ m559.1 8 ∧ m559.1 8 ≤ 4000 := Tm559.1 8
                          have g566 : 0 ≤ m559.1 9 ∧ m559.1 9 ≤ 4000 := Tm559.1 9
                          have g567 : 0 ≤ m559.1 10 ∧ m559.1 10 ≤ 8 := Tm559.1 10
                          have g568 : (-1) ≤ m559.1 11 ∧ m559.1 11 ≤ 4000 := Tm559.1 11
                          have g569 : (-9223372036854775808) ≤ m559.1 12 ∧ m559.1 12 ≤ 9223372036854775807 := Tm559.1 12
                          by_cases hf570 : (m559.1 10) = 0
                          · skip
                            replace h560 : LxP (m559.1 7) (m559.1 8) (m559.1 9) (m549.1 6) (m559.1 10) := h560
                            rewrite [(show (m549.1 6) = (m.1 6) from ((fr1 Fm549 6 rfl).trans ((fr1 Fm367 6 rfl).trans ((fr1 Fm350 6 rfl).trans ((fr1 Fm335 6 rfl).trans (fr1 Fm319 6 rfl))))))] at h560
                            have hLx := h560
                            replace h561 : (m549.1 10) = 0 ∧ (m549.1 7) = (93 : Int) := h561 hf570
                            rewrite [(show (m549.1 7) = (m367.1 7) from (fr1 Fm549 7 rfl))] at h561
                            replace h562 : (m549.1 8) ≤ (m559.1 8) := h562
                            rewrite [(show (m549.1 8) = (m367.1 8) from (fr1 Fm549 8 rfl))] at h562
                            replace h563 : (m549.1 8) + (m549.1 9) ≤ (m559.1 8) := h563 hf570
                            rewrite [(show (m549.1 8) = (m367.1 8) from (fr1 Fm549 8 rfl)), (show (m549.1 9) = (m367.1 9) from (fr1 Fm549 9 rfl))] at h563
                            have u571 : (m.1 8) + 1 ≤ (m559.1 8) := by omega
                            have hAgC : agr (m.2 65) (m.2 65) (m.1 28) := by first | exact agr_r _ _ | exact hAgC | exact agr_t hAgC hAg (by omega)
                            clear g372 g373 g374 g377 u379 g552 g553 u556 h561 h562 h563
                            refine T_gf 131 (.int (i32 (m559.1 10))) rfl rfl rfl rfl rfl rfl ?_
                            refine T_if 135 134 rfl rfl rfl (r32 (by omega) (by omega)) (fun (h572 : (m559.1 10) ≤ 0) => ?_) (fun (h572 : ¬ ((m559.1 10) ≤ 0)) => by exfalso; omega)
                            refine T_gf 139 (.int (i32 (m.1 70))) rfl rfl rfl rfl (mfv_c (F := fun x => .int (i32 x)) rfl (show (m559.1 70) = (m.1 70) from ((fr1 Fm559 70 rfl).trans ((fr1 Fm549 70 rfl).trans ((fr1 Fm367 70 rfl).trans ((fr1 Fm350 70 rfl).trans ((fr1 Fm335 70 rfl).trans (fr1 Fm319 70 rfl)))))))) rfl ?_
                            refine T_sto 141 [(6, .int (i32 (m.1 70))), (4, .long (i64 (m350.1 12))), (2, .long (i64 (m319.1 12))), (1, .int (i32 (m319.1 8))), (0, .ref 189)] rfl (fun _ => rfl) ?_
                            have hAr : ar 405 ≤ 1 + lh (m.2 79) (m.2 80) (m.1 73) := by rw [show ar 405 = 1 from rfl]; omega
                            have hCk : CNk 405 (m350.1 12) := by refine ⟨?_, ?_, ?_, ?_⟩ <;> omega
                            refine T_ld 142 (.ref 189) rfl (fun _ => rfl) ?_
                            refine T_ld 145 (.int (i32 405)) rfl (fun _ => rfl) ?_
                            refine T_ld 146 (.long (i64 (m319.1 12))) rfl (fun _ => rfl) ?_
                            refine T_ld 148 (.long (i64 (m350.1 12))) rfl (fun _ => rfl) ?_
                            refine T_lsub 149 rfl rfl ?_
                            refine T_l2i 150 rfl rfl ?_
                            refine T_ld 151 (.int (i32 1)) rfl (fun _ => rfl) ?_
                            refine T_iadd 152 rfl rfl ?_
                            refine T_ld 154 (.long (i64 (m350.1 12))) rfl (fun _ => rfl) ?_
                            refine T_l2i 155 rfl rfl ?_
                            refine T_ld 156 (.long (i64 0)) rfl (fun _ => rfl) ?_
                            refine T_call 159 248 [.ref 189, .int (i32 405), .int (i32 (((m319.1 12) - (m350.1 12)) + 1)), .int (i32 (m350.1 12)), .long (i64 0)] [] rfl (fun _ => rfl) rfl (c_node w (mO m559 [] []) c N D (by omega) Tm559 405 (((m319.1 12) - (m350.1 12)) + 1) (m350.1 12) 0 B (1 + lh (m.2 79) (m.2 80) (m.1 73)) ⟨by decide, by decide⟩ (r32 (by omega) (by omega)) (r32 (by omega) (by omega)) ⟨by decide, by decide⟩ (fun _ => ⟨(show 0 ≤ (405 : Int) ∧ (405 : Int) ≤ 408 by first | omega | decide), (show 0 ≤ (((m319.1 12) - (m350.1 12)) + 1) ∧ (((m319.1 12) - (m350.1 12)) + 1) ≤ 64 by first | omega | decide), (show 0 ≤ (m350.1 12) ∧ (m350.1 12) ≤ 191 by first | omega | decide), (show CNk (405 : Int) (m350.1 12) by first | exact hCk | (refine ⟨?_, ?_, ?_, ?_⟩ <;> omega)), (show ar (405 : Int) ≤ (1 + lh (m.2 79) (m.2 80) (m.1 73)) by first | exact hAr | omega), (show EX (m559.2 65) (m559.2 67) B (m559.1 28) (1 + lh (m.2 79) (m.2 80) (m.1 73)) by rewrite [(show (m559.2 65) = (m.2 65) from ((fr2 Fm559 65 rfl).trans ((fr2 Fm549 65 rfl).trans ((fr2 Fm367 65 rfl).trans ((fr2 Fm350 65 rfl).trans ((fr2 Fm335 65 rfl).trans (fr2 Fm319 65 rfl))))))), (show (m559.2 67) = (m.2 67) from ((fr2 Fm559 67 rfl).trans ((fr2 Fm549 67 rfl).trans ((fr2 Fm367 67 rfl).trans ((fr2 Fm350 67 rfl).trans ((fr2 Fm335 67 rfl).trans (fr2 Fm319 67 rfl))))))), (show (m559.1 28) = (m.1 28) from ((fr1 Fm559 28 rfl).trans ((fr1 Fm549 28 rfl).trans ((fr1 Fm367 28 rfl).trans ((fr1 Fm350 28 rfl).trans ((fr1 Fm335 28 rfl).trans (fr1 Fm319 28 rfl)))))))]; first | exact hEX | assumption)⟩)) (fun rr573 k574 => ?_)
                            obtain ⟨m575, Tm575, Fm575, h576, c577, rfl⟩ := k574
                            refine ⟨_, _, rfl, ?_⟩
                            refine T_nb (st' := []) rfl ?_
                            have g578 : 0 ≤ m575.1 10 ∧ m575.1 10 ≤ 8 := Tm575.1 10
                            have g579 : (-1) ≤ m575.1 11 ∧ m575.1 11 ≤ 4000 := Tm575.1 11
                            have g580 : 0 ≤ m575.1 28 ∧ m575.1 28 ≤ 800 := Tm575.1 28
                            by_cases hf581 : (m575.1 10) = 0
                            · skip
                              replace h576 : (m559.1 10) = 0 := h576 hf581
                              obtain ⟨c582, c583, c584⟩ := c577 hf581
                              replace c582 : (m575.1 28) = (m559.1 28) + 1 := c582
                              rewrite [(show (m559.1 28) = (m.1 28) from ((fr1 Fm559 28 rfl).trans ((fr1 Fm549 28 rfl).trans ((fr1 Fm367 28 rfl).trans ((fr1 Fm350 28 rfl).trans ((fr1 Fm335 28 rfl).trans (fr1 Fm319 28 rfl)))))))] at c582
                              replace c583 : EX (m575.2 65) (m575.2 67) B (m575.1 28) ((1 + lh (m.2 79) (m.2 80) (m.1 73)) + 1 - ar (405 : Int)) := c583
                              have hEX := c583
                              replace c584 : agr (m559.2 65) (m575.2 65) (m559.1 28) := c584
                              rewrite [(show (m559.2 65) = (m.2 65) from ((fr2 Fm559 65 rfl).trans ((fr2 Fm549 65 rfl).trans ((fr2 Fm367 65 rfl).trans ((fr2 Fm350 65 rfl).trans ((fr2 Fm335 65 rfl).trans (fr2 Fm319 65 rfl))))))), (show (m559.1 28) = (m.1 28) from ((fr1 Fm559 28 rfl).trans ((fr1 Fm549 28 rfl).trans ((fr1 Fm367 28 rfl).trans ((fr1 Fm350 28 rfl).trans ((fr1 Fm335 28 rfl).trans (fr1 Fm319 28 rfl)))))))] at c584
                              have hAg := c584
                              clear c577
                              have u585 : (m.1 8) + 1 ≤ (m559.1 8) := by omega
                              have hAgC : agr (m.2 65) (m575.2 65) (m.1 28) := by first | exact agr_r _ _ | exact hAgC | exact agr_t hAgC hAg (by omega)
                              clear g567 g568 h560 h572 h576
                              refine T_ld 160 (.ref 189) rfl (fun _ => rfl) ?_
                              refine T_ld 161 (.long (i64 (m319.1 12))) rfl (fun _ => rfl) ?_
                              refine T_ld 163 (.long (i64 (m350.1 12))) rfl (fun _ => rfl) ?_
                              refine T_lsub 164 rfl rfl ?_
                              refine T_l2i 165 rfl rfl ?_
                              refine T_ld 166 (.int (i32 1)) rfl (fun _ => rfl) ?_
                              refine T_iadd 167 rfl rfl ?_
                              refine T_ld 169 (.int (i32 (m.1 70))) rfl (fun _ => rfl) ?_
                              refine T_call 172 250 [.ref 189, .int (i32 (((m319.1 12) - (m350.1 12)) + 1)), .int (i32 (m.1 70))] [] rfl (fun _ => rfl) rfl (c_unit w (mO m575 [] []) c N D (by omega) Tm575 (((m319.1 12) - (m350.1 12)) + 1) (m.1 70) (r32 (by omega) (by omega)) (r32 (by omega) (by omega)) (show 0 ≤ (((m319.1 12) - (m350.1 12)) + 1) ∧ (((m319.1 12) - (m350.1 12)) + 1) ≤ 1024 by omega) (show 0 ≤ (m.1 70) ∧ (m.1 70) ≤ 4000 by omega)) (fun rr586 k587 => ?_)
                              obtain ⟨m588, Tm588, Fm588, h589, rfl⟩ := k587
                              refine ⟨_, _, rfl, ?_⟩
                              refine T_nb (st' := []) rfl ?_
                              have g590 : 0 ≤ m588.1 69 ∧ m588.1 69 ≤ 1024 := Tm588.1 69
                              have g591 : 0 ≤ m588.1 70 ∧ m588.1 70 ≤ 4000 := Tm588.1 70
                              replace h589 : (m588.1 69) = (((m319.1 12) - (m350.1 12)) + 1) := h589
                              have u592 : (m.1 8) + 1 ≤ (m559.1 8) := by omega
                              have hAgC : agr (m.2 65) (m575.2 65) (m.1 28) := by first | exact agr_r _ _ | exact hAgC | exact agr_t hAgC hAg (by omega)
                              have hXE : XS (m575.2 65) (m575.2 67) (m.2 76) (m.2 78) (m.2 79) (m.2 80) B (m575.1 28) (m.1 73) (m.1 74) 1 := XS_of hXS hEX (by rw [show ar 405 = 1 from rfl]; omega)
                              refine T_goto 224 rfl (fun _ => rfl) ?_
                              refine T_ret rfl (fun _ => rfl) ?_
                              exact ⟨(mO m588 [] []), Tm588, (fr_m (fr_s Fm588 (fr_m (fr_s Fm575 (fr_m (fr_s Fm559 (fr_m (fr_s Fm549 (fr_m (fr_s Fm367 (fr_m (fr_s Fm350 (fr_m (fr_s Fm335 (fr_m (fr_s Fm319 (fr_m fr_0 rfl rfl) rfl rfl) rfl rfl) rfl rfl) rfl rfl) rfl rfl) rfl rfl) rfl rfl) rfl rfl) rfl rfl) rfl rfl) rfl rfl) rfl rfl) rfl rfl) rfl rfl) rfl rfl) rfl rfl), (show (m588.1 10) = 0 → (m.1 10) = 0 by rewrite [(show (m588.1 10) = (m575.1 10) from (fr1 Fm588 10 rfl))]; omega), (show LxP (m588.1 7) (m588.1 8) (m588.1 9) (m.1 6) (m588.1 10) by rewrite [(show (m588.1 7) = (m559.1 7) from ((fr1 Fm588 7 rfl).trans (fr1 Fm575 7 rfl))), (show (m588.1 8) = (m559.1 8) from ((fr1 Fm588 8 rfl).trans (fr1 Fm575 8 rfl))), (show (m588.1 9) = (m559.1 9) from ((fr1 Fm588 9 rfl).trans (fr1 Fm575 9 rfl))), (show (m588.1 10) = (m575.1 10) from (fr1 Fm588 10 rfl))]; first | (first | exact hLx | exact (fun _ => hLx (by omega)) | (intro h9; exfalso; omega)) | (exfalso; omega)), (fun _ => ⟨(show ((m588.1 75) = 1 ∧ (m.1 8) + 1 ≤ (m588.1 8)) ∨ ((m588.1 75) = 2 ∧ (m588.1 8) = (m.1 8)) by rewrite [(show (m588.1 75) = (m.1 75) from ((fr1 Fm588 75 rfl).trans ((fr1 Fm575 75 rfl).trans ((fr1 Fm559 75 rfl).trans ((fr1 Fm549 75 rfl).trans ((fr1 Fm367 75 rfl).trans ((fr1 Fm350 75 rfl).trans ((fr1 Fm335 75 rfl).trans (fr1 Fm319 75 rfl))))))))), (show (m588.1 8) = (m559.1 8) from ((fr1 Fm588 8 rfl).trans (fr1 Fm575 8 rfl)))]; omega), (show (m588.1 69) ≤ 64 by omega), (show (m.1 28) ≤ (m588.1 28) by rewrite [(show (m588.1 28) = (m575.1 28) from (fr1 Fm588 28 rfl))]; omega), (show XS (m588.2 65) (m588.2 67) (m.2 76) (m.2 78) (m.2 79) (m.2 80) B (m588.1 28) (m.1 73) (m.1 74) 1 by rewrite [(show (m588.2 65) = (m575.2 65) from (fr2 Fm588 65 rfl)), (show (m588.2 67) = (m575.2 67) from (fr2 Fm588 67 rfl)), (show (m588.1 28) = (m575.1 28) from (fr1 Fm588 28 rfl))]; first | (exact hXE) | (exfalso; omega)), (show agr (m.2 65) (m588.2 65) (m.1 28) by rewrite [(show (m588.2 65) = (m575.2 65) from (fr2 Fm588 65 rfl))]; first | (exact hAgC) | (exfalso; omega))⟩), rfl⟩
                            · skip
                              clear c577
                              clear h576
                              have hf593 : 1 ≤ (m575.1 10) := by omega
                              clear g567 g568 h560 h572
                              refine Tm_lv (a := [(0, .ref 189), (1, .int (i32 (m319.1 8))), (2, .long (i64 (m319.1 12))), (4, .long (i64 (m350.1 12))), (6, .int (i32 (m.1 70)))]) rfl rfl ⟨rfl, rfl, rfl, rfl, rfl, trivial⟩ ?_
                              exact J159_75 (m319.1 8) (m319.1 12) (m350.1 12) (mO m575 [] []) (r32 (by omega) (by omega)) (r64 (by omega) (by omega)) (r64 (by omega) (by omega)) Tm575 (fr_m (fr_s Fm575 (fr_m (fr_s Fm559 (fr_m (fr_s Fm549 (fr_m (fr_s Fm367 (fr_m (fr_s Fm350 (fr_m (fr_s Fm335 (fr_m (fr_s Fm319 (fr_m fr_0 rfl rfl) rfl rfl) rfl rfl) rfl rfl) rfl rfl) rfl rfl) rfl rfl) rfl rfl) rfl rfl) rfl rfl) rfl rfl) rfl rfl) rfl rfl) rfl rfl) rfl rfl) (show 0 ≤ (m319.1 8) by omega) (show (m319.1 8) ≤ 4000 by omega) (show 0 ≤ (m319.1 12) - (m350.1 12) ∧ (m319.1 12) - (m350.1 12) ≤ 63 by omega) (show 0 ≤ (m.1 70) ∧ (m.1 70) ≤ 4000 by omega) (show 1 ≤ (m575.1 10) by omega)
                          · skip
                            replace h560 : LxP (m559.1 7) (m559.1 8) (m559.1 9) (m549.1 6) (m559.1 10) := h560
                            rewrite [(show (m549.1 6) = (m.1 6) from ((fr1 Fm549 6 rfl).trans ((fr1 Fm367 6 rfl).trans ((fr1 Fm350 6 rfl).trans ((fr1 Fm335 6 rfl).trans (fr1 Fm319 6 rfl))))))] at h560
                            have hLx := h560
                            clear h561
                            replace h562 : (m549.1 8) ≤ (m559.1 8) := h562
                            rewrite [(show (m549.1 8) = (m367.1 8) from (fr1 Fm549 8 rfl))] at h562
                            clear h563
                            have hf594 : 1 ≤ (m559.1 10) := by omega
                            clear g372 g373 g374 g377 u379 g552 g553 u556 h562
                            refine Tm_lv (a := [(0, .ref 189), (1, .int (i32 (m319.1 8))), (2, .long (i64 (m319.1 12))), (4, .long (i64 (m350.1 12)))]) rfl rfl ⟨rfl, rfl, rfl, rfl, trivial⟩ ?_
                            exact J127_97 (m319.1 8) (m319.1 12) (m350.1 12) (mO m559 [] []) (r32 (by omega) (by omega)) (r64 (by omega) (by omega)) (r64 (by omega) (by omega)) Tm559 (fr_m (fr_s Fm559 (fr_m (fr_s Fm549 (fr_m (fr_s Fm367 (fr_m (fr_s Fm350 (fr_m (fr_s Fm335 (fr_m (fr_s Fm319 (fr_m fr_0 rfl rfl) rfl rfl) rfl rfl) rfl rfl) rfl rfl) rfl rfl) rfl rfl) rfl rfl) rfl rfl) rfl rfl) rfl rfl) rfl rfl) rfl rfl) (show 0 ≤ (m319.1 8) by omega) (show (m319.1 8) ≤ 4000 by omega) (show 1 ≤ (m559.1 10) by omega)
                        · skip
                          clear c551
                          clear h550
                          have hf595 : 1 ≤ (m549.1 10) := by omega
                          clear g375 g376 h368 h380 h382a h382b h382c h382d h382e h383 h436a h436b h436c h436d h436e h437 h490a h490b h490c h490d h490e h491 h544a h544b h544c h544d h544e h545
                          refine Tm_lv (a := [(0, .ref 189), (1, .int (i32 (m319.1 8))), (2, .long (i64 (m319.1 12))), (4, .long (i64 (m350.1 12)))]) rfl rfl ⟨rfl, rfl, rfl, rfl, trivial⟩ ?_
                          exact J121_112 (m319.1 8) (m319.1 12) (m350.1 12) (mO m549 [] []) (r32 (by omega) (by omega)) (r64 (by omega) (by omega)) (r64 (by omega) (by omega)) Tm549 (fr_m (fr_s Fm549 (fr_m (fr_s Fm367 (fr_m (fr_s Fm350 (fr_m (fr_s Fm335 (fr_m (fr_s Fm319 (fr_m fr_0 rfl rfl) rfl rfl) rfl rfl) rfl rfl) rfl rfl) rfl rfl) rfl rfl) rfl rfl) rfl rfl) rfl rfl) rfl rfl) (show 0 ≤ (m319.1 8) by omega) (show (m319.1 8) ≤ 4000 by omega) (show 1 ≤ (m549.1 10) by omega)
                      · skip
                        have hl596 : (m319.1 12) < (m.1 69) := by omega
                        refine T_ld 113 (.int (i32 1)) rfl (fun _ => rfl) ?_
                        refine T_goto 117 rfl (fun _ => rfl) ?_
                        refine T_ld 118 (.int (i32 (m319.1 8))) rfl (fun _ => rfl) ?_
                        refine T_call 121 256 [.ref 189, .int (i32 1), .int (i32 (m319.1 8))] [] rfl (fun _ => rfl) rfl (c_want w (mO m367 [] []) c N D (by omega) Tm367 1 (m319.1 8) ⟨by decide, by decide⟩ (r32 (by omega) (by omega)) (show 0 ≤ (m319.1 8) ∧ (m319.1 8) ≤ 4000 by omega) (fun _ => trivial)) (fun rr597 k598 => ?_)
                        obtain ⟨m599, Tm599, Fm599, h600, c601, rfl⟩ := k598
                        refine ⟨_, _, rfl, ?_⟩
                        refine T_nb (st' := []) rfl ?_
                        have g602 : 0 ≤ m599.1 10 ∧ m599.1 10 ≤ 8 := Tm599.1 10
                        have g603 : (-1) ≤ m599.1 11 ∧ m599.1 11 ≤ 4000 := Tm599.1 11
                        by_cases hf604 : (m599.1 10) = 0
                        · skip
                          replace h600 : (m367.1 10) = 0 := h600 hf604
                          have c605 := c601 hf604
                          replace c605 : (1 : Int) ≠ 0 := c605
                          clear c601
                          have u606 : (m.1 8) + 1 ≤ (m367.1 8) := by omega
                          have hAgC : agr (m.2 65) (m.2 65) (m.1 28) := by first | exact agr_r _ _ | exact hAgC | exact agr_t hAgC hAg (by omega)
                          clear g375 g376 h368 h380 h382a h382b h382c h382d h382e h383 h436a h436b h436c h436d h436e h437 h490a h490b h490c h490d h490e h491 h544a h544b h544c h544d h544e h545 h600
                          refine T_ld 122 (.ref 189) rfl (fun _ => rfl) ?_
                          refine T_ld 124 (.int (i32 93)) rfl (fun _ => rfl) ?_
                          refine T_call 127 232 [.ref 189, .int (i32 93)] [] rfl (fun _ => rfl) rfl (d_need w (mO m599 [] []) c N D (by omega) Tm599 93 ⟨by decide, by decide⟩ (show 1 ≤ (93 : Int) by omega) (show LxP (m599.1 7) (m599.1 8) (m599.1 9) (m599.1 6) (m599.1 10) by rewrite [(show (m599.1 7) = (m367.1 7) from (fr1 Fm599 7 rfl)), (show (m599.1 8) = (m367.1 8) from (fr1 Fm599 8 rfl)), (show (m599.1 9) = (m367.1 9) from (fr1 Fm599 9 rfl)), (show (m599.1 6) = (m.1 6) from ((fr1 Fm599 6 rfl).trans ((fr1 Fm367 6 rfl).trans ((fr1 Fm350 6 rfl).trans ((fr1 Fm335 6 rfl).trans (fr1 Fm319 6 rfl))))))]; first | exact hLx | (intro h9; exfalso; omega) | (intro h9; have h8 := hLx (by omega); omega))) (fun rr607 k608 => ?_)
                          obtain ⟨m609, Tm609, Fm609, h610, h611, h612, h613, rfl⟩ := k608
                          refine ⟨_, _, rfl, ?_⟩
                          refine T_nb (st' := []) rfl ?_
                          have g614 : 0 ≤ m609.1 7 ∧ m609.1 7 ≤ 330 := Tm609.1 7
                          have g615 : 0 ≤ m609.1 8 ∧ m609.1 8 ≤ 4000 := Tm609.1 8
                          have g616 : 0 ≤ m609.1 9 ∧ m609.1 9 ≤ 4000 := Tm609.1 9
                          have g617 : 0 ≤ m609.1 10 ∧ m609.1 10 ≤ 8 := Tm609.1 10
                          have g618 : (-1) ≤ m609.1 11 ∧ m609.1 11 ≤ 4000 := Tm609.1 11
                          have g619 : (-9223372036854775808) ≤ m609.1 12 ∧ m609.1 12 ≤ 9223372036854775807 := Tm609.1 12
                          by_cases hf620 : (m609.1 10) = 0
                          · skip
                            replace h610 : LxP (m609.1 7) (m609.1 8) (m609.1 9) (m599.1 6) (m609.1 10) := h610
                            rewrite [(show (m599.1 6) = (m.1 6) from ((fr1 Fm599 6 rfl).trans ((fr1 Fm367 6 rfl).trans ((fr1 Fm350 6 rfl).trans ((fr1 Fm335 6 rfl).trans (fr1 Fm319 6 rfl))))))] at h610
                            have hLx := h610
                            replace h611 : (m599.1 10) = 0 ∧ (m599.1 7) = (93 : Int) := h611 hf620
                            rewrite [(show (m599.1 7) = (m367.1 7) from (fr1 Fm599 7 rfl))] at h611
                            replace h612 : (m599.1 8) ≤ (m609.1 8) := h612
                            rewrite [(show (m599.1 8) = (m367.1 8) from (fr1 Fm599 8 rfl))] at h612
                            replace h613 : (m599.1 8) + (m599.1 9) ≤ (m609.1 8) := h613 hf620
                            rewrite [(show (m599.1 8) = (m367.1 8) from (fr1 Fm599 8 rfl)), (show (m599.1 9) = (m367.1 9) from (fr1 Fm599 9 rfl))] at h613
                            have u621 : (m.1 8) + 1 ≤ (m609.1 8) := by omega
                            have hAgC : agr (m.2 65) (m.2 65) (m.1 28) := by first | exact agr_r _ _ | exact hAgC | exact agr_t hAgC hAg (by omega)
                            clear g372 g373 g374 g377 u379 g602 g603 u606 h611 h612 h613
                            refine T_gf 131 (.int (i32 (m609.1 10))) rfl rfl rfl rfl rfl rfl ?_
                            refine T_if 135 134 rfl rfl rfl (r32 (by omega) (by omega)) (fun (h622 : (m609.1 10) ≤ 0) => ?_) (fun (h622 : ¬ ((m609.1 10) ≤ 0)) => by exfalso; omega)
                            refine T_gf 139 (.int (i32 (m.1 70))) rfl rfl rfl rfl (mfv_c (F := fun x => .int (i32 x)) rfl (show (m609.1 70) = (m.1 70) from ((fr1 Fm609 70 rfl).trans ((fr1 Fm599 70 rfl).trans ((fr1 Fm367 70 rfl).trans ((fr1 Fm350 70 rfl).trans ((fr1 Fm335 70 rfl).trans (fr1 Fm319 70 rfl)))))))) rfl ?_
                            refine T_sto 141 [(6, .int (i32 (m.1 70))), (4, .long (i64 (m350.1 12))), (2, .long (i64 (m319.1 12))), (1, .int (i32 (m319.1 8))), (0, .ref 189)] rfl (fun _ => rfl) ?_
                            have hAr : ar 405 ≤ 1 + lh (m.2 79) (m.2 80) (m.1 73) := by rw [show ar 405 = 1 from rfl]; omega
                            have hCk : CNk 405 (m350.1 12) := by refine ⟨?_, ?_, ?_, ?_⟩ <;> omega
                            refine T_ld 142 (.ref 189) rfl (fun _ => rfl) ?_
                            refine T_ld 145 (.int (i32 405)) rfl (fun _ => rfl) ?_
                            refine T_ld 146 (.long (i64 (m319.1 12))) rfl (fun _ => rfl) ?_
                            refine T_ld 148 (.long (i64 (m350.1 12))) rfl (fun _ => rfl) ?_
                            refine T_lsub 149 rfl rfl ?_
                            refine T_l2i 150 rfl rfl ?_
                            refine T_ld 151 (.int (i32 1)) rfl (fun _ => rfl) ?_
                            refine T_iadd 152 rfl rfl ?_
                            refine T_ld 154 (.long (i64 (m350.1 12))) rfl (fun _ => rfl) ?_
                            refine T_l2i 155 rfl rfl ?_
                            refine T_ld 156 (.long (i64 0)) rfl (fun _ => rfl) ?_
                            refine T_call 159 248 [.ref 189, .int (i32 405), .int (i32 (((m319.1 12) - (m350.1 12)) + 1)), .int (i32 (m350.1 12)), .long (i64 0)] [] rfl (fun _ => rfl) rfl (c_node w (mO m609 [] []) c N D (by omega) Tm609 405 (((m319.1 12) - (m350.1 12)) + 1) (m350.1 12) 0 B (1 + lh (m.2 79) (m.2 80) (m.1 73)) ⟨by decide, by decide⟩ (r32 (by omega) (by omega)) (r32 (by omega) (by omega)) ⟨by decide, by decide⟩ (fun _ => ⟨(show 0 ≤ (405 : Int) ∧ (405 : Int) ≤ 408 by first | omega | decide), (show 0 ≤ (((m319.1 12) - (m350.1 12)) + 1) ∧ (((m319.1 12) - (m350.1 12)) + 1) ≤ 64 by first | omega | decide), (show 0 ≤ (m350.1 12) ∧ (m350.1 12) ≤ 191 by first | omega | decide), (show CNk (405 : Int) (m350.1 12) by first | exact hCk | (refine ⟨?_, ?_, ?_, ?_⟩ <;> omega)), (show ar (405 : Int) ≤ (1 + lh (m.2 79) (m.2 80) (m.1 73)) by first | exact hAr | omega), (show EX (m609.2 65) (m609.2 67) B (m609.1 28) (1 + lh (m.2 79) (m.2 80) (m.1 73)) by rewrite [(show (m609.2 65) = (m.2 65) from ((fr2 Fm609 65 rfl).trans ((fr2 Fm599 65 rfl).trans ((fr2 Fm367 65 rfl).trans ((fr2 Fm350 65 rfl).trans ((fr2 Fm335 65 rfl).trans (fr2 Fm319 65 rfl))))))), (show (m609.2 67) = (m.2 67) from ((fr2 Fm609 67 rfl).trans ((fr2 Fm599 67 rfl).trans ((fr2 Fm367 67 rfl).trans ((fr2 Fm350 67 rfl).trans ((fr2 Fm335 67 rfl).trans (fr2 Fm319 67 rfl))))))), (show (m609.1 28) = (m.1 28) from ((fr1 Fm609 28 rfl).trans ((fr1 Fm599 28 rfl).trans ((fr1 Fm367 28 rfl).trans ((fr1 Fm350 28 rfl).trans ((fr1 Fm335 28 rfl).trans (fr1 Fm319 28 rfl)))))))]; first | exact hEX | assumption)⟩)) (fun rr623 k624 => ?_)
                            obtain ⟨m625, Tm625, Fm625, h626, c627, rfl⟩ := k624
                            refine ⟨_, _, rfl, ?_⟩
                            refine T_nb (st' := []) rfl ?_
                            have g628 : 0 ≤ m625.1 10 ∧ m625.1 10 ≤ 8 := Tm625.1 10
                            have g629 : (-1) ≤ m625.1 11 ∧ m625.1 11 ≤ 4000 := Tm625.1 11
                            have g630 : 0 ≤ m625.1 28 ∧ m625.1 28 ≤ 800 := Tm625.1 28
                            by_cases hf631 : (m625.1 10) = 0
                            · skip
                              replace h626 : (m609.1 10) = 0 := h626 hf631
                              obtain ⟨c632, c633, c634⟩ := c627 hf631
                              replace c632 : (m625.1 28) = (m609.1 28) + 1 := c632
                              rewrite [(show (m609.1 28) = (m.1 28) from ((fr1 Fm609 28 rfl).trans ((fr1 Fm599 28 rfl).trans ((fr1 Fm367 28 rfl).trans ((fr1 Fm350 28 rfl).trans ((fr1 Fm335 28 rfl).trans (fr1 Fm319 28 rfl)))))))] at c632
                              replace c633 : EX (m625.2 65) (m625.2 67) B (m625.1 28) ((1 + lh (m.2 79) (m.2 80) (m.1 73)) + 1 - ar (405 : Int)) := c633
                              have hEX := c633
                              replace c634 : agr (m609.2 65) (m625.2 65) (m609.1 28) := c634
                              rewrite [(show (m609.2 65) = (m.2 65) from ((fr2 Fm609 65 rfl).trans ((fr2 Fm599 65 rfl).trans ((fr2 Fm367 65 rfl).trans ((fr2 Fm350 65 rfl).trans ((fr2 Fm335 65 rfl).trans (fr2 Fm319 65 rfl))))))), (show (m609.1 28) = (m.1 28) from ((fr1 Fm609 28 rfl).trans ((fr1 Fm599 28 rfl).trans ((fr1 Fm367 28 rfl).trans ((fr1 Fm350 28 rfl).trans ((fr1 Fm335 28 rfl).trans (fr1 Fm319 28 rfl)))))))] at c634
                              have hAg := c634
                              clear c627
                              have u635 : (m.1 8) + 1 ≤ (m609.1 8) := by omega
                              have hAgC : agr (m.2 65) (m625.2 65) (m.1 28) := by first | exact agr_r _ _ | exact hAgC | exact agr_t hAgC hAg (by omega)
                              clear g617 g618 h610 h622 h626
                              refine T_ld 160 (.ref 189) rfl (fun _ => rfl) ?_
                              refine T_ld 161 (.long (i64 (m319.1 12))) rfl (fun _ => rfl) ?_
                              refine T_ld 163 (.long (i64 (m350.1 12))) rfl (fun _ => rfl) ?_
                              refine T_lsub 164 rfl rfl ?_
                              refine T_l2i 165 rfl rfl ?_
                              refine T_ld 166 (.int (i32 1)) rfl (fun _ => rfl) ?_
                              refine T_iadd 167 rfl rfl ?_
                              refine T_ld 169 (.int (i32 (m.1 70))) rfl (fun _ => rfl) ?_
                              refine T_call 172 250 [.ref 189, .int (i32 (((m319.1 12) - (m350.1 12)) + 1)), .int (i32 (m.1 70))] [] rfl (fun _ => rfl) rfl (c_unit w (mO m625 [] []) c N D (by omega) Tm625 (((m319.1 12) - (m350.1 12)) + 1) (m.1 70) (r32 (by omega) (by omega)) (r32 (by omega) (by omega)) (show 0 ≤ (((m319.1 12) - (m350.1 12)) + 1) ∧ (((m319.1 12) - (m350.1 12)) + 1) ≤ 1024 by omega) (show 0 ≤ (m.1 70) ∧ (m.1 70) ≤ 4000 by omega)) (fun rr636 k637 => ?_)
                              obtain ⟨m638, Tm638, Fm638, h639, rfl⟩ := k637
                              refine ⟨_, _, rfl, ?_⟩
                              refine T_nb (st' := []) rfl ?_
                              have g640 : 0 ≤ m638.1 69 ∧ m638.1 69 ≤ 1024 := Tm638.1 69
                              have g641 : 0 ≤ m638.1 70 ∧ m638.1 70 ≤ 4000 := Tm638.1 70
                              replace h639 : (m638.1 69) = (((m319.1 12) - (m350.1 12)) + 1) := h639
                              have u642 : (m.1 8) + 1 ≤ (m609.1 8) := by omega
                              have hAgC : agr (m.2 65) (m625.2 65) (m.1 28) := by first | exact agr_r _ _ | exact hAgC | exact agr_t hAgC hAg (by omega)
                              have hXE : XS (m625.2 65) (m625.2 67) (m.2 76) (m.2 78) (m.2 79) (m.2 80) B (m625.1 28) (m.1 73) (m.1 74) 1 := XS_of hXS hEX (by rw [show ar 405 = 1 from rfl]; omega)
                              refine T_goto 224 rfl (fun _ => rfl) ?_
                              refine T_ret rfl (fun _ => rfl) ?_
                              exact ⟨(mO m638 [] []), Tm638, (fr_m (fr_s Fm638 (fr_m (fr_s Fm625 (fr_m (fr_s Fm609 (fr_m (fr_s Fm599 (fr_m (fr_s Fm367 (fr_m (fr_s Fm350 (fr_m (fr_s Fm335 (fr_m (fr_s Fm319 (fr_m fr_0 rfl rfl) rfl rfl) rfl rfl) rfl rfl) rfl rfl) rfl rfl) rfl rfl) rfl rfl) rfl rfl) rfl rfl) rfl rfl) rfl rfl) rfl rfl) rfl rfl) rfl rfl) rfl rfl) rfl rfl), (show (m638.1 10) = 0 → (m.1 10) = 0 by rewrite [(show (m638.1 10) = (m625.1 10) from (fr1 Fm638 10 rfl))]; omega), (show LxP (m638.1 7) (m638.1 8) (m638.1 9) (m.1 6) (m638.1 10) by rewrite [(show (m638.1 7) = (m609.1 7) from ((fr1 Fm638 7 rfl).trans (fr1 Fm625 7 rfl))), (show (m638.1 8) = (m609.1 8) from ((fr1 Fm638 8 rfl).trans (fr1 Fm625 8 rfl))), (show (m638.1 9) = (m609.1 9) from ((fr1 Fm638 9 rfl).trans (fr1 Fm625 9 rfl))), (show (m638.1 10) = (m625.1 10) from (fr1 Fm638 10 rfl))]; first | (first | exact hLx | exact (fun _ => hLx (by omega)) | (intro h9; exfalso; omega)) | (exfalso; omega)), (fun _ => ⟨(show ((m638.1 75) = 1 ∧ (m.1 8) + 1 ≤ (m638.1 8)) ∨ ((m638.1 75) = 2 ∧ (m638.1 8) = (m.1 8)) by rewrite [(show (m638.1 75) = (m.1 75) from ((fr1 Fm638 75 rfl).trans ((fr1 Fm625 75 rfl).trans ((fr1 Fm609 75 rfl).trans ((fr1 Fm599 75 rfl).trans ((fr1 Fm367 75 rfl).trans ((fr1 Fm350 75 rfl).trans ((fr1 Fm335 75 rfl).trans (fr1 Fm319 75 rfl))))))))), (show (m638.1 8) = (m609.1 8) from ((fr1 Fm638 8 rfl).trans (fr1 Fm625 8 rfl)))]; omega), (show (m638.1 69) ≤ 64 by omega), (show (m.1 28) ≤ (m638.1 28) by rewrite [(show (m638.1 28) = (m625.1 28) from (fr1 Fm638 28 rfl))]; omega), (show XS (m638.2 65) (m638.2 67) (m.2 76) (m.2 78) (m.2 79) (m.2 80) B (m638.1 28) (m.1 73) (m.1 74) 1 by rewrite [(show (m638.2 65) = (m625.2 65) from (fr2 Fm638 65 rfl)), (show (m638.2 67) = (m625.2 67) from (fr2 Fm638 67 rfl)), (show (m638.1 28) = (m625.1 28) from (fr1 Fm638 28 rfl))]; first | (exact hXE) | (exfalso; omega)), (show agr (m.2 65) (m638.2 65) (m.1 28) by rewrite [(show (m638.2 65) = (m625.2 65) from (fr2 Fm638 65 rfl))]; first | (exact hAgC) | (exfalso; omega))⟩), rfl⟩
                            · skip
                              clear c627
                              clear h626
                              have hf643 : 1 ≤ (m625.1 10) := by omega
                              clear g617 g618 h610 h622
                              refine Tm_lv (a := [(0, .ref 189), (1, .int (i32 (m319.1 8))), (2, .long (i64 (m319.1 12))), (4, .long (i64 (m350.1 12))), (6, .int (i32 (m.1 70)))]) rfl rfl ⟨rfl, rfl, rfl, rfl, rfl, trivial⟩ ?_
                              exact J159_75 (m319.1 8) (m319.1 12) (m350.1 12) (mO m625 [] []) (r32 (by omega) (by omega)) (r64 (by omega) (by omega)) (r64 (by omega) (by omega)) Tm625 (fr_m (fr_s Fm625 (fr_m (fr_s Fm609 (fr_m (fr_s Fm599 (fr_m (fr_s Fm367 (fr_m (fr_s Fm350 (fr_m (fr_s Fm335 (fr_m (fr_s Fm319 (fr_m fr_0 rfl rfl) rfl rfl) rfl rfl) rfl rfl) rfl rfl) rfl rfl) rfl rfl) rfl rfl) rfl rfl) rfl rfl) rfl rfl) rfl rfl) rfl rfl) rfl rfl) rfl rfl) (show 0 ≤ (m319.1 8) by omega) (show (m319.1 8) ≤ 4000 by omega) (show 0 ≤ (m319.1 12) - (m350.1 12) ∧ (m319.1 12) - (m350.1 12) ≤ 63 by omega) (show 0 ≤ (m.1 70) ∧ (m.1 70) ≤ 4000 by omega) (show 1 ≤ (m625.1 10) by omega)
                          · skip
                            replace h610 : LxP (m609.1 7) (m609.1 8) (m609.1 9) (m599.1 6) (m609.1 10) := h610
                            rewrite [(show (m599.1 6) = (m.1 6) from ((fr1 Fm599 6 rfl).trans ((fr1 Fm367 6 rfl).trans ((fr1 Fm350 6 rfl).trans ((fr1 Fm335 6 rfl).trans (fr1 Fm319 6 rfl))))))] at h610
                            have hLx := h610
                            clear h611
                            replace h612 : (m599.1 8) ≤ (m609.1 8) := h612
                            rewrite [(show (m599.1 8) = (m367.1 8) from (fr1 Fm599 8 rfl))] at h612
                            clear h613
                            have hf644 : 1 ≤ (m609.1 10) := by omega
                            clear g372 g373 g374 g377 u379 g602 g603 u606 h612
                            refine Tm_lv (a := [(0, .ref 189), (1, .int (i32 (m319.1 8))), (2, .long (i64 (m319.1 12))), (4, .long (i64 (m350.1 12)))]) rfl rfl ⟨rfl, rfl, rfl, rfl, trivial⟩ ?_
                            exact J127_97 (m319.1 8) (m319.1 12) (m350.1 12) (mO m609 [] []) (r32 (by omega) (by omega)) (r64 (by omega) (by omega)) (r64 (by omega) (by omega)) Tm609 (fr_m (fr_s Fm609 (fr_m (fr_s Fm599 (fr_m (fr_s Fm367 (fr_m (fr_s Fm350 (fr_m (fr_s Fm335 (fr_m (fr_s Fm319 (fr_m fr_0 rfl rfl) rfl rfl) rfl rfl) rfl rfl) rfl rfl) rfl rfl) rfl rfl) rfl rfl) rfl rfl) rfl rfl) rfl rfl) rfl rfl) rfl rfl) (show 0 ≤ (m319.1 8) by omega) (show (m319.1 8) ≤ 4000 by omega) (show 1 ≤ (m609.1 10) by omega)
                        · skip
                          clear c601
                          clear h600
                          have hf645 : 1 ≤ (m599.1 10) := by omega
                          clear g375 g376 h368 h380 h382a h382b h382c h382d h382e h383 h436a h436b h436c h436d h436e h437 h490a h490b h490c h490d h490e h491 h544a h544b h544c h544d h544e h545
                          refine Tm_lv (a := [(0, .ref 189), (1, .int (i32 (m319.1 8))), (2, .long (i64 (m319.1 12))), (4, .long (i64 (m350.1 12)))]) rfl rfl ⟨rfl, rfl, rfl, rfl, trivial⟩ ?_
                          exact J121_112 (m319.1 8) (m319.1 12) (m350.1 12) (mO m599 [] []) (r32 (by omega) (by omega)) (r64 (by omega) (by omega)) (r64 (by omega) (by omega)) Tm599 (fr_m (fr_s Fm599 (fr_m (fr_s Fm367 (fr_m (fr_s Fm350 (fr_m (fr_s Fm335 (fr_m (fr_s Fm319 (fr_m fr_0 rfl rfl) rfl rfl) rfl rfl) rfl rfl) rfl rfl) rfl rfl) rfl rfl) rfl rfl) rfl rfl) rfl rfl) rfl rfl) (show 0 ≤ (m319.1 8) by omega) (show (m319.1 8) ≤ 4000 by omega) (show 1 ≤ (m599.1 10) by omega)
              · skip
                replace h368 : LxP (m367.1 7) (m367.1 8) (m367.1 9) (m350.1 6) (m367.1 10) := h368
                rewrite [(show (m350.1 6) = (m.1 6) from ((fr1 Fm350 6 rfl).trans ((fr1 Fm335 6 rfl).trans (fr1 Fm319 6 rfl))))] at h368
                have hLx := h368
                clear h369
                replace h370 : (m350.1 8) ≤ (m367.1 8) := h370
                clear h371
                have hf646 : 1 ≤ (m367.1 10) := by omega
                clear g355 g356 g357 g358 g359 h351 u362 h363 h364 h370
                refine Tm_lv (a := [(0, .ref 189), (1, .int (i32 (m319.1 8))), (2, .long (i64 (m319.1 12))), (4, .long (i64 (m350.1 12)))]) rfl rfl ⟨rfl, rfl, rfl, rfl, trivial⟩ ?_
                exact J74_140 (m319.1 8) (m319.1 12) (m350.1 12) (mO m367 [] []) (r32 (by omega) (by omega)) (r64 (by omega) (by omega)) (r64 (by omega) (by omega)) Tm367 (fr_m (fr_s Fm367 (fr_m (fr_s Fm350 (fr_m (fr_s Fm335 (fr_m (fr_s Fm319 (fr_m fr_0 rfl rfl) rfl rfl) rfl rfl) rfl rfl) rfl rfl) rfl rfl) rfl rfl) rfl rfl) rfl rfl) (show 0 ≤ (m319.1 8) by omega) (show (m319.1 8) ≤ 4000 by omega) (show 1 ≤ (m367.1 10) by omega)
            · skip
              refine T_ld 61 (.ref 189) rfl (fun _ => rfl) ?_
              refine T_call 64 226 [.ref 189] [] rfl (fun _ => rfl) rfl (d_bad w (mO m350 [] []) c N D (by omega) Tm350 ) (fun rr647 k648 => ?_)
              obtain ⟨m649, Tm649, Fm649, h650, rfl⟩ := k648
              refine ⟨_, _, rfl, ?_⟩
              refine T_nb (st' := []) rfl ?_
              have g651 : 0 ≤ m649.1 10 ∧ m649.1 10 ≤ 8 := Tm649.1 10
              have g652 : (-1) ≤ m649.1 11 ∧ m649.1 11 ≤ 4000 := Tm649.1 11
              replace h650 : (0 < (m350.1 10) → (m649.1 10) = (m350.1 10) ∧ (m649.1 11) = (m350.1 11)) ∧ ((m350.1 10) ≤ 0 → (m649.1 10) = 1 ∧ (m649.1 11) = (m350.1 8)) := h650
              have hf653 : 1 ≤ (m649.1 10) := by omega
              clear g358 g359 h351 h363 h650
              refine T_gf 68 (.long (i64 (m350.1 12))) rfl rfl rfl rfl (mfv_c (F := fun x => .long (i64 x)) rfl (show (m649.1 12) = (m350.1 12) from (fr1 Fm649 12 rfl))) rfl ?_
              refine T_sto 70 [(4, .long (i64 (m350.1 12))), (2, .long (i64 (m319.1 12))), (1, .int (i32 (m319.1 8))), (0, .ref 189)] rfl (fun _ => rfl) ?_
              refine T_ld 71 (.ref 189) rfl (fun _ => rfl) ?_
              refine T_call 74 212 [.ref 189] [] rfl (fun _ => rfl) rfl (d_next w (mO m649 [] []) c N D (by omega) Tm649 (show (m649.1 10) = 0 → (m649.1 8) + (m649.1 9) ≤ (m649.1 6) by rewrite [(show (m649.1 8) = (m350.1 8) from (fr1 Fm649 8 rfl)), (show (m649.1 9) = (m350.1 9) from (fr1 Fm649 9 rfl)), (show (m649.1 6) = (m.1 6) from ((fr1 Fm649 6 rfl).trans ((fr1 Fm350 6 rfl).trans ((fr1 Fm335 6 rfl).trans (fr1 Fm319 6 rfl)))))]; first | omega | (intro h9; have h8 := hLx h9; omega))) (fun rr654 k655 => ?_)
              obtain ⟨m656, Tm656, Fm656, h657, h658, h659, h660, rfl⟩ := k655
              refine ⟨_, _, rfl, ?_⟩
              refine T_nb (st' := []) rfl ?_
              have g661 : 0 ≤ m656.1 7 ∧ m656.1 7 ≤ 330 := Tm656.1 7
              have g662 : 0 ≤ m656.1 8 ∧ m656.1 8 ≤ 4000 := Tm656.1 8
              have g663 : 0 ≤ m656.1 9 ∧ m656.1 9 ≤ 4000 := Tm656.1 9
              have g664 : 0 ≤ m656.1 10 ∧ m656.1 10 ≤ 8 := Tm656.1 10
              have g665 : (-1) ≤ m656.1 11 ∧ m656.1 11 ≤ 4000 := Tm656.1 11
              have g666 : (-9223372036854775808) ≤ m656.1 12 ∧ m656.1 12 ≤ 9223372036854775807 := Tm656.1 12
              replace h657 : LxP (m656.1 7) (m656.1 8) (m656.1 9) (m649.1 6) (m656.1 10) := h657
              rewrite [(show (m649.1 6) = (m.1 6) from ((fr1 Fm649 6 rfl).trans ((fr1 Fm350 6 rfl).trans ((fr1 Fm335 6 rfl).trans (fr1 Fm319 6 rfl)))))] at h657
              replace h658 : (m656.1 10) = 0 → (m649.1 10) = 0 := h658
              replace h659 : (m649.1 8) ≤ (m656.1 8) := h659
              rewrite [(show (m649.1 8) = (m350.1 8) from (fr1 Fm649 8 rfl))] at h659
              replace h660 : (m656.1 10) = 0 → (m649.1 8) + (m649.1 9) ≤ (m656.1 8) := h660
              rewrite [(show (m649.1 8) = (m350.1 8) from (fr1 Fm649 8 rfl)), (show (m649.1 9) = (m350.1 9) from (fr1 Fm649 9 rfl))] at h660
              have hf667 : 1 ≤ (m656.1 10) := by omega
              clear h658
              clear h660
              have hLx := h657
              clear g355 g356 g357 u362 h364 g651 g652 hf653 h659
              refine Tm_lv (a := [(0, .ref 189), (1, .int (i32 (m319.1 8))), (2, .long (i64 (m319.1 12))), (4, .long (i64 (m350.1 12)))]) rfl rfl ⟨rfl, rfl, rfl, rfl, trivial⟩ ?_
              exact J74_140 (m319.1 8) (m319.1 12) (m350.1 12) (mO m656 [] []) (r32 (by omega) (by omega)) (r64 (by omega) (by omega)) (r64 (by omega) (by omega)) Tm656 (fr_m (fr_s Fm656 (fr_m (fr_s Fm649 (fr_m (fr_s Fm350 (fr_m (fr_s Fm335 (fr_m (fr_s Fm319 (fr_m fr_0 rfl rfl) rfl rfl) rfl rfl) rfl rfl) rfl rfl) rfl rfl) rfl rfl) rfl rfl) rfl rfl) rfl rfl) rfl rfl) (show 0 ≤ (m319.1 8) by omega) (show (m319.1 8) ≤ 4000 by omega) (show 1 ≤ (m656.1 10) by omega)
          · skip
            replace h351 : LxP (m350.1 7) (m350.1 8) (m350.1 9) (m335.1 6) (m350.1 10) := h351
            rewrite [(show (m335.1 6) = (m.1 6) from ((fr1 Fm335 6 rfl).trans (fr1 Fm319 6 rfl)))] at h351
            have hLx := h351
            clear h352
            replace h353 : (m335.1 8) ≤ (m350.1 8) := h353
            clear h354
            have hf668 : 1 ≤ (m350.1 10) := by omega
            clear g340 g341 g342 g343 g344 g345 h336 h338 u347 h353
            refine Tm_lv (a := [(0, .ref 189), (1, .int (i32 (m319.1 8))), (2, .long (i64 (m319.1 12)))]) rfl rfl ⟨rfl, rfl, rfl, trivial⟩ ?_
            exact J45_168 (m319.1 8) (m319.1 12) (mO m350 [] []) (r32 (by omega) (by omega)) (r64 (by omega) (by omega)) Tm350 (fr_m (fr_s Fm350 (fr_m (fr_s Fm335 (fr_m (fr_s Fm319 (fr_m fr_0 rfl rfl) rfl rfl) rfl rfl) rfl rfl) rfl rfl) rfl rfl) rfl rfl) (show 0 ≤ (m319.1 8) by omega) (show (m319.1 8) ≤ 4000 by omega) (show 1 ≤ (m350.1 10) by omega)
        · skip
          replace h336 : LxP (m335.1 7) (m335.1 8) (m335.1 9) (m319.1 6) (m335.1 10) := h336
          rewrite [(show (m319.1 6) = (m.1 6) from (fr1 Fm319 6 rfl))] at h336
          have hLx := h336
          clear h337
          replace h338 : (m319.1 8) ≤ (m335.1 8) := h338
          clear h339
          have hf669 : 1 ≤ (m335.1 10) := by omega
          clear g324 g326 g327 g328 h320 h332
          refine Tm_lv (a := [(0, .ref 189), (1, .int (i32 (m319.1 8))), (2, .long (i64 (m319.1 12)))]) rfl rfl ⟨rfl, rfl, rfl, trivial⟩ ?_
          exact J39_195 (m319.1 8) (m319.1 12) (mO m335 [] []) (r32 (by omega) (by omega)) (r64 (by omega) (by omega)) Tm335 (fr_m (fr_s Fm335 (fr_m (fr_s Fm319 (fr_m fr_0 rfl rfl) rfl rfl) rfl rfl) rfl rfl) rfl rfl) (show 0 ≤ (m319.1 8) by omega) (show (m319.1 8) ≤ 4000 by omega) (show 1 ≤ (m335.1 10) by omega)
      · skip
        refine T_ld 27 (.ref 189) rfl (fun _ => rfl) ?_
        refine T_call 30 226 [.ref 189] [] rfl (fun _ => rfl) rfl (d_bad w (mO m319 [] []) c N D (by omega) Tm319 ) (fun rr670 k671 => ?_)
        obtain ⟨m672, Tm672, Fm672, h673, rfl⟩ := k671
        refine ⟨_, _, rfl, ?_⟩
        refine T_nb (st' := []) rfl ?_
        have g674 : 0 ≤ m672.1 10 ∧ m672.1 10 ≤ 8 := Tm672.1 10
        have g675 : (-1) ≤ m672.1 11 ∧ m672.1 11 ≤ 4000 := Tm672.1 11
        replace h673 : (0 < (m319.1 10) → (m672.1 10) = (m319.1 10) ∧ (m672.1 11) = (m319.1 11)) ∧ ((m319.1 10) ≤ 0 → (m672.1 10) = 1 ∧ (m672.1 11) = (m319.1 8)) := h673
        have hf676 : 1 ≤ (m672.1 10) := by omega
        clear g327 g328 h320 h673
        refine Tm_lv (a := [(0, .ref 189), (1, .int (i32 (m319.1 8)))]) rfl rfl ⟨rfl, rfl, trivial⟩ ?_
        exact J30_220 (m319.1 8) (mO m672 [] []) (r32 (by omega) (by omega)) Tm672 (fr_m (fr_s Fm672 (fr_m (fr_s Fm319 (fr_m fr_0 rfl rfl) rfl rfl) rfl rfl) rfl rfl) rfl rfl) (show 0 ≤ (m319.1 8) by omega) (show (m319.1 8) ≤ 4000 by omega) (show 1 ≤ (m672.1 10) by omega)
    · skip
      replace h320 : LxP (m319.1 7) (m319.1 8) (m319.1 9) (m.1 6) (m319.1 10) := h320
      have hLx := h320
      clear h321
      replace h322 : (m.1 8) ≤ (m319.1 8) := h322
      clear h323
      have hf677 : 1 ≤ (m319.1 10) := by omega
      refine T_gf 17 (.int (i32 (m319.1 8))) rfl rfl rfl rfl rfl rfl ?_
      refine T_sto 18 [(1, .int (i32 (m319.1 8))), (0, .ref 189)] rfl (fun _ => rfl) ?_
      refine T_gf 22 (.int (i32 (m319.1 7))) rfl rfl rfl rfl rfl rfl ?_
      refine T_ld 23 (.int (i32 2)) rfl (fun _ => rfl) ?_
      refine T_icmp 30 26 rfl rfl rfl (r32 (by omega) (by omega)) ⟨by decide, by decide⟩ (fun (h678 : (m319.1 7) = 2) => ?_) (fun (h678 : ¬ ((m319.1 7) = 2)) => ?_)
      · skip
        refine T_gf 34 (.long (i64 (m319.1 12))) rfl rfl rfl rfl rfl rfl ?_
        refine T_sto 35 [(2, .long (i64 (m319.1 12))), (1, .int (i32 (m319.1 8))), (0, .ref 189)] rfl (fun _ => rfl) ?_
        refine T_ld 36 (.ref 189) rfl (fun _ => rfl) ?_
        refine T_call 39 212 [.ref 189] [] rfl (fun _ => rfl) rfl (d_next w (mO m319 [] []) c N D (by omega) Tm319 (show (m319.1 10) = 0 → (m319.1 8) + (m319.1 9) ≤ (m319.1 6) by rewrite [(show (m319.1 6) = (m.1 6) from (fr1 Fm319 6 rfl))]; first | omega | (intro h9; have h8 := hLx h9; omega))) (fun rr679 k680 => ?_)
        obtain ⟨m681, Tm681, Fm681, h682, h683, h684, h685, rfl⟩ := k680
        refine ⟨_, _, rfl, ?_⟩
        refine T_nb (st' := []) rfl ?_
        have g686 : 0 ≤ m681.1 7 ∧ m681.1 7 ≤ 330 := Tm681.1 7
        have g687 : 0 ≤ m681.1 8 ∧ m681.1 8 ≤ 4000 := Tm681.1 8
        have g688 : 0 ≤ m681.1 9 ∧ m681.1 9 ≤ 4000 := Tm681.1 9
        have g689 : 0 ≤ m681.1 10 ∧ m681.1 10 ≤ 8 := Tm681.1 10
        have g690 : (-1) ≤ m681.1 11 ∧ m681.1 11 ≤ 4000 := Tm681.1 11
        have g691 : (-9223372036854775808) ≤ m681.1 12 ∧ m681.1 12 ≤ 9223372036854775807 := Tm681.1 12
        replace h682 : LxP (m681.1 7) (m681.1 8) (m681.1 9) (m319.1 6) (m681.1 10) := h682
        rewrite [(show (m319.1 6) = (m.1 6) from (fr1 Fm319 6 rfl))] at h682
        replace h683 : (m681.1 10) = 0 → (m319.1 10) = 0 := h683
        replace h684 : (m319.1 8) ≤ (m681.1 8) := h684
        replace h685 : (m681.1 10) = 0 → (m319.1 8) + (m319.1 9) ≤ (m681.1 8) := h685
        have hf692 : 1 ≤ (m681.1 10) := by omega
        clear h683
        clear h685
        have hLx := h682
        clear g324 g326 g327 g328 h320 hf677 h678
        refine Tm_lv (a := [(0, .ref 189), (1, .int (i32 (m319.1 8))), (2, .long (i64 (m319.1 12)))]) rfl rfl ⟨rfl, rfl, rfl, trivial⟩ ?_
        exact J39_195 (m319.1 8) (m319.1 12) (mO m681 [] []) (r32 (by omega) (by omega)) (r64 (by omega) (by omega)) Tm681 (fr_m (fr_s Fm681 (fr_m (fr_s Fm319 (fr_m fr_0 rfl rfl) rfl rfl) rfl rfl) rfl rfl) rfl rfl) (show 0 ≤ (m319.1 8) by omega) (show (m319.1 8) ≤ 4000 by omega) (show 1 ≤ (m681.1 10) by omega)
      · skip
        refine T_ld 27 (.ref 189) rfl (fun _ => rfl) ?_
        refine T_call 30 226 [.ref 189] [] rfl (fun _ => rfl) rfl (d_bad w (mO m319 [] []) c N D (by omega) Tm319 ) (fun rr693 k694 => ?_)
        obtain ⟨m695, Tm695, Fm695, h696, rfl⟩ := k694
        refine ⟨_, _, rfl, ?_⟩
        refine T_nb (st' := []) rfl ?_
        have g697 : 0 ≤ m695.1 10 ∧ m695.1 10 ≤ 8 := Tm695.1 10
        have g698 : (-1) ≤ m695.1 11 ∧ m695.1 11 ≤ 4000 := Tm695.1 11
        replace h696 : (0 < (m319.1 10) → (m695.1 10) = (m319.1 10) ∧ (m695.1 11) = (m319.1 11)) ∧ ((m319.1 10) ≤ 0 → (m695.1 10) = 1 ∧ (m695.1 11) = (m319.1 8)) := h696
        have hf699 : 1 ≤ (m695.1 10) := by omega
        clear g327 g328 h320 hf677 h696
        refine Tm_lv (a := [(0, .ref 189), (1, .int (i32 (m319.1 8)))]) rfl rfl ⟨rfl, rfl, trivial⟩ ?_
        exact J30_220 (m319.1 8) (mO m695 [] []) (r32 (by omega) (by omega)) Tm695 (fr_m (fr_s Fm695 (fr_m (fr_s Fm319 (fr_m fr_0 rfl rfl) rfl rfl) rfl rfl) rfl rfl) rfl rfl) (show 0 ≤ (m319.1 8) by omega) (show (m319.1 8) ≤ 4000 by omega) (show 1 ≤ (m695.1 10) by omega)
