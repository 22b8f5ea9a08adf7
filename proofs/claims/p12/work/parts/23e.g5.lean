def Q_after (m : mR) (c : Nat → Option am_C) (N : Nat) (B : Int) : ag_Re af_T → Prop := fun R => ∃ (M : mR), Ty M ∧ ((M.1 10) = 0 → (m.1 10) = 0) ∧ (LxP (M.1 7) (M.1 8) (M.1 9) (m.1 6) (M.1 10)) ∧ (M.1 10 = 0 → (((M.1 75) = 1 ∧ (m.1 8) + 1 ≤ (M.1 8)) ∨ ((M.1 75) = 2 ∧ (M.1 8) = (m.1 8))) ∧ ((M.1 69) ≤ 64) ∧ ((m.1 28) ≤ (M.1 28)) ∧ (XS (M.2 65) (M.2 67) (m.2 76) (m.2 78) (m.2 79) (m.2 80) B (M.1 28) (m.1 73) (m.1 74) 1) ∧ (agr (m.2 65) (M.2 65) (m.1 28))) ∧ R = (.inl (none), (mhp (mO m [(7, (M.1 7)), (8, (M.1 8)), (9, (M.1 9)), (10, (M.1 10)), (11, (M.1 11)), (12, (M.1 12)), (28, (M.1 28)), (69, (M.1 69)), (70, (M.1 70)), (71, (M.1 71)), (72, (M.1 72)), (75, (M.1 75))] [(65, (M.2 65)), (66, (M.2 66)), (67, (M.2 67)), (68, (M.2 68))]) c, N), 0, 0)
set_option maxHeartbeats 8000000 in
theorem c_after (w : wX) (m : mR) (c : Nat → Option am_C) (N D : Nat) (hD : 7 ≤ D) (hT : Ty m) (B : Int) (hLx0 : LxP (m.1 7) (m.1 8) (m.1 9) (m.1 6) (m.1 10)) (hf0 : m.1 10 = 0) (hC : (XS (m.2 65) (m.2 67) (m.2 76) (m.2 78) (m.2 79) (m.2 80) B (m.1 28) (m.1 73) (m.1 74) 1) ∧ ((m.1 75) = 1) ∧ ((m.1 69) ≤ 64)) : TC w D 255 [.ref 189] (mhp m c, N) (Q_after m c N B) := by
  obtain ⟨D, rfl⟩ : ∃ k, D = k + 1 := ⟨D - 1, by omega⟩
  have hLx := hLx0
  have f7 : 0 ≤ m.1 7 ∧ m.1 7 ≤ 330 := hT.1 7
  have f8 : 0 ≤ m.1 8 ∧ m.1 8 ≤ 4000 := hT.1 8
  have f9 : 0 ≤ m.1 9 ∧ m.1 9 ≤ 4000 := hT.1 9
  have f10 : 0 ≤ m.1 10 ∧ m.1 10 ≤ 8 := hT.1 10
  have f11 : (-1) ≤ m.1 11 ∧ m.1 11 ≤ 4000 := hT.1 11
  have f12 : (-9223372036854775808) ≤ m.1 12 ∧ m.1 12 ≤ 9223372036854775807 := hT.1 12
  have f28 : 0 ≤ m.1 28 ∧ m.1 28 ≤ 800 := hT.1 28
  have f69 : 0 ≤ m.1 69 ∧ m.1 69 ≤ 1024 := hT.1 69
  have f70 : 0 ≤ m.1 70 ∧ m.1 70 ≤ 4000 := hT.1 70
  have f71 : 0 ≤ m.1 71 ∧ m.1 71 ≤ 1 := hT.1 71
  have f72 : (-9223372036854775808) ≤ m.1 72 ∧ m.1 72 ≤ 9223372036854775807 := hT.1 72
  have f75 : 0 ≤ m.1 75 ∧ m.1 75 ≤ 3 := hT.1 75
  have f74 : 0 ≤ m.1 74 ∧ m.1 74 ≤ 24 := hT.1 74
  have f73 : 0 ≤ m.1 73 ∧ m.1 73 ≤ 60 := hT.1 73
  have f6 : 0 ≤ m.1 6 ∧ m.1 6 ≤ 4000 := hT.1 6
  refine Tc_of rfl ?_
  show TT w D pm_255 (0, [(0, .ref 189)], [], (mhp m c, N), 0, 0) (Q_after m c N B)
  rw [show (mhp m c, N) = (mhp (mO m [(7, (m.1 7)), (8, (m.1 8)), (9, (m.1 9)), (10, (m.1 10)), (11, (m.1 11)), (12, (m.1 12)), (28, (m.1 28)), (69, (m.1 69)), (70, (m.1 70)), (71, (m.1 71)), (72, (m.1 72)), (75, (m.1 75))] [(65, (m.2 65)), (66, (m.2 66)), (67, (m.2 67)), (68, (m.2 68))]) c, N) from congrArg (fun M => (mhp M c, N)) (mO_pad m [7, 8, 9, 10, 11, 12, 28, 69, 70, 71, 72, 75] [65, 66, 67, 68])]
  obtain ⟨hXS, c1, c2⟩ := hC
  have h7 := hLx (by omega)
  have hEX := hXS.1.1
  have hl0 : 0 ≤ lh (m.2 79) (m.2 80) (m.1 73) := lh_0 (hT.2.1 79) _ _
  have hXE := hXS
  have hAgC := agr_r (m.2 65) (m.1 28)
  have J207_38 : ∀ (v36 : Int) (m37 : mR), (R32 v36) → (Ty m37) → (1 ≤ v36) → (v36 ≤ 64) → (1 ≤ (m37.1 10)) → ((m37.1 10) ≤ 8) → TT w D pm_255 (207, [(0, .ref 189), (1, .int (i32 v36))], [], (mhp (mO m [(7, (m37.1 7)), (8, (m37.1 8)), (9, (m37.1 9)), (10, (m37.1 10)), (11, (m37.1 11)), (12, (m37.1 12)), (28, (m37.1 28)), (69, (m.1 69)), (70, (m.1 70)), (71, (m.1 71)), (72, (m.1 72)), (75, (m.1 75))] [(65, (m37.2 65)), (66, (m37.2 66)), (67, (m37.2 67)), (68, (m37.2 68))]) c, N), 0, 0) (Q_after m c N B) := by
    intro v36 m37 q39 q40 ic41 ic42 ic43 ic44
    obtain ⟨q39a, q39b⟩ := id q39
    have q40_7 : 0 ≤ m37.1 7 ∧ m37.1 7 ≤ 330 := q40.1 7
    have q40_8 : 0 ≤ m37.1 8 ∧ m37.1 8 ≤ 4000 := q40.1 8
    have q40_9 : 0 ≤ m37.1 9 ∧ m37.1 9 ≤ 4000 := q40.1 9
    have q40_10 : 0 ≤ m37.1 10 ∧ m37.1 10 ≤ 8 := q40.1 10
    have q40_11 : (-1) ≤ m37.1 11 ∧ m37.1 11 ≤ 4000 := q40.1 11
    have q40_12 : (-9223372036854775808) ≤ m37.1 12 ∧ m37.1 12 ≤ 9223372036854775807 := q40.1 12
    have q40_28 : 0 ≤ m37.1 28 ∧ m37.1 28 ≤ 800 := q40.1 28
    refine T_ld 208 (.ref 189) rfl (fun _ => rfl) ?_
    refine T_ld 209 (.int (i32 v36)) rfl (fun _ => rfl) ?_
    refine T_gf 213 (.int (i32 (m.1 70))) rfl rfl rfl rfl rfl rfl ?_
    refine T_call 216 250 [.ref 189, .int (i32 v36), .int (i32 (m.1 70))] [] rfl (fun _ => rfl) rfl (c_unit w (mO m [(7, (m37.1 7)), (8, (m37.1 8)), (9, (m37.1 9)), (10, (m37.1 10)), (11, (m37.1 11)), (12, (m37.1 12)), (28, (m37.1 28)), (69, (m.1 69)), (70, (m.1 70)), (71, (m.1 71)), (72, (m.1 72)), (75, (m.1 75))] [(65, (m37.2 65)), (66, (m37.2 66)), (67, (m37.2 67)), (68, (m37.2 68))]) c N D (by omega) (Ty_mO hT rfl rfl ⟨(q40.1 7), (q40.1 8), (q40.1 9), (q40.1 10), (q40.1 11), (q40.1 12), (q40.1 28), f69, f70, f71, f72, f75, trivial⟩ ⟨(q40.2.1 65), (q40.2.1 66), (q40.2.1 67), (q40.2.1 68), trivial⟩) v36 (m.1 70) (r32 (by omega) (by omega)) (r32 (by omega) (by omega)) (show 0 ≤ v36 ∧ v36 ≤ 1024 by omega) (show 0 ≤ (m.1 70) ∧ (m.1 70) ≤ 4000 by omega)) (fun rr46 k47 => ?_)
    obtain ⟨m48, hT49, h50, rfl⟩ := k47
    refine ⟨_, _, rfl, ?_⟩
    refine T_nf2 (st' := []) (l' := [(7, (m37.1 7)), (8, (m37.1 8)), (9, (m37.1 9)), (10, (m37.1 10)), (11, (m37.1 11)), (12, (m37.1 12)), (28, (m37.1 28)), (69, (m48.1 69)), (70, (m48.1 70)), (71, (m48.1 71)), (72, (m48.1 72)), (75, (m.1 75))]) (a' := [(65, (m37.2 65)), (66, (m37.2 66)), (67, (m37.2 67)), (68, (m37.2 68))]) [69, 70, 71, 72] [] rfl ⟨rfl, rfl, rfl, rfl, rfl, rfl, rfl, rfl, rfl, rfl, rfl, rfl, rfl, rfl, rfl, rfl, rfl, rfl, rfl, rfl, rfl, rfl, rfl, rfl, rfl, rfl, rfl, rfl, rfl, rfl, rfl, trivial⟩ ⟨rfl, rfl, rfl, rfl, rfl, rfl, rfl, rfl, trivial⟩ rfl rfl (by decide) (by decide) ?_
    have g51 : 0 ≤ m48.1 69 ∧ m48.1 69 ≤ 1024 := hT49.1 69
    have g52 : 0 ≤ m48.1 70 ∧ m48.1 70 ≤ 4000 := hT49.1 70
    have g53 : 0 ≤ m48.1 71 ∧ m48.1 71 ≤ 1 := hT49.1 71
    have g54 : (-9223372036854775808) ≤ m48.1 72 ∧ m48.1 72 ≤ 9223372036854775807 := hT49.1 72
    replace h50 : (m48.1 69) = v36 := h50
    refine T_goto 224 rfl (fun _ => rfl) ?_
    refine T_ret rfl (fun _ => rfl) ?_
    exact ⟨(mO m [(7, (m37.1 7)), (8, (m37.1 8)), (9, (m37.1 9)), (10, (m37.1 10)), (11, (m37.1 11)), (12, (m37.1 12)), (28, (m37.1 28)), (69, (m48.1 69)), (70, (m48.1 70)), (71, (m48.1 71)), (72, (m48.1 72)), (75, (m.1 75))] [(65, (m37.2 65)), (66, (m37.2 66)), (67, (m37.2 67)), (68, (m37.2 68))]), (Ty_mO hT rfl rfl ⟨(q40.1 7), (q40.1 8), (q40.1 9), (q40.1 10), (q40.1 11), (q40.1 12), (q40.1 28), (hT49.1 69), (hT49.1 70), (hT49.1 71), (hT49.1 72), f75, trivial⟩ ⟨(q40.2.1 65), (q40.2.1 66), (q40.2.1 67), (q40.2.1 68), trivial⟩), (show (m37.1 10) = 0 → (m.1 10) = 0 by omega), (show LxP (m37.1 7) (m37.1 8) (m37.1 9) (m.1 6) (m37.1 10) by first | (first | exact hLx | exact (fun _ => hLx (by omega)) | (intro h9; exfalso; omega)) | (exfalso; omega)), (fun (h : (m37.1 10) = 0) => absurd h (by omega)), rfl⟩
  have J196_57 : ∀ (s55 : Int) (m56 : mR), (R32 s55) → (Ty m56) → (1 ≤ s55) → (s55 ≤ 64) → (1 ≤ (m56.1 10)) → ((m56.1 10) ≤ 8) → TT w D pm_255 (196, [(0, .ref 189)], [.int (i32 s55)], (mhp (mO m [(7, (m56.1 7)), (8, (m56.1 8)), (9, (m56.1 9)), (10, (m56.1 10)), (11, (m56.1 11)), (12, (m56.1 12)), (28, (m.1 28)), (69, (m.1 69)), (70, (m.1 70)), (71, (m.1 71)), (72, (m.1 72)), (75, (m.1 75))] [(65, (m.2 65)), (66, (m.2 66)), (67, (m.2 67)), (68, (m.2 68))]) c, N), 0, 0) (Q_after m c N B) := by
    intro s55 m56 q58 q59 ic60 ic61 ic62 ic63
    obtain ⟨q58a, q58b⟩ := id q58
    have q59_7 : 0 ≤ m56.1 7 ∧ m56.1 7 ≤ 330 := q59.1 7
    have q59_8 : 0 ≤ m56.1 8 ∧ m56.1 8 ≤ 4000 := q59.1 8
    have q59_9 : 0 ≤ m56.1 9 ∧ m56.1 9 ≤ 4000 := q59.1 9
    have q59_10 : 0 ≤ m56.1 10 ∧ m56.1 10 ≤ 8 := q59.1 10
    have q59_11 : (-1) ≤ m56.1 11 ∧ m56.1 11 ≤ 4000 := q59.1 11
    have q59_12 : (-9223372036854775808) ≤ m56.1 12 ∧ m56.1 12 ≤ 9223372036854775807 := q59.1 12
    refine T_sto 197 [(1, .int (i32 s55)), (0, .ref 189)] rfl (fun _ => rfl) ?_
    refine T_ld 198 (.ref 189) rfl (fun _ => rfl) ?_
    refine T_ld 201 (.int (i32 406)) rfl (fun _ => rfl) ?_
    refine T_ld 202 (.int (i32 s55)) rfl (fun _ => rfl) ?_
    refine T_ld 203 (.int (i32 0)) rfl (fun _ => rfl) ?_
    refine T_ld 204 (.long (i64 0)) rfl (fun _ => rfl) ?_
    refine T_call 207 248 [.ref 189, .int (i32 406), .int (i32 s55), .int (i32 0), .long (i64 0)] [] rfl (fun _ => rfl) rfl (c_node w (mO m [(7, (m56.1 7)), (8, (m56.1 8)), (9, (m56.1 9)), (10, (m56.1 10)), (11, (m56.1 11)), (12, (m56.1 12)), (28, (m.1 28)), (69, (m.1 69)), (70, (m.1 70)), (71, (m.1 71)), (72, (m.1 72)), (75, (m.1 75))] [(65, (m.2 65)), (66, (m.2 66)), (67, (m.2 67)), (68, (m.2 68))]) c N D (by omega) (Ty_mO hT rfl rfl ⟨(q59.1 7), (q59.1 8), (q59.1 9), (q59.1 10), (q59.1 11), (q59.1 12), f28, f69, f70, f71, f72, f75, trivial⟩ ⟨(hT.2.1 65), (hT.2.1 66), (hT.2.1 67), (hT.2.1 68), trivial⟩) 406 s55 0 0 B (1 + lh (m.2 79) (m.2 80) (m.1 73)) ⟨by decide, by decide⟩ (r32 (by omega) (by omega)) ⟨by decide, by decide⟩ ⟨by decide, by decide⟩ (fun (h : (m56.1 10) = 0) => absurd h (by omega))) (fun rr65 k66 => ?_)
    obtain ⟨m67, hT68, h69, c70, rfl⟩ := k66
    refine ⟨_, _, rfl, ?_⟩
    refine T_nf2 (st' := []) (l' := [(7, (m56.1 7)), (8, (m56.1 8)), (9, (m56.1 9)), (10, (m67.1 10)), (11, (m67.1 11)), (12, (m56.1 12)), (28, (m67.1 28)), (69, (m.1 69)), (70, (m.1 70)), (71, (m.1 71)), (72, (m.1 72)), (75, (m.1 75))]) (a' := [(65, (m67.2 65)), (66, (m67.2 66)), (67, (m67.2 67)), (68, (m67.2 68))]) [10, 11, 28] [65, 66, 67, 68] rfl ⟨rfl, rfl, rfl, rfl, rfl, rfl, rfl, rfl, rfl, rfl, rfl, rfl, rfl, rfl, rfl, rfl, rfl, rfl, rfl, rfl, rfl, rfl, rfl, rfl, rfl, rfl, rfl, rfl, trivial⟩ ⟨rfl, rfl, rfl, rfl, rfl, rfl, rfl, rfl, trivial⟩ rfl rfl (by decide) (by decide) ?_
    have g71 : 0 ≤ m67.1 10 ∧ m67.1 10 ≤ 8 := hT68.1 10
    have g72 : (-1) ≤ m67.1 11 ∧ m67.1 11 ≤ 4000 := hT68.1 11
    have g73 : 0 ≤ m67.1 28 ∧ m67.1 28 ≤ 800 := hT68.1 28
    replace h69 : (m67.1 10) = 0 → (m56.1 10) = 0 := h69
    have hf74 : 1 ≤ (m67.1 10) := by omega
    clear c70
    clear h69
    clear q59_10 q59_11 ic62 ic63
    refine Tm_lv (a := [(0, .ref 189), (1, .int (i32 s55))]) rfl rfl ⟨rfl, rfl, trivial⟩ ?_
    exact J207_38 s55 (mO m [(7, (m56.1 7)), (8, (m56.1 8)), (9, (m56.1 9)), (10, (m67.1 10)), (11, (m67.1 11)), (12, (m56.1 12)), (28, (m67.1 28)), (69, (m.1 69)), (70, (m.1 70)), (71, (m.1 71)), (72, (m.1 72)), (75, (m.1 75))] [(65, (m67.2 65)), (66, (m67.2 66)), (67, (m67.2 67)), (68, (m67.2 68))]) (r32 (by omega) (by omega)) (Ty_mO hT rfl rfl ⟨(q59.1 7), (q59.1 8), (q59.1 9), (hT68.1 10), (hT68.1 11), (q59.1 12), (hT68.1 28), f69, f70, f71, f72, f75, trivial⟩ ⟨(hT68.2.1 65), (hT68.2.1 66), (hT68.2.1 67), (hT68.2.1 68), trivial⟩) (show 1 ≤ s55 by omega) (show s55 ≤ 64 by omega) (show 1 ≤ (m67.1 10) by omega) (show (m67.1 10) ≤ 8 by omega)
  have J159_79 : ∀ (v75 : Int) (v76 : Int) (v77 : Int) (m78 : mR), (R32 v75) → (R64 v76) → (R64 v77) → (Ty m78) → (0 ≤ v75) → (v75 ≤ 4000) → (1 ≤ (m78.1 10)) → ((m78.1 10) ≤ 8) → (0 ≤ v76 - v77 ∧ v76 - v77 ≤ 63) → (0 ≤ (m.1 70) ∧ (m.1 70) ≤ 4000) → TT w D pm_255 (159, [(0, .ref 189), (1, .int (i32 v75)), (2, .long (i64 v76)), (4, .long (i64 v77)), (6, .int (i32 (m.1 70)))], [], (mhp (mO m [(7, (m78.1 7)), (8, (m78.1 8)), (9, (m78.1 9)), (10, (m78.1 10)), (11, (m78.1 11)), (12, (m78.1 12)), (28, (m78.1 28)), (69, (m.1 69)), (70, (m.1 70)), (71, (m.1 71)), (72, (m.1 72)), (75, (m.1 75))] [(65, (m78.2 65)), (66, (m78.2 66)), (67, (m78.2 67)), (68, (m78.2 68))]) c, N), 0, 0) (Q_after m c N B) := by
    intro v75 v76 v77 m78 q80 q81 q82 q83 ic84 ic85 ic86 ic87 ic88 ic89
    obtain ⟨q80a, q80b⟩ := id q80
    obtain ⟨q81a, q81b⟩ := id q81
    obtain ⟨q82a, q82b⟩ := id q82
    have q83_7 : 0 ≤ m78.1 7 ∧ m78.1 7 ≤ 330 := q83.1 7
    have q83_8 : 0 ≤ m78.1 8 ∧ m78.1 8 ≤ 4000 := q83.1 8
    have q83_9 : 0 ≤ m78.1 9 ∧ m78.1 9 ≤ 4000 := q83.1 9
    have q83_10 : 0 ≤ m78.1 10 ∧ m78.1 10 ≤ 8 := q83.1 10
    have q83_11 : (-1) ≤ m78.1 11 ∧ m78.1 11 ≤ 4000 := q83.1 11
    have q83_12 : (-9223372036854775808) ≤ m78.1 12 ∧ m78.1 12 ≤ 9223372036854775807 := q83.1 12
    have q83_28 : 0 ≤ m78.1 28 ∧ m78.1 28 ≤ 800 := q83.1 28
    refine T_ld 160 (.ref 189) rfl (fun _ => rfl) ?_
    refine T_ld 161 (.long (i64 v76)) rfl (fun _ => rfl) ?_
    refine T_ld 163 (.long (i64 v77)) rfl (fun _ => rfl) ?_
    refine T_lsub 164 rfl rfl ?_
    refine T_l2i 165 rfl rfl ?_
    refine T_ld 166 (.int (i32 1)) rfl (fun _ => rfl) ?_
    refine T_iadd 167 rfl rfl ?_
    refine T_ld 169 (.int (i32 (m.1 70))) rfl (fun _ => rfl) ?_
    refine T_call 172 250 [.ref 189, .int (i32 ((v76 - v77) + 1)), .int (i32 (m.1 70))] [] rfl (fun _ => rfl) rfl (c_unit w (mO m [(7, (m78.1 7)), (8, (m78.1 8)), (9, (m78.1 9)), (10, (m78.1 10)), (11, (m78.1 11)), (12, (m78.1 12)), (28, (m78.1 28)), (69, (m.1 69)), (70, (m.1 70)), (71, (m.1 71)), (72, (m.1 72)), (75, (m.1 75))] [(65, (m78.2 65)), (66, (m78.2 66)), (67, (m78.2 67)), (68, (m78.2 68))]) c N D (by omega) (Ty_mO hT rfl rfl ⟨(q83.1 7), (q83.1 8), (q83.1 9), (q83.1 10), (q83.1 11), (q83.1 12), (q83.1 28), f69, f70, f71, f72, f75, trivial⟩ ⟨(q83.2.1 65), (q83.2.1 66), (q83.2.1 67), (q83.2.1 68), trivial⟩) ((v76 - v77) + 1) (m.1 70) (r32 (by omega) (by omega)) (r32 (by omega) (by omega)) (show 0 ≤ ((v76 - v77) + 1) ∧ ((v76 - v77) + 1) ≤ 1024 by omega) (show 0 ≤ (m.1 70) ∧ (m.1 70) ≤ 4000 by omega)) (fun rr91 k92 => ?_)
    obtain ⟨m93, hT94, h95, rfl⟩ := k92
    refine ⟨_, _, rfl, ?_⟩
    refine T_nf2 (st' := []) (l' := [(7, (m78.1 7)), (8, (m78.1 8)), (9, (m78.1 9)), (10, (m78.1 10)), (11, (m78.1 11)), (12, (m78.1 12)), (28, (m78.1 28)), (69, (m93.1 69)), (70, (m93.1 70)), (71, (m93.1 71)), (72, (m93.1 72)), (75, (m.1 75))]) (a' := [(65, (m78.2 65)), (66, (m78.2 66)), (67, (m78.2 67)), (68, (m78.2 68))]) [69, 70, 71, 72] [] rfl ⟨rfl, rfl, rfl, rfl, rfl, rfl, rfl, rfl, rfl, rfl, rfl, rfl, rfl, rfl, rfl, rfl, rfl, rfl, rfl, rfl, rfl, rfl, rfl, rfl, rfl, rfl, rfl, rfl, rfl, rfl, rfl, trivial⟩ ⟨rfl, rfl, rfl, rfl, rfl, rfl, rfl, rfl, trivial⟩ rfl rfl (by decide) (by decide) ?_
    have g96 : 0 ≤ m93.1 69 ∧ m93.1 69 ≤ 1024 := hT94.1 69
    have g97 : 0 ≤ m93.1 70 ∧ m93.1 70 ≤ 4000 := hT94.1 70
    have g98 : 0 ≤ m93.1 71 ∧ m93.1 71 ≤ 1 := hT94.1 71
    have g99 : (-9223372036854775808) ≤ m93.1 72 ∧ m93.1 72 ≤ 9223372036854775807 := hT94.1 72
    replace h95 : (m93.1 69) = ((v76 - v77) + 1) := h95
    refine T_goto 224 rfl (fun _ => rfl) ?_
    refine T_ret rfl (fun _ => rfl) ?_
    exact ⟨(mO m [(7, (m78.1 7)), (8, (m78.1 8)), (9, (m78.1 9)), (10, (m78.1 10)), (11, (m78.1 11)), (12, (m78.1 12)), (28, (m78.1 28)), (69, (m93.1 69)), (70, (m93.1 70)), (71, (m93.1 71)), (72, (m93.1 72)), (75, (m.1 75))] [(65, (m78.2 65)), (66, (m78.2 66)), (67, (m78.2 67)), (68, (m78.2 68))]), (Ty_mO hT rfl rfl ⟨(q83.1 7), (q83.1 8), (q83.1 9), (q83.1 10), (q83.1 11), (q83.1 12), (q83.1 28), (hT94.1 69), (hT94.1 70), (hT94.1 71), (hT94.1 72), f75, trivial⟩ ⟨(q83.2.1 65), (q83.2.1 66), (q83.2.1 67), (q83.2.1 68), trivial⟩), (show (m78.1 10) = 0 → (m.1 10) = 0 by omega), (show LxP (m78.1 7) (m78.1 8) (m78.1 9) (m.1 6) (m78.1 10) by first | (first | exact hLx | exact (fun _ => hLx (by omega)) | (intro h9; exfalso; omega)) | (exfalso; omega)), (fun (h : (m78.1 10) = 0) => absurd h (by omega)), rfl⟩
  have J127_104 : ∀ (v100 : Int) (v101 : Int) (v102 : Int) (m103 : mR), (R32 v100) → (R64 v101) → (R64 v102) → (Ty m103) → (0 ≤ v100) → (v100 ≤ 4000) → (1 ≤ (m103.1 10)) → ((m103.1 10) ≤ 8) → TT w D pm_255 (127, [(0, .ref 189), (1, .int (i32 v100)), (2, .long (i64 v101)), (4, .long (i64 v102))], [], (mhp (mO m [(7, (m103.1 7)), (8, (m103.1 8)), (9, (m103.1 9)), (10, (m103.1 10)), (11, (m103.1 11)), (12, (m103.1 12)), (28, (m.1 28)), (69, (m.1 69)), (70, (m.1 70)), (71, (m.1 71)), (72, (m.1 72)), (75, (m.1 75))] [(65, (m.2 65)), (66, (m.2 66)), (67, (m.2 67)), (68, (m.2 68))]) c, N), 0, 0) (Q_after m c N B) := by
    intro v100 v101 v102 m103 q105 q106 q107 q108 ic109 ic110 ic111 ic112
    obtain ⟨q105a, q105b⟩ := id q105
    obtain ⟨q106a, q106b⟩ := id q106
    obtain ⟨q107a, q107b⟩ := id q107
    have q108_7 : 0 ≤ m103.1 7 ∧ m103.1 7 ≤ 330 := q108.1 7
    have q108_8 : 0 ≤ m103.1 8 ∧ m103.1 8 ≤ 4000 := q108.1 8
    have q108_9 : 0 ≤ m103.1 9 ∧ m103.1 9 ≤ 4000 := q108.1 9
    have q108_10 : 0 ≤ m103.1 10 ∧ m103.1 10 ≤ 8 := q108.1 10
    have q108_11 : (-1) ≤ m103.1 11 ∧ m103.1 11 ≤ 4000 := q108.1 11
    have q108_12 : (-9223372036854775808) ≤ m103.1 12 ∧ m103.1 12 ≤ 9223372036854775807 := q108.1 12
    refine T_gf 131 (.int (i32 (m103.1 10))) rfl rfl rfl rfl rfl rfl ?_
    refine T_if 135 134 rfl rfl rfl (r32 (by omega) (by omega)) (fun (h114 : (m103.1 10) ≤ 0) => by exfalso; omega) (fun (h114 : ¬ ((m103.1 10) ≤ 0)) => ?_)
    refine T_ret rfl (fun _ => rfl) ?_
    exact ⟨(mO m [(7, (m103.1 7)), (8, (m103.1 8)), (9, (m103.1 9)), (10, (m103.1 10)), (11, (m103.1 11)), (12, (m103.1 12)), (28, (m.1 28)), (69, (m.1 69)), (70, (m.1 70)), (71, (m.1 71)), (72, (m.1 72)), (75, (m.1 75))] [(65, (m.2 65)), (66, (m.2 66)), (67, (m.2 67)), (68, (m.2 68))]), (Ty_mO hT rfl rfl ⟨(q108.1 7), (q108.1 8), (q108.1 9), (q108.1 10), (q108.1 11), (q108.1 12), f28, f69, f70, f71, f72, f75, trivial⟩ ⟨(hT.2.1 65), (hT.2.1 66), (hT.2.1 67), (hT.2.1 68), trivial⟩), (show (m103.1 10) = 0 → (m.1 10) = 0 by omega), (show LxP (m103.1 7) (m103.1 8) (m103.1 9) (m.1 6) (m103.1 10) by first | (first | exact hLx | exact (fun _ => hLx (by omega)) | (intro h9; exfalso; omega)) | (exfalso; omega)), (fun (h : (m103.1 10) = 0) => absurd h (by omega)), rfl⟩
  have J121_119 : ∀ (v115 : Int) (v116 : Int) (v117 : Int) (m118 : mR), (R32 v115) → (R64 v116) → (R64 v117) → (Ty m118) → (0 ≤ v115) → (v115 ≤ 4000) → (1 ≤ (m118.1 10)) → ((m118.1 10) ≤ 8) → TT w D pm_255 (121, [(0, .ref 189), (1, .int (i32 v115)), (2, .long (i64 v116)), (4, .long (i64 v117))], [], (mhp (mO m [(7, (m118.1 7)), (8, (m118.1 8)), (9, (m118.1 9)), (10, (m118.1 10)), (11, (m118.1 11)), (12, (m118.1 12)), (28, (m.1 28)), (69, (m.1 69)), (70, (m.1 70)), (71, (m.1 71)), (72, (m.1 72)), (75, (m.1 75))] [(65, (m.2 65)), (66, (m.2 66)), (67, (m.2 67)), (68, (m.2 68))]) c, N), 0, 0) (Q_after m c N B) := by
    intro v115 v116 v117 m118 q120 q121 q122 q123 ic124 ic125 ic126 ic127
    obtain ⟨q120a, q120b⟩ := id q120
    obtain ⟨q121a, q121b⟩ := id q121
    obtain ⟨q122a, q122b⟩ := id q122
    have q123_7 : 0 ≤ m118.1 7 ∧ m118.1 7 ≤ 330 := q123.1 7
    have q123_8 : 0 ≤ m118.1 8 ∧ m118.1 8 ≤ 4000 := q123.1 8
    have q123_9 : 0 ≤ m118.1 9 ∧ m118.1 9 ≤ 4000 := q123.1 9
    have q123_10 : 0 ≤ m118.1 10 ∧ m118.1 10 ≤ 8 := q123.1 10
    have q123_11 : (-1) ≤ m118.1 11 ∧ m118.1 11 ≤ 4000 := q123.1 11
    have q123_12 : (-9223372036854775808) ≤ m118.1 12 ∧ m118.1 12 ≤ 9223372036854775807 := q123.1 12
    refine T_ld 122 (.ref 189) rfl (fun _ => rfl) ?_
    refine T_ld 124 (.int (i32 93)) rfl (fun _ => rfl) ?_
    refine T_call 127 232 [.ref 189, .int (i32 93)] [] rfl (fun _ => rfl) rfl (c_need w (mO m [(7, (m118.1 7)), (8, (m118.1 8)), (9, (m118.1 9)), (10, (m118.1 10)), (11, (m118.1 11)), (12, (m118.1 12)), (28, (m.1 28)), (69, (m.1 69)), (70, (m.1 70)), (71, (m.1 71)), (72, (m.1 72)), (75, (m.1 75))] [(65, (m.2 65)), (66, (m.2 66)), (67, (m.2 67)), (68, (m.2 68))]) c N D (by omega) (Ty_mO hT rfl rfl ⟨(q123.1 7), (q123.1 8), (q123.1 9), (q123.1 10), (q123.1 11), (q123.1 12), f28, f69, f70, f71, f72, f75, trivial⟩ ⟨(hT.2.1 65), (hT.2.1 66), (hT.2.1 67), (hT.2.1 68), trivial⟩) 93 ⟨by decide, by decide⟩ (show 1 ≤ (93 : Int) by omega) (show LxP (m118.1 7) (m118.1 8) (m118.1 9) (m.1 6) (m118.1 10) by first | exact hLx | (intro h9; exfalso; omega) | (intro h9; have h8 := hLx (by omega); omega))) (fun rr129 k130 => ?_)
    obtain ⟨y131, y133, y135, y137, y139, y141, g132, g134, g136, g138, g140, g142, h143, h144, h145, h146, rfl⟩ := k130
    refine ⟨_, _, rfl, ?_⟩
    refine T_nf2 (st' := []) (l' := [(7, y131), (8, y133), (9, y135), (10, y137), (11, y139), (12, y141), (28, (m.1 28)), (69, (m.1 69)), (70, (m.1 70)), (71, (m.1 71)), (72, (m.1 72)), (75, (m.1 75))]) (a' := [(65, (m.2 65)), (66, (m.2 66)), (67, (m.2 67)), (68, (m.2 68))]) [7, 8, 9, 10, 11, 12] [] rfl ⟨rfl, rfl, rfl, rfl, rfl, rfl, rfl, rfl, rfl, rfl, rfl, rfl, rfl, rfl, rfl, rfl, rfl, rfl, rfl, rfl, rfl, rfl, rfl, rfl, trivial⟩ ⟨rfl, rfl, rfl, rfl, rfl, rfl, rfl, rfl, trivial⟩ rfl rfl (by decide) (by decide) ?_
    replace h143 : LxP y131 y133 y135 (m.1 6) y137 := h143
    replace h144 : y137 = 0 → (m118.1 10) = 0 ∧ (m118.1 7) = (93 : Int) := h144
    replace h145 : (m118.1 8) ≤ y133 := h145
    replace h146 : y137 = 0 → (m118.1 8) + (m118.1 9) ≤ y133 := h146
    have hf147 : 1 ≤ y137 := by omega
    clear h144
    clear h146
    have hLx := h143
    clear q123_7 q123_8 q123_9 q123_10 q123_11 q123_12 ic126 ic127 h145
    exact J127_104 v115 v116 v117 (mO m [(7, y131), (8, y133), (9, y135), (10, y137), (11, y139), (12, y141), (28, (m.1 28)), (69, (m.1 69)), (70, (m.1 70)), (71, (m.1 71)), (72, (m.1 72)), (75, (m.1 75))] [(65, (m.2 65)), (66, (m.2 66)), (67, (m.2 67)), (68, (m.2 68))]) (r32 (by omega) (by omega)) (r64 (by omega) (by omega)) (r64 (by omega) (by omega)) (Ty_mO hT rfl rfl ⟨g132, g134, g136, g138, g140, g142, f28, f69, f70, f71, f72, f75, trivial⟩ ⟨(hT.2.1 65), (hT.2.1 66), (hT.2.1 67), (hT.2.1 68), trivial⟩) (show 0 ≤ v115 by omega) (show v115 ≤ 4000 by omega) (show 1 ≤ y137 by omega) (show y137 ≤ 8 by omega)
  have J74_152 : ∀ (v148 : Int) (v149 : Int) (v150 : Int) (m151 : mR), (R32 v148) → (R64 v149) → (R64 v150) → (Ty m151) → (0 ≤ v148) → (v148 ≤ 4000) → (1 ≤ (m151.1 10)) → ((m151.1 10) ≤ 8) → TT w D pm_255 (74, [(0, .ref 189), (1, .int (i32 v148)), (2, .long (i64 v149)), (4, .long (i64 v150))], [], (mhp (mO m [(7, (m151.1 7)), (8, (m151.1 8)), (9, (m151.1 9)), (10, (m151.1 10)), (11, (m151.1 11)), (12, (m151.1 12)), (28, (m.1 28)), (69, (m.1 69)), (70, (m.1 70)), (71, (m.1 71)), (72, (m.1 72)), (75, (m.1 75))] [(65, (m.2 65)), (66, (m.2 66)), (67, (m.2 67)), (68, (m.2 68))]) c, N), 0, 0) (Q_after m c N B) := by
    intro v148 v149 v150 m151 q153 q154 q155 q156 ic157 ic158 ic159 ic160
    obtain ⟨q153a, q153b⟩ := id q153
    obtain ⟨q154a, q154b⟩ := id q154
    obtain ⟨q155a, q155b⟩ := id q155
    have q156_7 : 0 ≤ m151.1 7 ∧ m151.1 7 ≤ 330 := q156.1 7
    have q156_8 : 0 ≤ m151.1 8 ∧ m151.1 8 ≤ 4000 := q156.1 8
    have q156_9 : 0 ≤ m151.1 9 ∧ m151.1 9 ≤ 4000 := q156.1 9
    have q156_10 : 0 ≤ m151.1 10 ∧ m151.1 10 ≤ 8 := q156.1 10
    have q156_11 : (-1) ≤ m151.1 11 ∧ m151.1 11 ≤ 4000 := q156.1 11
    have q156_12 : (-9223372036854775808) ≤ m151.1 12 ∧ m151.1 12 ≤ 9223372036854775807 := q156.1 12
    refine T_gf 78 (.int (i32 (m151.1 10))) rfl rfl rfl rfl rfl rfl ?_
    refine T_if 121 81 rfl rfl rfl (r32 (by omega) (by omega)) (fun (h162 : (m151.1 10) ≠ 0) => ?_) (fun (h162 : ¬ ((m151.1 10) ≠ 0)) => by exfalso; omega)
    refine T_ld 122 (.ref 189) rfl (fun _ => rfl) ?_
    refine T_ld 124 (.int (i32 93)) rfl (fun _ => rfl) ?_
    refine T_call 127 232 [.ref 189, .int (i32 93)] [] rfl (fun _ => rfl) rfl (c_need w (mO m [(7, (m151.1 7)), (8, (m151.1 8)), (9, (m151.1 9)), (10, (m151.1 10)), (11, (m151.1 11)), (12, (m151.1 12)), (28, (m.1 28)), (69, (m.1 69)), (70, (m.1 70)), (71, (m.1 71)), (72, (m.1 72)), (75, (m.1 75))] [(65, (m.2 65)), (66, (m.2 66)), (67, (m.2 67)), (68, (m.2 68))]) c N D (by omega) (Ty_mO hT rfl rfl ⟨(q156.1 7), (q156.1 8), (q156.1 9), (q156.1 10), (q156.1 11), (q156.1 12), f28, f69, f70, f71, f72, f75, trivial⟩ ⟨(hT.2.1 65), (hT.2.1 66), (hT.2.1 67), (hT.2.1 68), trivial⟩) 93 ⟨by decide, by decide⟩ (show 1 ≤ (93 : Int) by omega) (show LxP (m151.1 7) (m151.1 8) (m151.1 9) (m.1 6) (m151.1 10) by first | exact hLx | (intro h9; exfalso; omega) | (intro h9; have h8 := hLx (by omega); omega))) (fun rr163 k164 => ?_)
    obtain ⟨y165, y167, y169, y171, y173, y175, g166, g168, g170, g172, g174, g176, h177, h178, h179, h180, rfl⟩ := k164
    refine ⟨_, _, rfl, ?_⟩
    refine T_nf2 (st' := []) (l' := [(7, y165), (8, y167), (9, y169), (10, y171), (11, y173), (12, y175), (28, (m.1 28)), (69, (m.1 69)), (70, (m.1 70)), (71, (m.1 71)), (72, (m.1 72)), (75, (m.1 75))]) (a' := [(65, (m.2 65)), (66, (m.2 66)), (67, (m.2 67)), (68, (m.2 68))]) [7, 8, 9, 10, 11, 12] [] rfl ⟨rfl, rfl, rfl, rfl, rfl, rfl, rfl, rfl, rfl, rfl, rfl, rfl, rfl, rfl, rfl, rfl, rfl, rfl, rfl, rfl, rfl, rfl, rfl, rfl, trivial⟩ ⟨rfl, rfl, rfl, rfl, rfl, rfl, rfl, rfl, trivial⟩ rfl rfl (by decide) (by decide) ?_
    replace h177 : LxP y165 y167 y169 (m.1 6) y171 := h177
    replace h178 : y171 = 0 → (m151.1 10) = 0 ∧ (m151.1 7) = (93 : Int) := h178
    replace h179 : (m151.1 8) ≤ y167 := h179
    replace h180 : y171 = 0 → (m151.1 8) + (m151.1 9) ≤ y167 := h180
    have hf181 : 1 ≤ y171 := by omega
    clear h178
    clear h180
    have hLx := h177
    clear q156_7 q156_8 q156_9 q156_10 q156_11 q156_12 ic159 ic160 h162 h179
    exact J127_104 v148 v149 v150 (mO m [(7, y165), (8, y167), (9, y169), (10, y171), (11, y173), (12, y175), (28, (m.1 28)), (69, (m.1 69)), (70, (m.1 70)), (71, (m.1 71)), (72, (m.1 72)), (75, (m.1 75))] [(65, (m.2 65)), (66, (m.2 66)), (67, (m.2 67)), (68, (m.2 68))]) (r32 (by omega) (by omega)) (r64 (by omega) (by omega)) (r64 (by omega) (by omega)) (Ty_mO hT rfl rfl ⟨g166, g168, g170, g172, g174, g176, f28, f69, f70, f71, f72, f75, trivial⟩ ⟨(hT.2.1 65), (hT.2.1 66), (hT.2.1 67), (hT.2.1 68), trivial⟩) (show 0 ≤ v148 by omega) (show v148 ≤ 4000 by omega) (show 1 ≤ y171 by omega) (show y171 ≤ 8 by omega)
  have J45_185 : ∀ (v182 : Int) (v183 : Int) (m184 : mR), (R32 v182) → (R64 v183) → (Ty m184) → (0 ≤ v182) → (v182 ≤ 4000) → (1 ≤ (m184.1 10)) → ((m184.1 10) ≤ 8) → TT w D pm_255 (45, [(0, .ref 189), (1, .int (i32 v182)), (2, .long (i64 v183))], [], (mhp (mO m [(7, (m184.1 7)), (8, (m184.1 8)), (9, (m184.1 9)), (10, (m184.1 10)), (11, (m184.1 11)), (12, (m184.1 12)), (28, (m.1 28)), (69, (m.1 69)), (70, (m.1 70)), (71, (m.1 71)), (72, (m.1 72)), (75, (m.1 75))] [(65, (m.2 65)), (66, (m.2 66)), (67, (m.2 67)), (68, (m.2 68))]) c, N), 0, 0) (Q_after m c N B) := by
    intro v182 v183 m184 q186 q187 q188 ic189 ic190 ic191 ic192
    obtain ⟨q186a, q186b⟩ := id q186
    obtain ⟨q187a, q187b⟩ := id q187
    have q188_7 : 0 ≤ m184.1 7 ∧ m184.1 7 ≤ 330 := q188.1 7
    have q188_8 : 0 ≤ m184.1 8 ∧ m184.1 8 ≤ 4000 := q188.1 8
    have q188_9 : 0 ≤ m184.1 9 ∧ m184.1 9 ≤ 4000 := q188.1 9
    have q188_10 : 0 ≤ m184.1 10 ∧ m184.1 10 ≤ 8 := q188.1 10
    have q188_11 : (-1) ≤ m184.1 11 ∧ m184.1 11 ≤ 4000 := q188.1 11
    have q188_12 : (-9223372036854775808) ≤ m184.1 12 ∧ m184.1 12 ≤ 9223372036854775807 := q188.1 12
    refine T_gf 49 (.int (i32 (m184.1 10))) rfl rfl rfl rfl rfl rfl ?_
    refine T_if 64 52 rfl rfl rfl (r32 (by omega) (by omega)) (fun (h194 : (m184.1 10) ≠ 0) => ?_) (fun (h194 : ¬ ((m184.1 10) ≠ 0)) => by exfalso; omega)
    refine T_gf 68 (.long (i64 (m184.1 12))) rfl rfl rfl rfl rfl rfl ?_
    refine T_sto 70 [(4, .long (i64 (m184.1 12))), (0, .ref 189), (1, .int (i32 v182)), (2, .long (i64 v183))] rfl (fun _ => rfl) ?_
    refine T_ld 71 (.ref 189) rfl (fun _ => rfl) ?_
    refine T_call 74 212 [.ref 189] [] rfl (fun _ => rfl) rfl (c_next w (mO m [(7, (m184.1 7)), (8, (m184.1 8)), (9, (m184.1 9)), (10, (m184.1 10)), (11, (m184.1 11)), (12, (m184.1 12)), (28, (m.1 28)), (69, (m.1 69)), (70, (m.1 70)), (71, (m.1 71)), (72, (m.1 72)), (75, (m.1 75))] [(65, (m.2 65)), (66, (m.2 66)), (67, (m.2 67)), (68, (m.2 68))]) c N D (by omega) (Ty_mO hT rfl rfl ⟨(q188.1 7), (q188.1 8), (q188.1 9), (q188.1 10), (q188.1 11), (q188.1 12), f28, f69, f70, f71, f72, f75, trivial⟩ ⟨(hT.2.1 65), (hT.2.1 66), (hT.2.1 67), (hT.2.1 68), trivial⟩) (show (m184.1 10) = 0 → (m184.1 8) + (m184.1 9) ≤ (m.1 6) by first | omega | (intro h9; have h8 := hLx h9; omega))) (fun rr195 k196 => ?_)
    obtain ⟨y197, y199, y201, y203, y205, y207, g198, g200, g202, g204, g206, g208, h209, h210, h211, h212, rfl⟩ := k196
    refine ⟨_, _, rfl, ?_⟩
    refine T_nf2 (st' := []) (l' := [(7, y197), (8, y199), (9, y201), (10, y203), (11, y205), (12, y207), (28, (m.1 28)), (69, (m.1 69)), (70, (m.1 70)), (71, (m.1 71)), (72, (m.1 72)), (75, (m.1 75))]) (a' := [(65, (m.2 65)), (66, (m.2 66)), (67, (m.2 67)), (68, (m.2 68))]) [7, 8, 9, 10, 11, 12] [] rfl ⟨rfl, rfl, rfl, rfl, rfl, rfl, rfl, rfl, rfl, rfl, rfl, rfl, rfl, rfl, rfl, rfl, rfl, rfl, rfl, rfl, rfl, rfl, rfl, rfl, trivial⟩ ⟨rfl, rfl, rfl, rfl, rfl, rfl, rfl, rfl, trivial⟩ rfl rfl (by decide) (by decide) ?_
    replace h209 : LxP y197 y199 y201 (m.1 6) y203 := h209
    replace h210 : y203 = 0 → (m184.1 10) = 0 := h210
    replace h211 : (m184.1 8) ≤ y199 := h211
    replace h212 : y203 = 0 → (m184.1 8) + (m184.1 9) ≤ y199 := h212
    have hf213 : 1 ≤ y203 := by omega
    clear h210
    clear h212
    have hLx := h209
    clear q188_7 q188_8 q188_9 q188_10 q188_11 ic191 ic192 h194 h211
    refine Tm_lv (a := [(0, .ref 189), (1, .int (i32 v182)), (2, .long (i64 v183)), (4, .long (i64 (m184.1 12)))]) rfl rfl ⟨rfl, rfl, rfl, rfl, trivial⟩ ?_
    exact J74_152 v182 v183 (m184.1 12) (mO m [(7, y197), (8, y199), (9, y201), (10, y203), (11, y205), (12, y207), (28, (m.1 28)), (69, (m.1 69)), (70, (m.1 70)), (71, (m.1 71)), (72, (m.1 72)), (75, (m.1 75))] [(65, (m.2 65)), (66, (m.2 66)), (67, (m.2 67)), (68, (m.2 68))]) (r32 (by omega) (by omega)) (r64 (by omega) (by omega)) (r64 (by omega) (by omega)) (Ty_mO hT rfl rfl ⟨g198, g200, g202, g204, g206, g208, f28, f69, f70, f71, f72, f75, trivial⟩ ⟨(hT.2.1 65), (hT.2.1 66), (hT.2.1 67), (hT.2.1 68), trivial⟩) (show 0 ≤ v182 by omega) (show v182 ≤ 4000 by omega) (show 1 ≤ y203 by omega) (show y203 ≤ 8 by omega)
  have J39_217 : ∀ (v214 : Int) (v215 : Int) (m216 : mR), (R32 v214) → (R64 v215) → (Ty m216) → (0 ≤ v214) → (v214 ≤ 4000) → (1 ≤ (m216.1 10)) → ((m216.1 10) ≤ 8) → TT w D pm_255 (39, [(0, .ref 189), (1, .int (i32 v214)), (2, .long (i64 v215))], [], (mhp (mO m [(7, (m216.1 7)), (8, (m216.1 8)), (9, (m216.1 9)), (10, (m216.1 10)), (11, (m216.1 11)), (12, (m216.1 12)), (28, (m.1 28)), (69, (m.1 69)), (70, (m.1 70)), (71, (m.1 71)), (72, (m.1 72)), (75, (m.1 75))] [(65, (m.2 65)), (66, (m.2 66)), (67, (m.2 67)), (68, (m.2 68))]) c, N), 0, 0) (Q_after m c N B) := by
    intro v214 v215 m216 q218 q219 q220 ic221 ic222 ic223 ic224
    obtain ⟨q218a, q218b⟩ := id q218
    obtain ⟨q219a, q219b⟩ := id q219
    have q220_7 : 0 ≤ m216.1 7 ∧ m216.1 7 ≤ 330 := q220.1 7
    have q220_8 : 0 ≤ m216.1 8 ∧ m216.1 8 ≤ 4000 := q220.1 8
    have q220_9 : 0 ≤ m216.1 9 ∧ m216.1 9 ≤ 4000 := q220.1 9
    have q220_10 : 0 ≤ m216.1 10 ∧ m216.1 10 ≤ 8 := q220.1 10
    have q220_11 : (-1) ≤ m216.1 11 ∧ m216.1 11 ≤ 4000 := q220.1 11
    have q220_12 : (-9223372036854775808) ≤ m216.1 12 ∧ m216.1 12 ≤ 9223372036854775807 := q220.1 12
    refine T_ld 40 (.ref 189) rfl (fun _ => rfl) ?_
    refine T_ld 42 (.int (i32 58)) rfl (fun _ => rfl) ?_
    refine T_call 45 232 [.ref 189, .int (i32 58)] [] rfl (fun _ => rfl) rfl (c_need w (mO m [(7, (m216.1 7)), (8, (m216.1 8)), (9, (m216.1 9)), (10, (m216.1 10)), (11, (m216.1 11)), (12, (m216.1 12)), (28, (m.1 28)), (69, (m.1 69)), (70, (m.1 70)), (71, (m.1 71)), (72, (m.1 72)), (75, (m.1 75))] [(65, (m.2 65)), (66, (m.2 66)), (67, (m.2 67)), (68, (m.2 68))]) c N D (by omega) (Ty_mO hT rfl rfl ⟨(q220.1 7), (q220.1 8), (q220.1 9), (q220.1 10), (q220.1 11), (q220.1 12), f28, f69, f70, f71, f72, f75, trivial⟩ ⟨(hT.2.1 65), (hT.2.1 66), (hT.2.1 67), (hT.2.1 68), trivial⟩) 58 ⟨by decide, by decide⟩ (show 1 ≤ (58 : Int) by omega) (show LxP (m216.1 7) (m216.1 8) (m216.1 9) (m.1 6) (m216.1 10) by first | exact hLx | (intro h9; exfalso; omega) | (intro h9; have h8 := hLx (by omega); omega))) (fun rr226 k227 => ?_)
    obtain ⟨y228, y230, y232, y234, y236, y238, g229, g231, g233, g235, g237, g239, h240, h241, h242, h243, rfl⟩ := k227
    refine ⟨_, _, rfl, ?_⟩
    refine T_nf2 (st' := []) (l' := [(7, y228), (8, y230), (9, y232), (10, y234), (11, y236), (12, y238), (28, (m.1 28)), (69, (m.1 69)), (70, (m.1 70)), (71, (m.1 71)), (72, (m.1 72)), (75, (m.1 75))]) (a' := [(65, (m.2 65)), (66, (m.2 66)), (67, (m.2 67)), (68, (m.2 68))]) [7, 8, 9, 10, 11, 12] [] rfl ⟨rfl, rfl, rfl, rfl, rfl, rfl, rfl, rfl, rfl, rfl, rfl, rfl, rfl, rfl, rfl, rfl, rfl, rfl, rfl, rfl, rfl, rfl, rfl, rfl, trivial⟩ ⟨rfl, rfl, rfl, rfl, rfl, rfl, rfl, rfl, trivial⟩ rfl rfl (by decide) (by decide) ?_
    replace h240 : LxP y228 y230 y232 (m.1 6) y234 := h240
    replace h241 : y234 = 0 → (m216.1 10) = 0 ∧ (m216.1 7) = (58 : Int) := h241
    replace h242 : (m216.1 8) ≤ y230 := h242
    replace h243 : y234 = 0 → (m216.1 8) + (m216.1 9) ≤ y230 := h243
    have hf244 : 1 ≤ y234 := by omega
    clear h241
    clear h243
    have hLx := h240
    clear q220_7 q220_8 q220_9 q220_10 q220_11 q220_12 ic223 ic224 h242
    exact J45_185 v214 v215 (mO m [(7, y228), (8, y230), (9, y232), (10, y234), (11, y236), (12, y238), (28, (m.1 28)), (69, (m.1 69)), (70, (m.1 70)), (71, (m.1 71)), (72, (m.1 72)), (75, (m.1 75))] [(65, (m.2 65)), (66, (m.2 66)), (67, (m.2 67)), (68, (m.2 68))]) (r32 (by omega) (by omega)) (r64 (by omega) (by omega)) (Ty_mO hT rfl rfl ⟨g229, g231, g233, g235, g237, g239, f28, f69, f70, f71, f72, f75, trivial⟩ ⟨(hT.2.1 65), (hT.2.1 66), (hT.2.1 67), (hT.2.1 68), trivial⟩) (show 0 ≤ v214 by omega) (show v214 ≤ 4000 by omega) (show 1 ≤ y234 by omega) (show y234 ≤ 8 by omega)
  have J30_247 : ∀ (v245 : Int) (m246 : mR), (R32 v245) → (Ty m246) → (0 ≤ v245) → (v245 ≤ 4000) → (1 ≤ (m246.1 10)) → ((m246.1 10) ≤ 8) → TT w D pm_255 (30, [(0, .ref 189), (1, .int (i32 v245))], [], (mhp (mO m [(7, (m246.1 7)), (8, (m246.1 8)), (9, (m246.1 9)), (10, (m246.1 10)), (11, (m246.1 11)), (12, (m246.1 12)), (28, (m.1 28)), (69, (m.1 69)), (70, (m.1 70)), (71, (m.1 71)), (72, (m.1 72)), (75, (m.1 75))] [(65, (m.2 65)), (66, (m.2 66)), (67, (m.2 67)), (68, (m.2 68))]) c, N), 0, 0) (Q_after m c N B) := by
    intro v245 m246 q248 q249 ic250 ic251 ic252 ic253
    obtain ⟨q248a, q248b⟩ := id q248
    have q249_7 : 0 ≤ m246.1 7 ∧ m246.1 7 ≤ 330 := q249.1 7
    have q249_8 : 0 ≤ m246.1 8 ∧ m246.1 8 ≤ 4000 := q249.1 8
    have q249_9 : 0 ≤ m246.1 9 ∧ m246.1 9 ≤ 4000 := q249.1 9
    have q249_10 : 0 ≤ m246.1 10 ∧ m246.1 10 ≤ 8 := q249.1 10
    have q249_11 : (-1) ≤ m246.1 11 ∧ m246.1 11 ≤ 4000 := q249.1 11
    have q249_12 : (-9223372036854775808) ≤ m246.1 12 ∧ m246.1 12 ≤ 9223372036854775807 := q249.1 12
    refine T_gf 34 (.long (i64 (m246.1 12))) rfl rfl rfl rfl rfl rfl ?_
    refine T_sto 35 [(2, .long (i64 (m246.1 12))), (0, .ref 189), (1, .int (i32 v245))] rfl (fun _ => rfl) ?_
    refine T_ld 36 (.ref 189) rfl (fun _ => rfl) ?_
    refine T_call 39 212 [.ref 189] [] rfl (fun _ => rfl) rfl (c_next w (mO m [(7, (m246.1 7)), (8, (m246.1 8)), (9, (m246.1 9)), (10, (m246.1 10)), (11, (m246.1 11)), (12, (m246.1 12)), (28, (m.1 28)), (69, (m.1 69)), (70, (m.1 70)), (71, (m.1 71)), (72, (m.1 72)), (75, (m.1 75))] [(65, (m.2 65)), (66, (m.2 66)), (67, (m.2 67)), (68, (m.2 68))]) c N D (by omega) (Ty_mO hT rfl rfl ⟨(q249.1 7), (q249.1 8), (q249.1 9), (q249.1 10), (q249.1 11), (q249.1 12), f28, f69, f70, f71, f72, f75, trivial⟩ ⟨(hT.2.1 65), (hT.2.1 66), (hT.2.1 67), (hT.2.1 68), trivial⟩) (show (m246.1 10) = 0 → (m246.1 8) + (m246.1 9) ≤ (m.1 6) by first | omega | (intro h9; have h8 := hLx h9; omega))) (fun rr255 k256 => ?_)
    obtain ⟨y257, y259, y261, y263, y265, y267, g258, g260, g262, g264, g266, g268, h269, h270, h271, h272, rfl⟩ := k256
    refine ⟨_, _, rfl, ?_⟩
    refine T_nf2 (st' := []) (l' := [(7, y257), (8, y259), (9, y261), (10, y263), (11, y265), (12, y267), (28, (m.1 28)), (69, (m.1 69)), (70, (m.1 70)), (71, (m.1 71)), (72, (m.1 72)), (75, (m.1 75))]) (a' := [(65, (m.2 65)), (66, (m.2 66)), (67, (m.2 67)), (68, (m.2 68))]) [7, 8, 9, 10, 11, 12] [] rfl ⟨rfl, rfl, rfl, rfl, rfl, rfl, rfl, rfl, rfl, rfl, rfl, rfl, rfl, rfl, rfl, rfl, rfl, rfl, rfl, rfl, rfl, rfl, rfl, rfl, trivial⟩ ⟨rfl, rfl, rfl, rfl, rfl, rfl, rfl, rfl, trivial⟩ rfl rfl (by decide) (by decide) ?_
    replace h269 : LxP y257 y259 y261 (m.1 6) y263 := h269
    replace h270 : y263 = 0 → (m246.1 10) = 0 := h270
    replace h271 : (m246.1 8) ≤ y259 := h271
    replace h272 : y263 = 0 → (m246.1 8) + (m246.1 9) ≤ y259 := h272
    have hf273 : 1 ≤ y263 := by omega
    clear h270
    clear h272
    have hLx := h269
    clear q249_7 q249_8 q249_9 q249_10 q249_11 ic252 ic253 h271
    refine Tm_lv (a := [(0, .ref 189), (1, .int (i32 v245)), (2, .long (i64 (m246.1 12)))]) rfl rfl ⟨rfl, rfl, rfl, trivial⟩ ?_
    exact J39_217 v245 (m246.1 12) (mO m [(7, y257), (8, y259), (9, y261), (10, y263), (11, y265), (12, y267), (28, (m.1 28)), (69, (m.1 69)), (70, (m.1 70)), (71, (m.1 71)), (72, (m.1 72)), (75, (m.1 75))] [(65, (m.2 65)), (66, (m.2 66)), (67, (m.2 67)), (68, (m.2 68))]) (r32 (by omega) (by omega)) (r64 (by omega) (by omega)) (Ty_mO hT rfl rfl ⟨g258, g260, g262, g264, g266, g268, f28, f69, f70, f71, f72, f75, trivial⟩ ⟨(hT.2.1 65), (hT.2.1 66), (hT.2.1 67), (hT.2.1 68), trivial⟩) (show 0 ≤ v245 by omega) (show v245 ≤ 4000 by omega) (show 1 ≤ y263 by omega) (show y263 ≤ 8 by omega)
  refine T_gf 4 (.int (i32 (m.1 7))) rfl rfl rfl rfl rfl rfl ?_
  refine T_ld 6 (.int (i32 91)) rfl (fun _ => rfl) ?_
  refine T_icmp 175 9 rfl rfl rfl (r32 (by omega) (by omega)) ⟨by decide, by decide⟩ (fun (h274 : (m.1 7) ≠ 91) => ?_) (fun (h274 : ¬ ((m.1 7) ≠ 91)) => ?_)
  · skip
    refine T_gf 179 (.int (i32 (m.1 7))) rfl rfl rfl rfl rfl rfl ?_
    refine T_ld 182 (.int (i32 330)) rfl (fun _ => rfl) ?_
    refine T_icmp 219 185 rfl rfl rfl (r32 (by omega) (by omega)) ⟨by decide, by decide⟩ (fun (h275 : (m.1 7) ≠ 330) => ?_) (fun (h275 : ¬ ((m.1 7) ≠ 330)) => ?_)
    · skip
      refine T_ld 220 (.ref 189) rfl (fun _ => rfl) ?_
      refine T_ld 221 (.int (i32 2)) rfl (fun _ => rfl) ?_
      refine T_pf (l' := [(7, (m.1 7)), (8, (m.1 8)), (9, (m.1 9)), (10, (m.1 10)), (11, (m.1 11)), (12, (m.1 12)), (28, (m.1 28)), (69, (m.1 69)), (70, (m.1 70)), (71, (m.1 71)), (72, (m.1 72)), (75, 2)]) 224 2 rfl rfl rfl rfl rfl rfl ?_
      refine T_ret rfl (fun _ => rfl) ?_
      exact ⟨(mO m [(7, (m.1 7)), (8, (m.1 8)), (9, (m.1 9)), (10, (m.1 10)), (11, (m.1 11)), (12, (m.1 12)), (28, (m.1 28)), (69, (m.1 69)), (70, (m.1 70)), (71, (m.1 71)), (72, (m.1 72)), (75, 2)] [(65, (m.2 65)), (66, (m.2 66)), (67, (m.2 67)), (68, (m.2 68))]), (Ty_mO hT rfl rfl ⟨f7, f8, f9, f10, f11, f12, f28, f69, f70, f71, f72, ⟨(by omega : (0 : Int) ≤ 2), (by omega : (2 : Int) ≤ 3)⟩, trivial⟩ ⟨(hT.2.1 65), (hT.2.1 66), (hT.2.1 67), (hT.2.1 68), trivial⟩), (show (m.1 10) = 0 → (m.1 10) = 0 by omega), (show LxP (m.1 7) (m.1 8) (m.1 9) (m.1 6) (m.1 10) by first | (first | exact hLx | exact (fun _ => hLx (by omega)) | (intro h9; exfalso; omega)) | (exfalso; omega)), (fun _ => ⟨(show ((2 : Int) = 1 ∧ (m.1 8) + 1 ≤ (m.1 8)) ∨ ((2 : Int) = 2 ∧ (m.1 8) = (m.1 8)) by omega), (show (m.1 69) ≤ 64 by omega), (show (m.1 28) ≤ (m.1 28) by omega), (show XS (m.2 65) (m.2 67) (m.2 76) (m.2 78) (m.2 79) (m.2 80) B (m.1 28) (m.1 73) (m.1 74) 1 by first | (exact hXE) | (exfalso; omega)), (show agr (m.2 65) (m.2 65) (m.1 28) by first | (exact hAgC) | (exfalso; omega))⟩), rfl⟩
    · skip
      refine T_ld 186 (.ref 189) rfl (fun _ => rfl) ?_
      refine T_call 189 212 [.ref 189] [] rfl (fun _ => rfl) rfl (c_next w (mO m [(7, (m.1 7)), (8, (m.1 8)), (9, (m.1 9)), (10, (m.1 10)), (11, (m.1 11)), (12, (m.1 12)), (28, (m.1 28)), (69, (m.1 69)), (70, (m.1 70)), (71, (m.1 71)), (72, (m.1 72)), (75, (m.1 75))] [(65, (m.2 65)), (66, (m.2 66)), (67, (m.2 67)), (68, (m.2 68))]) c N D (by omega) (Ty_mO hT rfl rfl ⟨f7, f8, f9, f10, f11, f12, f28, f69, f70, f71, f72, f75, trivial⟩ ⟨(hT.2.1 65), (hT.2.1 66), (hT.2.1 67), (hT.2.1 68), trivial⟩) (show (m.1 10) = 0 → (m.1 8) + (m.1 9) ≤ (m.1 6) by first | omega | (intro h9; have h8 := hLx h9; omega))) (fun rr276 k277 => ?_)
      obtain ⟨y278, y280, y282, y284, y286, y288, g279, g281, g283, g285, g287, g289, h290, h291, h292, h293, rfl⟩ := k277
      refine ⟨_, _, rfl, ?_⟩
      refine T_nf2 (st' := []) (l' := [(7, y278), (8, y280), (9, y282), (10, y284), (11, y286), (12, y288), (28, (m.1 28)), (69, (m.1 69)), (70, (m.1 70)), (71, (m.1 71)), (72, (m.1 72)), (75, (m.1 75))]) (a' := [(65, (m.2 65)), (66, (m.2 66)), (67, (m.2 67)), (68, (m.2 68))]) [7, 8, 9, 10, 11, 12] [] rfl ⟨rfl, rfl, rfl, rfl, rfl, rfl, rfl, rfl, rfl, rfl, rfl, rfl, rfl, rfl, rfl, rfl, rfl, rfl, rfl, rfl, rfl, rfl, rfl, rfl, trivial⟩ ⟨rfl, rfl, rfl, rfl, rfl, rfl, rfl, rfl, trivial⟩ rfl rfl (by decide) (by decide) ?_
      by_cases hf294 : y284 = 0
      · skip
        subst hf294
        replace h290 : LxP y278 y280 y282 (m.1 6) (0 : Int) := h290
        have hLx := h290
        replace h291 : (m.1 10) = 0 := h291 rfl
        replace h292 : (m.1 8) ≤ y280 := h292
        replace h293 : (m.1 8) + (m.1 9) ≤ y280 := h293 rfl
        have u295 : (m.1 8) + 1 ≤ y280 := by omega
        have hAgC : agr (m.2 65) (m.2 65) (m.1 28) := by first | exact agr_r _ _ | exact hAgC | exact agr_t hAgC hAg (by omega)
        clear g285
        refine T_ld 190 (.ref 189) rfl (fun _ => rfl) ?_
        refine T_ld 191 (.int (i32 1)) rfl (fun _ => rfl) ?_
        refine T_ld 193 (.int (i32 64)) rfl (fun _ => rfl) ?_
        refine T_call 196 234 [.ref 189, .int (i32 1), .int (i32 64)] [] rfl (fun _ => rfl) rfl (c_number w (mO m [(7, y278), (8, y280), (9, y282), (10, 0), (11, y286), (12, y288), (28, (m.1 28)), (69, (m.1 69)), (70, (m.1 70)), (71, (m.1 71)), (72, (m.1 72)), (75, (m.1 75))] [(65, (m.2 65)), (66, (m.2 66)), (67, (m.2 67)), (68, (m.2 68))]) c N D (by omega) (Ty_mO hT rfl rfl ⟨g279, g281, g283, ⟨(by omega : (0 : Int) ≤ 0), (by omega : (0 : Int) ≤ 8)⟩, g287, g289, f28, f69, f70, f71, f72, f75, trivial⟩ ⟨(hT.2.1 65), (hT.2.1 66), (hT.2.1 67), (hT.2.1 68), trivial⟩) 1 64 ⟨by decide, by decide⟩ ⟨by decide, by decide⟩ (show LxP y278 y280 y282 (m.1 6) (0 : Int) by first | exact hLx | (intro h9; exfalso; omega) | (intro h9; have h8 := hLx (by omega); omega)) (show (1 : Int) ≤ (64 : Int) by omega)) (fun rr296 k297 => ?_)
        obtain ⟨y298, y300, y302, y304, y306, y308, nu, g299, g301, g303, g305, g307, g309, g310, h311, h312, h313, h314, h315, h316, rfl⟩ := k297
        refine ⟨_, _, rfl, ?_⟩
        refine T_nf2 (st' := [.int (i32 nu)]) (l' := [(7, y298), (8, y300), (9, y302), (10, y304), (11, y306), (12, y308), (28, (m.1 28)), (69, (m.1 69)), (70, (m.1 70)), (71, (m.1 71)), (72, (m.1 72)), (75, (m.1 75))]) (a' := [(65, (m.2 65)), (66, (m.2 66)), (67, (m.2 67)), (68, (m.2 68))]) [7, 8, 9, 10, 11, 12] [] rfl ⟨rfl, rfl, rfl, rfl, rfl, rfl, rfl, rfl, rfl, rfl, rfl, rfl, rfl, rfl, rfl, rfl, rfl, rfl, rfl, rfl, rfl, rfl, rfl, rfl, trivial⟩ ⟨rfl, rfl, rfl, rfl, rfl, rfl, rfl, rfl, trivial⟩ rfl rfl (by decide) (by decide) ?_
        obtain ⟨g310a, g310b⟩ := g310
        by_cases hf317 : y304 = 0
        · skip
          subst hf317
          replace h311 : LxP y298 y300 y302 (m.1 6) (0 : Int) := h311
          have hLx := h311
          replace h312 : y280 ≤ y300 := h312
          replace h313 : (0 : Int) = 0 ∧ y280 + y282 ≤ y300 := h313 rfl
          replace h314 : y278 = 2 := h314 rfl
          replace h315 : (1 : Int) ≤ nu ∧ nu ≤ (64 : Int) := h315
          replace h316 : nu = y288 := h316 rfl
          have u318 : (m.1 8) + 1 ≤ y300 := by omega
          have hAgC : agr (m.2 65) (m.2 65) (m.1 28) := by first | exact agr_r _ _ | exact hAgC | exact agr_t hAgC hAg (by omega)
          clear g279 g281 g283 g287 g289 h290 h292 h293 u295 g305 h312 h313 h314 h316
          refine T_sto 197 [(1, .int (i32 nu)), (0, .ref 189)] rfl (fun _ => rfl) ?_
          have hAr : ar 406 ≤ 1 + lh (m.2 79) (m.2 80) (m.1 73) := by rw [show ar 406 = 1 from rfl]; omega
          have hCk : CNk 406 0 := by refine ⟨?_, ?_, ?_, ?_⟩ <;> omega
          refine T_ld 198 (.ref 189) rfl (fun _ => rfl) ?_
          refine T_ld 201 (.int (i32 406)) rfl (fun _ => rfl) ?_
          refine T_ld 202 (.int (i32 nu)) rfl (fun _ => rfl) ?_
          refine T_ld 203 (.int (i32 0)) rfl (fun _ => rfl) ?_
          refine T_ld 204 (.long (i64 0)) rfl (fun _ => rfl) ?_
          refine T_call 207 248 [.ref 189, .int (i32 406), .int (i32 nu), .int (i32 0), .long (i64 0)] [] rfl (fun _ => rfl) rfl (c_node w (mO m [(7, y298), (8, y300), (9, y302), (10, 0), (11, y306), (12, y308), (28, (m.1 28)), (69, (m.1 69)), (70, (m.1 70)), (71, (m.1 71)), (72, (m.1 72)), (75, (m.1 75))] [(65, (m.2 65)), (66, (m.2 66)), (67, (m.2 67)), (68, (m.2 68))]) c N D (by omega) (Ty_mO hT rfl rfl ⟨g299, g301, g303, ⟨(by omega : (0 : Int) ≤ 0), (by omega : (0 : Int) ≤ 8)⟩, g307, g309, f28, f69, f70, f71, f72, f75, trivial⟩ ⟨(hT.2.1 65), (hT.2.1 66), (hT.2.1 67), (hT.2.1 68), trivial⟩) 406 nu 0 0 B (1 + lh (m.2 79) (m.2 80) (m.1 73)) ⟨by decide, by decide⟩ (r32 (by omega) (by omega)) ⟨by decide, by decide⟩ ⟨by decide, by decide⟩ (fun _ => ⟨(show 0 ≤ (406 : Int) ∧ (406 : Int) ≤ 408 by first | omega | decide), (show 0 ≤ nu ∧ nu ≤ 64 by first | omega | decide), (show 0 ≤ (0 : Int) ∧ (0 : Int) ≤ 191 by first | omega | decide), (show CNk (406 : Int) (0 : Int) by first | exact hCk | (refine ⟨?_, ?_, ?_, ?_⟩ <;> omega)), (show ar (406 : Int) ≤ (1 + lh (m.2 79) (m.2 80) (m.1 73)) by first | exact hAr | omega), (show EX (m.2 65) (m.2 67) B (m.1 28) (1 + lh (m.2 79) (m.2 80) (m.1 73)) by first | exact hEX | assumption)⟩)) (fun rr319 k320 => ?_)
          obtain ⟨m321, hT322, h323, c324, rfl⟩ := k320
          refine ⟨_, _, rfl, ?_⟩
          refine T_nf2 (st' := []) (l' := [(7, y298), (8, y300), (9, y302), (10, (m321.1 10)), (11, (m321.1 11)), (12, y308), (28, (m321.1 28)), (69, (m.1 69)), (70, (m.1 70)), (71, (m.1 71)), (72, (m.1 72)), (75, (m.1 75))]) (a' := [(65, (m321.2 65)), (66, (m321.2 66)), (67, (m321.2 67)), (68, (m321.2 68))]) [10, 11, 28] [65, 66, 67, 68] rfl ⟨rfl, rfl, rfl, rfl, rfl, rfl, rfl, rfl, rfl, rfl, rfl, rfl, rfl, rfl, rfl, rfl, rfl, rfl, rfl, rfl, rfl, rfl, rfl, rfl, rfl, rfl, rfl, rfl, trivial⟩ ⟨rfl, rfl, rfl, rfl, rfl, rfl, rfl, rfl, trivial⟩ rfl rfl (by decide) (by decide) ?_
          have g325 : 0 ≤ m321.1 10 ∧ m321.1 10 ≤ 8 := hT322.1 10
          have g326 : (-1) ≤ m321.1 11 ∧ m321.1 11 ≤ 4000 := hT322.1 11
          have g327 : 0 ≤ m321.1 28 ∧ m321.1 28 ≤ 800 := hT322.1 28
          by_cases hf328 : (m321.1 10) = 0
          · skip
            replace h323 : (0 : Int) = 0 := h323 hf328
            obtain ⟨c329, c330, c331⟩ := c324 hf328
            replace c329 : (m321.1 28) = (m.1 28) + 1 := c329
            replace c330 : EX (m321.2 65) (m321.2 67) B (m321.1 28) ((1 + lh (m.2 79) (m.2 80) (m.1 73)) + 1 - ar (406 : Int)) := c330
            have hEX := c330
            replace c331 : agr (m.2 65) (m321.2 65) (m.1 28) := c331
            have hAg := c331
            clear c324
            have u332 : (m.1 8) + 1 ≤ y300 := by omega
            have hAgC : agr (m.2 65) (m321.2 65) (m.1 28) := by first | exact agr_r _ _ | exact hAgC | exact agr_t hAgC hAg (by omega)
            clear g307
            refine T_ld 208 (.ref 189) rfl (fun _ => rfl) ?_
            refine T_ld 209 (.int (i32 nu)) rfl (fun _ => rfl) ?_
            refine T_gf 213 (.int (i32 (m.1 70))) rfl rfl rfl rfl rfl rfl ?_
            refine T_call 216 250 [.ref 189, .int (i32 nu), .int (i32 (m.1 70))] [] rfl (fun _ => rfl) rfl (c_unit w (mO m [(7, y298), (8, y300), (9, y302), (10, (m321.1 10)), (11, (m321.1 11)), (12, y308), (28, (m321.1 28)), (69, (m.1 69)), (70, (m.1 70)), (71, (m.1 71)), (72, (m.1 72)), (75, (m.1 75))] [(65, (m321.2 65)), (66, (m321.2 66)), (67, (m321.2 67)), (68, (m321.2 68))]) c N D (by omega) (Ty_mO hT rfl rfl ⟨g299, g301, g303, (hT322.1 10), (hT322.1 11), g309, (hT322.1 28), f69, f70, f71, f72, f75, trivial⟩ ⟨(hT322.2.1 65), (hT322.2.1 66), (hT322.2.1 67), (hT322.2.1 68), trivial⟩) nu (m.1 70) (r32 (by omega) (by omega)) (r32 (by omega) (by omega)) (show 0 ≤ nu ∧ nu ≤ 1024 by omega) (show 0 ≤ (m.1 70) ∧ (m.1 70) ≤ 4000 by omega)) (fun rr333 k334 => ?_)
            obtain ⟨m335, hT336, h337, rfl⟩ := k334
            refine ⟨_, _, rfl, ?_⟩
            refine T_nf2 (st' := []) (l' := [(7, y298), (8, y300), (9, y302), (10, (m321.1 10)), (11, (m321.1 11)), (12, y308), (28, (m321.1 28)), (69, (m335.1 69)), (70, (m335.1 70)), (71, (m335.1 71)), (72, (m335.1 72)), (75, (m.1 75))]) (a' := [(65, (m321.2 65)), (66, (m321.2 66)), (67, (m321.2 67)), (68, (m321.2 68))]) [69, 70, 71, 72] [] rfl ⟨rfl, rfl, rfl, rfl, rfl, rfl, rfl, rfl, rfl, rfl, rfl, rfl, rfl, rfl, rfl, rfl, rfl, rfl, rfl, rfl, rfl, rfl, rfl, rfl, rfl, rfl, rfl, rfl, rfl, rfl, rfl, trivial⟩ ⟨rfl, rfl, rfl, rfl, rfl, rfl, rfl, rfl, trivial⟩ rfl rfl (by decide) (by decide) ?_
            have g338 : 0 ≤ m335.1 69 ∧ m335.1 69 ≤ 1024 := hT336.1 69
            have g339 : 0 ≤ m335.1 70 ∧ m335.1 70 ≤ 4000 := hT336.1 70
            have g340 : 0 ≤ m335.1 71 ∧ m335.1 71 ≤ 1 := hT336.1 71
            have g341 : (-9223372036854775808) ≤ m335.1 72 ∧ m335.1 72 ≤ 9223372036854775807 := hT336.1 72
            replace h337 : (m335.1 69) = nu := h337
            have u342 : (m.1 8) + 1 ≤ y300 := by omega
            have hAgC : agr (m.2 65) (m321.2 65) (m.1 28) := by first | exact agr_r _ _ | exact hAgC | exact agr_t hAgC hAg (by omega)
            have hXE : XS (m321.2 65) (m321.2 67) (m.2 76) (m.2 78) (m.2 79) (m.2 80) B (m321.1 28) (m.1 73) (m.1 74) 1 := XS_of hXS hEX (by rw [show ar 406 = 1 from rfl]; omega)
            refine T_goto 224 rfl (fun _ => rfl) ?_
            refine T_ret rfl (fun _ => rfl) ?_
            exact ⟨(mO m [(7, y298), (8, y300), (9, y302), (10, (m321.1 10)), (11, (m321.1 11)), (12, y308), (28, (m321.1 28)), (69, (m335.1 69)), (70, (m335.1 70)), (71, (m335.1 71)), (72, (m335.1 72)), (75, (m.1 75))] [(65, (m321.2 65)), (66, (m321.2 66)), (67, (m321.2 67)), (68, (m321.2 68))]), (Ty_mO hT rfl rfl ⟨g299, g301, g303, (hT322.1 10), (hT322.1 11), g309, (hT322.1 28), (hT336.1 69), (hT336.1 70), (hT336.1 71), (hT336.1 72), f75, trivial⟩ ⟨(hT322.2.1 65), (hT322.2.1 66), (hT322.2.1 67), (hT322.2.1 68), trivial⟩), (show (m321.1 10) = 0 → (m.1 10) = 0 by omega), (show LxP y298 y300 y302 (m.1 6) (m321.1 10) by first | (first | exact hLx | exact (fun _ => hLx (by omega)) | (intro h9; exfalso; omega)) | (exfalso; omega)), (fun _ => ⟨(show ((m.1 75) = 1 ∧ (m.1 8) + 1 ≤ y300) ∨ ((m.1 75) = 2 ∧ y300 = (m.1 8)) by omega), (show (m335.1 69) ≤ 64 by omega), (show (m.1 28) ≤ (m321.1 28) by omega), (show XS (m321.2 65) (m321.2 67) (m.2 76) (m.2 78) (m.2 79) (m.2 80) B (m321.1 28) (m.1 73) (m.1 74) 1 by first | (exact hXE) | (exfalso; omega)), (show agr (m.2 65) (m321.2 65) (m.1 28) by first | (exact hAgC) | (exfalso; omega))⟩), rfl⟩
          · skip
            clear c324
            clear h323
            have hf343 : 1 ≤ (m321.1 10) := by omega
            clear g307
            refine Tm_lv (a := [(0, .ref 189), (1, .int (i32 nu))]) rfl rfl ⟨rfl, rfl, trivial⟩ ?_
            exact J207_38 nu (mO m [(7, y298), (8, y300), (9, y302), (10, (m321.1 10)), (11, (m321.1 11)), (12, y308), (28, (m321.1 28)), (69, (m.1 69)), (70, (m.1 70)), (71, (m.1 71)), (72, (m.1 72)), (75, (m.1 75))] [(65, (m321.2 65)), (66, (m321.2 66)), (67, (m321.2 67)), (68, (m321.2 68))]) (r32 (by omega) (by omega)) (Ty_mO hT rfl rfl ⟨g299, g301, g303, (hT322.1 10), (hT322.1 11), g309, (hT322.1 28), f69, f70, f71, f72, f75, trivial⟩ ⟨(hT322.2.1 65), (hT322.2.1 66), (hT322.2.1 67), (hT322.2.1 68), trivial⟩) (show 1 ≤ nu by omega) (show nu ≤ 64 by omega) (show 1 ≤ (m321.1 10) by omega) (show (m321.1 10) ≤ 8 by omega)
        · skip
          replace h311 : LxP y298 y300 y302 (m.1 6) y304 := h311
          have hLx := h311
          replace h312 : y280 ≤ y300 := h312
          clear h313
          clear h314
          replace h315 : (1 : Int) ≤ nu ∧ nu ≤ (64 : Int) := h315
          clear h316
          have hf344 : 1 ≤ y304 := by omega
          clear g279 g281 g283 g287 g289 h290 h292 h293 u295 h312
          exact J196_57 nu (mO m [(7, y298), (8, y300), (9, y302), (10, y304), (11, y306), (12, y308), (28, (m.1 28)), (69, (m.1 69)), (70, (m.1 70)), (71, (m.1 71)), (72, (m.1 72)), (75, (m.1 75))] [(65, (m.2 65)), (66, (m.2 66)), (67, (m.2 67)), (68, (m.2 68))]) (r32 (by omega) (by omega)) (Ty_mO hT rfl rfl ⟨g299, g301, g303, g305, g307, g309, f28, f69, f70, f71, f72, f75, trivial⟩ ⟨(hT.2.1 65), (hT.2.1 66), (hT.2.1 67), (hT.2.1 68), trivial⟩) (show 1 ≤ nu by omega) (show nu ≤ 64 by omega) (show 1 ≤ y304 by omega) (show y304 ≤ 8 by omega)
      · skip
        replace h290 : LxP y278 y280 y282 (m.1 6) y284 := h290
        have hLx := h290
        clear h291
        replace h292 : (m.1 8) ≤ y280 := h292
        clear h293
        have hf345 : 1 ≤ y284 := by omega
        refine T_ld 190 (.ref 189) rfl (fun _ => rfl) ?_
        refine T_ld 191 (.int (i32 1)) rfl (fun _ => rfl) ?_
        refine T_ld 193 (.int (i32 64)) rfl (fun _ => rfl) ?_
        refine T_call 196 234 [.ref 189, .int (i32 1), .int (i32 64)] [] rfl (fun _ => rfl) rfl (c_number w (mO m [(7, y278), (8, y280), (9, y282), (10, y284), (11, y286), (12, y288), (28, (m.1 28)), (69, (m.1 69)), (70, (m.1 70)), (71, (m.1 71)), (72, (m.1 72)), (75, (m.1 75))] [(65, (m.2 65)), (66, (m.2 66)), (67, (m.2 67)), (68, (m.2 68))]) c N D (by omega) (Ty_mO hT rfl rfl ⟨g279, g281, g283, g285, g287, g289, f28, f69, f70, f71, f72, f75, trivial⟩ ⟨(hT.2.1 65), (hT.2.1 66), (hT.2.1 67), (hT.2.1 68), trivial⟩) 1 64 ⟨by decide, by decide⟩ ⟨by decide, by decide⟩ (show LxP y278 y280 y282 (m.1 6) y284 by first | exact hLx | (intro h9; exfalso; omega) | (intro h9; have h8 := hLx (by omega); omega)) (show (1 : Int) ≤ (64 : Int) by omega)) (fun rr346 k347 => ?_)
        obtain ⟨y348, y350, y352, y354, y356, y358, nu, g349, g351, g353, g355, g357, g359, g360, h361, h362, h363, h364, h365, h366, rfl⟩ := k347
        refine ⟨_, _, rfl, ?_⟩
        refine T_nf2 (st' := [.int (i32 nu)]) (l' := [(7, y348), (8, y350), (9, y352), (10, y354), (11, y356), (12, y358), (28, (m.1 28)), (69, (m.1 69)), (70, (m.1 70)), (71, (m.1 71)), (72, (m.1 72)), (75, (m.1 75))]) (a' := [(65, (m.2 65)), (66, (m.2 66)), (67, (m.2 67)), (68, (m.2 68))]) [7, 8, 9, 10, 11, 12] [] rfl ⟨rfl, rfl, rfl, rfl, rfl, rfl, rfl, rfl, rfl, rfl, rfl, rfl, rfl, rfl, rfl, rfl, rfl, rfl, rfl, rfl, rfl, rfl, rfl, rfl, trivial⟩ ⟨rfl, rfl, rfl, rfl, rfl, rfl, rfl, rfl, trivial⟩ rfl rfl (by decide) (by decide) ?_
        obtain ⟨g360a, g360b⟩ := g360
        replace h361 : LxP y348 y350 y352 (m.1 6) y354 := h361
        replace h362 : y280 ≤ y350 := h362
        replace h363 : y354 = 0 → y284 = 0 ∧ y280 + y282 ≤ y350 := h363
        replace h364 : y354 = 0 → y278 = 2 := h364
        replace h365 : (1 : Int) ≤ nu ∧ nu ≤ (64 : Int) := h365
        replace h366 : y354 = 0 → nu = y288 := h366
        have hf367 : 1 ≤ y354 := by omega
        clear h363
        clear h364
        clear h366
        have hLx := h361
        clear g279 g281 g283 g285 g287 g289 h290 h292 hf345 h362
        exact J196_57 nu (mO m [(7, y348), (8, y350), (9, y352), (10, y354), (11, y356), (12, y358), (28, (m.1 28)), (69, (m.1 69)), (70, (m.1 70)), (71, (m.1 71)), (72, (m.1 72)), (75, (m.1 75))] [(65, (m.2 65)), (66, (m.2 66)), (67, (m.2 67)), (68, (m.2 68))]) (r32 (by omega) (by omega)) (Ty_mO hT rfl rfl ⟨g349, g351, g353, g355, g357, g359, f28, f69, f70, f71, f72, f75, trivial⟩ ⟨(hT.2.1 65), (hT.2.1 66), (hT.2.1 67), (hT.2.1 68), trivial⟩) (show 1 ≤ nu by omega) (show nu ≤ 64 by omega) (show 1 ≤ y354 by omega) (show y354 ≤ 8 by omega)
  · skip
    refine T_ld 10 (.ref 189) rfl (fun _ => rfl) ?_
    refine T_call 13 212 [.ref 189] [] rfl (fun _ => rfl) rfl (c_next w (mO m [(7, (m.1 7)), (8, (m.1 8)), (9, (m.1 9)), (10, (m.1 10)), (11, (m.1 11)), (12, (m.1 12)), (28, (m.1 28)), (69, (m.1 69)), (70, (m.1 70)), (71, (m.1 71)), (72, (m.1 72)), (75, (m.1 75))] [(65, (m.2 65)), (66, (m.2 66)), (67, (m.2 67)), (68, (m.2 68))]) c N D (by omega) (Ty_mO hT rfl rfl ⟨f7, f8, f9, f10, f11, f12, f28, f69, f70, f71, f72, f75, trivial⟩ ⟨(hT.2.1 65), (hT.2.1 66), (hT.2.1 67), (hT.2.1 68), trivial⟩) (show (m.1 10) = 0 → (m.1 8) + (m.1 9) ≤ (m.1 6) by first | omega | (intro h9; have h8 := hLx h9; omega))) (fun rr368 k369 => ?_)
    obtain ⟨y370, y372, y374, y376, y378, y380, g371, g373, g375, g377, g379, g381, h382, h383, h384, h385, rfl⟩ := k369
    refine ⟨_, _, rfl, ?_⟩
    refine T_nf2 (st' := []) (l' := [(7, y370), (8, y372), (9, y374), (10, y376), (11, y378), (12, y380), (28, (m.1 28)), (69, (m.1 69)), (70, (m.1 70)), (71, (m.1 71)), (72, (m.1 72)), (75, (m.1 75))]) (a' := [(65, (m.2 65)), (66, (m.2 66)), (67, (m.2 67)), (68, (m.2 68))]) [7, 8, 9, 10, 11, 12] [] rfl ⟨rfl, rfl, rfl, rfl, rfl, rfl, rfl, rfl, rfl, rfl, rfl, rfl, rfl, rfl, rfl, rfl, rfl, rfl, rfl, rfl, rfl, rfl, rfl, rfl, trivial⟩ ⟨rfl, rfl, rfl, rfl, rfl, rfl, rfl, rfl, trivial⟩ rfl rfl (by decide) (by decide) ?_
    by_cases hf386 : y376 = 0
    · skip
      subst hf386
      replace h382 : LxP y370 y372 y374 (m.1 6) (0 : Int) := h382
      have hLx := h382
      replace h383 : (m.1 10) = 0 := h383 rfl
      replace h384 : (m.1 8) ≤ y372 := h384
      replace h385 : (m.1 8) + (m.1 9) ≤ y372 := h385 rfl
      have u387 : (m.1 8) + 1 ≤ y372 := by omega
      have hAgC : agr (m.2 65) (m.2 65) (m.1 28) := by first | exact agr_r _ _ | exact hAgC | exact agr_t hAgC hAg (by omega)
      clear g377
      refine T_gf 17 (.int (i32 y372)) rfl rfl rfl rfl rfl rfl ?_
      refine T_sto 18 [(1, .int (i32 y372)), (0, .ref 189)] rfl (fun _ => rfl) ?_
      refine T_gf 22 (.int (i32 y370)) rfl rfl rfl rfl rfl rfl ?_
      refine T_ld 23 (.int (i32 2)) rfl (fun _ => rfl) ?_
      refine T_icmp 30 26 rfl rfl rfl (r32 (by omega) (by omega)) ⟨by decide, by decide⟩ (fun (h388 : y370 = 2) => ?_) (fun (h388 : ¬ (y370 = 2)) => ?_)
      · skip
        refine T_gf 34 (.long (i64 y380)) rfl rfl rfl rfl rfl rfl ?_
        refine T_sto 35 [(2, .long (i64 y380)), (1, .int (i32 y372)), (0, .ref 189)] rfl (fun _ => rfl) ?_
        refine T_ld 36 (.ref 189) rfl (fun _ => rfl) ?_
        refine T_call 39 212 [.ref 189] [] rfl (fun _ => rfl) rfl (c_next w (mO m [(7, y370), (8, y372), (9, y374), (10, 0), (11, y378), (12, y380), (28, (m.1 28)), (69, (m.1 69)), (70, (m.1 70)), (71, (m.1 71)), (72, (m.1 72)), (75, (m.1 75))] [(65, (m.2 65)), (66, (m.2 66)), (67, (m.2 67)), (68, (m.2 68))]) c N D (by omega) (Ty_mO hT rfl rfl ⟨g371, g373, g375, ⟨(by omega : (0 : Int) ≤ 0), (by omega : (0 : Int) ≤ 8)⟩, g379, g381, f28, f69, f70, f71, f72, f75, trivial⟩ ⟨(hT.2.1 65), (hT.2.1 66), (hT.2.1 67), (hT.2.1 68), trivial⟩) (show (0 : Int) = 0 → y372 + y374 ≤ (m.1 6) by first | omega | (intro h9; have h8 := hLx h9; omega))) (fun rr389 k390 => ?_)
        obtain ⟨y391, y393, y395, y397, y399, y401, g392, g394, g396, g398, g400, g402, h403, h404, h405, h406, rfl⟩ := k390
        refine ⟨_, _, rfl, ?_⟩
        refine T_nf2 (st' := []) (l' := [(7, y391), (8, y393), (9, y395), (10, y397), (11, y399), (12, y401), (28, (m.1 28)), (69, (m.1 69)), (70, (m.1 70)), (71, (m.1 71)), (72, (m.1 72)), (75, (m.1 75))]) (a' := [(65, (m.2 65)), (66, (m.2 66)), (67, (m.2 67)), (68, (m.2 68))]) [7, 8, 9, 10, 11, 12] [] rfl ⟨rfl, rfl, rfl, rfl, rfl, rfl, rfl, rfl, rfl, rfl, rfl, rfl, rfl, rfl, rfl, rfl, rfl, rfl, rfl, rfl, rfl, rfl, rfl, rfl, trivial⟩ ⟨rfl, rfl, rfl, rfl, rfl, rfl, rfl, rfl, trivial⟩ rfl rfl (by decide) (by decide) ?_
        by_cases hf407 : y397 = 0
        · skip
          subst hf407
          replace h403 : LxP y391 y393 y395 (m.1 6) (0 : Int) := h403
          have hLx := h403
          replace h404 : (0 : Int) = 0 := h404 rfl
          replace h405 : y372 ≤ y393 := h405
          replace h406 : y372 + y374 ≤ y393 := h406 rfl
          have u408 : (m.1 8) + 1 ≤ y393 := by omega
          have hAgC : agr (m.2 65) (m.2 65) (m.1 28) := by first | exact agr_r _ _ | exact hAgC | exact agr_t hAgC hAg (by omega)
          clear g371 g375 g379 h382 h388 g398 h406
          refine T_ld 40 (.ref 189) rfl (fun _ => rfl) ?_
          refine T_ld 42 (.int (i32 58)) rfl (fun _ => rfl) ?_
          refine T_call 45 232 [.ref 189, .int (i32 58)] [] rfl (fun _ => rfl) rfl (c_need w (mO m [(7, y391), (8, y393), (9, y395), (10, 0), (11, y399), (12, y401), (28, (m.1 28)), (69, (m.1 69)), (70, (m.1 70)), (71, (m.1 71)), (72, (m.1 72)), (75, (m.1 75))] [(65, (m.2 65)), (66, (m.2 66)), (67, (m.2 67)), (68, (m.2 68))]) c N D (by omega) (Ty_mO hT rfl rfl ⟨g392, g394, g396, ⟨(by omega : (0 : Int) ≤ 0), (by omega : (0 : Int) ≤ 8)⟩, g400, g402, f28, f69, f70, f71, f72, f75, trivial⟩ ⟨(hT.2.1 65), (hT.2.1 66), (hT.2.1 67), (hT.2.1 68), trivial⟩) 58 ⟨by decide, by decide⟩ (show 1 ≤ (58 : Int) by omega) (show LxP y391 y393 y395 (m.1 6) (0 : Int) by first | exact hLx | (intro h9; exfalso; omega) | (intro h9; have h8 := hLx (by omega); omega))) (fun rr409 k410 => ?_)
          obtain ⟨y411, y413, y415, y417, y419, y421, g412, g414, g416, g418, g420, g422, h423, h424, h425, h426, rfl⟩ := k410
          refine ⟨_, _, rfl, ?_⟩
          refine T_nf2 (st' := []) (l' := [(7, y411), (8, y413), (9, y415), (10, y417), (11, y419), (12, y421), (28, (m.1 28)), (69, (m.1 69)), (70, (m.1 70)), (71, (m.1 71)), (72, (m.1 72)), (75, (m.1 75))]) (a' := [(65, (m.2 65)), (66, (m.2 66)), (67, (m.2 67)), (68, (m.2 68))]) [7, 8, 9, 10, 11, 12] [] rfl ⟨rfl, rfl, rfl, rfl, rfl, rfl, rfl, rfl, rfl, rfl, rfl, rfl, rfl, rfl, rfl, rfl, rfl, rfl, rfl, rfl, rfl, rfl, rfl, rfl, trivial⟩ ⟨rfl, rfl, rfl, rfl, rfl, rfl, rfl, rfl, trivial⟩ rfl rfl (by decide) (by decide) ?_
          by_cases hf427 : y417 = 0
          · skip
            subst hf427
            replace h423 : LxP y411 y413 y415 (m.1 6) (0 : Int) := h423
            have hLx := h423
            replace h424 : (0 : Int) = 0 ∧ y391 = (58 : Int) := h424 rfl
            replace h425 : y393 ≤ y413 := h425
            replace h426 : y393 + y395 ≤ y413 := h426 rfl
            have u428 : (m.1 8) + 1 ≤ y413 := by omega
            have hAgC : agr (m.2 65) (m.2 65) (m.1 28) := by first | exact agr_r _ _ | exact hAgC | exact agr_t hAgC hAg (by omega)
            clear g392 g394 g396 g400 g402 h403 h405 u408 g418 h424 h425 h426
            refine T_gf 49 (.int (i32 0)) rfl rfl rfl rfl rfl rfl ?_
            refine T_if 64 52 rfl rfl rfl ⟨by decide, by decide⟩ (fun h429 => absurd (show (0 : Int) ≠ 0 from h429) (by decide)) (fun _ => ?_)
            refine T_gf 56 (.int (i32 y411)) rfl rfl rfl rfl rfl rfl ?_
            refine T_ld 57 (.int (i32 2)) rfl (fun _ => rfl) ?_
            refine T_icmp 64 60 rfl rfl rfl (r32 (by omega) (by omega)) ⟨by decide, by decide⟩ (fun (h430 : y411 = 2) => ?_) (fun (h430 : ¬ (y411 = 2)) => ?_)
            · skip
              refine T_gf 68 (.long (i64 y421)) rfl rfl rfl rfl rfl rfl ?_
              refine T_sto 70 [(4, .long (i64 y421)), (2, .long (i64 y380)), (1, .int (i32 y372)), (0, .ref 189)] rfl (fun _ => rfl) ?_
              refine T_ld 71 (.ref 189) rfl (fun _ => rfl) ?_
              refine T_call 74 212 [.ref 189] [] rfl (fun _ => rfl) rfl (c_next w (mO m [(7, y411), (8, y413), (9, y415), (10, 0), (11, y419), (12, y421), (28, (m.1 28)), (69, (m.1 69)), (70, (m.1 70)), (71, (m.1 71)), (72, (m.1 72)), (75, (m.1 75))] [(65, (m.2 65)), (66, (m.2 66)), (67, (m.2 67)), (68, (m.2 68))]) c N D (by omega) (Ty_mO hT rfl rfl ⟨g412, g414, g416, ⟨(by omega : (0 : Int) ≤ 0), (by omega : (0 : Int) ≤ 8)⟩, g420, g422, f28, f69, f70, f71, f72, f75, trivial⟩ ⟨(hT.2.1 65), (hT.2.1 66), (hT.2.1 67), (hT.2.1 68), trivial⟩) (show (0 : Int) = 0 → y413 + y415 ≤ (m.1 6) by first | omega | (intro h9; have h8 := hLx h9; omega))) (fun rr431 k432 => ?_)
              obtain ⟨y433, y435, y437, y439, y441, y443, g434, g436, g438, g440, g442, g444, h445, h446, h447, h448, rfl⟩ := k432
              refine ⟨_, _, rfl, ?_⟩
              refine T_nf2 (st' := []) (l' := [(7, y433), (8, y435), (9, y437), (10, y439), (11, y441), (12, y443), (28, (m.1 28)), (69, (m.1 69)), (70, (m.1 70)), (71, (m.1 71)), (72, (m.1 72)), (75, (m.1 75))]) (a' := [(65, (m.2 65)), (66, (m.2 66)), (67, (m.2 67)), (68, (m.2 68))]) [7, 8, 9, 10, 11, 12] [] rfl ⟨rfl, rfl, rfl, rfl, rfl, rfl, rfl, rfl, rfl, rfl, rfl, rfl, rfl, rfl, rfl, rfl, rfl, rfl, rfl, rfl, rfl, rfl, rfl, rfl, trivial⟩ ⟨rfl, rfl, rfl, rfl, rfl, rfl, rfl, rfl, trivial⟩ rfl rfl (by decide) (by decide) ?_
              by_cases hf449 : y439 = 0
              · skip
                subst hf449
                replace h445 : LxP y433 y435 y437 (m.1 6) (0 : Int) := h445
                have hLx := h445
                replace h446 : (0 : Int) = 0 := h446 rfl
                replace h447 : y413 ≤ y435 := h447
                replace h448 : y413 + y415 ≤ y435 := h448 rfl
                have u450 : (m.1 8) + 1 ≤ y435 := by omega
                have hAgC : agr (m.2 65) (m.2 65) (m.1 28) := by first | exact agr_r _ _ | exact hAgC | exact agr_t hAgC hAg (by omega)
                clear g412 g414 g416 g420 h423 u428 h430 g440 h447 h448
                refine T_gf 78 (.int (i32 0)) rfl rfl rfl rfl rfl rfl ?_
                refine T_if 121 81 rfl rfl rfl ⟨by decide, by decide⟩ (fun h451 => absurd (show (0 : Int) ≠ 0 from h451) (by decide)) (fun _ => ?_)
                refine T_ld 82 (.ref 189) rfl (fun _ => rfl) ?_
                refine T_ld 83 (.long (i64 y380)) rfl (fun _ => rfl) ?_
                refine T_ld 84 (.long (i64 0)) rfl (fun _ => rfl) ?_
                refine T_lcmp 85 rfl rfl (r64 (by omega) (by omega)) ⟨by decide, by decide⟩ (fun z452 h453 => ?_)
                obtain ⟨h453a, h453b, h453c, h453d, h453e⟩ := h453
                refine T_if 116 88 rfl rfl rfl (r32 (by omega) (by omega)) (fun (h454 : z452 < 0) => ?_) (fun (h454 : ¬ (z452 < 0)) => ?_)
                · skip
                  have hl455 : y380 < 0 := by omega
                  refine T_ld 117 (.int (i32 0)) rfl (fun _ => rfl) ?_
                  refine T_ld 118 (.int (i32 y372)) rfl (fun _ => rfl) ?_
                  refine T_call 121 256 [.ref 189, .int (i32 0), .int (i32 y372)] [] rfl (fun _ => rfl) rfl (c_want w (mO m [(7, y433), (8, y435), (9, y437), (10, 0), (11, y441), (12, y443), (28, (m.1 28)), (69, (m.1 69)), (70, (m.1 70)), (71, (m.1 71)), (72, (m.1 72)), (75, (m.1 75))] [(65, (m.2 65)), (66, (m.2 66)), (67, (m.2 67)), (68, (m.2 68))]) c N D (by omega) (Ty_mO hT rfl rfl ⟨g434, g436, g438, ⟨(by omega : (0 : Int) ≤ 0), (by omega : (0 : Int) ≤ 8)⟩, g442, g444, f28, f69, f70, f71, f72, f75, trivial⟩ ⟨(hT.2.1 65), (hT.2.1 66), (hT.2.1 67), (hT.2.1 68), trivial⟩) 0 y372 ⟨by decide, by decide⟩ (r32 (by omega) (by omega)) (show 0 ≤ y372 ∧ y372 ≤ 4000 by omega) (fun _ => trivial)) (fun rr456 k457 => ?_)
                  obtain ⟨m458, hT459, h460, c461, rfl⟩ := k457
                  refine ⟨_, _, rfl, ?_⟩
                  refine T_nf2 (st' := []) (l' := [(7, y433), (8, y435), (9, y437), (10, (m458.1 10)), (11, (m458.1 11)), (12, y443), (28, (m.1 28)), (69, (m.1 69)), (70, (m.1 70)), (71, (m.1 71)), (72, (m.1 72)), (75, (m.1 75))]) (a' := [(65, (m.2 65)), (66, (m.2 66)), (67, (m.2 67)), (68, (m.2 68))]) [10, 11] [] rfl ⟨rfl, rfl, rfl, rfl, rfl, rfl, rfl, rfl, rfl, rfl, rfl, rfl, rfl, rfl, rfl, rfl, rfl, rfl, rfl, rfl, rfl, rfl, rfl, rfl, rfl, rfl, rfl, trivial⟩ ⟨rfl, rfl, rfl, rfl, rfl, rfl, rfl, rfl, trivial⟩ rfl rfl (by decide) (by decide) ?_
                  have g462 : 0 ≤ m458.1 10 ∧ m458.1 10 ≤ 8 := hT459.1 10
                  have g463 : (-1) ≤ m458.1 11 ∧ m458.1 11 ≤ 4000 := hT459.1 11
                  by_cases hf464 : (m458.1 10) = 0
                  · skip
                    replace h460 : (0 : Int) = 0 := h460 hf464
                    have c465 := c461 hf464
                    replace c465 : (0 : Int) ≠ 0 := c465
                    clear c461
                    have u466 : (m.1 8) + 1 ≤ y435 := by omega
                    have hAgC : agr (m.2 65) (m.2 65) (m.1 28) := by first | exact agr_r _ _ | exact hAgC | exact agr_t hAgC hAg (by omega)
                    clear g442 h453a h453b h453c h453d h453e h454
                    refine T_ld 122 (.ref 189) rfl (fun _ => rfl) ?_
                    refine T_ld 124 (.int (i32 93)) rfl (fun _ => rfl) ?_
                    refine T_call 127 232 [.ref 189, .int (i32 93)] [] rfl (fun _ => rfl) rfl (c_need w (mO m [(7, y433), (8, y435), (9, y437), (10, (m458.1 10)), (11, (m458.1 11)), (12, y443), (28, (m.1 28)), (69, (m.1 69)), (70, (m.1 70)), (71, (m.1 71)), (72, (m.1 72)), (75, (m.1 75))] [(65, (m.2 65)), (66, (m.2 66)), (67, (m.2 67)), (68, (m.2 68))]) c N D (by omega) (Ty_mO hT rfl rfl ⟨g434, g436, g438, (hT459.1 10), (hT459.1 11), g444, f28, f69, f70, f71, f72, f75, trivial⟩ ⟨(hT.2.1 65), (hT.2.1 66), (hT.2.1 67), (hT.2.1 68), trivial⟩) 93 ⟨by decide, by decide⟩ (show 1 ≤ (93 : Int) by omega) (show LxP y433 y435 y437 (m.1 6) (m458.1 10) by first | exact hLx | (intro h9; exfalso; omega) | (intro h9; have h8 := hLx (by omega); omega))) (fun rr467 k468 => ?_)
                    obtain ⟨y469, y471, y473, y475, y477, y479, g470, g472, g474, g476, g478, g480, h481, h482, h483, h484, rfl⟩ := k468
                    refine ⟨_, _, rfl, ?_⟩
                    refine T_nf2 (st' := []) (l' := [(7, y469), (8, y471), (9, y473), (10, y475), (11, y477), (12, y479), (28, (m.1 28)), (69, (m.1 69)), (70, (m.1 70)), (71, (m.1 71)), (72, (m.1 72)), (75, (m.1 75))]) (a' := [(65, (m.2 65)), (66, (m.2 66)), (67, (m.2 67)), (68, (m.2 68))]) [7, 8, 9, 10, 11, 12] [] rfl ⟨rfl, rfl, rfl, rfl, rfl, rfl, rfl, rfl, rfl, rfl, rfl, rfl, rfl, rfl, rfl, rfl, rfl, rfl, rfl, rfl, rfl, rfl, rfl, rfl, trivial⟩ ⟨rfl, rfl, rfl, rfl, rfl, rfl, rfl, rfl, trivial⟩ rfl rfl (by decide) (by decide) ?_
                    by_cases hf485 : y475 = 0
                    · skip
                      subst hf485
                      replace h481 : LxP y469 y471 y473 (m.1 6) (0 : Int) := h481
                      have hLx := h481
                      replace h482 : (m458.1 10) = 0 ∧ y433 = (93 : Int) := h482 rfl
                      replace h483 : y435 ≤ y471 := h483
                      replace h484 : y435 + y437 ≤ y471 := h484 rfl
                      have u486 : (m.1 8) + 1 ≤ y471 := by omega
                      have hAgC : agr (m.2 65) (m.2 65) (m.1 28) := by first | exact agr_r _ _ | exact hAgC | exact agr_t hAgC hAg (by omega)
                      clear g434 g436 g438 g444 h445 u450 g462 g463 u466 g476 h482 h483 h484
                      refine T_gf 131 (.int (i32 0)) rfl rfl rfl rfl rfl rfl ?_
                      refine T_if 135 134 rfl rfl rfl ⟨by decide, by decide⟩ (fun _ => ?_) (fun h487 => absurd (show (0 : Int) ≤ 0 by decide) h487)
                      refine T_gf 139 (.int (i32 (m.1 70))) rfl rfl rfl rfl rfl rfl ?_
                      refine T_sto 141 [(6, .int (i32 (m.1 70))), (4, .long (i64 y421)), (2, .long (i64 y380)), (1, .int (i32 y372)), (0, .ref 189)] rfl (fun _ => rfl) ?_
                      have hAr : ar 405 ≤ 1 + lh (m.2 79) (m.2 80) (m.1 73) := by rw [show ar 405 = 1 from rfl]; omega
                      have hCk : CNk 405 y421 := by refine ⟨?_, ?_, ?_, ?_⟩ <;> omega
                      refine T_ld 142 (.ref 189) rfl (fun _ => rfl) ?_
                      refine T_ld 145 (.int (i32 405)) rfl (fun _ => rfl) ?_
                      refine T_ld 146 (.long (i64 y380)) rfl (fun _ => rfl) ?_
                      refine T_ld 148 (.long (i64 y421)) rfl (fun _ => rfl) ?_
                      refine T_lsub 149 rfl rfl ?_
                      refine T_l2i 150 rfl rfl ?_
                      refine T_ld 151 (.int (i32 1)) rfl (fun _ => rfl) ?_
                      refine T_iadd 152 rfl rfl ?_
                      refine T_ld 154 (.long (i64 y421)) rfl (fun _ => rfl) ?_
                      refine T_l2i 155 rfl rfl ?_
                      refine T_ld 156 (.long (i64 0)) rfl (fun _ => rfl) ?_
                      refine T_call 159 248 [.ref 189, .int (i32 405), .int (i32 ((y380 - y421) + 1)), .int (i32 y421), .long (i64 0)] [] rfl (fun _ => rfl) rfl (c_node w (mO m [(7, y469), (8, y471), (9, y473), (10, 0), (11, y477), (12, y479), (28, (m.1 28)), (69, (m.1 69)), (70, (m.1 70)), (71, (m.1 71)), (72, (m.1 72)), (75, (m.1 75))] [(65, (m.2 65)), (66, (m.2 66)), (67, (m.2 67)), (68, (m.2 68))]) c N D (by omega) (Ty_mO hT rfl rfl ⟨g470, g472, g474, ⟨(by omega : (0 : Int) ≤ 0), (by omega : (0 : Int) ≤ 8)⟩, g478, g480, f28, f69, f70, f71, f72, f75, trivial⟩ ⟨(hT.2.1 65), (hT.2.1 66), (hT.2.1 67), (hT.2.1 68), trivial⟩) 405 ((y380 - y421) + 1) y421 0 B (1 + lh (m.2 79) (m.2 80) (m.1 73)) ⟨by decide, by decide⟩ (r32 (by omega) (by omega)) (r32 (by omega) (by omega)) ⟨by decide, by decide⟩ (fun _ => ⟨(show 0 ≤ (405 : Int) ∧ (405 : Int) ≤ 408 by first | omega | decide), (show 0 ≤ ((y380 - y421) + 1) ∧ ((y380 - y421) + 1) ≤ 64 by first | omega | decide), (show 0 ≤ y421 ∧ y421 ≤ 191 by first | omega | decide), (show CNk (405 : Int) y421 by first | exact hCk | (refine ⟨?_, ?_, ?_, ?_⟩ <;> omega)), (show ar (405 : Int) ≤ (1 + lh (m.2 79) (m.2 80) (m.1 73)) by first | exact hAr | omega), (show EX (m.2 65) (m.2 67) B (m.1 28) (1 + lh (m.2 79) (m.2 80) (m.1 73)) by first | exact hEX | assumption)⟩)) (fun rr488 k489 => ?_)
                      obtain ⟨m490, hT491, h492, c493, rfl⟩ := k489
                      refine ⟨_, _, rfl, ?_⟩
                      refine T_nf2 (st' := []) (l' := [(7, y469), (8, y471), (9, y473), (10, (m490.1 10)), (11, (m490.1 11)), (12, y479), (28, (m490.1 28)), (69, (m.1 69)), (70, (m.1 70)), (71, (m.1 71)), (72, (m.1 72)), (75, (m.1 75))]) (a' := [(65, (m490.2 65)), (66, (m490.2 66)), (67, (m490.2 67)), (68, (m490.2 68))]) [10, 11, 28] [65, 66, 67, 68] rfl ⟨rfl, rfl, rfl, rfl, rfl, rfl, rfl, rfl, rfl, rfl, rfl, rfl, rfl, rfl, rfl, rfl, rfl, rfl, rfl, rfl, rfl, rfl, rfl, rfl, rfl, rfl, rfl, rfl, trivial⟩ ⟨rfl, rfl, rfl, rfl, rfl, rfl, rfl, rfl, trivial⟩ rfl rfl (by decide) (by decide) ?_
                      have g494 : 0 ≤ m490.1 10 ∧ m490.1 10 ≤ 8 := hT491.1 10
                      have g495 : (-1) ≤ m490.1 11 ∧ m490.1 11 ≤ 4000 := hT491.1 11
                      have g496 : 0 ≤ m490.1 28 ∧ m490.1 28 ≤ 800 := hT491.1 28
                      by_cases hf497 : (m490.1 10) = 0
                      · skip
                        replace h492 : (0 : Int) = 0 := h492 hf497
                        obtain ⟨c498, c499, c500⟩ := c493 hf497
                        replace c498 : (m490.1 28) = (m.1 28) + 1 := c498
                        replace c499 : EX (m490.2 65) (m490.2 67) B (m490.1 28) ((1 + lh (m.2 79) (m.2 80) (m.1 73)) + 1 - ar (405 : Int)) := c499
                        have hEX := c499
                        replace c500 : agr (m.2 65) (m490.2 65) (m.1 28) := c500
                        have hAg := c500
                        clear c493
                        have u501 : (m.1 8) + 1 ≤ y471 := by omega
                        have hAgC : agr (m.2 65) (m490.2 65) (m.1 28) := by first | exact agr_r _ _ | exact hAgC | exact agr_t hAgC hAg (by omega)
                        clear g478
                        refine T_ld 160 (.ref 189) rfl (fun _ => rfl) ?_
                        refine T_ld 161 (.long (i64 y380)) rfl (fun _ => rfl) ?_
                        refine T_ld 163 (.long (i64 y421)) rfl (fun _ => rfl) ?_
                        refine T_lsub 164 rfl rfl ?_
                        refine T_l2i 165 rfl rfl ?_
                        refine T_ld 166 (.int (i32 1)) rfl (fun _ => rfl) ?_
                        refine T_iadd 167 rfl rfl ?_
                        refine T_ld 169 (.int (i32 (m.1 70))) rfl (fun _ => rfl) ?_
                        refine T_call 172 250 [.ref 189, .int (i32 ((y380 - y421) + 1)), .int (i32 (m.1 70))] [] rfl (fun _ => rfl) rfl (c_unit w (mO m [(7, y469), (8, y471), (9, y473), (10, (m490.1 10)), (11, (m490.1 11)), (12, y479), (28, (m490.1 28)), (69, (m.1 69)), (70, (m.1 70)), (71, (m.1 71)), (72, (m.1 72)), (75, (m.1 75))] [(65, (m490.2 65)), (66, (m490.2 66)), (67, (m490.2 67)), (68, (m490.2 68))]) c N D (by omega) (Ty_mO hT rfl rfl ⟨g470, g472, g474, (hT491.1 10), (hT491.1 11), g480, (hT491.1 28), f69, f70, f71, f72, f75, trivial⟩ ⟨(hT491.2.1 65), (hT491.2.1 66), (hT491.2.1 67), (hT491.2.1 68), trivial⟩) ((y380 - y421) + 1) (m.1 70) (r32 (by omega) (by omega)) (r32 (by omega) (by omega)) (show 0 ≤ ((y380 - y421) + 1) ∧ ((y380 - y421) + 1) ≤ 1024 by omega) (show 0 ≤ (m.1 70) ∧ (m.1 70) ≤ 4000 by omega)) (fun rr502 k503 => ?_)
                        obtain ⟨m504, hT505, h506, rfl⟩ := k503
                        refine ⟨_, _, rfl, ?_⟩
                        refine T_nf2 (st' := []) (l' := [(7, y469), (8, y471), (9, y473), (10, (m490.1 10)), (11, (m490.1 11)), (12, y479), (28, (m490.1 28)), (69, (m504.1 69)), (70, (m504.1 70)), (71, (m504.1 71)), (72, (m504.1 72)), (75, (m.1 75))]) (a' := [(65, (m490.2 65)), (66, (m490.2 66)), (67, (m490.2 67)), (68, (m490.2 68))]) [69, 70, 71, 72] [] rfl ⟨rfl, rfl, rfl, rfl, rfl, rfl, rfl, rfl, rfl, rfl, rfl, rfl, rfl, rfl, rfl, rfl, rfl, rfl, rfl, rfl, rfl, rfl, rfl, rfl, rfl, rfl, rfl, rfl, rfl, rfl, rfl, trivial⟩ ⟨rfl, rfl, rfl, rfl, rfl, rfl, rfl, rfl, trivial⟩ rfl rfl (by decide) (by decide) ?_
                        have g507 : 0 ≤ m504.1 69 ∧ m504.1 69 ≤ 1024 := hT505.1 69
                        have g508 : 0 ≤ m504.1 70 ∧ m504.1 70 ≤ 4000 := hT505.1 70
                        have g509 : 0 ≤ m504.1 71 ∧ m504.1 71 ≤ 1 := hT505.1 71
                        have g510 : (-9223372036854775808) ≤ m504.1 72 ∧ m504.1 72 ≤ 9223372036854775807 := hT505.1 72
                        replace h506 : (m504.1 69) = ((y380 - y421) + 1) := h506
                        have u511 : (m.1 8) + 1 ≤ y471 := by omega
                        have hAgC : agr (m.2 65) (m490.2 65) (m.1 28) := by first | exact agr_r _ _ | exact hAgC | exact agr_t hAgC hAg (by omega)
                        have hXE : XS (m490.2 65) (m490.2 67) (m.2 76) (m.2 78) (m.2 79) (m.2 80) B (m490.1 28) (m.1 73) (m.1 74) 1 := XS_of hXS hEX (by rw [show ar 405 = 1 from rfl]; omega)
                        refine T_goto 224 rfl (fun _ => rfl) ?_
                        refine T_ret rfl (fun _ => rfl) ?_
                        exact ⟨(mO m [(7, y469), (8, y471), (9, y473), (10, (m490.1 10)), (11, (m490.1 11)), (12, y479), (28, (m490.1 28)), (69, (m504.1 69)), (70, (m504.1 70)), (71, (m504.1 71)), (72, (m504.1 72)), (75, (m.1 75))] [(65, (m490.2 65)), (66, (m490.2 66)), (67, (m490.2 67)), (68, (m490.2 68))]), (Ty_mO hT rfl rfl ⟨g470, g472, g474, (hT491.1 10), (hT491.1 11), g480, (hT491.1 28), (hT505.1 69), (hT505.1 70), (hT505.1 71), (hT505.1 72), f75, trivial⟩ ⟨(hT491.2.1 65), (hT491.2.1 66), (hT491.2.1 67), (hT491.2.1 68), trivial⟩), (show (m490.1 10) = 0 → (m.1 10) = 0 by omega), (show LxP y469 y471 y473 (m.1 6) (m490.1 10) by first | (first | exact hLx | exact (fun _ => hLx (by omega)) | (intro h9; exfalso; omega)) | (exfalso; omega)), (fun _ => ⟨(show ((m.1 75) = 1 ∧ (m.1 8) + 1 ≤ y471) ∨ ((m.1 75) = 2 ∧ y471 = (m.1 8)) by omega), (show (m504.1 69) ≤ 64 by omega), (show (m.1 28) ≤ (m490.1 28) by omega), (show XS (m490.2 65) (m490.2 67) (m.2 76) (m.2 78) (m.2 79) (m.2 80) B (m490.1 28) (m.1 73) (m.1 74) 1 by first | (exact hXE) | (exfalso; omega)), (show agr (m.2 65) (m490.2 65) (m.1 28) by first | (exact hAgC) | (exfalso; omega))⟩), rfl⟩
                      · skip
                        clear c493
                        clear h492
                        have hf512 : 1 ≤ (m490.1 10) := by omega
                        clear g478
                        refine Tm_lv (a := [(0, .ref 189), (1, .int (i32 y372)), (2, .long (i64 y380)), (4, .long (i64 y421)), (6, .int (i32 (m.1 70)))]) rfl rfl ⟨rfl, rfl, rfl, rfl, rfl, trivial⟩ ?_
                        exact J159_79 y372 y380 y421 (mO m [(7, y469), (8, y471), (9, y473), (10, (m490.1 10)), (11, (m490.1 11)), (12, y479), (28, (m490.1 28)), (69, (m.1 69)), (70, (m.1 70)), (71, (m.1 71)), (72, (m.1 72)), (75, (m.1 75))] [(65, (m490.2 65)), (66, (m490.2 66)), (67, (m490.2 67)), (68, (m490.2 68))]) (r32 (by omega) (by omega)) (r64 (by omega) (by omega)) (r64 (by omega) (by omega)) (Ty_mO hT rfl rfl ⟨g470, g472, g474, (hT491.1 10), (hT491.1 11), g480, (hT491.1 28), f69, f70, f71, f72, f75, trivial⟩ ⟨(hT491.2.1 65), (hT491.2.1 66), (hT491.2.1 67), (hT491.2.1 68), trivial⟩) (show 0 ≤ y372 by omega) (show y372 ≤ 4000 by omega) (show 1 ≤ (m490.1 10) by omega) (show (m490.1 10) ≤ 8 by omega) (show 0 ≤ y380 - y421 ∧ y380 - y421 ≤ 63 by omega) (show 0 ≤ (m.1 70) ∧ (m.1 70) ≤ 4000 by omega)
                    · skip
                      replace h481 : LxP y469 y471 y473 (m.1 6) y475 := h481
                      have hLx := h481
                      clear h482
                      replace h483 : y435 ≤ y471 := h483
                      clear h484
                      have hf513 : 1 ≤ y475 := by omega
                      clear g434 g436 g438 g444 h445 u450 g462 g463 u466 h483
                      refine Tm_lv (a := [(0, .ref 189), (1, .int (i32 y372)), (2, .long (i64 y380)), (4, .long (i64 y421))]) rfl rfl ⟨rfl, rfl, rfl, rfl, trivial⟩ ?_
                      exact J127_104 y372 y380 y421 (mO m [(7, y469), (8, y471), (9, y473), (10, y475), (11, y477), (12, y479), (28, (m.1 28)), (69, (m.1 69)), (70, (m.1 70)), (71, (m.1 71)), (72, (m.1 72)), (75, (m.1 75))] [(65, (m.2 65)), (66, (m.2 66)), (67, (m.2 67)), (68, (m.2 68))]) (r32 (by omega) (by omega)) (r64 (by omega) (by omega)) (r64 (by omega) (by omega)) (Ty_mO hT rfl rfl ⟨g470, g472, g474, g476, g478, g480, f28, f69, f70, f71, f72, f75, trivial⟩ ⟨(hT.2.1 65), (hT.2.1 66), (hT.2.1 67), (hT.2.1 68), trivial⟩) (show 0 ≤ y372 by omega) (show y372 ≤ 4000 by omega) (show 1 ≤ y475 by omega) (show y475 ≤ 8 by omega)
                  · skip
                    clear c461
                    clear h460
                    have hf514 : 1 ≤ (m458.1 10) := by omega
                    clear g442 h453a h453b h453c h453d h453e h454
                    refine Tm_lv (a := [(0, .ref 189), (1, .int (i32 y372)), (2, .long (i64 y380)), (4, .long (i64 y421))]) rfl rfl ⟨rfl, rfl, rfl, rfl, trivial⟩ ?_
                    exact J121_119 y372 y380 y421 (mO m [(7, y433), (8, y435), (9, y437), (10, (m458.1 10)), (11, (m458.1 11)), (12, y443), (28, (m.1 28)), (69, (m.1 69)), (70, (m.1 70)), (71, (m.1 71)), (72, (m.1 72)), (75, (m.1 75))] [(65, (m.2 65)), (66, (m.2 66)), (67, (m.2 67)), (68, (m.2 68))]) (r32 (by omega) (by omega)) (r64 (by omega) (by omega)) (r64 (by omega) (by omega)) (Ty_mO hT rfl rfl ⟨g434, g436, g438, (hT459.1 10), (hT459.1 11), g444, f28, f69, f70, f71, f72, f75, trivial⟩ ⟨(hT.2.1 65), (hT.2.1 66), (hT.2.1 67), (hT.2.1 68), trivial⟩) (show 0 ≤ y372 by omega) (show y372 ≤ 4000 by omega) (show 1 ≤ (m458.1 10) by omega) (show (m458.1 10) ≤ 8 by omega)
                · skip
                  have hl515 : y380 ≥ 0 := by omega
                  refine T_ld 90 (.long (i64 y421)) rfl (fun _ => rfl) ?_
                  refine T_ld 91 (.long (i64 0)) rfl (fun _ => rfl) ?_
                  refine T_lcmp 92 rfl rfl (r64 (by omega) (by omega)) ⟨by decide, by decide⟩ (fun z516 h517 => ?_)
                  obtain ⟨h517a, h517b, h517c, h517d, h517e⟩ := h517
                  refine T_if 116 95 rfl rfl rfl (r32 (by omega) (by omega)) (fun (h518 : z516 < 0) => ?_) (fun (h518 : ¬ (z516 < 0)) => ?_)
                  · skip
                    have hl519 : y421 < 0 := by omega
                    refine T_ld 117 (.int (i32 0)) rfl (fun _ => rfl) ?_
                    refine T_ld 118 (.int (i32 y372)) rfl (fun _ => rfl) ?_
                    refine T_call 121 256 [.ref 189, .int (i32 0), .int (i32 y372)] [] rfl (fun _ => rfl) rfl (c_want w (mO m [(7, y433), (8, y435), (9, y437), (10, 0), (11, y441), (12, y443), (28, (m.1 28)), (69, (m.1 69)), (70, (m.1 70)), (71, (m.1 71)), (72, (m.1 72)), (75, (m.1 75))] [(65, (m.2 65)), (66, (m.2 66)), (67, (m.2 67)), (68, (m.2 68))]) c N D (by omega) (Ty_mO hT rfl rfl ⟨g434, g436, g438, ⟨(by omega : (0 : Int) ≤ 0), (by omega : (0 : Int) ≤ 8)⟩, g442, g444, f28, f69, f70, f71, f72, f75, trivial⟩ ⟨(hT.2.1 65), (hT.2.1 66), (hT.2.1 67), (hT.2.1 68), trivial⟩) 0 y372 ⟨by decide, by decide⟩ (r32 (by omega) (by omega)) (show 0 ≤ y372 ∧ y372 ≤ 4000 by omega) (fun _ => trivial)) (fun rr520 k521 => ?_)
                    obtain ⟨m522, hT523, h524, c525, rfl⟩ := k521
                    refine ⟨_, _, rfl, ?_⟩
                    refine T_nf2 (st' := []) (l' := [(7, y433), (8, y435), (9, y437), (10, (m522.1 10)), (11, (m522.1 11)), (12, y443), (28, (m.1 28)), (69, (m.1 69)), (70, (m.1 70)), (71, (m.1 71)), (72, (m.1 72)), (75, (m.1 75))]) (a' := [(65, (m.2 65)), (66, (m.2 66)), (67, (m.2 67)), (68, (m.2 68))]) [10, 11] [] rfl ⟨rfl, rfl, rfl, rfl, rfl, rfl, rfl, rfl, rfl, rfl, rfl, rfl, rfl, rfl, rfl, rfl, rfl, rfl, rfl, rfl, rfl, rfl, rfl, rfl, rfl, rfl, rfl, trivial⟩ ⟨rfl, rfl, rfl, rfl, rfl, rfl, rfl, rfl, trivial⟩ rfl rfl (by decide) (by decide) ?_
                    have g526 : 0 ≤ m522.1 10 ∧ m522.1 10 ≤ 8 := hT523.1 10
                    have g527 : (-1) ≤ m522.1 11 ∧ m522.1 11 ≤ 4000 := hT523.1 11
                    by_cases hf528 : (m522.1 10) = 0
                    · skip
                      replace h524 : (0 : Int) = 0 := h524 hf528
                      have c529 := c525 hf528
                      replace c529 : (0 : Int) ≠ 0 := c529
                      clear c525
                      have u530 : (m.1 8) + 1 ≤ y435 := by omega
                      have hAgC : agr (m.2 65) (m.2 65) (m.1 28) := by first | exact agr_r _ _ | exact hAgC | exact agr_t hAgC hAg (by omega)
                      clear g442 h453a h453b h453c h453d h453e h454 h517a h517b h517c h517d h517e h518
                      refine T_ld 122 (.ref 189) rfl (fun _ => rfl) ?_
                      refine T_ld 124 (.int (i32 93)) rfl (fun _ => rfl) ?_
                      refine T_call 127 232 [.ref 189, .int (i32 93)] [] rfl (fun _ => rfl) rfl (c_need w (mO m [(7, y433), (8, y435), (9, y437), (10, (m522.1 10)), (11, (m522.1 11)), (12, y443), (28, (m.1 28)), (69, (m.1 69)), (70, (m.1 70)), (71, (m.1 71)), (72, (m.1 72)), (75, (m.1 75))] [(65, (m.2 65)), (66, (m.2 66)), (67, (m.2 67)), (68, (m.2 68))]) c N D (by omega) (Ty_mO hT rfl rfl ⟨g434, g436, g438, (hT523.1 10), (hT523.1 11), g444, f28, f69, f70, f71, f72, f75, trivial⟩ ⟨(hT.2.1 65), (hT.2.1 66), (hT.2.1 67), (hT.2.1 68), trivial⟩) 93 ⟨by decide, by decide⟩ (show 1 ≤ (93 : Int) by omega) (show LxP y433 y435 y437 (m.1 6) (m522.1 10) by first | exact hLx | (intro h9; exfalso; omega) | (intro h9; have h8 := hLx (by omega); omega))) (fun rr531 k532 => ?_)
                      obtain ⟨y533, y535, y537, y539, y541, y543, g534, g536, g538, g540, g542, g544, h545, h546, h547, h548, rfl⟩ := k532
                      refine ⟨_, _, rfl, ?_⟩
                      refine T_nf2 (st' := []) (l' := [(7, y533), (8, y535), (9, y537), (10, y539), (11, y541), (12, y543), (28, (m.1 28)), (69, (m.1 69)), (70, (m.1 70)), (71, (m.1 71)), (72, (m.1 72)), (75, (m.1 75))]) (a' := [(65, (m.2 65)), (66, (m.2 66)), (67, (m.2 67)), (68, (m.2 68))]) [7, 8, 9, 10, 11, 12] [] rfl ⟨rfl, rfl, rfl, rfl, rfl, rfl, rfl, rfl, rfl, rfl, rfl, rfl, rfl, rfl, rfl, rfl, rfl, rfl, rfl, rfl, rfl, rfl, rfl, rfl, trivial⟩ ⟨rfl, rfl, rfl, rfl, rfl, rfl, rfl, rfl, trivial⟩ rfl rfl (by decide) (by decide) ?_
                      by_cases hf549 : y539 = 0
                      · skip
                        subst hf549
                        replace h545 : LxP y533 y535 y537 (m.1 6) (0 : Int) := h545
                        have hLx := h545
                        replace h546 : (m522.1 10) = 0 ∧ y433 = (93 : Int) := h546 rfl
                        replace h547 : y435 ≤ y535 := h547
                        replace h548 : y435 + y437 ≤ y535 := h548 rfl
                        have u550 : (m.1 8) + 1 ≤ y535 := by omega
                        have hAgC : agr (m.2 65) (m.2 65) (m.1 28) := by first | exact agr_r _ _ | exact hAgC | exact agr_t hAgC hAg (by omega)
                        clear g434 g436 g438 g444 h445 u450 g526 g527 u530 g540 h546 h547 h548
                        refine T_gf 131 (.int (i32 0)) rfl rfl rfl rfl rfl rfl ?_
                        refine T_if 135 134 rfl rfl rfl ⟨by decide, by decide⟩ (fun _ => ?_) (fun h551 => absurd (show (0 : Int) ≤ 0 by decide) h551)
                        refine T_gf 139 (.int (i32 (m.1 70))) rfl rfl rfl rfl rfl rfl ?_
                        refine T_sto 141 [(6, .int (i32 (m.1 70))), (4, .long (i64 y421)), (2, .long (i64 y380)), (1, .int (i32 y372)), (0, .ref 189)] rfl (fun _ => rfl) ?_
                        have hAr : ar 405 ≤ 1 + lh (m.2 79) (m.2 80) (m.1 73) := by rw [show ar 405 = 1 from rfl]; omega
                        have hCk : CNk 405 y421 := by refine ⟨?_, ?_, ?_, ?_⟩ <;> omega
                        refine T_ld 142 (.ref 189) rfl (fun _ => rfl) ?_
                        refine T_ld 145 (.int (i32 405)) rfl (fun _ => rfl) ?_
                        refine T_ld 146 (.long (i64 y380)) rfl (fun _ => rfl) ?_
                        refine T_ld 148 (.long (i64 y421)) rfl (fun _ => rfl) ?_
                        refine T_lsub 149 rfl rfl ?_
                        refine T_l2i 150 rfl rfl ?_
                        refine T_ld 151 (.int (i32 1)) rfl (fun _ => rfl) ?_
                        refine T_iadd 152 rfl rfl ?_
                        refine T_ld 154 (.long (i64 y421)) rfl (fun _ => rfl) ?_
                        refine T_l2i 155 rfl rfl ?_
                        refine T_ld 156 (.long (i64 0)) rfl (fun _ => rfl) ?_
                        refine T_call 159 248 [.ref 189, .int (i32 405), .int (i32 ((y380 - y421) + 1)), .int (i32 y421), .long (i64 0)] [] rfl (fun _ => rfl) rfl (c_node w (mO m [(7, y533), (8, y535), (9, y537), (10, 0), (11, y541), (12, y543), (28, (m.1 28)), (69, (m.1 69)), (70, (m.1 70)), (71, (m.1 71)), (72, (m.1 72)), (75, (m.1 75))] [(65, (m.2 65)), (66, (m.2 66)), (67, (m.2 67)), (68, (m.2 68))]) c N D (by omega) (Ty_mO hT rfl rfl ⟨g534, g536, g538, ⟨(by omega : (0 : Int) ≤ 0), (by omega : (0 : Int) ≤ 8)⟩, g542, g544, f28, f69, f70, f71, f72, f75, trivial⟩ ⟨(hT.2.1 65), (hT.2.1 66), (hT.2.1 67), (hT.2.1 68), trivial⟩) 405 ((y380 - y421) + 1) y421 0 B (1 + lh (m.2 79) (m.2 80) (m.1 73)) ⟨by decide, by decide⟩ (r32 (by omega) (by omega)) (r32 (by omega) (by omega)) ⟨by decide, by decide⟩ (fun _ => ⟨(show 0 ≤ (405 : Int) ∧ (405 : Int) ≤ 408 by first | omega | decide), (show 0 ≤ ((y380 - y421) + 1) ∧ ((y380 - y421) + 1) ≤ 64 by first | omega | decide), (show 0 ≤ y421 ∧ y421 ≤ 191 by first | omega | decide), (show CNk (405 : Int) y421 by first | exact hCk | (refine ⟨?_, ?_, ?_, ?_⟩ <;> omega)), (show ar (405 : Int) ≤ (1 + lh (m.2 79) (m.2 80) (m.1 73)) by first | exact hAr | omega), (show EX (m.2 65) (m.2 67) B (m.1 28) (1 + lh (m.2 79) (m.2 80) (m.1 73)) by first | exact hEX | assumption)⟩)) (fun rr552 k553 => ?_)
                        obtain ⟨m554, hT555, h556, c557, rfl⟩ := k553
                        refine ⟨_, _, rfl, ?_⟩
                        refine T_nf2 (st' := []) (l' := [(7, y533), (8, y535), (9, y537), (10, (m554.1 10)), (11, (m554.1 11)), (12, y543), (28, (m554.1 28)), (69, (m.1 69)), (70, (m.1 70)), (71, (m.1 71)), (72, (m.1 72)), (75, (m.1 75))]) (a' := [(65, (m554.2 65)), (66, (m554.2 66)), (67, (m554.2 67)), (68, (m554.2 68))]) [10, 11, 28] [65, 66, 67, 68] rfl ⟨rfl, rfl, rfl, rfl, rfl, rfl, rfl, rfl, rfl, rfl, rfl, rfl, rfl, rfl, rfl, rfl, rfl, rfl, rfl, rfl, rfl, rfl, rfl, rfl, rfl, rfl, rfl, rfl, trivial⟩ ⟨rfl, rfl, rfl, rfl, rfl, rfl, rfl, rfl, trivial⟩ rfl rfl (by decide) (by decide) ?_
                        have g558 : 0 ≤ m554.1 10 ∧ m554.1 10 ≤ 8 := hT555.1 10
                        have g559 : (-1) ≤ m554.1 11 ∧ m554.1 11 ≤ 4000 := hT555.1 11
                        have g560 : 0 ≤ m554.1 28 ∧ m554.1 28 ≤ 800 := hT555.1 28
                        by_cases hf561 : (m554.1 10) = 0
                        · skip
                          replace h556 : (0 : Int) = 0 := h556 hf561
                          obtain ⟨c562, c563, c564⟩ := c557 hf561
                          replace c562 : (m554.1 28) = (m.1 28) + 1 := c562
                          replace c563 : EX (m554.2 65) (m554.2 67) B (m554.1 28) ((1 + lh (m.2 79) (m.2 80) (m.1 73)) + 1 - ar (405 : Int)) := c563
                          have hEX := c563
                          replace c564 : agr (m.2 65) (m554.2 65) (m.1 28) := c564
                          have hAg := c564
                          clear c557
                          have u565 : (m.1 8) + 1 ≤ y535 := by omega
                          have hAgC : agr (m.2 65) (m554.2 65) (m.1 28) := by first | exact agr_r _ _ | exact hAgC | exact agr_t hAgC hAg (by omega)
                          clear g542
                          refine T_ld 160 (.ref 189) rfl (fun _ => rfl) ?_
                          refine T_ld 161 (.long (i64 y380)) rfl (fun _ => rfl) ?_
                          refine T_ld 163 (.long (i64 y421)) rfl (fun _ => rfl) ?_
                          refine T_lsub 164 rfl rfl ?_
                          refine T_l2i 165 rfl rfl ?_
                          refine T_ld 166 (.int (i32 1)) rfl (fun _ => rfl) ?_
                          refine T_iadd 167 rfl rfl ?_
                          refine T_ld 169 (.int (i32 (m.1 70))) rfl (fun _ => rfl) ?_
                          refine T_call 172 250 [.ref 189, .int (i32 ((y380 - y421) + 1)), .int (i32 (m.1 70))] [] rfl (fun _ => rfl) rfl (c_unit w (mO m [(7, y533), (8, y535), (9, y537), (10, (m554.1 10)), (11, (m554.1 11)), (12, y543), (28, (m554.1 28)), (69, (m.1 69)), (70, (m.1 70)), (71, (m.1 71)), (72, (m.1 72)), (75, (m.1 75))] [(65, (m554.2 65)), (66, (m554.2 66)), (67, (m554.2 67)), (68, (m554.2 68))]) c N D (by omega) (Ty_mO hT rfl rfl ⟨g534, g536, g538, (hT555.1 10), (hT555.1 11), g544, (hT555.1 28), f69, f70, f71, f72, f75, trivial⟩ ⟨(hT555.2.1 65), (hT555.2.1 66), (hT555.2.1 67), (hT555.2.1 68), trivial⟩) ((y380 - y421) + 1) (m.1 70) (r32 (by omega) (by omega)) (r32 (by omega) (by omega)) (show 0 ≤ ((y380 - y421) + 1) ∧ ((y380 - y421) + 1) ≤ 1024 by omega) (show 0 ≤ (m.1 70) ∧ (m.1 70) ≤ 4000 by omega)) (fun rr566 k567 => ?_)
                          obtain ⟨m568, hT569, h570, rfl⟩ := k567
                          refine ⟨_, _, rfl, ?_⟩
                          refine T_nf2 (st' := []) (l' := [(7, y533), (8, y535), (9, y537), (10, (m554.1 10)), (11, (m554.1 11)), (12, y543), (28, (m554.1 28)), (69, (m568.1 69)), (70, (m568.1 70)), (71, (m568.1 71)), (72, (m568.1 72)), (75, (m.1 75))]) (a' := [(65, (m554.2 65)), (66, (m554.2 66)), (67, (m554.2 67)), (68, (m554.2 68))]) [69, 70, 71, 72] [] rfl ⟨rfl, rfl, rfl, rfl, rfl, rfl, rfl, rfl, rfl, rfl, rfl, rfl, rfl, rfl, rfl, rfl, rfl, rfl, rfl, rfl, rfl, rfl, rfl, rfl, rfl, rfl, rfl, rfl, rfl, rfl, rfl, trivial⟩ ⟨rfl, rfl, rfl, rfl, rfl, rfl, rfl, rfl, trivial⟩ rfl rfl (by decide) (by decide) ?_
                          have g571 : 0 ≤ m568.1 69 ∧ m568.1 69 ≤ 1024 := hT569.1 69
                          have g572 : 0 ≤ m568.1 70 ∧ m568.1 70 ≤ 4000 := hT569.1 70
                          have g573 : 0 ≤ m568.1 71 ∧ m568.1 71 ≤ 1 := hT569.1 71
                          have g574 : (-9223372036854775808) ≤ m568.1 72 ∧ m568.1 72 ≤ 9223372036854775807 := hT569.1 72
                          replace h570 : (m568.1 69) = ((y380 - y421) + 1) := h570
                          have u575 : (m.1 8) + 1 ≤ y535 := by omega
                          have hAgC : agr (m.2 65) (m554.2 65) (m.1 28) := by first | exact agr_r _ _ | exact hAgC | exact agr_t hAgC hAg (by omega)
                          have hXE : XS (m554.2 65) (m554.2 67) (m.2 76) (m.2 78) (m.2 79) (m.2 80) B (m554.1 28) (m.1 73) (m.1 74) 1 := XS_of hXS hEX (by rw [show ar 405 = 1 from rfl]; omega)
                          refine T_goto 224 rfl (fun _ => rfl) ?_
                          refine T_ret rfl (fun _ => rfl) ?_
                          exact ⟨(mO m [(7, y533), (8, y535), (9, y537), (10, (m554.1 10)), (11, (m554.1 11)), (12, y543), (28, (m554.1 28)), (69, (m568.1 69)), (70, (m568.1 70)), (71, (m568.1 71)), (72, (m568.1 72)), (75, (m.1 75))] [(65, (m554.2 65)), (66, (m554.2 66)), (67, (m554.2 67)), (68, (m554.2 68))]), (Ty_mO hT rfl rfl ⟨g534, g536, g538, (hT555.1 10), (hT555.1 11), g544, (hT555.1 28), (hT569.1 69), (hT569.1 70), (hT569.1 71), (hT569.1 72), f75, trivial⟩ ⟨(hT555.2.1 65), (hT555.2.1 66), (hT555.2.1 67), (hT555.2.1 68), trivial⟩), (show (m554.1 10) = 0 → (m.1 10) = 0 by omega), (show LxP y533 y535 y537 (m.1 6) (m554.1 10) by first | (first | exact hLx | exact (fun _ => hLx (by omega)) | (intro h9; exfalso; omega)) | (exfalso; omega)), (fun _ => ⟨(show ((m.1 75) = 1 ∧ (m.1 8) + 1 ≤ y535) ∨ ((m.1 75) = 2 ∧ y535 = (m.1 8)) by omega), (show (m568.1 69) ≤ 64 by omega), (show (m.1 28) ≤ (m554.1 28) by omega), (show XS (m554.2 65) (m554.2 67) (m.2 76) (m.2 78) (m.2 79) (m.2 80) B (m554.1 28) (m.1 73) (m.1 74) 1 by first | (exact hXE) | (exfalso; omega)), (show agr (m.2 65) (m554.2 65) (m.1 28) by first | (exact hAgC) | (exfalso; omega))⟩), rfl⟩
                        · skip
                          clear c557
                          clear h556
                          have hf576 : 1 ≤ (m554.1 10) := by omega
                          clear g542
                          refine Tm_lv (a := [(0, .ref 189), (1, .int (i32 y372)), (2, .long (i64 y380)), (4, .long (i64 y421)), (6, .int (i32 (m.1 70)))]) rfl rfl ⟨rfl, rfl, rfl, rfl, rfl, trivial⟩ ?_
                          exact J159_79 y372 y380 y421 (mO m [(7, y533), (8, y535), (9, y537), (10, (m554.1 10)), (11, (m554.1 11)), (12, y543), (28, (m554.1 28)), (69, (m.1 69)), (70, (m.1 70)), (71, (m.1 71)), (72, (m.1 72)), (75, (m.1 75))] [(65, (m554.2 65)), (66, (m554.2 66)), (67, (m554.2 67)), (68, (m554.2 68))]) (r32 (by omega) (by omega)) (r64 (by omega) (by omega)) (r64 (by omega) (by omega)) (Ty_mO hT rfl rfl ⟨g534, g536, g538, (hT555.1 10), (hT555.1 11), g544, (hT555.1 28), f69, f70, f71, f72, f75, trivial⟩ ⟨(hT555.2.1 65), (hT555.2.1 66), (hT555.2.1 67), (hT555.2.1 68), trivial⟩) (show 0 ≤ y372 by omega) (show y372 ≤ 4000 by omega) (show 1 ≤ (m554.1 10) by omega) (show (m554.1 10) ≤ 8 by omega) (show 0 ≤ y380 - y421 ∧ y380 - y421 ≤ 63 by omega) (show 0 ≤ (m.1 70) ∧ (m.1 70) ≤ 4000 by omega)
                      · skip
                        replace h545 : LxP y533 y535 y537 (m.1 6) y539 := h545
                        have hLx := h545
                        clear h546
                        replace h547 : y435 ≤ y535 := h547
                        clear h548
                        have hf577 : 1 ≤ y539 := by omega
                        clear g434 g436 g438 g444 h445 u450 g526 g527 u530 h547
                        refine Tm_lv (a := [(0, .ref 189), (1, .int (i32 y372)), (2, .long (i64 y380)), (4, .long (i64 y421))]) rfl rfl ⟨rfl, rfl, rfl, rfl, trivial⟩ ?_
                        exact J127_104 y372 y380 y421 (mO m [(7, y533), (8, y535), (9, y537), (10, y539), (11, y541), (12, y543), (28, (m.1 28)), (69, (m.1 69)), (70, (m.1 70)), (71, (m.1 71)), (72, (m.1 72)), (75, (m.1 75))] [(65, (m.2 65)), (66, (m.2 66)), (67, (m.2 67)), (68, (m.2 68))]) (r32 (by omega) (by omega)) (r64 (by omega) (by omega)) (r64 (by omega) (by omega)) (Ty_mO hT rfl rfl ⟨g534, g536, g538, g540, g542, g544, f28, f69, f70, f71, f72, f75, trivial⟩ ⟨(hT.2.1 65), (hT.2.1 66), (hT.2.1 67), (hT.2.1 68), trivial⟩) (show 0 ≤ y372 by omega) (show y372 ≤ 4000 by omega) (show 1 ≤ y539 by omega) (show y539 ≤ 8 by omega)
                    · skip
                      clear c525
                      clear h524
                      have hf578 : 1 ≤ (m522.1 10) := by omega
                      clear g442 h453a h453b h453c h453d h453e h454 h517a h517b h517c h517d h517e h518
                      refine Tm_lv (a := [(0, .ref 189), (1, .int (i32 y372)), (2, .long (i64 y380)), (4, .long (i64 y421))]) rfl rfl ⟨rfl, rfl, rfl, rfl, trivial⟩ ?_
                      exact J121_119 y372 y380 y421 (mO m [(7, y433), (8, y435), (9, y437), (10, (m522.1 10)), (11, (m522.1 11)), (12, y443), (28, (m.1 28)), (69, (m.1 69)), (70, (m.1 70)), (71, (m.1 71)), (72, (m.1 72)), (75, (m.1 75))] [(65, (m.2 65)), (66, (m.2 66)), (67, (m.2 67)), (68, (m.2 68))]) (r32 (by omega) (by omega)) (r64 (by omega) (by omega)) (r64 (by omega) (by omega)) (Ty_mO hT rfl rfl ⟨g434, g436, g438, (hT523.1 10), (hT523.1 11), g444, f28, f69, f70, f71, f72, f75, trivial⟩ ⟨(hT.2.1 65), (hT.2.1 66), (hT.2.1 67), (hT.2.1 68), trivial⟩) (show 0 ≤ y372 by omega) (show y372 ≤ 4000 by omega) (show 1 ≤ (m522.1 10) by omega) (show (m522.1 10) ≤ 8 by omega)
                  · skip
                    have hl579 : y421 ≥ 0 := by omega
                    refine T_ld 97 (.long (i64 y421)) rfl (fun _ => rfl) ?_
                    refine T_ld 98 (.long (i64 y380)) rfl (fun _ => rfl) ?_
                    refine T_lcmp 99 rfl rfl (r64 (by omega) (by omega)) (r64 (by omega) (by omega)) (fun z580 h581 => ?_)
                    obtain ⟨h581a, h581b, h581c, h581d, h581e⟩ := h581
                    refine T_if 116 102 rfl rfl rfl (r32 (by omega) (by omega)) (fun (h582 : (0 : Int) < z580) => ?_) (fun (h582 : ¬ ((0 : Int) < z580)) => ?_)
                    · skip
                      have hl583 : y421 > y380 := by omega
                      refine T_ld 117 (.int (i32 0)) rfl (fun _ => rfl) ?_
                      refine T_ld 118 (.int (i32 y372)) rfl (fun _ => rfl) ?_
                      refine T_call 121 256 [.ref 189, .int (i32 0), .int (i32 y372)] [] rfl (fun _ => rfl) rfl (c_want w (mO m [(7, y433), (8, y435), (9, y437), (10, 0), (11, y441), (12, y443), (28, (m.1 28)), (69, (m.1 69)), (70, (m.1 70)), (71, (m.1 71)), (72, (m.1 72)), (75, (m.1 75))] [(65, (m.2 65)), (66, (m.2 66)), (67, (m.2 67)), (68, (m.2 68))]) c N D (by omega) (Ty_mO hT rfl rfl ⟨g434, g436, g438, ⟨(by omega : (0 : Int) ≤ 0), (by omega : (0 : Int) ≤ 8)⟩, g442, g444, f28, f69, f70, f71, f72, f75, trivial⟩ ⟨(hT.2.1 65), (hT.2.1 66), (hT.2.1 67), (hT.2.1 68), trivial⟩) 0 y372 ⟨by decide, by decide⟩ (r32 (by omega) (by omega)) (show 0 ≤ y372 ∧ y372 ≤ 4000 by omega) (fun _ => trivial)) (fun rr584 k585 => ?_)
                      obtain ⟨m586, hT587, h588, c589, rfl⟩ := k585
                      refine ⟨_, _, rfl, ?_⟩
                      refine T_nf2 (st' := []) (l' := [(7, y433), (8, y435), (9, y437), (10, (m586.1 10)), (11, (m586.1 11)), (12, y443), (28, (m.1 28)), (69, (m.1 69)), (70, (m.1 70)), (71, (m.1 71)), (72, (m.1 72)), (75, (m.1 75))]) (a' := [(65, (m.2 65)), (66, (m.2 66)), (67, (m.2 67)), (68, (m.2 68))]) [10, 11] [] rfl ⟨rfl, rfl, rfl, rfl, rfl, rfl, rfl, rfl, rfl, rfl, rfl, rfl, rfl, rfl, rfl, rfl, rfl, rfl, rfl, rfl, rfl, rfl, rfl, rfl, rfl, rfl, rfl, trivial⟩ ⟨rfl, rfl, rfl, rfl, rfl, rfl, rfl, rfl, trivial⟩ rfl rfl (by decide) (by decide) ?_
                      have g590 : 0 ≤ m586.1 10 ∧ m586.1 10 ≤ 8 := hT587.1 10
                      have g591 : (-1) ≤ m586.1 11 ∧ m586.1 11 ≤ 4000 := hT587.1 11
                      by_cases hf592 : (m586.1 10) = 0
                      · skip
                        replace h588 : (0 : Int) = 0 := h588 hf592
                        have c593 := c589 hf592
                        replace c593 : (0 : Int) ≠ 0 := c593
                        clear c589
                        have u594 : (m.1 8) + 1 ≤ y435 := by omega
                        have hAgC : agr (m.2 65) (m.2 65) (m.1 28) := by first | exact agr_r _ _ | exact hAgC | exact agr_t hAgC hAg (by omega)
                        clear g442 h453a h453b h453c h453d h453e h454 h517a h517b h517c h517d h517e h518 h581a h581b h581c h581d h581e h582
                        refine T_ld 122 (.ref 189) rfl (fun _ => rfl) ?_
                        refine T_ld 124 (.int (i32 93)) rfl (fun _ => rfl) ?_
                        refine T_call 127 232 [.ref 189, .int (i32 93)] [] rfl (fun _ => rfl) rfl (c_need w (mO m [(7, y433), (8, y435), (9, y437), (10, (m586.1 10)), (11, (m586.1 11)), (12, y443), (28, (m.1 28)), (69, (m.1 69)), (70, (m.1 70)), (71, (m.1 71)), (72, (m.1 72)), (75, (m.1 75))] [(65, (m.2 65)), (66, (m.2 66)), (67, (m.2 67)), (68, (m.2 68))]) c N D (by omega) (Ty_mO hT rfl rfl ⟨g434, g436, g438, (hT587.1 10), (hT587.1 11), g444, f28, f69, f70, f71, f72, f75, trivial⟩ ⟨(hT.2.1 65), (hT.2.1 66), (hT.2.1 67), (hT.2.1 68), trivial⟩) 93 ⟨by decide, by decide⟩ (show 1 ≤ (93 : Int) by omega) (show LxP y433 y435 y437 (m.1 6) (m586.1 10) by first | exact hLx | (intro h9; exfalso; omega) | (intro h9; have h8 := hLx (by omega); omega))) (fun rr595 k596 => ?_)
                        obtain ⟨y597, y599, y601, y603, y605, y607, g598, g600, g602, g604, g606, g608, h609, h610, h611, h612, rfl⟩ := k596
                        refine ⟨_, _, rfl, ?_⟩
                        refine T_nf2 (st' := []) (l' := [(7, y597), (8, y599), (9, y601), (10, y603), (11, y605), (12, y607), (28, (m.1 28)), (69, (m.1 69)), (70, (m.1 70)), (71, (m.1 71)), (72, (m.1 72)), (75, (m.1 75))]) (a' := [(65, (m.2 65)), (66, (m.2 66)), (67, (m.2 67)), (68, (m.2 68))]) [7, 8, 9, 10, 11, 12] [] rfl ⟨rfl, rfl, rfl, rfl, rfl, rfl, rfl, rfl, rfl, rfl, rfl, rfl, rfl, rfl, rfl, rfl, rfl, rfl, rfl, rfl, rfl, rfl, rfl, rfl, trivial⟩ ⟨rfl, rfl, rfl, rfl, rfl, rfl, rfl, rfl, trivial⟩ rfl rfl (by decide) (by decide) ?_
                        by_cases hf613 : y603 = 0
                        · skip
                          subst hf613
                          replace h609 : LxP y597 y599 y601 (m.1 6) (0 : Int) := h609
                          have hLx := h609
                          replace h610 : (m586.1 10) = 0 ∧ y433 = (93 : Int) := h610 rfl
                          replace h611 : y435 ≤ y599 := h611
                          replace h612 : y435 + y437 ≤ y599 := h612 rfl
                          have u614 : (m.1 8) + 1 ≤ y599 := by omega
                          have hAgC : agr (m.2 65) (m.2 65) (m.1 28) := by first | exact agr_r _ _ | exact hAgC | exact agr_t hAgC hAg (by omega)
                          clear g434 g436 g438 g444 h445 u450 g590 g591 u594 g604 h610 h611 h612
                          refine T_gf 131 (.int (i32 0)) rfl rfl rfl rfl rfl rfl ?_
                          refine T_if 135 134 rfl rfl rfl ⟨by decide, by decide⟩ (fun _ => ?_) (fun h615 => absurd (show (0 : Int) ≤ 0 by decide) h615)
                          refine T_gf 139 (.int (i32 (m.1 70))) rfl rfl rfl rfl rfl rfl ?_
                          refine T_sto 141 [(6, .int (i32 (m.1 70))), (4, .long (i64 y421)), (2, .long (i64 y380)), (1, .int (i32 y372)), (0, .ref 189)] rfl (fun _ => rfl) ?_
                          have hAr : ar 405 ≤ 1 + lh (m.2 79) (m.2 80) (m.1 73) := by rw [show ar 405 = 1 from rfl]; omega
                          have hCk : CNk 405 y421 := by refine ⟨?_, ?_, ?_, ?_⟩ <;> omega
                          refine T_ld 142 (.ref 189) rfl (fun _ => rfl) ?_
                          refine T_ld 145 (.int (i32 405)) rfl (fun _ => rfl) ?_
                          refine T_ld 146 (.long (i64 y380)) rfl (fun _ => rfl) ?_
                          refine T_ld 148 (.long (i64 y421)) rfl (fun _ => rfl) ?_
                          refine T_lsub 149 rfl rfl ?_
                          refine T_l2i 150 rfl rfl ?_
                          refine T_ld 151 (.int (i32 1)) rfl (fun _ => rfl) ?_
                          refine T_iadd 152 rfl rfl ?_
                          refine T_ld 154 (.long (i64 y421)) rfl (fun _ => rfl) ?_
                          refine T_l2i 155 rfl rfl ?_
                          refine T_ld 156 (.long (i64 0)) rfl (fun _ => rfl) ?_
                          refine T_call 159 248 [.ref 189, .int (i32 405), .int (i32 ((y380 - y421) + 1)), .int (i32 y421), .long (i64 0)] [] rfl (fun _ => rfl) rfl (c_node w (mO m [(7, y597), (8, y599), (9, y601), (10, 0), (11, y605), (12, y607), (28, (m.1 28)), (69, (m.1 69)), (70, (m.1 70)), (71, (m.1 71)), (72, (m.1 72)), (75, (m.1 75))] [(65, (m.2 65)), (66, (m.2 66)), (67, (m.2 67)), (68, (m.2 68))]) c N D (by omega) (Ty_mO hT rfl rfl ⟨g598, g600, g602, ⟨(by omega : (0 : Int) ≤ 0), (by omega : (0 : Int) ≤ 8)⟩, g606, g608, f28, f69, f70, f71, f72, f75, trivial⟩ ⟨(hT.2.1 65), (hT.2.1 66), (hT.2.1 67), (hT.2.1 68), trivial⟩) 405 ((y380 - y421) + 1) y421 0 B (1 + lh (m.2 79) (m.2 80) (m.1 73)) ⟨by decide, by decide⟩ (r32 (by omega) (by omega)) (r32 (by omega) (by omega)) ⟨by decide, by decide⟩ (fun _ => ⟨(show 0 ≤ (405 : Int) ∧ (405 : Int) ≤ 408 by first | omega | decide), (show 0 ≤ ((y380 - y421) + 1) ∧ ((y380 - y421) + 1) ≤ 64 by first | omega | decide), (show 0 ≤ y421 ∧ y421 ≤ 191 by first | omega | decide), (show CNk (405 : Int) y421 by first | exact hCk | (refine ⟨?_, ?_, ?_, ?_⟩ <;> omega)), (show ar (405 : Int) ≤ (1 + lh (m.2 79) (m.2 80) (m.1 73)) by first | exact hAr | omega), (show EX (m.2 65) (m.2 67) B (m.1 28) (1 + lh (m.2 79) (m.2 80) (m.1 73)) by first | exact hEX | assumption)⟩)) (fun rr616 k617 => ?_)
                          obtain ⟨m618, hT619, h620, c621, rfl⟩ := k617
                          refine ⟨_, _, rfl, ?_⟩
                          refine T_nf2 (st' := []) (l' := [(7, y597), (8, y599), (9, y601), (10, (m618.1 10)), (11, (m618.1 11)), (12, y607), (28, (m618.1 28)), (69, (m.1 69)), (70, (m.1 70)), (71, (m.1 71)), (72, (m.1 72)), (75, (m.1 75))]) (a' := [(65, (m618.2 65)), (66, (m618.2 66)), (67, (m618.2 67)), (68, (m618.2 68))]) [10, 11, 28] [65, 66, 67, 68] rfl ⟨rfl, rfl, rfl, rfl, rfl, rfl, rfl, rfl, rfl, rfl, rfl, rfl, rfl, rfl, rfl, rfl, rfl, rfl, rfl, rfl, rfl, rfl, rfl, rfl, rfl, rfl, rfl, rfl, trivial⟩ ⟨rfl, rfl, rfl, rfl, rfl, rfl, rfl, rfl, trivial⟩ rfl rfl (by decide) (by decide) ?_
                          have g622 : 0 ≤ m618.1 10 ∧ m618.1 10 ≤ 8 := hT619.1 10
                          have g623 : (-1) ≤ m618.1 11 ∧ m618.1 11 ≤ 4000 := hT619.1 11
                          have g624 : 0 ≤ m618.1 28 ∧ m618.1 28 ≤ 800 := hT619.1 28
                          by_cases hf625 : (m618.1 10) = 0
                          · skip
                            replace h620 : (0 : Int) = 0 := h620 hf625
                            obtain ⟨c626, c627, c628⟩ := c621 hf625
                            replace c626 : (m618.1 28) = (m.1 28) + 1 := c626
                            replace c627 : EX (m618.2 65) (m618.2 67) B (m618.1 28) ((1 + lh (m.2 79) (m.2 80) (m.1 73)) + 1 - ar (405 : Int)) := c627
                            have hEX := c627
                            replace c628 : agr (m.2 65) (m618.2 65) (m.1 28) := c628
                            have hAg := c628
                            clear c621
                            have u629 : (m.1 8) + 1 ≤ y599 := by omega
                            have hAgC : agr (m.2 65) (m618.2 65) (m.1 28) := by first | exact agr_r _ _ | exact hAgC | exact agr_t hAgC hAg (by omega)
                            clear g606
                            refine T_ld 160 (.ref 189) rfl (fun _ => rfl) ?_
                            refine T_ld 161 (.long (i64 y380)) rfl (fun _ => rfl) ?_
                            refine T_ld 163 (.long (i64 y421)) rfl (fun _ => rfl) ?_
                            refine T_lsub 164 rfl rfl ?_
                            refine T_l2i 165 rfl rfl ?_
                            refine T_ld 166 (.int (i32 1)) rfl (fun _ => rfl) ?_
                            refine T_iadd 167 rfl rfl ?_
                            refine T_ld 169 (.int (i32 (m.1 70))) rfl (fun _ => rfl) ?_
                            refine T_call 172 250 [.ref 189, .int (i32 ((y380 - y421) + 1)), .int (i32 (m.1 70))] [] rfl (fun _ => rfl) rfl (c_unit w (mO m [(7, y597), (8, y599), (9, y601), (10, (m618.1 10)), (11, (m618.1 11)), (12, y607), (28, (m618.1 28)), (69, (m.1 69)), (70, (m.1 70)), (71, (m.1 71)), (72, (m.1 72)), (75, (m.1 75))] [(65, (m618.2 65)), (66, (m618.2 66)), (67, (m618.2 67)), (68, (m618.2 68))]) c N D (by omega) (Ty_mO hT rfl rfl ⟨g598, g600, g602, (hT619.1 10), (hT619.1 11), g608, (hT619.1 28), f69, f70, f71, f72, f75, trivial⟩ ⟨(hT619.2.1 65), (hT619.2.1 66), (hT619.2.1 67), (hT619.2.1 68), trivial⟩) ((y380 - y421) + 1) (m.1 70) (r32 (by omega) (by omega)) (r32 (by omega) (by omega)) (show 0 ≤ ((y380 - y421) + 1) ∧ ((y380 - y421) + 1) ≤ 1024 by omega) (show 0 ≤ (m.1 70) ∧ (m.1 70) ≤ 4000 by omega)) (fun rr630 k631 => ?_)
                            obtain ⟨m632, hT633, h634, rfl⟩ := k631
                            refine ⟨_, _, rfl, ?_⟩
                            refine T_nf2 (st' := []) (l' := [(7, y597), (8, y599), (9, y601), (10, (m618.1 10)), (11, (m618.1 11)), (12, y607), (28, (m618.1 28)), (69, (m632.1 69)), (70, (m632.1 70)), (71, (m632.1 71)), (72, (m632.1 72)), (75, (m.1 75))]) (a' := [(65, (m618.2 65)), (66, (m618.2 66)), (67, (m618.2 67)), (68, (m618.2 68))]) [69, 70, 71, 72] [] rfl ⟨rfl, rfl, rfl, rfl, rfl, rfl, rfl, rfl, rfl, rfl, rfl, rfl, rfl, rfl, rfl, rfl, rfl, rfl, rfl, rfl, rfl, rfl, rfl, rfl, rfl, rfl, rfl, rfl, rfl, rfl, rfl, trivial⟩ ⟨rfl, rfl, rfl, rfl, rfl, rfl, rfl, rfl, trivial⟩ rfl rfl (by decide) (by decide) ?_
                            have g635 : 0 ≤ m632.1 69 ∧ m632.1 69 ≤ 1024 := hT633.1 69
                            have g636 : 0 ≤ m632.1 70 ∧ m632.1 70 ≤ 4000 := hT633.1 70
                            have g637 : 0 ≤ m632.1 71 ∧ m632.1 71 ≤ 1 := hT633.1 71
                            have g638 : (-9223372036854775808) ≤ m632.1 72 ∧ m632.1 72 ≤ 9223372036854775807 := hT633.1 72
                            replace h634 : (m632.1 69) = ((y380 - y421) + 1) := h634
                            have u639 : (m.1 8) + 1 ≤ y599 := by omega
                            have hAgC : agr (m.2 65) (m618.2 65) (m.1 28) := by first | exact agr_r _ _ | exact hAgC | exact agr_t hAgC hAg (by omega)
                            have hXE : XS (m618.2 65) (m618.2 67) (m.2 76) (m.2 78) (m.2 79) (m.2 80) B (m618.1 28) (m.1 73) (m.1 74) 1 := XS_of hXS hEX (by rw [show ar 405 = 1 from rfl]; omega)
                            refine T_goto 224 rfl (fun _ => rfl) ?_
                            refine T_ret rfl (fun _ => rfl) ?_
                            exact ⟨(mO m [(7, y597), (8, y599), (9, y601), (10, (m618.1 10)), (11, (m618.1 11)), (12, y607), (28, (m618.1 28)), (69, (m632.1 69)), (70, (m632.1 70)), (71, (m632.1 71)), (72, (m632.1 72)), (75, (m.1 75))] [(65, (m618.2 65)), (66, (m618.2 66)), (67, (m618.2 67)), (68, (m618.2 68))]), (Ty_mO hT rfl rfl ⟨g598, g600, g602, (hT619.1 10), (hT619.1 11), g608, (hT619.1 28), (hT633.1 69), (hT633.1 70), (hT633.1 71), (hT633.1 72), f75, trivial⟩ ⟨(hT619.2.1 65), (hT619.2.1 66), (hT619.2.1 67), (hT619.2.1 68), trivial⟩), (show (m618.1 10) = 0 → (m.1 10) = 0 by omega), (show LxP y597 y599 y601 (m.1 6) (m618.1 10) by first | (first | exact hLx | exact (fun _ => hLx (by omega)) | (intro h9; exfalso; omega)) | (exfalso; omega)), (fun _ => ⟨(show ((m.1 75) = 1 ∧ (m.1 8) + 1 ≤ y599) ∨ ((m.1 75) = 2 ∧ y599 = (m.1 8)) by omega), (show (m632.1 69) ≤ 64 by omega), (show (m.1 28) ≤ (m618.1 28) by omega), (show XS (m618.2 65) (m618.2 67) (m.2 76) (m.2 78) (m.2 79) (m.2 80) B (m618.1 28) (m.1 73) (m.1 74) 1 by first | (exact hXE) | (exfalso; omega)), (show agr (m.2 65) (m618.2 65) (m.1 28) by first | (exact hAgC) | (exfalso; omega))⟩), rfl⟩
                          · skip
                            clear c621
                            clear h620
                            have hf640 : 1 ≤ (m618.1 10) := by omega
                            clear g606
                            refine Tm_lv (a := [(0, .ref 189), (1, .int (i32 y372)), (2, .long (i64 y380)), (4, .long (i64 y421)), (6, .int (i32 (m.1 70)))]) rfl rfl ⟨rfl, rfl, rfl, rfl, rfl, trivial⟩ ?_
                            exact J159_79 y372 y380 y421 (mO m [(7, y597), (8, y599), (9, y601), (10, (m618.1 10)), (11, (m618.1 11)), (12, y607), (28, (m618.1 28)), (69, (m.1 69)), (70, (m.1 70)), (71, (m.1 71)), (72, (m.1 72)), (75, (m.1 75))] [(65, (m618.2 65)), (66, (m618.2 66)), (67, (m618.2 67)), (68, (m618.2 68))]) (r32 (by omega) (by omega)) (r64 (by omega) (by omega)) (r64 (by omega) (by omega)) (Ty_mO hT rfl rfl ⟨g598, g600, g602, (hT619.1 10), (hT619.1 11), g608, (hT619.1 28), f69, f70, f71, f72, f75, trivial⟩ ⟨(hT619.2.1 65), (hT619.2.1 66), (hT619.2.1 67), (hT619.2.1 68), trivial⟩) (show 0 ≤ y372 by omega) (show y372 ≤ 4000 by omega) (show 1 ≤ (m618.1 10) by omega) (show (m618.1 10) ≤ 8 by omega) (show 0 ≤ y380 - y421 ∧ y380 - y421 ≤ 63 by omega) (show 0 ≤ (m.1 70) ∧ (m.1 70) ≤ 4000 by omega)
                        · skip
                          replace h609 : LxP y597 y599 y601 (m.1 6) y603 := h609
                          have hLx := h609
                          clear h610
                          replace h611 : y435 ≤ y599 := h611
                          clear h612
                          have hf641 : 1 ≤ y603 := by omega
                          clear g434 g436 g438 g444 h445 u450 g590 g591 u594 h611
                          refine Tm_lv (a := [(0, .ref 189), (1, .int (i32 y372)), (2, .long (i64 y380)), (4, .long (i64 y421))]) rfl rfl ⟨rfl, rfl, rfl, rfl, trivial⟩ ?_
                          exact J127_104 y372 y380 y421 (mO m [(7, y597), (8, y599), (9, y601), (10, y603), (11, y605), (12, y607), (28, (m.1 28)), (69, (m.1 69)), (70, (m.1 70)), (71, (m.1 71)), (72, (m.1 72)), (75, (m.1 75))] [(65, (m.2 65)), (66, (m.2 66)), (67, (m.2 67)), (68, (m.2 68))]) (r32 (by omega) (by omega)) (r64 (by omega) (by omega)) (r64 (by omega) (by omega)) (Ty_mO hT rfl rfl ⟨g598, g600, g602, g604, g606, g608, f28, f69, f70, f71, f72, f75, trivial⟩ ⟨(hT.2.1 65), (hT.2.1 66), (hT.2.1 67), (hT.2.1 68), trivial⟩) (show 0 ≤ y372 by omega) (show y372 ≤ 4000 by omega) (show 1 ≤ y603 by omega) (show y603 ≤ 8 by omega)
                      · skip
                        clear c589
                        clear h588
                        have hf642 : 1 ≤ (m586.1 10) := by omega
                        clear g442 h453a h453b h453c h453d h453e h454 h517a h517b h517c h517d h517e h518 h581a h581b h581c h581d h581e h582
                        refine Tm_lv (a := [(0, .ref 189), (1, .int (i32 y372)), (2, .long (i64 y380)), (4, .long (i64 y421))]) rfl rfl ⟨rfl, rfl, rfl, rfl, trivial⟩ ?_
                        exact J121_119 y372 y380 y421 (mO m [(7, y433), (8, y435), (9, y437), (10, (m586.1 10)), (11, (m586.1 11)), (12, y443), (28, (m.1 28)), (69, (m.1 69)), (70, (m.1 70)), (71, (m.1 71)), (72, (m.1 72)), (75, (m.1 75))] [(65, (m.2 65)), (66, (m.2 66)), (67, (m.2 67)), (68, (m.2 68))]) (r32 (by omega) (by omega)) (r64 (by omega) (by omega)) (r64 (by omega) (by omega)) (Ty_mO hT rfl rfl ⟨g434, g436, g438, (hT587.1 10), (hT587.1 11), g444, f28, f69, f70, f71, f72, f75, trivial⟩ ⟨(hT.2.1 65), (hT.2.1 66), (hT.2.1 67), (hT.2.1 68), trivial⟩) (show 0 ≤ y372 by omega) (show y372 ≤ 4000 by omega) (show 1 ≤ (m586.1 10) by omega) (show (m586.1 10) ≤ 8 by omega)
                    · skip
                      have hl643 : y421 ≤ y380 := by omega
                      refine T_ld 103 (.long (i64 y380)) rfl (fun _ => rfl) ?_
                      refine T_gf 107 (.int (i32 (m.1 69))) rfl rfl rfl rfl rfl rfl ?_
                      refine T_i2l 108 rfl rfl (r32 (by omega) (by omega)) ?_
                      refine T_lcmp 109 rfl rfl (r64 (by omega) (by omega)) (r64 (by omega) (by omega)) (fun z644 h645 => ?_)
                      obtain ⟨h645a, h645b, h645c, h645d, h645e⟩ := h645
                      refine T_if 116 112 rfl rfl rfl (r32 (by omega) (by omega)) (fun (h646 : (0 : Int) ≤ z644) => ?_) (fun (h646 : ¬ ((0 : Int) ≤ z644)) => ?_)
                      · skip
                        have hl647 : y380 ≥ (m.1 69) := by omega
                        refine T_ld 117 (.int (i32 0)) rfl (fun _ => rfl) ?_
                        refine T_ld 118 (.int (i32 y372)) rfl (fun _ => rfl) ?_
                        refine T_call 121 256 [.ref 189, .int (i32 0), .int (i32 y372)] [] rfl (fun _ => rfl) rfl (c_want w (mO m [(7, y433), (8, y435), (9, y437), (10, 0), (11, y441), (12, y443), (28, (m.1 28)), (69, (m.1 69)), (70, (m.1 70)), (71, (m.1 71)), (72, (m.1 72)), (75, (m.1 75))] [(65, (m.2 65)), (66, (m.2 66)), (67, (m.2 67)), (68, (m.2 68))]) c N D (by omega) (Ty_mO hT rfl rfl ⟨g434, g436, g438, ⟨(by omega : (0 : Int) ≤ 0), (by omega : (0 : Int) ≤ 8)⟩, g442, g444, f28, f69, f70, f71, f72, f75, trivial⟩ ⟨(hT.2.1 65), (hT.2.1 66), (hT.2.1 67), (hT.2.1 68), trivial⟩) 0 y372 ⟨by decide, by decide⟩ (r32 (by omega) (by omega)) (show 0 ≤ y372 ∧ y372 ≤ 4000 by omega) (fun _ => trivial)) (fun rr648 k649 => ?_)
                        obtain ⟨m650, hT651, h652, c653, rfl⟩ := k649
                        refine ⟨_, _, rfl, ?_⟩
                        refine T_nf2 (st' := []) (l' := [(7, y433), (8, y435), (9, y437), (10, (m650.1 10)), (11, (m650.1 11)), (12, y443), (28, (m.1 28)), (69, (m.1 69)), (70, (m.1 70)), (71, (m.1 71)), (72, (m.1 72)), (75, (m.1 75))]) (a' := [(65, (m.2 65)), (66, (m.2 66)), (67, (m.2 67)), (68, (m.2 68))]) [10, 11] [] rfl ⟨rfl, rfl, rfl, rfl, rfl, rfl, rfl, rfl, rfl, rfl, rfl, rfl, rfl, rfl, rfl, rfl, rfl, rfl, rfl, rfl, rfl, rfl, rfl, rfl, rfl, rfl, rfl, trivial⟩ ⟨rfl, rfl, rfl, rfl, rfl, rfl, rfl, rfl, trivial⟩ rfl rfl (by decide) (by decide) ?_
                        have g654 : 0 ≤ m650.1 10 ∧ m650.1 10 ≤ 8 := hT651.1 10
                        have g655 : (-1) ≤ m650.1 11 ∧ m650.1 11 ≤ 4000 := hT651.1 11
                        by_cases hf656 : (m650.1 10) = 0
                        · skip
                          replace h652 : (0 : Int) = 0 := h652 hf656
                          have c657 := c653 hf656
                          replace c657 : (0 : Int) ≠ 0 := c657
                          clear c653
                          have u658 : (m.1 8) + 1 ≤ y435 := by omega
                          have hAgC : agr (m.2 65) (m.2 65) (m.1 28) := by first | exact agr_r _ _ | exact hAgC | exact agr_t hAgC hAg (by omega)
                          clear g442 h453a h453b h453c h453d h453e h454 h517a h517b h517c h517d h517e h518 h581a h581b h581c h581d h581e h582 h645a h645b h645c h645d h645e h646
                          refine T_ld 122 (.ref 189) rfl (fun _ => rfl) ?_
                          refine T_ld 124 (.int (i32 93)) rfl (fun _ => rfl) ?_
                          refine T_call 127 232 [.ref 189, .int (i32 93)] [] rfl (fun _ => rfl) rfl (c_need w (mO m [(7, y433), (8, y435), (9, y437), (10, (m650.1 10)), (11, (m650.1 11)), (12, y443), (28, (m.1 28)), (69, (m.1 69)), (70, (m.1 70)), (71, (m.1 71)), (72, (m.1 72)), (75, (m.1 75))] [(65, (m.2 65)), (66, (m.2 66)), (67, (m.2 67)), (68, (m.2 68))]) c N D (by omega) (Ty_mO hT rfl rfl ⟨g434, g436, g438, (hT651.1 10), (hT651.1 11), g444, f28, f69, f70, f71, f72, f75, trivial⟩ ⟨(hT.2.1 65), (hT.2.1 66), (hT.2.1 67), (hT.2.1 68), trivial⟩) 93 ⟨by decide, by decide⟩ (show 1 ≤ (93 : Int) by omega) (show LxP y433 y435 y437 (m.1 6) (m650.1 10) by first | exact hLx | (intro h9; exfalso; omega) | (intro h9; have h8 := hLx (by omega); omega))) (fun rr659 k660 => ?_)
                          obtain ⟨y661, y663, y665, y667, y669, y671, g662, g664, g666, g668, g670, g672, h673, h674, h675, h676, rfl⟩ := k660
                          refine ⟨_, _, rfl, ?_⟩
                          refine T_nf2 (st' := []) (l' := [(7, y661), (8, y663), (9, y665), (10, y667), (11, y669), (12, y671), (28, (m.1 28)), (69, (m.1 69)), (70, (m.1 70)), (71, (m.1 71)), (72, (m.1 72)), (75, (m.1 75))]) (a' := [(65, (m.2 65)), (66, (m.2 66)), (67, (m.2 67)), (68, (m.2 68))]) [7, 8, 9, 10, 11, 12] [] rfl ⟨rfl, rfl, rfl, rfl, rfl, rfl, rfl, rfl, rfl, rfl, rfl, rfl, rfl, rfl, rfl, rfl, rfl, rfl, rfl, rfl, rfl, rfl, rfl, rfl, trivial⟩ ⟨rfl, rfl, rfl, rfl, rfl, rfl, rfl, rfl, trivial⟩ rfl rfl (by decide) (by decide) ?_
                          by_cases hf677 : y667 = 0
                          · skip
                            subst hf677
                            replace h673 : LxP y661 y663 y665 (m.1 6) (0 : Int) := h673
                            have hLx := h673
                            replace h674 : (m650.1 10) = 0 ∧ y433 = (93 : Int) := h674 rfl
                            replace h675 : y435 ≤ y663 := h675
                            replace h676 : y435 + y437 ≤ y663 := h676 rfl
                            have u678 : (m.1 8) + 1 ≤ y663 := by omega
                            have hAgC : agr (m.2 65) (m.2 65) (m.1 28) := by first | exact agr_r _ _ | exact hAgC | exact agr_t hAgC hAg (by omega)
                            clear g434 g436 g438 g444 h445 u450 g654 g655 u658 g668 h674 h675 h676
                            refine T_gf 131 (.int (i32 0)) rfl rfl rfl rfl rfl rfl ?_
                            refine T_if 135 134 rfl rfl rfl ⟨by decide, by decide⟩ (fun _ => ?_) (fun h679 => absurd (show (0 : Int) ≤ 0 by decide) h679)
                            refine T_gf 139 (.int (i32 (m.1 70))) rfl rfl rfl rfl rfl rfl ?_
                            refine T_sto 141 [(6, .int (i32 (m.1 70))), (4, .long (i64 y421)), (2, .long (i64 y380)), (1, .int (i32 y372)), (0, .ref 189)] rfl (fun _ => rfl) ?_
                            have hAr : ar 405 ≤ 1 + lh (m.2 79) (m.2 80) (m.1 73) := by rw [show ar 405 = 1 from rfl]; omega
                            have hCk : CNk 405 y421 := by refine ⟨?_, ?_, ?_, ?_⟩ <;> omega
                            refine T_ld 142 (.ref 189) rfl (fun _ => rfl) ?_
                            refine T_ld 145 (.int (i32 405)) rfl (fun _ => rfl) ?_
                            refine T_ld 146 (.long (i64 y380)) rfl (fun _ => rfl) ?_
                            refine T_ld 148 (.long (i64 y421)) rfl (fun _ => rfl) ?_
                            refine T_lsub 149 rfl rfl ?_
                            refine T_l2i 150 rfl rfl ?_
                            refine T_ld 151 (.int (i32 1)) rfl (fun _ => rfl) ?_
                            refine T_iadd 152 rfl rfl ?_
                            refine T_ld 154 (.long (i64 y421)) rfl (fun _ => rfl) ?_
                            refine T_l2i 155 rfl rfl ?_
                            refine T_ld 156 (.long (i64 0)) rfl (fun _ => rfl) ?_
                            refine T_call 159 248 [.ref 189, .int (i32 405), .int (i32 ((y380 - y421) + 1)), .int (i32 y421), .long (i64 0)] [] rfl (fun _ => rfl) rfl (c_node w (mO m [(7, y661), (8, y663), (9, y665), (10, 0), (11, y669), (12, y671), (28, (m.1 28)), (69, (m.1 69)), (70, (m.1 70)), (71, (m.1 71)), (72, (m.1 72)), (75, (m.1 75))] [(65, (m.2 65)), (66, (m.2 66)), (67, (m.2 67)), (68, (m.2 68))]) c N D (by omega) (Ty_mO hT rfl rfl ⟨g662, g664, g666, ⟨(by omega : (0 : Int) ≤ 0), (by omega : (0 : Int) ≤ 8)⟩, g670, g672, f28, f69, f70, f71, f72, f75, trivial⟩ ⟨(hT.2.1 65), (hT.2.1 66), (hT.2.1 67), (hT.2.1 68), trivial⟩) 405 ((y380 - y421) + 1) y421 0 B (1 + lh (m.2 79) (m.2 80) (m.1 73)) ⟨by decide, by decide⟩ (r32 (by omega) (by omega)) (r32 (by omega) (by omega)) ⟨by decide, by decide⟩ (fun _ => ⟨(show 0 ≤ (405 : Int) ∧ (405 : Int) ≤ 408 by first | omega | decide), (show 0 ≤ ((y380 - y421) + 1) ∧ ((y380 - y421) + 1) ≤ 64 by first | omega | decide), (show 0 ≤ y421 ∧ y421 ≤ 191 by first | omega | decide), (show CNk (405 : Int) y421 by first | exact hCk | (refine ⟨?_, ?_, ?_, ?_⟩ <;> omega)), (show ar (405 : Int) ≤ (1 + lh (m.2 79) (m.2 80) (m.1 73)) by first | exact hAr | omega), (show EX (m.2 65) (m.2 67) B (m.1 28) (1 + lh (m.2 79) (m.2 80) (m.1 73)) by first | exact hEX | assumption)⟩)) (fun rr680 k681 => ?_)
                            obtain ⟨m682, hT683, h684, c685, rfl⟩ := k681
                            refine ⟨_, _, rfl, ?_⟩
                            refine T_nf2 (st' := []) (l' := [(7, y661), (8, y663), (9, y665), (10, (m682.1 10)), (11, (m682.1 11)), (12, y671), (28, (m682.1 28)), (69, (m.1 69)), (70, (m.1 70)), (71, (m.1 71)), (72, (m.1 72)), (75, (m.1 75))]) (a' := [(65, (m682.2 65)), (66, (m682.2 66)), (67, (m682.2 67)), (68, (m682.2 68))]) [10, 11, 28] [65, 66, 67, 68] rfl ⟨rfl, rfl, rfl, rfl, rfl, rfl, rfl, rfl, rfl, rfl, rfl, rfl, rfl, rfl, rfl, rfl, rfl, rfl, rfl, rfl, rfl, rfl, rfl, rfl, rfl, rfl, rfl, rfl, trivial⟩ ⟨rfl, rfl, rfl, rfl, rfl, rfl, rfl, rfl, trivial⟩ rfl rfl (by decide) (by decide) ?_
                            have g686 : 0 ≤ m682.1 10 ∧ m682.1 10 ≤ 8 := hT683.1 10
                            have g687 : (-1) ≤ m682.1 11 ∧ m682.1 11 ≤ 4000 := hT683.1 11
                            have g688 : 0 ≤ m682.1 28 ∧ m682.1 28 ≤ 800 := hT683.1 28
                            by_cases hf689 : (m682.1 10) = 0
                            · skip
                              replace h684 : (0 : Int) = 0 := h684 hf689
                              obtain ⟨c690, c691, c692⟩ := c685 hf689
                              replace c690 : (m682.1 28) = (m.1 28) + 1 := c690
                              replace c691 : EX (m682.2 65) (m682.2 67) B (m682.1 28) ((1 + lh (m.2 79) (m.2 80) (m.1 73)) + 1 - ar (405 : Int)) := c691
                              have hEX := c691
                              replace c692 : agr (m.2 65) (m682.2 65) (m.1 28) := c692
                              have hAg := c692
                              clear c685
                              have u693 : (m.1 8) + 1 ≤ y663 := by omega
                              have hAgC : agr (m.2 65) (m682.2 65) (m.1 28) := by first | exact agr_r _ _ | exact hAgC | exact agr_t hAgC hAg (by omega)
                              clear g670
                              refine T_ld 160 (.ref 189) rfl (fun _ => rfl) ?_
                              refine T_ld 161 (.long (i64 y380)) rfl (fun _ => rfl) ?_
                              refine T_ld 163 (.long (i64 y421)) rfl (fun _ => rfl) ?_
                              refine T_lsub 164 rfl rfl ?_
                              refine T_l2i 165 rfl rfl ?_
                              refine T_ld 166 (.int (i32 1)) rfl (fun _ => rfl) ?_
                              refine T_iadd 167 rfl rfl ?_
                              refine T_ld 169 (.int (i32 (m.1 70))) rfl (fun _ => rfl) ?_
                              refine T_call 172 250 [.ref 189, .int (i32 ((y380 - y421) + 1)), .int (i32 (m.1 70))] [] rfl (fun _ => rfl) rfl (c_unit w (mO m [(7, y661), (8, y663), (9, y665), (10, (m682.1 10)), (11, (m682.1 11)), (12, y671), (28, (m682.1 28)), (69, (m.1 69)), (70, (m.1 70)), (71, (m.1 71)), (72, (m.1 72)), (75, (m.1 75))] [(65, (m682.2 65)), (66, (m682.2 66)), (67, (m682.2 67)), (68, (m682.2 68))]) c N D (by omega) (Ty_mO hT rfl rfl ⟨g662, g664, g666, (hT683.1 10), (hT683.1 11), g672, (hT683.1 28), f69, f70, f71, f72, f75, trivial⟩ ⟨(hT683.2.1 65), (hT683.2.1 66), (hT683.2.1 67), (hT683.2.1 68), trivial⟩) ((y380 - y421) + 1) (m.1 70) (r32 (by omega) (by omega)) (r32 (by omega) (by omega)) (show 0 ≤ ((y380 - y421) + 1) ∧ ((y380 - y421) + 1) ≤ 1024 by omega) (show 0 ≤ (m.1 70) ∧ (m.1 70) ≤ 4000 by omega)) (fun rr694 k695 => ?_)
                              obtain ⟨m696, hT697, h698, rfl⟩ := k695
                              refine ⟨_, _, rfl, ?_⟩
                              refine T_nf2 (st' := []) (l' := [(7, y661), (8, y663), (9, y665), (10, (m682.1 10)), (11, (m682.1 11)), (12, y671), (28, (m682.1 28)), (69, (m696.1 69)), (70, (m696.1 70)), (71, (m696.1 71)), (72, (m696.1 72)), (75, (m.1 75))]) (a' := [(65, (m682.2 65)), (66, (m682.2 66)), (67, (m682.2 67)), (68, (m682.2 68))]) [69, 70, 71, 72] [] rfl ⟨rfl, rfl, rfl, rfl, rfl, rfl, rfl, rfl, rfl, rfl, rfl, rfl, rfl, rfl, rfl, rfl, rfl, rfl, rfl, rfl, rfl, rfl, rfl, rfl, rfl, rfl, rfl, rfl, rfl, rfl, rfl, trivial⟩ ⟨rfl, rfl, rfl, rfl, rfl, rfl, rfl, rfl, trivial⟩ rfl rfl (by decide) (by decide) ?_
                              have g699 : 0 ≤ m696.1 69 ∧ m696.1 69 ≤ 1024 := hT697.1 69
                              have g700 : 0 ≤ m696.1 70 ∧ m696.1 70 ≤ 4000 := hT697.1 70
                              have g701 : 0 ≤ m696.1 71 ∧ m696.1 71 ≤ 1 := hT697.1 71
                              have g702 : (-9223372036854775808) ≤ m696.1 72 ∧ m696.1 72 ≤ 9223372036854775807 := hT697.1 72
                              replace h698 : (m696.1 69) = ((y380 - y421) + 1) := h698
                              have u703 : (m.1 8) + 1 ≤ y663 := by omega
                              have hAgC : agr (m.2 65) (m682.2 65) (m.1 28) := by first | exact agr_r _ _ | exact hAgC | exact agr_t hAgC hAg (by omega)
                              have hXE : XS (m682.2 65) (m682.2 67) (m.2 76) (m.2 78) (m.2 79) (m.2 80) B (m682.1 28) (m.1 73) (m.1 74) 1 := XS_of hXS hEX (by rw [show ar 405 = 1 from rfl]; omega)
                              refine T_goto 224 rfl (fun _ => rfl) ?_
                              refine T_ret rfl (fun _ => rfl) ?_
                              exact ⟨(mO m [(7, y661), (8, y663), (9, y665), (10, (m682.1 10)), (11, (m682.1 11)), (12, y671), (28, (m682.1 28)), (69, (m696.1 69)), (70, (m696.1 70)), (71, (m696.1 71)), (72, (m696.1 72)), (75, (m.1 75))] [(65, (m682.2 65)), (66, (m682.2 66)), (67, (m682.2 67)), (68, (m682.2 68))]), (Ty_mO hT rfl rfl ⟨g662, g664, g666, (hT683.1 10), (hT683.1 11), g672, (hT683.1 28), (hT697.1 69), (hT697.1 70), (hT697.1 71), (hT697.1 72), f75, trivial⟩ ⟨(hT683.2.1 65), (hT683.2.1 66), (hT683.2.1 67), (hT683.2.1 68), trivial⟩), (show (m682.1 10) = 0 → (m.1 10) = 0 by omega), (show LxP y661 y663 y665 (m.1 6) (m682.1 10) by first | (first | exact hLx | exact (fun _ => hLx (by omega)) | (intro h9; exfalso; omega)) | (exfalso; omega)), (fun _ => ⟨(show ((m.1 75) = 1 ∧ (m.1 8) + 1 ≤ y663) ∨ ((m.1 75) = 2 ∧ y663 = (m.1 8)) by omega), (show (m696.1 69) ≤ 64 by omega), (show (m.1 28) ≤ (m682.1 28) by omega), (show XS (m682.2 65) (m682.2 67) (m.2 76) (m.2 78) (m.2 79) (m.2 80) B (m682.1 28) (m.1 73) (m.1 74) 1 by first | (exact hXE) | (exfalso; omega)), (show agr (m.2 65) (m682.2 65) (m.1 28) by first | (exact hAgC) | (exfalso; omega))⟩), rfl⟩
                            · skip
                              clear c685
                              clear h684
                              have hf704 : 1 ≤ (m682.1 10) := by omega
                              clear g670
                              refine Tm_lv (a := [(0, .ref 189), (1, .int (i32 y372)), (2, .long (i64 y380)), (4, .long (i64 y421)), (6, .int (i32 (m.1 70)))]) rfl rfl ⟨rfl, rfl, rfl, rfl, rfl, trivial⟩ ?_
                              exact J159_79 y372 y380 y421 (mO m [(7, y661), (8, y663), (9, y665), (10, (m682.1 10)), (11, (m682.1 11)), (12, y671), (28, (m682.1 28)), (69, (m.1 69)), (70, (m.1 70)), (71, (m.1 71)), (72, (m.1 72)), (75, (m.1 75))] [(65, (m682.2 65)), (66, (m682.2 66)), (67, (m682.2 67)), (68, (m682.2 68))]) (r32 (by omega) (by omega)) (r64 (by omega) (by omega)) (r64 (by omega) (by omega)) (Ty_mO hT rfl rfl ⟨g662, g664, g666, (hT683.1 10), (hT683.1 11), g672, (hT683.1 28), f69, f70, f71, f72, f75, trivial⟩ ⟨(hT683.2.1 65), (hT683.2.1 66), (hT683.2.1 67), (hT683.2.1 68), trivial⟩) (show 0 ≤ y372 by omega) (show y372 ≤ 4000 by omega) (show 1 ≤ (m682.1 10) by omega) (show (m682.1 10) ≤ 8 by omega) (show 0 ≤ y380 - y421 ∧ y380 - y421 ≤ 63 by omega) (show 0 ≤ (m.1 70) ∧ (m.1 70) ≤ 4000 by omega)
                          · skip
                            replace h673 : LxP y661 y663 y665 (m.1 6) y667 := h673
                            have hLx := h673
                            clear h674
                            replace h675 : y435 ≤ y663 := h675
                            clear h676
                            have hf705 : 1 ≤ y667 := by omega
                            clear g434 g436 g438 g444 h445 u450 g654 g655 u658 h675
                            refine Tm_lv (a := [(0, .ref 189), (1, .int (i32 y372)), (2, .long (i64 y380)), (4, .long (i64 y421))]) rfl rfl ⟨rfl, rfl, rfl, rfl, trivial⟩ ?_
                            exact J127_104 y372 y380 y421 (mO m [(7, y661), (8, y663), (9, y665), (10, y667), (11, y669), (12, y671), (28, (m.1 28)), (69, (m.1 69)), (70, (m.1 70)), (71, (m.1 71)), (72, (m.1 72)), (75, (m.1 75))] [(65, (m.2 65)), (66, (m.2 66)), (67, (m.2 67)), (68, (m.2 68))]) (r32 (by omega) (by omega)) (r64 (by omega) (by omega)) (r64 (by omega) (by omega)) (Ty_mO hT rfl rfl ⟨g662, g664, g666, g668, g670, g672, f28, f69, f70, f71, f72, f75, trivial⟩ ⟨(hT.2.1 65), (hT.2.1 66), (hT.2.1 67), (hT.2.1 68), trivial⟩) (show 0 ≤ y372 by omega) (show y372 ≤ 4000 by omega) (show 1 ≤ y667 by omega) (show y667 ≤ 8 by omega)
                        · skip
                          clear c653
                          clear h652
                          have hf706 : 1 ≤ (m650.1 10) := by omega
                          clear g442 h453a h453b h453c h453d h453e h454 h517a h517b h517c h517d h517e h518 h581a h581b h581c h581d h581e h582 h645a h645b h645c h645d h645e h646
                          refine Tm_lv (a := [(0, .ref 189), (1, .int (i32 y372)), (2, .long (i64 y380)), (4, .long (i64 y421))]) rfl rfl ⟨rfl, rfl, rfl, rfl, trivial⟩ ?_
                          exact J121_119 y372 y380 y421 (mO m [(7, y433), (8, y435), (9, y437), (10, (m650.1 10)), (11, (m650.1 11)), (12, y443), (28, (m.1 28)), (69, (m.1 69)), (70, (m.1 70)), (71, (m.1 71)), (72, (m.1 72)), (75, (m.1 75))] [(65, (m.2 65)), (66, (m.2 66)), (67, (m.2 67)), (68, (m.2 68))]) (r32 (by omega) (by omega)) (r64 (by omega) (by omega)) (r64 (by omega) (by omega)) (Ty_mO hT rfl rfl ⟨g434, g436, g438, (hT651.1 10), (hT651.1 11), g444, f28, f69, f70, f71, f72, f75, trivial⟩ ⟨(hT.2.1 65), (hT.2.1 66), (hT.2.1 67), (hT.2.1 68), trivial⟩) (show 0 ≤ y372 by omega) (show y372 ≤ 4000 by omega) (show 1 ≤ (m650.1 10) by omega) (show (m650.1 10) ≤ 8 by omega)
                      · skip
                        have hl707 : y380 < (m.1 69) := by omega
                        refine T_ld 113 (.int (i32 1)) rfl (fun _ => rfl) ?_
                        refine T_goto 117 rfl (fun _ => rfl) ?_
                        refine T_ld 118 (.int (i32 y372)) rfl (fun _ => rfl) ?_
                        refine T_call 121 256 [.ref 189, .int (i32 1), .int (i32 y372)] [] rfl (fun _ => rfl) rfl (c_want w (mO m [(7, y433), (8, y435), (9, y437), (10, 0), (11, y441), (12, y443), (28, (m.1 28)), (69, (m.1 69)), (70, (m.1 70)), (71, (m.1 71)), (72, (m.1 72)), (75, (m.1 75))] [(65, (m.2 65)), (66, (m.2 66)), (67, (m.2 67)), (68, (m.2 68))]) c N D (by omega) (Ty_mO hT rfl rfl ⟨g434, g436, g438, ⟨(by omega : (0 : Int) ≤ 0), (by omega : (0 : Int) ≤ 8)⟩, g442, g444, f28, f69, f70, f71, f72, f75, trivial⟩ ⟨(hT.2.1 65), (hT.2.1 66), (hT.2.1 67), (hT.2.1 68), trivial⟩) 1 y372 ⟨by decide, by decide⟩ (r32 (by omega) (by omega)) (show 0 ≤ y372 ∧ y372 ≤ 4000 by omega) (fun _ => trivial)) (fun rr708 k709 => ?_)
                        obtain ⟨m710, hT711, h712, c713, rfl⟩ := k709
                        refine ⟨_, _, rfl, ?_⟩
                        refine T_nf2 (st' := []) (l' := [(7, y433), (8, y435), (9, y437), (10, (m710.1 10)), (11, (m710.1 11)), (12, y443), (28, (m.1 28)), (69, (m.1 69)), (70, (m.1 70)), (71, (m.1 71)), (72, (m.1 72)), (75, (m.1 75))]) (a' := [(65, (m.2 65)), (66, (m.2 66)), (67, (m.2 67)), (68, (m.2 68))]) [10, 11] [] rfl ⟨rfl, rfl, rfl, rfl, rfl, rfl, rfl, rfl, rfl, rfl, rfl, rfl, rfl, rfl, rfl, rfl, rfl, rfl, rfl, rfl, rfl, rfl, rfl, rfl, rfl, rfl, rfl, trivial⟩ ⟨rfl, rfl, rfl, rfl, rfl, rfl, rfl, rfl, trivial⟩ rfl rfl (by decide) (by decide) ?_
                        have g714 : 0 ≤ m710.1 10 ∧ m710.1 10 ≤ 8 := hT711.1 10
                        have g715 : (-1) ≤ m710.1 11 ∧ m710.1 11 ≤ 4000 := hT711.1 11
                        by_cases hf716 : (m710.1 10) = 0
                        · skip
                          replace h712 : (0 : Int) = 0 := h712 hf716
                          have c717 := c713 hf716
                          replace c717 : (1 : Int) ≠ 0 := c717
                          clear c713
                          have u718 : (m.1 8) + 1 ≤ y435 := by omega
                          have hAgC : agr (m.2 65) (m.2 65) (m.1 28) := by first | exact agr_r _ _ | exact hAgC | exact agr_t hAgC hAg (by omega)
                          clear g442 h453a h453b h453c h453d h453e h454 h517a h517b h517c h517d h517e h518 h581a h581b h581c h581d h581e h582 h645a h645b h645c h645d h645e h646
                          refine T_ld 122 (.ref 189) rfl (fun _ => rfl) ?_
                          refine T_ld 124 (.int (i32 93)) rfl (fun _ => rfl) ?_
                          refine T_call 127 232 [.ref 189, .int (i32 93)] [] rfl (fun _ => rfl) rfl (c_need w (mO m [(7, y433), (8, y435), (9, y437), (10, (m710.1 10)), (11, (m710.1 11)), (12, y443), (28, (m.1 28)), (69, (m.1 69)), (70, (m.1 70)), (71, (m.1 71)), (72, (m.1 72)), (75, (m.1 75))] [(65, (m.2 65)), (66, (m.2 66)), (67, (m.2 67)), (68, (m.2 68))]) c N D (by omega) (Ty_mO hT rfl rfl ⟨g434, g436, g438, (hT711.1 10), (hT711.1 11), g444, f28, f69, f70, f71, f72, f75, trivial⟩ ⟨(hT.2.1 65), (hT.2.1 66), (hT.2.1 67), (hT.2.1 68), trivial⟩) 93 ⟨by decide, by decide⟩ (show 1 ≤ (93 : Int) by omega) (show LxP y433 y435 y437 (m.1 6) (m710.1 10) by first | exact hLx | (intro h9; exfalso; omega) | (intro h9; have h8 := hLx (by omega); omega))) (fun rr719 k720 => ?_)
                          obtain ⟨y721, y723, y725, y727, y729, y731, g722, g724, g726, g728, g730, g732, h733, h734, h735, h736, rfl⟩ := k720
                          refine ⟨_, _, rfl, ?_⟩
                          refine T_nf2 (st' := []) (l' := [(7, y721), (8, y723), (9, y725), (10, y727), (11, y729), (12, y731), (28, (m.1 28)), (69, (m.1 69)), (70, (m.1 70)), (71, (m.1 71)), (72, (m.1 72)), (75, (m.1 75))]) (a' := [(65, (m.2 65)), (66, (m.2 66)), (67, (m.2 67)), (68, (m.2 68))]) [7, 8, 9, 10, 11, 12] [] rfl ⟨rfl, rfl, rfl, rfl, rfl, rfl, rfl, rfl, rfl, rfl, rfl, rfl, rfl, rfl, rfl, rfl, rfl, rfl, rfl, rfl, rfl, rfl, rfl, rfl, trivial⟩ ⟨rfl, rfl, rfl, rfl, rfl, rfl, rfl, rfl, trivial⟩ rfl rfl (by decide) (by decide) ?_
                          by_cases hf737 : y727 = 0
                          · skip
                            subst hf737
                            replace h733 : LxP y721 y723 y725 (m.1 6) (0 : Int) := h733
                            have hLx := h733
                            replace h734 : (m710.1 10) = 0 ∧ y433 = (93 : Int) := h734 rfl
                            replace h735 : y435 ≤ y723 := h735
                            replace h736 : y435 + y437 ≤ y723 := h736 rfl
                            have u738 : (m.1 8) + 1 ≤ y723 := by omega
                            have hAgC : agr (m.2 65) (m.2 65) (m.1 28) := by first | exact agr_r _ _ | exact hAgC | exact agr_t hAgC hAg (by omega)
                            clear g434 g436 g438 g444 h445 u450 g714 g715 u718 g728 h734 h735 h736
                            refine T_gf 131 (.int (i32 0)) rfl rfl rfl rfl rfl rfl ?_
                            refine T_if 135 134 rfl rfl rfl ⟨by decide, by decide⟩ (fun _ => ?_) (fun h739 => absurd (show (0 : Int) ≤ 0 by decide) h739)
                            refine T_gf 139 (.int (i32 (m.1 70))) rfl rfl rfl rfl rfl rfl ?_
                            refine T_sto 141 [(6, .int (i32 (m.1 70))), (4, .long (i64 y421)), (2, .long (i64 y380)), (1, .int (i32 y372)), (0, .ref 189)] rfl (fun _ => rfl) ?_
                            have hAr : ar 405 ≤ 1 + lh (m.2 79) (m.2 80) (m.1 73) := by rw [show ar 405 = 1 from rfl]; omega
                            have hCk : CNk 405 y421 := by refine ⟨?_, ?_, ?_, ?_⟩ <;> omega
                            refine T_ld 142 (.ref 189) rfl (fun _ => rfl) ?_
                            refine T_ld 145 (.int (i32 405)) rfl (fun _ => rfl) ?_
                            refine T_ld 146 (.long (i64 y380)) rfl (fun _ => rfl) ?_
                            refine T_ld 148 (.long (i64 y421)) rfl (fun _ => rfl) ?_
                            refine T_lsub 149 rfl rfl ?_
                            refine T_l2i 150 rfl rfl ?_
                            refine T_ld 151 (.int (i32 1)) rfl (fun _ => rfl) ?_
                            refine T_iadd 152 rfl rfl ?_
                            refine T_ld 154 (.long (i64 y421)) rfl (fun _ => rfl) ?_
                            refine T_l2i 155 rfl rfl ?_
                            refine T_ld 156 (.long (i64 0)) rfl (fun _ => rfl) ?_
                            refine T_call 159 248 [.ref 189, .int (i32 405), .int (i32 ((y380 - y421) + 1)), .int (i32 y421), .long (i64 0)] [] rfl (fun _ => rfl) rfl (c_node w (mO m [(7, y721), (8, y723), (9, y725), (10, 0), (11, y729), (12, y731), (28, (m.1 28)), (69, (m.1 69)), (70, (m.1 70)), (71, (m.1 71)), (72, (m.1 72)), (75, (m.1 75))] [(65, (m.2 65)), (66, (m.2 66)), (67, (m.2 67)), (68, (m.2 68))]) c N D (by omega) (Ty_mO hT rfl rfl ⟨g722, g724, g726, ⟨(by omega : (0 : Int) ≤ 0), (by omega : (0 : Int) ≤ 8)⟩, g730, g732, f28, f69, f70, f71, f72, f75, trivial⟩ ⟨(hT.2.1 65), (hT.2.1 66), (hT.2.1 67), (hT.2.1 68), trivial⟩) 405 ((y380 - y421) + 1) y421 0 B (1 + lh (m.2 79) (m.2 80) (m.1 73)) ⟨by decide, by decide⟩ (r32 (by omega) (by omega)) (r32 (by omega) (by omega)) ⟨by decide, by decide⟩ (fun _ => ⟨(show 0 ≤ (405 : Int) ∧ (405 : Int) ≤ 408 by first | omega | decide), (show 0 ≤ ((y380 - y421) + 1) ∧ ((y380 - y421) + 1) ≤ 64 by first | omega | decide), (show 0 ≤ y421 ∧ y421 ≤ 191 by first | omega | decide), (show CNk (405 : Int) y421 by first | exact hCk | (refine ⟨?_, ?_, ?_, ?_⟩ <;> omega)), (show ar (405 : Int) ≤ (1 + lh (m.2 79) (m.2 80) (m.1 73)) by first | exact hAr | omega), (show EX (m.2 65) (m.2 67) B (m.1 28) (1 + lh (m.2 79) (m.2 80) (m.1 73)) by first | exact hEX | assumption)⟩)) (fun rr740 k741 => ?_)
                            obtain ⟨m742, hT743, h744, c745, rfl⟩ := k741
                            refine ⟨_, _, rfl, ?_⟩
                            refine T_nf2 (st' := []) (l' := [(7, y721), (8, y723), (9, y725), (10, (m742.1 10)), (11, (m742.1 11)), (12, y731), (28, (m742.1 28)), (69, (m.1 69)), (70, (m.1 70)), (71, (m.1 71)), (72, (m.1 72)), (75, (m.1 75))]) (a' := [(65, (m742.2 65)), (66, (m742.2 66)), (67, (m742.2 67)), (68, (m742.2 68))]) [10, 11, 28] [65, 66, 67, 68] rfl ⟨rfl, rfl, rfl, rfl, rfl, rfl, rfl, rfl, rfl, rfl, rfl, rfl, rfl, rfl, rfl, rfl, rfl, rfl, rfl, rfl, rfl, rfl, rfl, rfl, rfl, rfl, rfl, rfl, trivial⟩ ⟨rfl, rfl, rfl, rfl, rfl, rfl, rfl, rfl, trivial⟩ rfl rfl (by decide) (by decide) ?_
                            have g746 : 0 ≤ m742.1 10 ∧ m742.1 10 ≤ 8 := hT743.1 10
                            have g747 : (-1) ≤ m742.1 11 ∧ m742.1 11 ≤ 4000 := hT743.1 11
                            have g748 : 0 ≤ m742.1 28 ∧ m742.1 28 ≤ 800 := hT743.1 28
                            by_cases hf749 : (m742.1 10) = 0
                            · skip
                              replace h744 : (0 : Int) = 0 := h744 hf749
                              obtain ⟨c750, c751, c752⟩ := c745 hf749
                              replace c750 : (m742.1 28) = (m.1 28) + 1 := c750
                              replace c751 : EX (m742.2 65) (m742.2 67) B (m742.1 28) ((1 + lh (m.2 79) (m.2 80) (m.1 73)) + 1 - ar (405 : Int)) := c751
                              have hEX := c751
                              replace c752 : agr (m.2 65) (m742.2 65) (m.1 28) := c752
                              have hAg := c752
                              clear c745
                              have u753 : (m.1 8) + 1 ≤ y723 := by omega
                              have hAgC : agr (m.2 65) (m742.2 65) (m.1 28) := by first | exact agr_r _ _ | exact hAgC | exact agr_t hAgC hAg (by omega)
                              clear g730
                              refine T_ld 160 (.ref 189) rfl (fun _ => rfl) ?_
                              refine T_ld 161 (.long (i64 y380)) rfl (fun _ => rfl) ?_
                              refine T_ld 163 (.long (i64 y421)) rfl (fun _ => rfl) ?_
                              refine T_lsub 164 rfl rfl ?_
                              refine T_l2i 165 rfl rfl ?_
                              refine T_ld 166 (.int (i32 1)) rfl (fun _ => rfl) ?_
                              refine T_iadd 167 rfl rfl ?_
                              refine T_ld 169 (.int (i32 (m.1 70))) rfl (fun _ => rfl) ?_
                              refine T_call 172 250 [.ref 189, .int (i32 ((y380 - y421) + 1)), .int (i32 (m.1 70))] [] rfl (fun _ => rfl) rfl (c_unit w (mO m [(7, y721), (8, y723), (9, y725), (10, (m742.1 10)), (11, (m742.1 11)), (12, y731), (28, (m742.1 28)), (69, (m.1 69)), (70, (m.1 70)), (71, (m.1 71)), (72, (m.1 72)), (75, (m.1 75))] [(65, (m742.2 65)), (66, (m742.2 66)), (67, (m742.2 67)), (68, (m742.2 68))]) c N D (by omega) (Ty_mO hT rfl rfl ⟨g722, g724, g726, (hT743.1 10), (hT743.1 11), g732, (hT743.1 28), f69, f70, f71, f72, f75, trivial⟩ ⟨(hT743.2.1 65), (hT743.2.1 66), (hT743.2.1 67), (hT743.2.1 68), trivial⟩) ((y380 - y421) + 1) (m.1 70) (r32 (by omega) (by omega)) (r32 (by omega) (by omega)) (show 0 ≤ ((y380 - y421) + 1) ∧ ((y380 - y421) + 1) ≤ 1024 by omega) (show 0 ≤ (m.1 70) ∧ (m.1 70) ≤ 4000 by omega)) (fun rr754 k755 => ?_)
                              obtain ⟨m756, hT757, h758, rfl⟩ := k755
                              refine ⟨_, _, rfl, ?_⟩
                              refine T_nf2 (st' := []) (l' := [(7, y721), (8, y723), (9, y725), (10, (m742.1 10)), (11, (m742.1 11)), (12, y731), (28, (m742.1 28)), (69, (m756.1 69)), (70, (m756.1 70)), (71, (m756.1 71)), (72, (m756.1 72)), (75, (m.1 75))]) (a' := [(65, (m742.2 65)), (66, (m742.2 66)), (67, (m742.2 67)), (68, (m742.2 68))]) [69, 70, 71, 72] [] rfl ⟨rfl, rfl, rfl, rfl, rfl, rfl, rfl, rfl, rfl, rfl, rfl, rfl, rfl, rfl, rfl, rfl, rfl, rfl, rfl, rfl, rfl, rfl, rfl, rfl, rfl, rfl, rfl, rfl, rfl, rfl, rfl, trivial⟩ ⟨rfl, rfl, rfl, rfl, rfl, rfl, rfl, rfl, trivial⟩ rfl rfl (by decide) (by decide) ?_
                              have g759 : 0 ≤ m756.1 69 ∧ m756.1 69 ≤ 1024 := hT757.1 69
                              have g760 : 0 ≤ m756.1 70 ∧ m756.1 70 ≤ 4000 := hT757.1 70
                              have g761 : 0 ≤ m756.1 71 ∧ m756.1 71 ≤ 1 := hT757.1 71
                              have g762 : (-9223372036854775808) ≤ m756.1 72 ∧ m756.1 72 ≤ 9223372036854775807 := hT757.1 72
                              replace h758 : (m756.1 69) = ((y380 - y421) + 1) := h758
                              have u763 : (m.1 8) + 1 ≤ y723 := by omega
                              have hAgC : agr (m.2 65) (m742.2 65) (m.1 28) := by first | exact agr_r _ _ | exact hAgC | exact agr_t hAgC hAg (by omega)
                              have hXE : XS (m742.2 65) (m742.2 67) (m.2 76) (m.2 78) (m.2 79) (m.2 80) B (m742.1 28) (m.1 73) (m.1 74) 1 := XS_of hXS hEX (by rw [show ar 405 = 1 from rfl]; omega)
                              refine T_goto 224 rfl (fun _ => rfl) ?_
                              refine T_ret rfl (fun _ => rfl) ?_
                              exact ⟨(mO m [(7, y721), (8, y723), (9, y725), (10, (m742.1 10)), (11, (m742.1 11)), (12, y731), (28, (m742.1 28)), (69, (m756.1 69)), (70, (m756.1 70)), (71, (m756.1 71)), (72, (m756.1 72)), (75, (m.1 75))] [(65, (m742.2 65)), (66, (m742.2 66)), (67, (m742.2 67)), (68, (m742.2 68))]), (Ty_mO hT rfl rfl ⟨g722, g724, g726, (hT743.1 10), (hT743.1 11), g732, (hT743.1 28), (hT757.1 69), (hT757.1 70), (hT757.1 71), (hT757.1 72), f75, trivial⟩ ⟨(hT743.2.1 65), (hT743.2.1 66), (hT743.2.1 67), (hT743.2.1 68), trivial⟩), (show (m742.1 10) = 0 → (m.1 10) = 0 by omega), (show LxP y721 y723 y725 (m.1 6) (m742.1 10) by first | (first | exact hLx | exact (fun _ => hLx (by omega)) | (intro h9; exfalso; omega)) | (exfalso; omega)), (fun _ => ⟨(show ((m.1 75) = 1 ∧ (m.1 8) + 1 ≤ y723) ∨ ((m.1 75) = 2 ∧ y723 = (m.1 8)) by omega), (show (m756.1 69) ≤ 64 by omega), (show (m.1 28) ≤ (m742.1 28) by omega), (show XS (m742.2 65) (m742.2 67) (m.2 76) (m.2 78) (m.2 79) (m.2 80) B (m742.1 28) (m.1 73) (m.1 74) 1 by first | (exact hXE) | (exfalso; omega)), (show agr (m.2 65) (m742.2 65) (m.1 28) by first | (exact hAgC) | (exfalso; omega))⟩), rfl⟩
                            · skip
                              clear c745
                              clear h744
                              have hf764 : 1 ≤ (m742.1 10) := by omega
                              clear g730
                              refine Tm_lv (a := [(0, .ref 189), (1, .int (i32 y372)), (2, .long (i64 y380)), (4, .long (i64 y421)), (6, .int (i32 (m.1 70)))]) rfl rfl ⟨rfl, rfl, rfl, rfl, rfl, trivial⟩ ?_
                              exact J159_79 y372 y380 y421 (mO m [(7, y721), (8, y723), (9, y725), (10, (m742.1 10)), (11, (m742.1 11)), (12, y731), (28, (m742.1 28)), (69, (m.1 69)), (70, (m.1 70)), (71, (m.1 71)), (72, (m.1 72)), (75, (m.1 75))] [(65, (m742.2 65)), (66, (m742.2 66)), (67, (m742.2 67)), (68, (m742.2 68))]) (r32 (by omega) (by omega)) (r64 (by omega) (by omega)) (r64 (by omega) (by omega)) (Ty_mO hT rfl rfl ⟨g722, g724, g726, (hT743.1 10), (hT743.1 11), g732, (hT743.1 28), f69, f70, f71, f72, f75, trivial⟩ ⟨(hT743.2.1 65), (hT743.2.1 66), (hT743.2.1 67), (hT743.2.1 68), trivial⟩) (show 0 ≤ y372 by omega) (show y372 ≤ 4000 by omega) (show 1 ≤ (m742.1 10) by omega) (show (m742.1 10) ≤ 8 by omega) (show 0 ≤ y380 - y421 ∧ y380 - y421 ≤ 63 by omega) (show 0 ≤ (m.1 70) ∧ (m.1 70) ≤ 4000 by omega)
                          · skip
                            replace h733 : LxP y721 y723 y725 (m.1 6) y727 := h733
                            have hLx := h733
                            clear h734
                            replace h735 : y435 ≤ y723 := h735
                            clear h736
                            have hf765 : 1 ≤ y727 := by omega
                            clear g434 g436 g438 g444 h445 u450 g714 g715 u718 h735
                            refine Tm_lv (a := [(0, .ref 189), (1, .int (i32 y372)), (2, .long (i64 y380)), (4, .long (i64 y421))]) rfl rfl ⟨rfl, rfl, rfl, rfl, trivial⟩ ?_
                            exact J127_104 y372 y380 y421 (mO m [(7, y721), (8, y723), (9, y725), (10, y727), (11, y729), (12, y731), (28, (m.1 28)), (69, (m.1 69)), (70, (m.1 70)), (71, (m.1 71)), (72, (m.1 72)), (75, (m.1 75))] [(65, (m.2 65)), (66, (m.2 66)), (67, (m.2 67)), (68, (m.2 68))]) (r32 (by omega) (by omega)) (r64 (by omega) (by omega)) (r64 (by omega) (by omega)) (Ty_mO hT rfl rfl ⟨g722, g724, g726, g728, g730, g732, f28, f69, f70, f71, f72, f75, trivial⟩ ⟨(hT.2.1 65), (hT.2.1 66), (hT.2.1 67), (hT.2.1 68), trivial⟩) (show 0 ≤ y372 by omega) (show y372 ≤ 4000 by omega) (show 1 ≤ y727 by omega) (show y727 ≤ 8 by omega)
                        · skip
                          clear c713
                          clear h712
                          have hf766 : 1 ≤ (m710.1 10) := by omega
                          clear g442 h453a h453b h453c h453d h453e h454 h517a h517b h517c h517d h517e h518 h581a h581b h581c h581d h581e h582 h645a h645b h645c h645d h645e h646
                          refine Tm_lv (a := [(0, .ref 189), (1, .int (i32 y372)), (2, .long (i64 y380)), (4, .long (i64 y421))]) rfl rfl ⟨rfl, rfl, rfl, rfl, trivial⟩ ?_
                          exact J121_119 y372 y380 y421 (mO m [(7, y433), (8, y435), (9, y437), (10, (m710.1 10)), (11, (m710.1 11)), (12, y443), (28, (m.1 28)), (69, (m.1 69)), (70, (m.1 70)), (71, (m.1 71)), (72, (m.1 72)), (75, (m.1 75))] [(65, (m.2 65)), (66, (m.2 66)), (67, (m.2 67)), (68, (m.2 68))]) (r32 (by omega) (by omega)) (r64 (by omega) (by omega)) (r64 (by omega) (by omega)) (Ty_mO hT rfl rfl ⟨g434, g436, g438, (hT711.1 10), (hT711.1 11), g444, f28, f69, f70, f71, f72, f75, trivial⟩ ⟨(hT.2.1 65), (hT.2.1 66), (hT.2.1 67), (hT.2.1 68), trivial⟩) (show 0 ≤ y372 by omega) (show y372 ≤ 4000 by omega) (show 1 ≤ (m710.1 10) by omega) (show (m710.1 10) ≤ 8 by omega)
              · skip
                replace h445 : LxP y433 y435 y437 (m.1 6) y439 := h445
                have hLx := h445
                clear h446
                replace h447 : y413 ≤ y435 := h447
                clear h448
                have hf767 : 1 ≤ y439 := by omega
                clear g412 g414 g416 g420 h423 u428 h430 h447
                refine Tm_lv (a := [(0, .ref 189), (1, .int (i32 y372)), (2, .long (i64 y380)), (4, .long (i64 y421))]) rfl rfl ⟨rfl, rfl, rfl, rfl, trivial⟩ ?_
                exact J74_152 y372 y380 y421 (mO m [(7, y433), (8, y435), (9, y437), (10, y439), (11, y441), (12, y443), (28, (m.1 28)), (69, (m.1 69)), (70, (m.1 70)), (71, (m.1 71)), (72, (m.1 72)), (75, (m.1 75))] [(65, (m.2 65)), (66, (m.2 66)), (67, (m.2 67)), (68, (m.2 68))]) (r32 (by omega) (by omega)) (r64 (by omega) (by omega)) (r64 (by omega) (by omega)) (Ty_mO hT rfl rfl ⟨g434, g436, g438, g440, g442, g444, f28, f69, f70, f71, f72, f75, trivial⟩ ⟨(hT.2.1 65), (hT.2.1 66), (hT.2.1 67), (hT.2.1 68), trivial⟩) (show 0 ≤ y372 by omega) (show y372 ≤ 4000 by omega) (show 1 ≤ y439 by omega) (show y439 ≤ 8 by omega)
            · skip
              refine T_ld 61 (.ref 189) rfl (fun _ => rfl) ?_
              refine T_call 64 226 [.ref 189] [] rfl (fun _ => rfl) rfl (c_bad w (mO m [(7, y411), (8, y413), (9, y415), (10, 0), (11, y419), (12, y421), (28, (m.1 28)), (69, (m.1 69)), (70, (m.1 70)), (71, (m.1 71)), (72, (m.1 72)), (75, (m.1 75))] [(65, (m.2 65)), (66, (m.2 66)), (67, (m.2 67)), (68, (m.2 68))]) c N D (by omega) (Ty_mO hT rfl rfl ⟨g412, g414, g416, ⟨(by omega : (0 : Int) ≤ 0), (by omega : (0 : Int) ≤ 8)⟩, g420, g422, f28, f69, f70, f71, f72, f75, trivial⟩ ⟨(hT.2.1 65), (hT.2.1 66), (hT.2.1 67), (hT.2.1 68), trivial⟩) ) (fun rr768 k769 => ?_)
              obtain ⟨y770, y772, g771, g773, h774, rfl⟩ := k769
              refine ⟨_, _, rfl, ?_⟩
              refine T_nf2 (st' := []) (l' := [(7, y411), (8, y413), (9, y415), (10, y770), (11, y772), (12, y421), (28, (m.1 28)), (69, (m.1 69)), (70, (m.1 70)), (71, (m.1 71)), (72, (m.1 72)), (75, (m.1 75))]) (a' := [(65, (m.2 65)), (66, (m.2 66)), (67, (m.2 67)), (68, (m.2 68))]) [10, 11] [] rfl ⟨rfl, rfl, rfl, rfl, rfl, rfl, rfl, rfl, rfl, rfl, rfl, rfl, rfl, rfl, rfl, rfl, rfl, rfl, rfl, rfl, rfl, rfl, rfl, rfl, rfl, rfl, rfl, trivial⟩ ⟨rfl, rfl, rfl, rfl, rfl, rfl, rfl, rfl, trivial⟩ rfl rfl (by decide) (by decide) ?_
              replace h774 : (0 < (0 : Int) → y770 = (0 : Int) ∧ y772 = y419) ∧ ((0 : Int) ≤ 0 → y770 = 1 ∧ y772 = y413) := h774
              have hf775 : 1 ≤ y770 := by omega
              clear g420 h774
              refine T_gf 68 (.long (i64 y421)) rfl rfl rfl rfl rfl rfl ?_
              refine T_sto 70 [(4, .long (i64 y421)), (2, .long (i64 y380)), (1, .int (i32 y372)), (0, .ref 189)] rfl (fun _ => rfl) ?_
              refine T_ld 71 (.ref 189) rfl (fun _ => rfl) ?_
              refine T_call 74 212 [.ref 189] [] rfl (fun _ => rfl) rfl (c_next w (mO m [(7, y411), (8, y413), (9, y415), (10, y770), (11, y772), (12, y421), (28, (m.1 28)), (69, (m.1 69)), (70, (m.1 70)), (71, (m.1 71)), (72, (m.1 72)), (75, (m.1 75))] [(65, (m.2 65)), (66, (m.2 66)), (67, (m.2 67)), (68, (m.2 68))]) c N D (by omega) (Ty_mO hT rfl rfl ⟨g412, g414, g416, g771, g773, g422, f28, f69, f70, f71, f72, f75, trivial⟩ ⟨(hT.2.1 65), (hT.2.1 66), (hT.2.1 67), (hT.2.1 68), trivial⟩) (show y770 = 0 → y413 + y415 ≤ (m.1 6) by first | omega | (intro h9; have h8 := hLx h9; omega))) (fun rr776 k777 => ?_)
              obtain ⟨y778, y780, y782, y784, y786, y788, g779, g781, g783, g785, g787, g789, h790, h791, h792, h793, rfl⟩ := k777
              refine ⟨_, _, rfl, ?_⟩
              refine T_nf2 (st' := []) (l' := [(7, y778), (8, y780), (9, y782), (10, y784), (11, y786), (12, y788), (28, (m.1 28)), (69, (m.1 69)), (70, (m.1 70)), (71, (m.1 71)), (72, (m.1 72)), (75, (m.1 75))]) (a' := [(65, (m.2 65)), (66, (m.2 66)), (67, (m.2 67)), (68, (m.2 68))]) [7, 8, 9, 10, 11, 12] [] rfl ⟨rfl, rfl, rfl, rfl, rfl, rfl, rfl, rfl, rfl, rfl, rfl, rfl, rfl, rfl, rfl, rfl, rfl, rfl, rfl, rfl, rfl, rfl, rfl, rfl, trivial⟩ ⟨rfl, rfl, rfl, rfl, rfl, rfl, rfl, rfl, trivial⟩ rfl rfl (by decide) (by decide) ?_
              replace h790 : LxP y778 y780 y782 (m.1 6) y784 := h790
              replace h791 : y784 = 0 → y770 = 0 := h791
              replace h792 : y413 ≤ y780 := h792
              replace h793 : y784 = 0 → y413 + y415 ≤ y780 := h793
              have hf794 : 1 ≤ y784 := by omega
              clear h791
              clear h793
              have hLx := h790
              clear g412 g414 g416 h423 u428 h430 g771 g773 hf775 h792
              refine Tm_lv (a := [(0, .ref 189), (1, .int (i32 y372)), (2, .long (i64 y380)), (4, .long (i64 y421))]) rfl rfl ⟨rfl, rfl, rfl, rfl, trivial⟩ ?_
              exact J74_152 y372 y380 y421 (mO m [(7, y778), (8, y780), (9, y782), (10, y784), (11, y786), (12, y788), (28, (m.1 28)), (69, (m.1 69)), (70, (m.1 70)), (71, (m.1 71)), (72, (m.1 72)), (75, (m.1 75))] [(65, (m.2 65)), (66, (m.2 66)), (67, (m.2 67)), (68, (m.2 68))]) (r32 (by omega) (by omega)) (r64 (by omega) (by omega)) (r64 (by omega) (by omega)) (Ty_mO hT rfl rfl ⟨g779, g781, g783, g785, g787, g789, f28, f69, f70, f71, f72, f75, trivial⟩ ⟨(hT.2.1 65), (hT.2.1 66), (hT.2.1 67), (hT.2.1 68), trivial⟩) (show 0 ≤ y372 by omega) (show y372 ≤ 4000 by omega) (show 1 ≤ y784 by omega) (show y784 ≤ 8 by omega)
          · skip
            replace h423 : LxP y411 y413 y415 (m.1 6) y417 := h423
            have hLx := h423
            clear h424
            replace h425 : y393 ≤ y413 := h425
            clear h426
            have hf795 : 1 ≤ y417 := by omega
            clear g392 g394 g396 g400 g402 h403 h405 u408 h425
            refine Tm_lv (a := [(0, .ref 189), (1, .int (i32 y372)), (2, .long (i64 y380))]) rfl rfl ⟨rfl, rfl, rfl, trivial⟩ ?_
            exact J45_185 y372 y380 (mO m [(7, y411), (8, y413), (9, y415), (10, y417), (11, y419), (12, y421), (28, (m.1 28)), (69, (m.1 69)), (70, (m.1 70)), (71, (m.1 71)), (72, (m.1 72)), (75, (m.1 75))] [(65, (m.2 65)), (66, (m.2 66)), (67, (m.2 67)), (68, (m.2 68))]) (r32 (by omega) (by omega)) (r64 (by omega) (by omega)) (Ty_mO hT rfl rfl ⟨g412, g414, g416, g418, g420, g422, f28, f69, f70, f71, f72, f75, trivial⟩ ⟨(hT.2.1 65), (hT.2.1 66), (hT.2.1 67), (hT.2.1 68), trivial⟩) (show 0 ≤ y372 by omega) (show y372 ≤ 4000 by omega) (show 1 ≤ y417 by omega) (show y417 ≤ 8 by omega)
        · skip
          replace h403 : LxP y391 y393 y395 (m.1 6) y397 := h403
          have hLx := h403
          clear h404
          replace h405 : y372 ≤ y393 := h405
          clear h406
          have hf796 : 1 ≤ y397 := by omega
          clear g371 g375 g379 h382 h388
          refine Tm_lv (a := [(0, .ref 189), (1, .int (i32 y372)), (2, .long (i64 y380))]) rfl rfl ⟨rfl, rfl, rfl, trivial⟩ ?_
          exact J39_217 y372 y380 (mO m [(7, y391), (8, y393), (9, y395), (10, y397), (11, y399), (12, y401), (28, (m.1 28)), (69, (m.1 69)), (70, (m.1 70)), (71, (m.1 71)), (72, (m.1 72)), (75, (m.1 75))] [(65, (m.2 65)), (66, (m.2 66)), (67, (m.2 67)), (68, (m.2 68))]) (r32 (by omega) (by omega)) (r64 (by omega) (by omega)) (Ty_mO hT rfl rfl ⟨g392, g394, g396, g398, g400, g402, f28, f69, f70, f71, f72, f75, trivial⟩ ⟨(hT.2.1 65), (hT.2.1 66), (hT.2.1 67), (hT.2.1 68), trivial⟩) (show 0 ≤ y372 by omega) (show y372 ≤ 4000 by omega) (show 1 ≤ y397 by omega) (show y397 ≤ 8 by omega)
      · skip
        refine T_ld 27 (.ref 189) rfl (fun _ => rfl) ?_
        refine T_call 30 226 [.ref 189] [] rfl (fun _ => rfl) rfl (c_bad w (mO m [(7, y370), (8, y372), (9, y374), (10, 0), (11, y378), (12, y380), (28, (m.1 28)), (69, (m.1 69)), (70, (m.1 70)), (71, (m.1 71)), (72, (m.1 72)), (75, (m.1 75))] [(65, (m.2 65)), (66, (m.2 66)), (67, (m.2 67)), (68, (m.2 68))]) c N D (by omega) (Ty_mO hT rfl rfl ⟨g371, g373, g375, ⟨(by omega : (0 : Int) ≤ 0), (by omega : (0 : Int) ≤ 8)⟩, g379, g381, f28, f69, f70, f71, f72, f75, trivial⟩ ⟨(hT.2.1 65), (hT.2.1 66), (hT.2.1 67), (hT.2.1 68), trivial⟩) ) (fun rr797 k798 => ?_)
        obtain ⟨y799, y801, g800, g802, h803, rfl⟩ := k798
        refine ⟨_, _, rfl, ?_⟩
        refine T_nf2 (st' := []) (l' := [(7, y370), (8, y372), (9, y374), (10, y799), (11, y801), (12, y380), (28, (m.1 28)), (69, (m.1 69)), (70, (m.1 70)), (71, (m.1 71)), (72, (m.1 72)), (75, (m.1 75))]) (a' := [(65, (m.2 65)), (66, (m.2 66)), (67, (m.2 67)), (68, (m.2 68))]) [10, 11] [] rfl ⟨rfl, rfl, rfl, rfl, rfl, rfl, rfl, rfl, rfl, rfl, rfl, rfl, rfl, rfl, rfl, rfl, rfl, rfl, rfl, rfl, rfl, rfl, rfl, rfl, rfl, rfl, rfl, trivial⟩ ⟨rfl, rfl, rfl, rfl, rfl, rfl, rfl, rfl, trivial⟩ rfl rfl (by decide) (by decide) ?_
        replace h803 : (0 < (0 : Int) → y799 = (0 : Int) ∧ y801 = y378) ∧ ((0 : Int) ≤ 0 → y799 = 1 ∧ y801 = y372) := h803
        have hf804 : 1 ≤ y799 := by omega
        clear g379 h803
        refine Tm_lv (a := [(0, .ref 189), (1, .int (i32 y372))]) rfl rfl ⟨rfl, rfl, trivial⟩ ?_
        exact J30_247 y372 (mO m [(7, y370), (8, y372), (9, y374), (10, y799), (11, y801), (12, y380), (28, (m.1 28)), (69, (m.1 69)), (70, (m.1 70)), (71, (m.1 71)), (72, (m.1 72)), (75, (m.1 75))] [(65, (m.2 65)), (66, (m.2 66)), (67, (m.2 67)), (68, (m.2 68))]) (r32 (by omega) (by omega)) (Ty_mO hT rfl rfl ⟨g371, g373, g375, g800, g802, g381, f28, f69, f70, f71, f72, f75, trivial⟩ ⟨(hT.2.1 65), (hT.2.1 66), (hT.2.1 67), (hT.2.1 68), trivial⟩) (show 0 ≤ y372 by omega) (show y372 ≤ 4000 by omega) (show 1 ≤ y799 by omega) (show y799 ≤ 8 by omega)
    · skip
      replace h382 : LxP y370 y372 y374 (m.1 6) y376 := h382
      have hLx := h382
      clear h383
      replace h384 : (m.1 8) ≤ y372 := h384
      clear h385
      have hf805 : 1 ≤ y376 := by omega
      refine T_gf 17 (.int (i32 y372)) rfl rfl rfl rfl rfl rfl ?_
      refine T_sto 18 [(1, .int (i32 y372)), (0, .ref 189)] rfl (fun _ => rfl) ?_
      refine T_gf 22 (.int (i32 y370)) rfl rfl rfl rfl rfl rfl ?_
      refine T_ld 23 (.int (i32 2)) rfl (fun _ => rfl) ?_
      refine T_icmp 30 26 rfl rfl rfl (r32 (by omega) (by omega)) ⟨by decide, by decide⟩ (fun (h806 : y370 = 2) => ?_) (fun (h806 : ¬ (y370 = 2)) => ?_)
      · skip
        refine T_gf 34 (.long (i64 y380)) rfl rfl rfl rfl rfl rfl ?_
        refine T_sto 35 [(2, .long (i64 y380)), (1, .int (i32 y372)), (0, .ref 189)] rfl (fun _ => rfl) ?_
        refine T_ld 36 (.ref 189) rfl (fun _ => rfl) ?_
        refine T_call 39 212 [.ref 189] [] rfl (fun _ => rfl) rfl (c_next w (mO m [(7, y370), (8, y372), (9, y374), (10, y376), (11, y378), (12, y380), (28, (m.1 28)), (69, (m.1 69)), (70, (m.1 70)), (71, (m.1 71)), (72, (m.1 72)), (75, (m.1 75))] [(65, (m.2 65)), (66, (m.2 66)), (67, (m.2 67)), (68, (m.2 68))]) c N D (by omega) (Ty_mO hT rfl rfl ⟨g371, g373, g375, g377, g379, g381, f28, f69, f70, f71, f72, f75, trivial⟩ ⟨(hT.2.1 65), (hT.2.1 66), (hT.2.1 67), (hT.2.1 68), trivial⟩) (show y376 = 0 → y372 + y374 ≤ (m.1 6) by first | omega | (intro h9; have h8 := hLx h9; omega))) (fun rr807 k808 => ?_)
        obtain ⟨y809, y811, y813, y815, y817, y819, g810, g812, g814, g816, g818, g820, h821, h822, h823, h824, rfl⟩ := k808
        refine ⟨_, _, rfl, ?_⟩
        refine T_nf2 (st' := []) (l' := [(7, y809), (8, y811), (9, y813), (10, y815), (11, y817), (12, y819), (28, (m.1 28)), (69, (m.1 69)), (70, (m.1 70)), (71, (m.1 71)), (72, (m.1 72)), (75, (m.1 75))]) (a' := [(65, (m.2 65)), (66, (m.2 66)), (67, (m.2 67)), (68, (m.2 68))]) [7, 8, 9, 10, 11, 12] [] rfl ⟨rfl, rfl, rfl, rfl, rfl, rfl, rfl, rfl, rfl, rfl, rfl, rfl, rfl, rfl, rfl, rfl, rfl, rfl, rfl, rfl, rfl, rfl, rfl, rfl, trivial⟩ ⟨rfl, rfl, rfl, rfl, rfl, rfl, rfl, rfl, trivial⟩ rfl rfl (by decide) (by decide) ?_
        replace h821 : LxP y809 y811 y813 (m.1 6) y815 := h821
        replace h822 : y815 = 0 → y376 = 0 := h822
        replace h823 : y372 ≤ y811 := h823
        replace h824 : y815 = 0 → y372 + y374 ≤ y811 := h824
        have hf825 : 1 ≤ y815 := by omega
        clear h822
        clear h824
        have hLx := h821
        clear g371 g375 g377 g379 h382 hf805 h806
        refine Tm_lv (a := [(0, .ref 189), (1, .int (i32 y372)), (2, .long (i64 y380))]) rfl rfl ⟨rfl, rfl, rfl, trivial⟩ ?_
        exact J39_217 y372 y380 (mO m [(7, y809), (8, y811), (9, y813), (10, y815), (11, y817), (12, y819), (28, (m.1 28)), (69, (m.1 69)), (70, (m.1 70)), (71, (m.1 71)), (72, (m.1 72)), (75, (m.1 75))] [(65, (m.2 65)), (66, (m.2 66)), (67, (m.2 67)), (68, (m.2 68))]) (r32 (by omega) (by omega)) (r64 (by omega) (by omega)) (Ty_mO hT rfl rfl ⟨g810, g812, g814, g816, g818, g820, f28, f69, f70, f71, f72, f75, trivial⟩ ⟨(hT.2.1 65), (hT.2.1 66), (hT.2.1 67), (hT.2.1 68), trivial⟩) (show 0 ≤ y372 by omega) (show y372 ≤ 4000 by omega) (show 1 ≤ y815 by omega) (show y815 ≤ 8 by omega)
      · skip
        refine T_ld 27 (.ref 189) rfl (fun _ => rfl) ?_
        refine T_call 30 226 [.ref 189] [] rfl (fun _ => rfl) rfl (c_bad w (mO m [(7, y370), (8, y372), (9, y374), (10, y376), (11, y378), (12, y380), (28, (m.1 28)), (69, (m.1 69)), (70, (m.1 70)), (71, (m.1 71)), (72, (m.1 72)), (75, (m.1 75))] [(65, (m.2 65)), (66, (m.2 66)), (67, (m.2 67)), (68, (m.2 68))]) c N D (by omega) (Ty_mO hT rfl rfl ⟨g371, g373, g375, g377, g379, g381, f28, f69, f70, f71, f72, f75, trivial⟩ ⟨(hT.2.1 65), (hT.2.1 66), (hT.2.1 67), (hT.2.1 68), trivial⟩) ) (fun rr826 k827 => ?_)
        obtain ⟨y828, y830, g829, g831, h832, rfl⟩ := k827
        refine ⟨_, _, rfl, ?_⟩
        refine T_nf2 (st' := []) (l' := [(7, y370), (8, y372), (9, y374), (10, y828), (11, y830), (12, y380), (28, (m.1 28)), (69, (m.1 69)), (70, (m.1 70)), (71, (m.1 71)), (72, (m.1 72)), (75, (m.1 75))]) (a' := [(65, (m.2 65)), (66, (m.2 66)), (67, (m.2 67)), (68, (m.2 68))]) [10, 11] [] rfl ⟨rfl, rfl, rfl, rfl, rfl, rfl, rfl, rfl, rfl, rfl, rfl, rfl, rfl, rfl, rfl, rfl, rfl, rfl, rfl, rfl, rfl, rfl, rfl, rfl, rfl, rfl, rfl, trivial⟩ ⟨rfl, rfl, rfl, rfl, rfl, rfl, rfl, rfl, trivial⟩ rfl rfl (by decide) (by decide) ?_
        replace h832 : (0 < y376 → y828 = y376 ∧ y830 = y378) ∧ (y376 ≤ 0 → y828 = 1 ∧ y830 = y372) := h832
        have hf833 : 1 ≤ y828 := by omega
        clear g377 g379 h382 hf805 h832
        refine Tm_lv (a := [(0, .ref 189), (1, .int (i32 y372))]) rfl rfl ⟨rfl, rfl, trivial⟩ ?_
        exact J30_247 y372 (mO m [(7, y370), (8, y372), (9, y374), (10, y828), (11, y830), (12, y380), (28, (m.1 28)), (69, (m.1 69)), (70, (m.1 70)), (71, (m.1 71)), (72, (m.1 72)), (75, (m.1 75))] [(65, (m.2 65)), (66, (m.2 66)), (67, (m.2 67)), (68, (m.2 68))]) (r32 (by omega) (by omega)) (Ty_mO hT rfl rfl ⟨g371, g373, g375, g829, g831, g381, f28, f69, f70, f71, f72, f75, trivial⟩ ⟨(hT.2.1 65), (hT.2.1 66), (hT.2.1 67), (hT.2.1 68), trivial⟩) (show 0 ≤ y372 by omega) (show y372 ≤ 4000 by omega) (show 1 ≤ y828 by omega) (show y828 ≤ 8 by omega)
