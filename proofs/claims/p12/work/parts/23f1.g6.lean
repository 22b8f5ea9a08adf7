def Q_endOr (m : mR) (c : Nat → Option am_C) (N : Nat) (k : Int) (B : Int) : ag_Re af_T → Prop := fun R => ∃ (M : mR), Ty M ∧ ((M.1 10) = 0 → (m.1 10) = 0) ∧ (LxP (M.1 7) (M.1 8) (M.1 9) (m.1 6) (M.1 10)) ∧ (M.1 10 = 0 → (GP (m.1 8) (M.1 8) (M.1 75) (M.1 73) (m.1 73)) ∧ (GU (M.1 75) (M.1 69)) ∧ (GH (M.1 75) (M.1 73)) ∧ ((m.1 28) ≤ (M.1 28)) ∧ (XS (M.2 65) (M.2 67) (M.2 76) (M.2 78) (M.2 79) (M.2 80) B (M.1 28) (M.1 73) (M.1 74) (um (M.1 75))) ∧ (agr (m.2 65) (M.2 65) (m.1 28))) ∧ R = (.inl (none), (mhp (mO m [(7, (M.1 7)), (8, (M.1 8)), (9, (M.1 9)), (10, (M.1 10)), (11, (M.1 11)), (12, (M.1 12)), (28, (M.1 28)), (69, (M.1 69)), (70, (M.1 70)), (71, (M.1 71)), (72, (M.1 72)), (73, (M.1 73)), (74, (M.1 74)), (75, (M.1 75))] [(65, (M.2 65)), (66, (M.2 66)), (67, (M.2 67)), (68, (M.2 68)), (76, (M.2 76)), (77, (M.2 77)), (78, (M.2 78)), (79, (M.2 79)), (80, (M.2 80)), (85, (M.2 85)), (86, (M.2 86)), (87, (M.2 87)), (88, (M.2 88)), (89, (M.2 89)), (90, (M.2 90)), (91, (M.2 91)), (92, (M.2 92))]) c, N), 0, 0)
set_option maxHeartbeats 8000000 in
theorem c_endOr (w : wX) (m : mR) (c : Nat → Option am_C) (N D : Nat) (hD : 8 ≤ D) (hT : Ty m) (k : Int) (B : Int) (qk : R32 k) (hLx0 : LxP (m.1 7) (m.1 8) (m.1 9) (m.1 6) (m.1 10)) (hf0 : m.1 10 = 0) (hC : (XS (m.2 65) (m.2 67) (m.2 76) (m.2 78) (m.2 79) (m.2 80) B (m.1 28) (m.1 73) (m.1 74) 1) ∧ (k = (m.1 73) - 1) ∧ (1 ≤ (m.1 73)) ∧ ((m.2 76) k = 0) ∧ ((m.1 69) ≤ 64) ∧ ((m.1 75) = 2)) : TC w D 263 [.ref 189, .int (i32 k)] (mhp m c, N) (Q_endOr m c N k B) := by
  obtain ⟨D, rfl⟩ : ∃ k, D = k + 1 := ⟨D - 1, by omega⟩
  obtain ⟨qka, qkb⟩ := id qk
  have hLx := hLx0
  have f7 : 0 ≤ m.1 7 ∧ m.1 7 ≤ 330 := hT.1 7
  have f8 : 0 ≤ m.1 8 ∧ m.1 8 ≤ 4000 := hT.1 8
  have f9 : 0 ≤ m.1 9 ∧ m.1 9 ≤ 4000 := hT.1 9
  have f10 : 0 ≤ m.1 10 ∧ m.1 10 ≤ 8 := hT.1 10
  have f11 : (-1) ≤ m.1 11 ∧ m.1 11 ≤ 4000 := hT.1 11
  have f12 : (-9223372036854775808) ≤ m.1 12 ∧ m.1 12 ≤ 9223372036854775807 := hT.1 12
  have f28 : 0 ≤ m.1 28 ∧ m.1 28 ≤ 800 := hT.1 28
  have f69 : 0 ≤ m.1 69 ∧ m.1 69 ≤ 1024 := hT.1 69
  have f70 : 0 ≤ m.1 70 ∧ m.1 70 ≤ 4000 := hT.1 70
  have f71 : 0 ≤ m.1 71 ∧ m.1 71 ≤ 1 := hT.1 71
  have f72 : (-9223372036854775808) ≤ m.1 72 ∧ m.1 72 ≤ 9223372036854775807 := hT.1 72
  have f73 : 0 ≤ m.1 73 ∧ m.1 73 ≤ 60 := hT.1 73
  have f74 : 0 ≤ m.1 74 ∧ m.1 74 ≤ 24 := hT.1 74
  have f75 : 0 ≤ m.1 75 ∧ m.1 75 ≤ 3 := hT.1 75
  have f6 : 0 ≤ m.1 6 ∧ m.1 6 ≤ 4000 := hT.1 6
  refine Tc_of rfl ?_
  show TT w D pm_263 (0, [(0, .ref 189), (1, .int (i32 k))], [], (mhp m c, N), 0, 0) (Q_endOr m c N k B)
  rw [show (mhp m c, N) = (mhp (mO m [(7, (m.1 7)), (8, (m.1 8)), (9, (m.1 9)), (10, (m.1 10)), (11, (m.1 11)), (12, (m.1 12)), (28, (m.1 28)), (69, (m.1 69)), (70, (m.1 70)), (71, (m.1 71)), (72, (m.1 72)), (73, (m.1 73)), (74, (m.1 74)), (75, (m.1 75))] [(65, (m.2 65)), (66, (m.2 66)), (67, (m.2 67)), (68, (m.2 68)), (76, (m.2 76)), (77, (m.2 77)), (78, (m.2 78)), (79, (m.2 79)), (80, (m.2 80)), (85, (m.2 85)), (86, (m.2 86)), (87, (m.2 87)), (88, (m.2 88)), (89, (m.2 89)), (90, (m.2 90)), (91, (m.2 91)), (92, (m.2 92))]) c, N) from congrArg (fun M => (mhp M c, N)) (mO_pad m [7, 8, 9, 10, 11, 12, 28, 69, 70, 71, 72, 73, 74, 75] [65, 66, 67, 68, 76, 77, 78, 79, 80, 85, 86, 87, 88, 89, 90, 91, 92])]
  obtain ⟨hXS, hk, c1, hok, c2, c3⟩ := hC
  have hb := OS_hi hXS.1.2
  have hAgC := agr_r (m.2 65) (m.1 28)
  have h7 := hLx (by omega)
  have hok2 : (m.2 76) ((m.1 73) - 1) = 0 := by rw [← hk]; exact hok
  have J151_9 : ∀ (m8 : mR), (Ty m8) → (1 ≤ (m8.1 10)) → ((m8.1 10) ≤ 8) → TT w D pm_263 (151, [(0, .ref 189), (1, .int (i32 k))], [], (mhp (mO m [(7, (m8.1 7)), (8, (m8.1 8)), (9, (m8.1 9)), (10, (m8.1 10)), (11, (m8.1 11)), (12, (m8.1 12)), (28, (m8.1 28)), (69, (m8.1 69)), (70, (m8.1 70)), (71, (m8.1 71)), (72, (m8.1 72)), (73, (m8.1 73)), (74, (m8.1 74)), (75, (m8.1 75))] [(65, (m8.2 65)), (66, (m8.2 66)), (67, (m8.2 67)), (68, (m8.2 68)), (76, (m.2 76)), (77, (m.2 77)), (78, (m.2 78)), (79, (m.2 79)), (80, (m.2 80)), (85, (m.2 85)), (86, (m.2 86)), (87, (m.2 87)), (88, (m.2 88)), (89, (m.2 89)), (90, (m.2 90)), (91, (m.2 91)), (92, (m.2 92))]) c, N), 0, 0) (Q_endOr m c N k B) := by
    intro m8 q10 ic11 ic12
    have q10_7 : 0 ≤ m8.1 7 ∧ m8.1 7 ≤ 330 := q10.1 7
    have q10_8 : 0 ≤ m8.1 8 ∧ m8.1 8 ≤ 4000 := q10.1 8
    have q10_9 : 0 ≤ m8.1 9 ∧ m8.1 9 ≤ 4000 := q10.1 9
    have q10_10 : 0 ≤ m8.1 10 ∧ m8.1 10 ≤ 8 := q10.1 10
    have q10_11 : (-1) ≤ m8.1 11 ∧ m8.1 11 ≤ 4000 := q10.1 11
    have q10_12 : (-9223372036854775808) ≤ m8.1 12 ∧ m8.1 12 ≤ 9223372036854775807 := q10.1 12
    have q10_28 : 0 ≤ m8.1 28 ∧ m8.1 28 ≤ 800 := q10.1 28
    have q10_69 : 0 ≤ m8.1 69 ∧ m8.1 69 ≤ 1024 := q10.1 69
    have q10_70 : 0 ≤ m8.1 70 ∧ m8.1 70 ≤ 4000 := q10.1 70
    have q10_71 : 0 ≤ m8.1 71 ∧ m8.1 71 ≤ 1 := q10.1 71
    have q10_72 : (-9223372036854775808) ≤ m8.1 72 ∧ m8.1 72 ≤ 9223372036854775807 := q10.1 72
    have q10_73 : 0 ≤ m8.1 73 ∧ m8.1 73 ≤ 60 := q10.1 73
    have q10_74 : 0 ≤ m8.1 74 ∧ m8.1 74 ≤ 24 := q10.1 74
    have q10_75 : 0 ≤ m8.1 75 ∧ m8.1 75 ≤ 3 := q10.1 75
    refine T_ret rfl (fun _ => rfl) ?_
    exact ⟨(mO m [(7, (m8.1 7)), (8, (m8.1 8)), (9, (m8.1 9)), (10, (m8.1 10)), (11, (m8.1 11)), (12, (m8.1 12)), (28, (m8.1 28)), (69, (m8.1 69)), (70, (m8.1 70)), (71, (m8.1 71)), (72, (m8.1 72)), (73, (m8.1 73)), (74, (m8.1 74)), (75, (m8.1 75))] [(65, (m8.2 65)), (66, (m8.2 66)), (67, (m8.2 67)), (68, (m8.2 68)), (76, (m.2 76)), (77, (m.2 77)), (78, (m.2 78)), (79, (m.2 79)), (80, (m.2 80)), (85, (m.2 85)), (86, (m.2 86)), (87, (m.2 87)), (88, (m.2 88)), (89, (m.2 89)), (90, (m.2 90)), (91, (m.2 91)), (92, (m.2 92))]), (Ty_mO hT rfl rfl ⟨(q10.1 7), (q10.1 8), (q10.1 9), (q10.1 10), (q10.1 11), (q10.1 12), (q10.1 28), (q10.1 69), (q10.1 70), (q10.1 71), (q10.1 72), (q10.1 73), (q10.1 74), (q10.1 75), trivial⟩ ⟨(q10.2.1 65), (q10.2.1 66), (q10.2.1 67), (q10.2.1 68), (hT.2.1 76), (hT.2.1 77), (hT.2.1 78), (hT.2.1 79), (hT.2.1 80), (hT.2.1 85), (hT.2.1 86), (hT.2.1 87), (hT.2.1 88), (hT.2.1 89), (hT.2.1 90), (hT.2.1 91), (hT.2.1 92), trivial⟩), (show (m8.1 10) = 0 → (m.1 10) = 0 by omega), (show LxP (m8.1 7) (m8.1 8) (m8.1 9) (m.1 6) (m8.1 10) by first | (first | exact hLx | exact (fun _ => hLx (by omega)) | (intro h9; exfalso; omega)) | (exfalso; omega)), (fun (h : (m8.1 10) = 0) => absurd h (by omega)), rfl⟩
  have J144_15 : ∀ (m14 : mR), (Ty m14) → (1 ≤ (m14.1 10)) → ((m14.1 10) ≤ 8) → TT w D pm_263 (144, [(0, .ref 189), (1, .int (i32 k))], [], (mhp (mO m [(7, (m14.1 7)), (8, (m14.1 8)), (9, (m14.1 9)), (10, (m14.1 10)), (11, (m14.1 11)), (12, (m14.1 12)), (28, (m.1 28)), (69, (m.1 69)), (70, (m.1 70)), (71, (m.1 71)), (72, (m.1 72)), (73, (m14.1 73)), (74, (m14.1 74)), (75, (m14.1 75))] [(65, (m.2 65)), (66, (m.2 66)), (67, (m.2 67)), (68, (m.2 68)), (76, (m14.2 76)), (77, (m14.2 77)), (78, (m14.2 78)), (79, (m14.2 79)), (80, (m14.2 80)), (85, (m.2 85)), (86, (m.2 86)), (87, (m14.2 87)), (88, (m14.2 88)), (89, (m.2 89)), (90, (m14.2 90)), (91, (m.2 91)), (92, (m14.2 92))]) c, N), 0, 0) (Q_endOr m c N k B) := by
    intro m14 q16 ic17 ic18
    have q16_7 : 0 ≤ m14.1 7 ∧ m14.1 7 ≤ 330 := q16.1 7
    have q16_8 : 0 ≤ m14.1 8 ∧ m14.1 8 ≤ 4000 := q16.1 8
    have q16_9 : 0 ≤ m14.1 9 ∧ m14.1 9 ≤ 4000 := q16.1 9
    have q16_10 : 0 ≤ m14.1 10 ∧ m14.1 10 ≤ 8 := q16.1 10
    have q16_11 : (-1) ≤ m14.1 11 ∧ m14.1 11 ≤ 4000 := q16.1 11
    have q16_12 : (-9223372036854775808) ≤ m14.1 12 ∧ m14.1 12 ≤ 9223372036854775807 := q16.1 12
    have q16_73 : 0 ≤ m14.1 73 ∧ m14.1 73 ≤ 60 := q16.1 73
    have q16_74 : 0 ≤ m14.1 74 ∧ m14.1 74 ≤ 24 := q16.1 74
    have q16_75 : 0 ≤ m14.1 75 ∧ m14.1 75 ≤ 3 := q16.1 75
    refine T_goto 151 rfl (fun _ => rfl) ?_
    refine T_ret rfl (fun _ => rfl) ?_
    exact ⟨(mO m [(7, (m14.1 7)), (8, (m14.1 8)), (9, (m14.1 9)), (10, (m14.1 10)), (11, (m14.1 11)), (12, (m14.1 12)), (28, (m.1 28)), (69, (m.1 69)), (70, (m.1 70)), (71, (m.1 71)), (72, (m.1 72)), (73, (m14.1 73)), (74, (m14.1 74)), (75, (m14.1 75))] [(65, (m.2 65)), (66, (m.2 66)), (67, (m.2 67)), (68, (m.2 68)), (76, (m14.2 76)), (77, (m14.2 77)), (78, (m14.2 78)), (79, (m14.2 79)), (80, (m14.2 80)), (85, (m.2 85)), (86, (m.2 86)), (87, (m14.2 87)), (88, (m14.2 88)), (89, (m.2 89)), (90, (m14.2 90)), (91, (m.2 91)), (92, (m14.2 92))]), (Ty_mO hT rfl rfl ⟨(q16.1 7), (q16.1 8), (q16.1 9), (q16.1 10), (q16.1 11), (q16.1 12), f28, f69, f70, f71, f72, (q16.1 73), (q16.1 74), (q16.1 75), trivial⟩ ⟨(hT.2.1 65), (hT.2.1 66), (hT.2.1 67), (hT.2.1 68), (q16.2.1 76), (q16.2.1 77), (q16.2.1 78), (q16.2.1 79), (q16.2.1 80), (hT.2.1 85), (hT.2.1 86), (q16.2.1 87), (q16.2.1 88), (hT.2.1 89), (q16.2.1 90), (hT.2.1 91), (q16.2.1 92), trivial⟩), (show (m14.1 10) = 0 → (m.1 10) = 0 by omega), (show LxP (m14.1 7) (m14.1 8) (m14.1 9) (m.1 6) (m14.1 10) by first | (first | exact hLx | exact (fun _ => hLx (by omega)) | (intro h9; exfalso; omega)) | (exfalso; omega)), (fun (h : (m14.1 10) = 0) => absurd h (by omega)), rfl⟩
  refine T_gf 4 (.ref 241) rfl rfl rfl rfl rfl rfl ?_
  refine T_ld 5 (.int (i32 k)) rfl (fun _ => rfl) ?_
  refine T_iald 6 79 (m.2 79) rfl rfl rfl (by omega) (show k < (60 : Int) by omega) rfl ?_
  have e20 : 0 ≤ (m.2 79) k ∧ (m.2 79) k ≤ 2 := (hT.2.1 79) k
  refine T_if 77 9 rfl rfl rfl (r32 (by omega) (by omega)) (fun (h21 : (m.2 79) k ≠ 0) => ?_) (fun (h21 : ¬ ((m.2 79) k ≠ 0)) => ?_)
  · skip
    refine T_gf 81 (.ref 241) rfl rfl rfl rfl rfl rfl ?_
    refine T_ld 82 (.int (i32 k)) rfl (fun _ => rfl) ?_
    refine T_iald 83 79 (m.2 79) rfl rfl rfl (by omega) (show k < (60 : Int) by omega) rfl ?_
    have e22 : 0 ≤ (m.2 79) k ∧ (m.2 79) k ≤ 2 := (hT.2.1 79) k
    refine T_ld 84 (.int (i32 1)) rfl (fun _ => rfl) ?_
    refine T_icmp 147 87 rfl rfl rfl (r32 (by omega) (by omega)) ⟨by decide, by decide⟩ (fun (h23 : (m.2 79) k ≠ 1) => ?_) (fun (h23 : ¬ ((m.2 79) k ≠ 1)) => ?_)
    · skip
      refine T_ld 148 (.ref 189) rfl (fun _ => rfl) ?_
      refine T_call 151 264 [.ref 189] [] rfl (fun _ => rfl) rfl (c_endChoice w (mO m [(7, (m.1 7)), (8, (m.1 8)), (9, (m.1 9)), (10, (m.1 10)), (11, (m.1 11)), (12, (m.1 12)), (28, (m.1 28)), (69, (m.1 69)), (70, (m.1 70)), (71, (m.1 71)), (72, (m.1 72)), (73, (m.1 73)), (74, (m.1 74)), (75, (m.1 75))] [(65, (m.2 65)), (66, (m.2 66)), (67, (m.2 67)), (68, (m.2 68)), (76, (m.2 76)), (77, (m.2 77)), (78, (m.2 78)), (79, (m.2 79)), (80, (m.2 80)), (85, (m.2 85)), (86, (m.2 86)), (87, (m.2 87)), (88, (m.2 88)), (89, (m.2 89)), (90, (m.2 90)), (91, (m.2 91)), (92, (m.2 92))]) c N D (by omega) (Ty_mO hT rfl rfl ⟨f7, f8, f9, f10, f11, f12, f28, f69, f70, f71, f72, f73, f74, f75, trivial⟩ ⟨(hT.2.1 65), (hT.2.1 66), (hT.2.1 67), (hT.2.1 68), (hT.2.1 76), (hT.2.1 77), (hT.2.1 78), (hT.2.1 79), (hT.2.1 80), (hT.2.1 85), (hT.2.1 86), (hT.2.1 87), (hT.2.1 88), (hT.2.1 89), (hT.2.1 90), (hT.2.1 91), (hT.2.1 92), trivial⟩) B (show LxP (m.1 7) (m.1 8) (m.1 9) (m.1 6) (m.1 10) by first | exact hLx | exact (fun _ => hLx (by omega)) | (intro h9; exfalso; omega)) (show (m.1 10) = 0 by omega) ⟨(show XS (m.2 65) (m.2 67) (m.2 76) (m.2 78) (m.2 79) (m.2 80) B (m.1 28) (m.1 73) (m.1 74) 1 by first | exact hXS | assumption), (show 1 ≤ (m.1 73) by omega), (show (m.2 76) ((m.1 73) - 1) = 0 by first | assumption | omega), (show (m.1 69) ≤ 64 by omega)⟩) (fun rr24 k25 => ?_)
      obtain ⟨m26, hT27, h28, h29, c30, rfl⟩ := k25
      refine ⟨_, _, rfl, ?_⟩
      refine T_nf2 (st' := []) (l' := [(7, (m26.1 7)), (8, (m26.1 8)), (9, (m26.1 9)), (10, (m26.1 10)), (11, (m26.1 11)), (12, (m26.1 12)), (28, (m26.1 28)), (69, (m26.1 69)), (70, (m26.1 70)), (71, (m26.1 71)), (72, (m26.1 72)), (73, (m26.1 73)), (74, (m26.1 74)), (75, (m26.1 75))]) (a' := [(65, (m26.2 65)), (66, (m26.2 66)), (67, (m26.2 67)), (68, (m26.2 68)), (76, (m.2 76)), (77, (m.2 77)), (78, (m.2 78)), (79, (m.2 79)), (80, (m.2 80)), (85, (m.2 85)), (86, (m.2 86)), (87, (m.2 87)), (88, (m.2 88)), (89, (m.2 89)), (90, (m.2 90)), (91, (m.2 91)), (92, (m.2 92))]) [7, 8, 9, 10, 11, 12, 28, 69, 70, 71, 72, 73, 74, 75] [65, 66, 67, 68] rfl ⟨rfl, rfl, rfl, rfl, rfl, rfl, rfl, rfl, rfl, rfl, rfl, rfl, rfl, rfl, rfl, rfl, rfl, rfl, rfl, rfl, rfl, rfl, rfl, rfl, rfl, rfl, rfl, rfl, trivial⟩ ⟨rfl, rfl, rfl, rfl, rfl, rfl, rfl, rfl, rfl, rfl, rfl, rfl, rfl, rfl, rfl, rfl, rfl, rfl, rfl, rfl, rfl, rfl, rfl, rfl, rfl, rfl, rfl, rfl, rfl, rfl, rfl, rfl, rfl, rfl, trivial⟩ rfl rfl (by decide) (by decide) ?_
      have g31 : 0 ≤ m26.1 7 ∧ m26.1 7 ≤ 330 := hT27.1 7
      have g32 : 0 ≤ m26.1 8 ∧ m26.1 8 ≤ 4000 := hT27.1 8
      have g33 : 0 ≤ m26.1 9 ∧ m26.1 9 ≤ 4000 := hT27.1 9
      have g34 : 0 ≤ m26.1 10 ∧ m26.1 10 ≤ 8 := hT27.1 10
      have g35 : (-1) ≤ m26.1 11 ∧ m26.1 11 ≤ 4000 := hT27.1 11
      have g36 : (-9223372036854775808) ≤ m26.1 12 ∧ m26.1 12 ≤ 9223372036854775807 := hT27.1 12
      have g37 : 0 ≤ m26.1 28 ∧ m26.1 28 ≤ 800 := hT27.1 28
      have g38 : 0 ≤ m26.1 69 ∧ m26.1 69 ≤ 1024 := hT27.1 69
      have g39 : 0 ≤ m26.1 70 ∧ m26.1 70 ≤ 4000 := hT27.1 70
      have g40 : 0 ≤ m26.1 71 ∧ m26.1 71 ≤ 1 := hT27.1 71
      have g41 : (-9223372036854775808) ≤ m26.1 72 ∧ m26.1 72 ≤ 9223372036854775807 := hT27.1 72
      have g42 : 0 ≤ m26.1 73 ∧ m26.1 73 ≤ 60 := hT27.1 73
      have g43 : 0 ≤ m26.1 74 ∧ m26.1 74 ≤ 24 := hT27.1 74
      have g44 : 0 ≤ m26.1 75 ∧ m26.1 75 ≤ 3 := hT27.1 75
      by_cases hf45 : (m26.1 10) = 0
      · skip
        replace h28 : (m.1 10) = 0 := h28 hf45
        replace h29 : LxP (m26.1 7) (m26.1 8) (m26.1 9) (m.1 6) (m26.1 10) := h29
        have hLx := h29
        obtain ⟨c46, c47, c48, c49, c50, c51⟩ := c30 hf45
        replace c46 : GP (m.1 8) (m26.1 8) (m26.1 75) (m26.1 73) (m.1 73) := c46
        have hGP := c46
        replace c47 : GU (m26.1 75) (m26.1 69) := c47
        have hGU := c47
        replace c48 : GH (m26.1 75) (m26.1 73) := c48
        have hGH := c48
        replace c49 : (m.1 28) ≤ (m26.1 28) := c49
        replace c50 : XS (m26.2 65) (m26.2 67) (m.2 76) (m.2 78) (m.2 79) (m.2 80) B (m26.1 28) (m26.1 73) (m26.1 74) (um (m26.1 75)) := c50
        have hXE := c50
        replace c51 : agr (m.2 65) (m26.2 65) (m.1 28) := c51
        have hAg := c51
        clear c30
        have hAgC : agr (m.2 65) (m26.2 65) (m.1 28) := by first | exact agr_r _ _ | exact hAgC | exact agr_t hAgC hAg (by omega)
        refine T_ret rfl (fun _ => rfl) ?_
        exact ⟨(mO m [(7, (m26.1 7)), (8, (m26.1 8)), (9, (m26.1 9)), (10, (m26.1 10)), (11, (m26.1 11)), (12, (m26.1 12)), (28, (m26.1 28)), (69, (m26.1 69)), (70, (m26.1 70)), (71, (m26.1 71)), (72, (m26.1 72)), (73, (m26.1 73)), (74, (m26.1 74)), (75, (m26.1 75))] [(65, (m26.2 65)), (66, (m26.2 66)), (67, (m26.2 67)), (68, (m26.2 68)), (76, (m.2 76)), (77, (m.2 77)), (78, (m.2 78)), (79, (m.2 79)), (80, (m.2 80)), (85, (m.2 85)), (86, (m.2 86)), (87, (m.2 87)), (88, (m.2 88)), (89, (m.2 89)), (90, (m.2 90)), (91, (m.2 91)), (92, (m.2 92))]), (Ty_mO hT rfl rfl ⟨(hT27.1 7), (hT27.1 8), (hT27.1 9), (hT27.1 10), (hT27.1 11), (hT27.1 12), (hT27.1 28), (hT27.1 69), (hT27.1 70), (hT27.1 71), (hT27.1 72), (hT27.1 73), (hT27.1 74), (hT27.1 75), trivial⟩ ⟨(hT27.2.1 65), (hT27.2.1 66), (hT27.2.1 67), (hT27.2.1 68), (hT.2.1 76), (hT.2.1 77), (hT.2.1 78), (hT.2.1 79), (hT.2.1 80), (hT.2.1 85), (hT.2.1 86), (hT.2.1 87), (hT.2.1 88), (hT.2.1 89), (hT.2.1 90), (hT.2.1 91), (hT.2.1 92), trivial⟩), (show (m26.1 10) = 0 → (m.1 10) = 0 by omega), (show LxP (m26.1 7) (m26.1 8) (m26.1 9) (m.1 6) (m26.1 10) by first | (first | exact hLx | exact (fun _ => hLx (by omega)) | (intro h9; exfalso; omega)) | (exfalso; omega)), (fun _ => ⟨(show GP (m.1 8) (m26.1 8) (m26.1 75) (m26.1 73) (m.1 73) by first | (first | assumption | (unfold GP; omega)) | (exfalso; omega)), (show GU (m26.1 75) (m26.1 69) by first | (first | assumption | (unfold GU; omega)) | (exfalso; omega)), (show GH (m26.1 75) (m26.1 73) by first | (first | assumption | (unfold GH; omega)) | (exfalso; omega)), (show (m.1 28) ≤ (m26.1 28) by omega), (show XS (m26.2 65) (m26.2 67) (m.2 76) (m.2 78) (m.2 79) (m.2 80) B (m26.1 28) (m26.1 73) (m26.1 74) (um (m26.1 75)) by first | (exact hXE) | (exfalso; omega)), (show agr (m.2 65) (m26.2 65) (m.1 28) by first | (exact hAgC) | (exfalso; omega))⟩), rfl⟩
      · skip
        clear c30
        clear h28
        replace h29 : LxP (m26.1 7) (m26.1 8) (m26.1 9) (m.1 6) (m26.1 10) := h29
        have hLx := h29
        have hf52 : 1 ≤ (m26.1 10) := by omega
        exact J151_9 (mO m [(7, (m26.1 7)), (8, (m26.1 8)), (9, (m26.1 9)), (10, (m26.1 10)), (11, (m26.1 11)), (12, (m26.1 12)), (28, (m26.1 28)), (69, (m26.1 69)), (70, (m26.1 70)), (71, (m26.1 71)), (72, (m26.1 72)), (73, (m26.1 73)), (74, (m26.1 74)), (75, (m26.1 75))] [(65, (m26.2 65)), (66, (m26.2 66)), (67, (m26.2 67)), (68, (m26.2 68)), (76, (m.2 76)), (77, (m.2 77)), (78, (m.2 78)), (79, (m.2 79)), (80, (m.2 80)), (85, (m.2 85)), (86, (m.2 86)), (87, (m.2 87)), (88, (m.2 88)), (89, (m.2 89)), (90, (m.2 90)), (91, (m.2 91)), (92, (m.2 92))]) (Ty_mO hT rfl rfl ⟨(hT27.1 7), (hT27.1 8), (hT27.1 9), (hT27.1 10), (hT27.1 11), (hT27.1 12), (hT27.1 28), (hT27.1 69), (hT27.1 70), (hT27.1 71), (hT27.1 72), (hT27.1 73), (hT27.1 74), (hT27.1 75), trivial⟩ ⟨(hT27.2.1 65), (hT27.2.1 66), (hT27.2.1 67), (hT27.2.1 68), (hT.2.1 76), (hT.2.1 77), (hT.2.1 78), (hT.2.1 79), (hT.2.1 80), (hT.2.1 85), (hT.2.1 86), (hT.2.1 87), (hT.2.1 88), (hT.2.1 89), (hT.2.1 90), (hT.2.1 91), (hT.2.1 92), trivial⟩) (show 1 ≤ (m26.1 10) by omega) (show (m26.1 10) ≤ 8 by omega)
    · skip
      refine T_gf 91 (.ref 249) rfl rfl rfl rfl rfl rfl ?_
      refine T_ld 92 (.int (i32 k)) rfl (fun _ => rfl) ?_
      refine T_gf 96 (.int (i32 (m.1 69))) rfl rfl rfl rfl rfl rfl ?_
      have G53 : ∀ j, 0 ≤ (upI (m.2 87) k (m.1 69)) j ∧ (upI (m.2 87) k (m.1 69)) j ≤ 64 := upI_rg (hT.2.1 87) ⟨by omega, by omega⟩
      refine T_iast (a' := [(65, (m.2 65)), (66, (m.2 66)), (67, (m.2 67)), (68, (m.2 68)), (76, (m.2 76)), (77, (m.2 77)), (78, (m.2 78)), (79, (m.2 79)), (80, (m.2 80)), (85, (m.2 85)), (86, (m.2 86)), (87, upI (m.2 87) k (m.1 69)), (88, (m.2 88)), (89, (m.2 89)), (90, (m.2 90)), (91, (m.2 91)), (92, (m.2 92))]) 97 87 (m.2 87) rfl rfl rfl (by omega) (show k < (60 : Int) by omega) rfl rfl ?_
      refine T_gf 101 (.ref 250) rfl rfl rfl rfl rfl rfl ?_
      refine T_ld 102 (.int (i32 k)) rfl (fun _ => rfl) ?_
      refine T_gf 106 (.int (i32 (m.1 70))) rfl rfl rfl rfl rfl rfl ?_
      have G54 : ∀ j, 0 ≤ (upI (m.2 88) k (m.1 70)) j ∧ (upI (m.2 88) k (m.1 70)) j ≤ 4000 := upI_rg (hT.2.1 88) ⟨by omega, by omega⟩
      refine T_iast (a' := [(65, (m.2 65)), (66, (m.2 66)), (67, (m.2 67)), (68, (m.2 68)), (76, (m.2 76)), (77, (m.2 77)), (78, (m.2 78)), (79, (m.2 79)), (80, (m.2 80)), (85, (m.2 85)), (86, (m.2 86)), (87, upI (m.2 87) k (m.1 69)), (88, upI (m.2 88) k (m.1 70)), (89, (m.2 89)), (90, (m.2 90)), (91, (m.2 91)), (92, (m.2 92))]) 107 88 (m.2 88) rfl rfl rfl (by omega) (show k < (60 : Int) by omega) rfl rfl ?_
      refine T_gf 111 (.ref 252) rfl rfl rfl rfl rfl rfl ?_
      refine T_ld 112 (.int (i32 k)) rfl (fun _ => rfl) ?_
      refine T_gf 116 (.int (i32 (m.1 71))) rfl rfl rfl rfl rfl rfl ?_
      have G55 : ∀ j, 0 ≤ (upI (m.2 90) k (m.1 71)) j ∧ (upI (m.2 90) k (m.1 71)) j ≤ 1 := upI_rg (hT.2.1 90) ⟨by omega, by omega⟩
      refine T_bast (a' := [(65, (m.2 65)), (66, (m.2 66)), (67, (m.2 67)), (68, (m.2 68)), (76, (m.2 76)), (77, (m.2 77)), (78, (m.2 78)), (79, (m.2 79)), (80, (m.2 80)), (85, (m.2 85)), (86, (m.2 86)), (87, upI (m.2 87) k (m.1 69)), (88, upI (m.2 88) k (m.1 70)), (89, (m.2 89)), (90, upI (m.2 90) k (m.1 71)), (91, (m.2 91)), (92, (m.2 92))]) 117 90 (m.2 90) rfl rfl rfl (by omega) (show k < (60 : Int) by omega) (by omega) rfl rfl ?_
      refine T_gf 121 (.ref 254) rfl rfl rfl rfl rfl rfl ?_
      refine T_ld 122 (.int (i32 k)) rfl (fun _ => rfl) ?_
      refine T_gf 126 (.long (i64 (m.1 72))) rfl rfl rfl rfl rfl rfl ?_
      have G56 : ∀ j, (-9223372036854775808) ≤ (upI (m.2 92) k (m.1 72)) j ∧ (upI (m.2 92) k (m.1 72)) j ≤ 9223372036854775807 := upI_rg (hT.2.1 92) ⟨by omega, by omega⟩
      refine T_last (a' := [(65, (m.2 65)), (66, (m.2 66)), (67, (m.2 67)), (68, (m.2 68)), (76, (m.2 76)), (77, (m.2 77)), (78, (m.2 78)), (79, (m.2 79)), (80, (m.2 80)), (85, (m.2 85)), (86, (m.2 86)), (87, upI (m.2 87) k (m.1 69)), (88, upI (m.2 88) k (m.1 70)), (89, (m.2 89)), (90, upI (m.2 90) k (m.1 71)), (91, (m.2 91)), (92, upI (m.2 92) k (m.1 72))]) 127 92 (m.2 92) rfl rfl rfl (by omega) (show k < (60 : Int) by omega) rfl rfl ?_
      refine T_gf 131 (.ref 241) rfl rfl rfl rfl rfl rfl ?_
      refine T_ld 132 (.int (i32 k)) rfl (fun _ => rfl) ?_
      refine T_ld 133 (.int (i32 2)) rfl (fun _ => rfl) ?_
      have G57 : ∀ j, 0 ≤ (upI (m.2 79) k 2) j ∧ (upI (m.2 79) k 2) j ≤ 2 := upI_rg (hT.2.1 79) ⟨by omega, by omega⟩
      refine T_iast (a' := [(65, (m.2 65)), (66, (m.2 66)), (67, (m.2 67)), (68, (m.2 68)), (76, (m.2 76)), (77, (m.2 77)), (78, (m.2 78)), (79, upI (m.2 79) k 2), (80, (m.2 80)), (85, (m.2 85)), (86, (m.2 86)), (87, upI (m.2 87) k (m.1 69)), (88, upI (m.2 88) k (m.1 70)), (89, (m.2 89)), (90, upI (m.2 90) k (m.1 71)), (91, (m.2 91)), (92, upI (m.2 92) k (m.1 72))]) 134 79 (m.2 79) rfl rfl rfl (by omega) (show k < (60 : Int) by omega) rfl rfl ?_
      have hXT : XT (m.2 65) (m.2 67) (m.2 76) (m.2 78) (upI (m.2 79) k 2) (m.2 80) B (m.1 28) (m.1 73) (m.1 74) 0 := XT_st (x := 2) (U' := 0) hk hXS.1 (by omega) (by omega)
      refine T_ld 135 (.ref 189) rfl (fun _ => rfl) ?_
      refine T_ld 137 (.int (i32 58)) rfl (fun _ => rfl) ?_
      refine T_call 140 232 [.ref 189, .int (i32 58)] [] rfl (fun _ => rfl) rfl (c_need w (mO m [(7, (m.1 7)), (8, (m.1 8)), (9, (m.1 9)), (10, (m.1 10)), (11, (m.1 11)), (12, (m.1 12)), (28, (m.1 28)), (69, (m.1 69)), (70, (m.1 70)), (71, (m.1 71)), (72, (m.1 72)), (73, (m.1 73)), (74, (m.1 74)), (75, (m.1 75))] [(65, (m.2 65)), (66, (m.2 66)), (67, (m.2 67)), (68, (m.2 68)), (76, (m.2 76)), (77, (m.2 77)), (78, (m.2 78)), (79, upI (m.2 79) k 2), (80, (m.2 80)), (85, (m.2 85)), (86, (m.2 86)), (87, upI (m.2 87) k (m.1 69)), (88, upI (m.2 88) k (m.1 70)), (89, (m.2 89)), (90, upI (m.2 90) k (m.1 71)), (91, (m.2 91)), (92, upI (m.2 92) k (m.1 72))]) c N D (by omega) (Ty_mO hT rfl rfl ⟨f7, f8, f9, f10, f11, f12, f28, f69, f70, f71, f72, f73, f74, f75, trivial⟩ ⟨(hT.2.1 65), (hT.2.1 66), (hT.2.1 67), (hT.2.1 68), (hT.2.1 76), (hT.2.1 77), (hT.2.1 78), G57, (hT.2.1 80), (hT.2.1 85), (hT.2.1 86), G53, G54, (hT.2.1 89), G55, (hT.2.1 91), G56, trivial⟩) 58 ⟨by decide, by decide⟩ (show 1 ≤ (58 : Int) by omega) (show LxP (m.1 7) (m.1 8) (m.1 9) (m.1 6) (m.1 10) by first | exact hLx | (intro h9; exfalso; omega) | (intro h9; have h8 := hLx (by omega); omega))) (fun rr58 k59 => ?_)
      obtain ⟨y60, y62, y64, y66, y68, y70, g61, g63, g65, g67, g69, g71, h72, h73, h74, h75, rfl⟩ := k59
      refine ⟨_, _, rfl, ?_⟩
      refine T_nf2 (st' := []) (l' := [(7, y60), (8, y62), (9, y64), (10, y66), (11, y68), (12, y70), (28, (m.1 28)), (69, (m.1 69)), (70, (m.1 70)), (71, (m.1 71)), (72, (m.1 72)), (73, (m.1 73)), (74, (m.1 74)), (75, (m.1 75))]) (a' := [(65, (m.2 65)), (66, (m.2 66)), (67, (m.2 67)), (68, (m.2 68)), (76, (m.2 76)), (77, (m.2 77)), (78, (m.2 78)), (79, upI (m.2 79) k 2), (80, (m.2 80)), (85, (m.2 85)), (86, (m.2 86)), (87, upI (m.2 87) k (m.1 69)), (88, upI (m.2 88) k (m.1 70)), (89, (m.2 89)), (90, upI (m.2 90) k (m.1 71)), (91, (m.2 91)), (92, upI (m.2 92) k (m.1 72))]) [7, 8, 9, 10, 11, 12] [] rfl ⟨rfl, rfl, rfl, rfl, rfl, rfl, rfl, rfl, rfl, rfl, rfl, rfl, rfl, rfl, rfl, rfl, rfl, rfl, rfl, rfl, rfl, rfl, rfl, rfl, rfl, rfl, rfl, rfl, trivial⟩ ⟨rfl, rfl, rfl, rfl, rfl, rfl, rfl, rfl, rfl, rfl, rfl, rfl, rfl, rfl, rfl, rfl, rfl, rfl, rfl, rfl, rfl, rfl, rfl, rfl, rfl, rfl, rfl, rfl, rfl, rfl, rfl, rfl, rfl, rfl, trivial⟩ rfl rfl (by decide) (by decide) ?_
      by_cases hf76 : y66 = 0
      · skip
        subst hf76
        replace h72 : LxP y60 y62 y64 (m.1 6) (0 : Int) := h72
        have hLx := h72
        replace h73 : (m.1 10) = 0 ∧ (m.1 7) = (58 : Int) := h73 rfl
        replace h74 : (m.1 8) ≤ y62 := h74
        replace h75 : (m.1 8) + (m.1 9) ≤ y62 := h75 rfl
        have hAgC : agr (m.2 65) (m.2 65) (m.1 28) := by first | exact agr_r _ _ | exact hAgC | exact agr_t hAgC hAg (by omega)
        clear g67
        have hTop : (m.1 73) = 0 ∨ (m.2 76) ((m.1 73) - 1) = 2 ∨ ((m.2 76) ((m.1 73) - 1) = 0 ∧ (upI (m.2 79) k 2) ((m.1 73) - 1) = 2) := Or.inr (Or.inr ⟨hok2, by rw [← hk, upI_s]⟩)
        refine T_ld 141 (.ref 189) rfl (fun _ => rfl) ?_
        refine T_call 144 245 [.ref 189] [] rfl (fun _ => rfl) rfl (c_beginChoice w (mO m [(7, y60), (8, y62), (9, y64), (10, 0), (11, y68), (12, y70), (28, (m.1 28)), (69, (m.1 69)), (70, (m.1 70)), (71, (m.1 71)), (72, (m.1 72)), (73, (m.1 73)), (74, (m.1 74)), (75, (m.1 75))] [(65, (m.2 65)), (66, (m.2 66)), (67, (m.2 67)), (68, (m.2 68)), (76, (m.2 76)), (77, (m.2 77)), (78, (m.2 78)), (79, upI (m.2 79) k 2), (80, (m.2 80)), (85, (m.2 85)), (86, (m.2 86)), (87, upI (m.2 87) k (m.1 69)), (88, upI (m.2 88) k (m.1 70)), (89, (m.2 89)), (90, upI (m.2 90) k (m.1 71)), (91, (m.2 91)), (92, upI (m.2 92) k (m.1 72))]) c N D (by omega) (Ty_mO hT rfl rfl ⟨g61, g63, g65, ⟨(by omega : (0 : Int) ≤ 0), (by omega : (0 : Int) ≤ 8)⟩, g69, g71, f28, f69, f70, f71, f72, f73, f74, f75, trivial⟩ ⟨(hT.2.1 65), (hT.2.1 66), (hT.2.1 67), (hT.2.1 68), (hT.2.1 76), (hT.2.1 77), (hT.2.1 78), G57, (hT.2.1 80), (hT.2.1 85), (hT.2.1 86), G53, G54, (hT.2.1 89), G55, (hT.2.1 91), G56, trivial⟩) B 0 (fun _ => ⟨(show XT (m.2 65) (m.2 67) (m.2 76) (m.2 78) (upI (m.2 79) k 2) (m.2 80) B (m.1 28) (m.1 73) (m.1 74) 0 by first | exact hXT | exact hXS.1), (show (m.1 73) = 0 ∨ (m.2 76) ((m.1 73) - 1) = 2 ∨ ((m.2 76) ((m.1 73) - 1) = 0 ∧ (upI (m.2 79) k 2) ((m.1 73) - 1) = 2) by first | exact hTop | omega)⟩)) (fun rr77 k78 => ?_)
        obtain ⟨m79, hT80, h81, c82, rfl⟩ := k78
        refine ⟨_, _, rfl, ?_⟩
        refine T_nf2 (st' := []) (l' := [(7, y60), (8, y62), (9, y64), (10, (m79.1 10)), (11, (m79.1 11)), (12, y70), (28, (m.1 28)), (69, (m.1 69)), (70, (m.1 70)), (71, (m.1 71)), (72, (m.1 72)), (73, (m79.1 73)), (74, (m79.1 74)), (75, (m79.1 75))]) (a' := [(65, (m.2 65)), (66, (m.2 66)), (67, (m.2 67)), (68, (m.2 68)), (76, (m79.2 76)), (77, (m79.2 77)), (78, (m79.2 78)), (79, (m79.2 79)), (80, (m79.2 80)), (85, (m.2 85)), (86, (m.2 86)), (87, upI (m.2 87) k (m.1 69)), (88, upI (m.2 88) k (m.1 70)), (89, (m.2 89)), (90, upI (m.2 90) k (m.1 71)), (91, (m.2 91)), (92, upI (m.2 92) k (m.1 72))]) [10, 11, 73, 74, 75] [76, 77, 78, 79, 80] rfl ⟨rfl, rfl, rfl, rfl, rfl, rfl, rfl, rfl, rfl, rfl, rfl, rfl, rfl, rfl, rfl, rfl, rfl, rfl, rfl, rfl, rfl, rfl, rfl, rfl, rfl, rfl, rfl, rfl, rfl, rfl, rfl, rfl, rfl, rfl, rfl, rfl, rfl, trivial⟩ ⟨rfl, rfl, rfl, rfl, rfl, rfl, rfl, rfl, rfl, rfl, rfl, rfl, rfl, rfl, rfl, rfl, rfl, rfl, rfl, rfl, rfl, rfl, rfl, rfl, rfl, rfl, rfl, rfl, rfl, rfl, rfl, rfl, rfl, rfl, rfl, rfl, rfl, rfl, trivial⟩ rfl rfl (by decide) (by decide) ?_
        have g83 : 0 ≤ m79.1 10 ∧ m79.1 10 ≤ 8 := hT80.1 10
        have g84 : (-1) ≤ m79.1 11 ∧ m79.1 11 ≤ 4000 := hT80.1 11
        have g85 : 0 ≤ m79.1 73 ∧ m79.1 73 ≤ 60 := hT80.1 73
        have g86 : 0 ≤ m79.1 74 ∧ m79.1 74 ≤ 24 := hT80.1 74
        have g87 : 0 ≤ m79.1 75 ∧ m79.1 75 ≤ 3 := hT80.1 75
        by_cases hf88 : (m79.1 10) = 0
        · skip
          replace h81 : (0 : Int) = 0 := h81 hf88
          obtain ⟨c89, c90, c91⟩ := c82 hf88
          replace c89 : XS (m.2 65) (m.2 67) (m79.2 76) (m79.2 78) (m79.2 79) (m79.2 80) B (m.1 28) (m79.1 73) (m79.1 74) 0 := c89
          have hXS := c89
          replace c90 : (m79.1 73) = (m.1 73) + 1 := c90
          replace c91 : (m79.1 75) = 0 := c91
          clear c82
          have hAgC : agr (m.2 65) (m.2 65) (m.1 28) := by first | exact agr_r _ _ | exact hAgC | exact agr_t hAgC hAg (by omega)
          clear g69
          have hXE : XS (m.2 65) (m.2 67) (m79.2 76) (m79.2 78) (m79.2 79) (m79.2 80) B (m.1 28) (m79.1 73) (m79.1 74) (um (m79.1 75)) := by
            rw [show um (m79.1 75) = 0 from if_pos (by omega)]
            exact hXS
          refine T_goto 151 rfl (fun _ => rfl) ?_
          refine T_ret rfl (fun _ => rfl) ?_
          exact ⟨(mO m [(7, y60), (8, y62), (9, y64), (10, (m79.1 10)), (11, (m79.1 11)), (12, y70), (28, (m.1 28)), (69, (m.1 69)), (70, (m.1 70)), (71, (m.1 71)), (72, (m.1 72)), (73, (m79.1 73)), (74, (m79.1 74)), (75, (m79.1 75))] [(65, (m.2 65)), (66, (m.2 66)), (67, (m.2 67)), (68, (m.2 68)), (76, (m79.2 76)), (77, (m79.2 77)), (78, (m79.2 78)), (79, (m79.2 79)), (80, (m79.2 80)), (85, (m.2 85)), (86, (m.2 86)), (87, upI (m.2 87) k (m.1 69)), (88, upI (m.2 88) k (m.1 70)), (89, (m.2 89)), (90, upI (m.2 90) k (m.1 71)), (91, (m.2 91)), (92, upI (m.2 92) k (m.1 72))]), (Ty_mO hT rfl rfl ⟨g61, g63, g65, (hT80.1 10), (hT80.1 11), g71, f28, f69, f70, f71, f72, (hT80.1 73), (hT80.1 74), (hT80.1 75), trivial⟩ ⟨(hT.2.1 65), (hT.2.1 66), (hT.2.1 67), (hT.2.1 68), (hT80.2.1 76), (hT80.2.1 77), (hT80.2.1 78), (hT80.2.1 79), (hT80.2.1 80), (hT.2.1 85), (hT.2.1 86), G53, G54, (hT.2.1 89), G55, (hT.2.1 91), G56, trivial⟩), (show (m79.1 10) = 0 → (m.1 10) = 0 by omega), (show LxP y60 y62 y64 (m.1 6) (m79.1 10) by first | (first | exact hLx | exact (fun _ => hLx (by omega)) | (intro h9; exfalso; omega)) | (exfalso; omega)), (fun _ => ⟨(show GP (m.1 8) y62 (m79.1 75) (m79.1 73) (m.1 73) by first | (first | assumption | (unfold GP; omega)) | (exfalso; omega)), (show GU (m79.1 75) (m.1 69) by first | (first | assumption | (unfold GU; omega)) | (exfalso; omega)), (show GH (m79.1 75) (m79.1 73) by first | (first | assumption | (unfold GH; omega)) | (exfalso; omega)), (show (m.1 28) ≤ (m.1 28) by omega), (show XS (m.2 65) (m.2 67) (m79.2 76) (m79.2 78) (m79.2 79) (m79.2 80) B (m.1 28) (m79.1 73) (m79.1 74) (um (m79.1 75)) by first | (exact hXE) | (exfalso; omega)), (show agr (m.2 65) (m.2 65) (m.1 28) by first | (exact hAgC) | (exfalso; omega))⟩), rfl⟩
        · skip
          clear c82
          clear h81
          have hf92 : 1 ≤ (m79.1 10) := by omega
          clear g69
          exact J144_15 (mO m [(7, y60), (8, y62), (9, y64), (10, (m79.1 10)), (11, (m79.1 11)), (12, y70), (28, (m.1 28)), (69, (m.1 69)), (70, (m.1 70)), (71, (m.1 71)), (72, (m.1 72)), (73, (m79.1 73)), (74, (m79.1 74)), (75, (m79.1 75))] [(65, (m.2 65)), (66, (m.2 66)), (67, (m.2 67)), (68, (m.2 68)), (76, (m79.2 76)), (77, (m79.2 77)), (78, (m79.2 78)), (79, (m79.2 79)), (80, (m79.2 80)), (85, (m.2 85)), (86, (m.2 86)), (87, upI (m.2 87) k (m.1 69)), (88, upI (m.2 88) k (m.1 70)), (89, (m.2 89)), (90, upI (m.2 90) k (m.1 71)), (91, (m.2 91)), (92, upI (m.2 92) k (m.1 72))]) (Ty_mO hT rfl rfl ⟨g61, g63, g65, (hT80.1 10), (hT80.1 11), g71, f28, f69, f70, f71, f72, (hT80.1 73), (hT80.1 74), (hT80.1 75), trivial⟩ ⟨(hT.2.1 65), (hT.2.1 66), (hT.2.1 67), (hT.2.1 68), (hT80.2.1 76), (hT80.2.1 77), (hT80.2.1 78), (hT80.2.1 79), (hT80.2.1 80), (hT.2.1 85), (hT.2.1 86), G53, G54, (hT.2.1 89), G55, (hT.2.1 91), G56, trivial⟩) (show 1 ≤ (m79.1 10) by omega) (show (m79.1 10) ≤ 8 by omega)
      · skip
        replace h72 : LxP y60 y62 y64 (m.1 6) y66 := h72
        have hLx := h72
        clear h73
        replace h74 : (m.1 8) ≤ y62 := h74
        clear h75
        have hf93 : 1 ≤ y66 := by omega
        refine T_ld 141 (.ref 189) rfl (fun _ => rfl) ?_
        refine T_call 144 245 [.ref 189] [] rfl (fun _ => rfl) rfl (c_beginChoice w (mO m [(7, y60), (8, y62), (9, y64), (10, y66), (11, y68), (12, y70), (28, (m.1 28)), (69, (m.1 69)), (70, (m.1 70)), (71, (m.1 71)), (72, (m.1 72)), (73, (m.1 73)), (74, (m.1 74)), (75, (m.1 75))] [(65, (m.2 65)), (66, (m.2 66)), (67, (m.2 67)), (68, (m.2 68)), (76, (m.2 76)), (77, (m.2 77)), (78, (m.2 78)), (79, upI (m.2 79) k 2), (80, (m.2 80)), (85, (m.2 85)), (86, (m.2 86)), (87, upI (m.2 87) k (m.1 69)), (88, upI (m.2 88) k (m.1 70)), (89, (m.2 89)), (90, upI (m.2 90) k (m.1 71)), (91, (m.2 91)), (92, upI (m.2 92) k (m.1 72))]) c N D (by omega) (Ty_mO hT rfl rfl ⟨g61, g63, g65, g67, g69, g71, f28, f69, f70, f71, f72, f73, f74, f75, trivial⟩ ⟨(hT.2.1 65), (hT.2.1 66), (hT.2.1 67), (hT.2.1 68), (hT.2.1 76), (hT.2.1 77), (hT.2.1 78), G57, (hT.2.1 80), (hT.2.1 85), (hT.2.1 86), G53, G54, (hT.2.1 89), G55, (hT.2.1 91), G56, trivial⟩) B 0 (fun (h : y66 = 0) => absurd h (by omega))) (fun rr94 k95 => ?_)
        obtain ⟨m96, hT97, h98, c99, rfl⟩ := k95
        refine ⟨_, _, rfl, ?_⟩
        refine T_nf2 (st' := []) (l' := [(7, y60), (8, y62), (9, y64), (10, (m96.1 10)), (11, (m96.1 11)), (12, y70), (28, (m.1 28)), (69, (m.1 69)), (70, (m.1 70)), (71, (m.1 71)), (72, (m.1 72)), (73, (m96.1 73)), (74, (m96.1 74)), (75, (m96.1 75))]) (a' := [(65, (m.2 65)), (66, (m.2 66)), (67, (m.2 67)), (68, (m.2 68)), (76, (m96.2 76)), (77, (m96.2 77)), (78, (m96.2 78)), (79, (m96.2 79)), (80, (m96.2 80)), (85, (m.2 85)), (86, (m.2 86)), (87, upI (m.2 87) k (m.1 69)), (88, upI (m.2 88) k (m.1 70)), (89, (m.2 89)), (90, upI (m.2 90) k (m.1 71)), (91, (m.2 91)), (92, upI (m.2 92) k (m.1 72))]) [10, 11, 73, 74, 75] [76, 77, 78, 79, 80] rfl ⟨rfl, rfl, rfl, rfl, rfl, rfl, rfl, rfl, rfl, rfl, rfl, rfl, rfl, rfl, rfl, rfl, rfl, rfl, rfl, rfl, rfl, rfl, rfl, rfl, rfl, rfl, rfl, rfl, rfl, rfl, rfl, rfl, rfl, rfl, rfl, rfl, rfl, trivial⟩ ⟨rfl, rfl, rfl, rfl, rfl, rfl, rfl, rfl, rfl, rfl, rfl, rfl, rfl, rfl, rfl, rfl, rfl, rfl, rfl, rfl, rfl, rfl, rfl, rfl, rfl, rfl, rfl, rfl, rfl, rfl, rfl, rfl, rfl, rfl, rfl, rfl, rfl, rfl, trivial⟩ rfl rfl (by decide) (by decide) ?_
        have g100 : 0 ≤ m96.1 10 ∧ m96.1 10 ≤ 8 := hT97.1 10
        have g101 : (-1) ≤ m96.1 11 ∧ m96.1 11 ≤ 4000 := hT97.1 11
        have g102 : 0 ≤ m96.1 73 ∧ m96.1 73 ≤ 60 := hT97.1 73
        have g103 : 0 ≤ m96.1 74 ∧ m96.1 74 ≤ 24 := hT97.1 74
        have g104 : 0 ≤ m96.1 75 ∧ m96.1 75 ≤ 3 := hT97.1 75
        replace h98 : (m96.1 10) = 0 → y66 = 0 := h98
        have hf105 : 1 ≤ (m96.1 10) := by omega
        clear c99
        clear h98
        clear g67 g69 h72 hf93
        exact J144_15 (mO m [(7, y60), (8, y62), (9, y64), (10, (m96.1 10)), (11, (m96.1 11)), (12, y70), (28, (m.1 28)), (69, (m.1 69)), (70, (m.1 70)), (71, (m.1 71)), (72, (m.1 72)), (73, (m96.1 73)), (74, (m96.1 74)), (75, (m96.1 75))] [(65, (m.2 65)), (66, (m.2 66)), (67, (m.2 67)), (68, (m.2 68)), (76, (m96.2 76)), (77, (m96.2 77)), (78, (m96.2 78)), (79, (m96.2 79)), (80, (m96.2 80)), (85, (m.2 85)), (86, (m.2 86)), (87, upI (m.2 87) k (m.1 69)), (88, upI (m.2 88) k (m.1 70)), (89, (m.2 89)), (90, upI (m.2 90) k (m.1 71)), (91, (m.2 91)), (92, upI (m.2 92) k (m.1 72))]) (Ty_mO hT rfl rfl ⟨g61, g63, g65, (hT97.1 10), (hT97.1 11), g71, f28, f69, f70, f71, f72, (hT97.1 73), (hT97.1 74), (hT97.1 75), trivial⟩ ⟨(hT.2.1 65), (hT.2.1 66), (hT.2.1 67), (hT.2.1 68), (hT97.2.1 76), (hT97.2.1 77), (hT97.2.1 78), (hT97.2.1 79), (hT97.2.1 80), (hT.2.1 85), (hT.2.1 86), G53, G54, (hT.2.1 89), G55, (hT.2.1 91), G56, trivial⟩) (show 1 ≤ (m96.1 10) by omega) (show (m96.1 10) ≤ 8 by omega)
  · skip
    refine T_gf 13 (.int (i32 (m.1 7))) rfl rfl rfl rfl rfl rfl ?_
    refine T_ld 15 (.int (i32 63)) rfl (fun _ => rfl) ?_
    refine T_icmp 77 18 rfl rfl rfl (r32 (by omega) (by omega)) ⟨by decide, by decide⟩ (fun (h106 : (m.1 7) ≠ 63) => ?_) (fun (h106 : ¬ ((m.1 7) ≠ 63)) => ?_)
    · skip
      refine T_gf 81 (.ref 241) rfl rfl rfl rfl rfl rfl ?_
      refine T_ld 82 (.int (i32 k)) rfl (fun _ => rfl) ?_
      refine T_iald 83 79 (m.2 79) rfl rfl rfl (by omega) (show k < (60 : Int) by omega) rfl ?_
      have e107 : 0 ≤ (m.2 79) k ∧ (m.2 79) k ≤ 2 := (hT.2.1 79) k
      refine T_ld 84 (.int (i32 1)) rfl (fun _ => rfl) ?_
      refine T_icmp 147 87 rfl rfl rfl (r32 (by omega) (by omega)) ⟨by decide, by decide⟩ (fun (h108 : (m.2 79) k ≠ 1) => ?_) (fun (h108 : ¬ ((m.2 79) k ≠ 1)) => by exfalso; omega)
      refine T_ld 148 (.ref 189) rfl (fun _ => rfl) ?_
      refine T_call 151 264 [.ref 189] [] rfl (fun _ => rfl) rfl (c_endChoice w (mO m [(7, (m.1 7)), (8, (m.1 8)), (9, (m.1 9)), (10, (m.1 10)), (11, (m.1 11)), (12, (m.1 12)), (28, (m.1 28)), (69, (m.1 69)), (70, (m.1 70)), (71, (m.1 71)), (72, (m.1 72)), (73, (m.1 73)), (74, (m.1 74)), (75, (m.1 75))] [(65, (m.2 65)), (66, (m.2 66)), (67, (m.2 67)), (68, (m.2 68)), (76, (m.2 76)), (77, (m.2 77)), (78, (m.2 78)), (79, (m.2 79)), (80, (m.2 80)), (85, (m.2 85)), (86, (m.2 86)), (87, (m.2 87)), (88, (m.2 88)), (89, (m.2 89)), (90, (m.2 90)), (91, (m.2 91)), (92, (m.2 92))]) c N D (by omega) (Ty_mO hT rfl rfl ⟨f7, f8, f9, f10, f11, f12, f28, f69, f70, f71, f72, f73, f74, f75, trivial⟩ ⟨(hT.2.1 65), (hT.2.1 66), (hT.2.1 67), (hT.2.1 68), (hT.2.1 76), (hT.2.1 77), (hT.2.1 78), (hT.2.1 79), (hT.2.1 80), (hT.2.1 85), (hT.2.1 86), (hT.2.1 87), (hT.2.1 88), (hT.2.1 89), (hT.2.1 90), (hT.2.1 91), (hT.2.1 92), trivial⟩) B (show LxP (m.1 7) (m.1 8) (m.1 9) (m.1 6) (m.1 10) by first | exact hLx | exact (fun _ => hLx (by omega)) | (intro h9; exfalso; omega)) (show (m.1 10) = 0 by omega) ⟨(show XS (m.2 65) (m.2 67) (m.2 76) (m.2 78) (m.2 79) (m.2 80) B (m.1 28) (m.1 73) (m.1 74) 1 by first | exact hXS | assumption), (show 1 ≤ (m.1 73) by omega), (show (m.2 76) ((m.1 73) - 1) = 0 by first | assumption | omega), (show (m.1 69) ≤ 64 by omega)⟩) (fun rr109 k110 => ?_)
      obtain ⟨m111, hT112, h113, h114, c115, rfl⟩ := k110
      refine ⟨_, _, rfl, ?_⟩
      refine T_nf2 (st' := []) (l' := [(7, (m111.1 7)), (8, (m111.1 8)), (9, (m111.1 9)), (10, (m111.1 10)), (11, (m111.1 11)), (12, (m111.1 12)), (28, (m111.1 28)), (69, (m111.1 69)), (70, (m111.1 70)), (71, (m111.1 71)), (72, (m111.1 72)), (73, (m111.1 73)), (74, (m111.1 74)), (75, (m111.1 75))]) (a' := [(65, (m111.2 65)), (66, (m111.2 66)), (67, (m111.2 67)), (68, (m111.2 68)), (76, (m.2 76)), (77, (m.2 77)), (78, (m.2 78)), (79, (m.2 79)), (80, (m.2 80)), (85, (m.2 85)), (86, (m.2 86)), (87, (m.2 87)), (88, (m.2 88)), (89, (m.2 89)), (90, (m.2 90)), (91, (m.2 91)), (92, (m.2 92))]) [7, 8, 9, 10, 11, 12, 28, 69, 70, 71, 72, 73, 74, 75] [65, 66, 67, 68] rfl ⟨rfl, rfl, rfl, rfl, rfl, rfl, rfl, rfl, rfl, rfl, rfl, rfl, rfl, rfl, rfl, rfl, rfl, rfl, rfl, rfl, rfl, rfl, rfl, rfl, rfl, rfl, rfl, rfl, trivial⟩ ⟨rfl, rfl, rfl, rfl, rfl, rfl, rfl, rfl, rfl, rfl, rfl, rfl, rfl, rfl, rfl, rfl, rfl, rfl, rfl, rfl, rfl, rfl, rfl, rfl, rfl, rfl, rfl, rfl, rfl, rfl, rfl, rfl, rfl, rfl, trivial⟩ rfl rfl (by decide) (by decide) ?_
      have g116 : 0 ≤ m111.1 7 ∧ m111.1 7 ≤ 330 := hT112.1 7
      have g117 : 0 ≤ m111.1 8 ∧ m111.1 8 ≤ 4000 := hT112.1 8
      have g118 : 0 ≤ m111.1 9 ∧ m111.1 9 ≤ 4000 := hT112.1 9
      have g119 : 0 ≤ m111.1 10 ∧ m111.1 10 ≤ 8 := hT112.1 10
      have g120 : (-1) ≤ m111.1 11 ∧ m111.1 11 ≤ 4000 := hT112.1 11
      have g121 : (-9223372036854775808) ≤ m111.1 12 ∧ m111.1 12 ≤ 9223372036854775807 := hT112.1 12
      have g122 : 0 ≤ m111.1 28 ∧ m111.1 28 ≤ 800 := hT112.1 28
      have g123 : 0 ≤ m111.1 69 ∧ m111.1 69 ≤ 1024 := hT112.1 69
      have g124 : 0 ≤ m111.1 70 ∧ m111.1 70 ≤ 4000 := hT112.1 70
      have g125 : 0 ≤ m111.1 71 ∧ m111.1 71 ≤ 1 := hT112.1 71
      have g126 : (-9223372036854775808) ≤ m111.1 72 ∧ m111.1 72 ≤ 9223372036854775807 := hT112.1 72
      have g127 : 0 ≤ m111.1 73 ∧ m111.1 73 ≤ 60 := hT112.1 73
      have g128 : 0 ≤ m111.1 74 ∧ m111.1 74 ≤ 24 := hT112.1 74
      have g129 : 0 ≤ m111.1 75 ∧ m111.1 75 ≤ 3 := hT112.1 75
      by_cases hf130 : (m111.1 10) = 0
      · skip
        replace h113 : (m.1 10) = 0 := h113 hf130
        replace h114 : LxP (m111.1 7) (m111.1 8) (m111.1 9) (m.1 6) (m111.1 10) := h114
        have hLx := h114
        obtain ⟨c131, c132, c133, c134, c135, c136⟩ := c115 hf130
        replace c131 : GP (m.1 8) (m111.1 8) (m111.1 75) (m111.1 73) (m.1 73) := c131
        have hGP := c131
        replace c132 : GU (m111.1 75) (m111.1 69) := c132
        have hGU := c132
        replace c133 : GH (m111.1 75) (m111.1 73) := c133
        have hGH := c133
        replace c134 : (m.1 28) ≤ (m111.1 28) := c134
        replace c135 : XS (m111.2 65) (m111.2 67) (m.2 76) (m.2 78) (m.2 79) (m.2 80) B (m111.1 28) (m111.1 73) (m111.1 74) (um (m111.1 75)) := c135
        have hXE := c135
        replace c136 : agr (m.2 65) (m111.2 65) (m.1 28) := c136
        have hAg := c136
        clear c115
        have hAgC : agr (m.2 65) (m111.2 65) (m.1 28) := by first | exact agr_r _ _ | exact hAgC | exact agr_t hAgC hAg (by omega)
        refine T_ret rfl (fun _ => rfl) ?_
        exact ⟨(mO m [(7, (m111.1 7)), (8, (m111.1 8)), (9, (m111.1 9)), (10, (m111.1 10)), (11, (m111.1 11)), (12, (m111.1 12)), (28, (m111.1 28)), (69, (m111.1 69)), (70, (m111.1 70)), (71, (m111.1 71)), (72, (m111.1 72)), (73, (m111.1 73)), (74, (m111.1 74)), (75, (m111.1 75))] [(65, (m111.2 65)), (66, (m111.2 66)), (67, (m111.2 67)), (68, (m111.2 68)), (76, (m.2 76)), (77, (m.2 77)), (78, (m.2 78)), (79, (m.2 79)), (80, (m.2 80)), (85, (m.2 85)), (86, (m.2 86)), (87, (m.2 87)), (88, (m.2 88)), (89, (m.2 89)), (90, (m.2 90)), (91, (m.2 91)), (92, (m.2 92))]), (Ty_mO hT rfl rfl ⟨(hT112.1 7), (hT112.1 8), (hT112.1 9), (hT112.1 10), (hT112.1 11), (hT112.1 12), (hT112.1 28), (hT112.1 69), (hT112.1 70), (hT112.1 71), (hT112.1 72), (hT112.1 73), (hT112.1 74), (hT112.1 75), trivial⟩ ⟨(hT112.2.1 65), (hT112.2.1 66), (hT112.2.1 67), (hT112.2.1 68), (hT.2.1 76), (hT.2.1 77), (hT.2.1 78), (hT.2.1 79), (hT.2.1 80), (hT.2.1 85), (hT.2.1 86), (hT.2.1 87), (hT.2.1 88), (hT.2.1 89), (hT.2.1 90), (hT.2.1 91), (hT.2.1 92), trivial⟩), (show (m111.1 10) = 0 → (m.1 10) = 0 by omega), (show LxP (m111.1 7) (m111.1 8) (m111.1 9) (m.1 6) (m111.1 10) by first | (first | exact hLx | exact (fun _ => hLx (by omega)) | (intro h9; exfalso; omega)) | (exfalso; omega)), (fun _ => ⟨(show GP (m.1 8) (m111.1 8) (m111.1 75) (m111.1 73) (m.1 73) by first | (first | assumption | (unfold GP; omega)) | (exfalso; omega)), (show GU (m111.1 75) (m111.1 69) by first | (first | assumption | (unfold GU; omega)) | (exfalso; omega)), (show GH (m111.1 75) (m111.1 73) by first | (first | assumption | (unfold GH; omega)) | (exfalso; omega)), (show (m.1 28) ≤ (m111.1 28) by omega), (show XS (m111.2 65) (m111.2 67) (m.2 76) (m.2 78) (m.2 79) (m.2 80) B (m111.1 28) (m111.1 73) (m111.1 74) (um (m111.1 75)) by first | (exact hXE) | (exfalso; omega)), (show agr (m.2 65) (m111.2 65) (m.1 28) by first | (exact hAgC) | (exfalso; omega))⟩), rfl⟩
      · skip
        clear c115
        clear h113
        replace h114 : LxP (m111.1 7) (m111.1 8) (m111.1 9) (m.1 6) (m111.1 10) := h114
        have hLx := h114
        have hf137 : 1 ≤ (m111.1 10) := by omega
        exact J151_9 (mO m [(7, (m111.1 7)), (8, (m111.1 8)), (9, (m111.1 9)), (10, (m111.1 10)), (11, (m111.1 11)), (12, (m111.1 12)), (28, (m111.1 28)), (69, (m111.1 69)), (70, (m111.1 70)), (71, (m111.1 71)), (72, (m111.1 72)), (73, (m111.1 73)), (74, (m111.1 74)), (75, (m111.1 75))] [(65, (m111.2 65)), (66, (m111.2 66)), (67, (m111.2 67)), (68, (m111.2 68)), (76, (m.2 76)), (77, (m.2 77)), (78, (m.2 78)), (79, (m.2 79)), (80, (m.2 80)), (85, (m.2 85)), (86, (m.2 86)), (87, (m.2 87)), (88, (m.2 88)), (89, (m.2 89)), (90, (m.2 90)), (91, (m.2 91)), (92, (m.2 92))]) (Ty_mO hT rfl rfl ⟨(hT112.1 7), (hT112.1 8), (hT112.1 9), (hT112.1 10), (hT112.1 11), (hT112.1 12), (hT112.1 28), (hT112.1 69), (hT112.1 70), (hT112.1 71), (hT112.1 72), (hT112.1 73), (hT112.1 74), (hT112.1 75), trivial⟩ ⟨(hT112.2.1 65), (hT112.2.1 66), (hT112.2.1 67), (hT112.2.1 68), (hT.2.1 76), (hT.2.1 77), (hT.2.1 78), (hT.2.1 79), (hT.2.1 80), (hT.2.1 85), (hT.2.1 86), (hT.2.1 87), (hT.2.1 88), (hT.2.1 89), (hT.2.1 90), (hT.2.1 91), (hT.2.1 92), trivial⟩) (show 1 ≤ (m111.1 10) by omega) (show (m111.1 10) ≤ 8 by omega)
    · skip
      refine T_gf 22 (.ref 247) rfl rfl rfl rfl rfl rfl ?_
      refine T_ld 23 (.int (i32 k)) rfl (fun _ => rfl) ?_
      refine T_gf 27 (.int (i32 (m.1 69))) rfl rfl rfl rfl rfl rfl ?_
      have G138 : ∀ j, 0 ≤ (upI (m.2 85) k (m.1 69)) j ∧ (upI (m.2 85) k (m.1 69)) j ≤ 64 := upI_rg (hT.2.1 85) ⟨by omega, by omega⟩
      refine T_iast (a' := [(65, (m.2 65)), (66, (m.2 66)), (67, (m.2 67)), (68, (m.2 68)), (76, (m.2 76)), (77, (m.2 77)), (78, (m.2 78)), (79, (m.2 79)), (80, (m.2 80)), (85, upI (m.2 85) k (m.1 69)), (86, (m.2 86)), (87, (m.2 87)), (88, (m.2 88)), (89, (m.2 89)), (90, (m.2 90)), (91, (m.2 91)), (92, (m.2 92))]) 28 85 (m.2 85) rfl rfl rfl (by omega) (show k < (60 : Int) by omega) rfl rfl ?_
      refine T_gf 32 (.ref 248) rfl rfl rfl rfl rfl rfl ?_
      refine T_ld 33 (.int (i32 k)) rfl (fun _ => rfl) ?_
      refine T_gf 37 (.int (i32 (m.1 70))) rfl rfl rfl rfl rfl rfl ?_
      have G139 : ∀ j, 0 ≤ (upI (m.2 86) k (m.1 70)) j ∧ (upI (m.2 86) k (m.1 70)) j ≤ 4000 := upI_rg (hT.2.1 86) ⟨by omega, by omega⟩
      refine T_iast (a' := [(65, (m.2 65)), (66, (m.2 66)), (67, (m.2 67)), (68, (m.2 68)), (76, (m.2 76)), (77, (m.2 77)), (78, (m.2 78)), (79, (m.2 79)), (80, (m.2 80)), (85, upI (m.2 85) k (m.1 69)), (86, upI (m.2 86) k (m.1 70)), (87, (m.2 87)), (88, (m.2 88)), (89, (m.2 89)), (90, (m.2 90)), (91, (m.2 91)), (92, (m.2 92))]) 38 86 (m.2 86) rfl rfl rfl (by omega) (show k < (60 : Int) by omega) rfl rfl ?_
      refine T_gf 42 (.ref 251) rfl rfl rfl rfl rfl rfl ?_
      refine T_ld 43 (.int (i32 k)) rfl (fun _ => rfl) ?_
      refine T_gf 47 (.int (i32 (m.1 71))) rfl rfl rfl rfl rfl rfl ?_
      have G140 : ∀ j, 0 ≤ (upI (m.2 89) k (m.1 71)) j ∧ (upI (m.2 89) k (m.1 71)) j ≤ 1 := upI_rg (hT.2.1 89) ⟨by omega, by omega⟩
      refine T_bast (a' := [(65, (m.2 65)), (66, (m.2 66)), (67, (m.2 67)), (68, (m.2 68)), (76, (m.2 76)), (77, (m.2 77)), (78, (m.2 78)), (79, (m.2 79)), (80, (m.2 80)), (85, upI (m.2 85) k (m.1 69)), (86, upI (m.2 86) k (m.1 70)), (87, (m.2 87)), (88, (m.2 88)), (89, upI (m.2 89) k (m.1 71)), (90, (m.2 90)), (91, (m.2 91)), (92, (m.2 92))]) 48 89 (m.2 89) rfl rfl rfl (by omega) (show k < (60 : Int) by omega) (by omega) rfl rfl ?_
      refine T_gf 52 (.ref 253) rfl rfl rfl rfl rfl rfl ?_
      refine T_ld 53 (.int (i32 k)) rfl (fun _ => rfl) ?_
      refine T_gf 57 (.long (i64 (m.1 72))) rfl rfl rfl rfl rfl rfl ?_
      have G141 : ∀ j, (-9223372036854775808) ≤ (upI (m.2 91) k (m.1 72)) j ∧ (upI (m.2 91) k (m.1 72)) j ≤ 9223372036854775807 := upI_rg (hT.2.1 91) ⟨by omega, by omega⟩
      refine T_last (a' := [(65, (m.2 65)), (66, (m.2 66)), (67, (m.2 67)), (68, (m.2 68)), (76, (m.2 76)), (77, (m.2 77)), (78, (m.2 78)), (79, (m.2 79)), (80, (m.2 80)), (85, upI (m.2 85) k (m.1 69)), (86, upI (m.2 86) k (m.1 70)), (87, (m.2 87)), (88, (m.2 88)), (89, upI (m.2 89) k (m.1 71)), (90, (m.2 90)), (91, upI (m.2 91) k (m.1 72)), (92, (m.2 92))]) 58 91 (m.2 91) rfl rfl rfl (by omega) (show k < (60 : Int) by omega) rfl rfl ?_
      refine T_gf 62 (.ref 241) rfl rfl rfl rfl rfl rfl ?_
      refine T_ld 63 (.int (i32 k)) rfl (fun _ => rfl) ?_
      refine T_ld 64 (.int (i32 1)) rfl (fun _ => rfl) ?_
      have G142 : ∀ j, 0 ≤ (upI (m.2 79) k 1) j ∧ (upI (m.2 79) k 1) j ≤ 2 := upI_rg (hT.2.1 79) ⟨by omega, by omega⟩
      refine T_iast (a' := [(65, (m.2 65)), (66, (m.2 66)), (67, (m.2 67)), (68, (m.2 68)), (76, (m.2 76)), (77, (m.2 77)), (78, (m.2 78)), (79, upI (m.2 79) k 1), (80, (m.2 80)), (85, upI (m.2 85) k (m.1 69)), (86, upI (m.2 86) k (m.1 70)), (87, (m.2 87)), (88, (m.2 88)), (89, upI (m.2 89) k (m.1 71)), (90, (m.2 90)), (91, upI (m.2 91) k (m.1 72)), (92, (m.2 92))]) 65 79 (m.2 79) rfl rfl rfl (by omega) (show k < (60 : Int) by omega) rfl rfl ?_
      have hXT : XT (m.2 65) (m.2 67) (m.2 76) (m.2 78) (upI (m.2 79) k 1) (m.2 80) B (m.1 28) (m.1 73) (m.1 74) 0 := XT_st (x := 1) (U' := 0) hk hXS.1 (by omega) (by omega)
      refine T_ld 66 (.ref 189) rfl (fun _ => rfl) ?_
      refine T_call 69 212 [.ref 189] [] rfl (fun _ => rfl) rfl (c_next w (mO m [(7, (m.1 7)), (8, (m.1 8)), (9, (m.1 9)), (10, (m.1 10)), (11, (m.1 11)), (12, (m.1 12)), (28, (m.1 28)), (69, (m.1 69)), (70, (m.1 70)), (71, (m.1 71)), (72, (m.1 72)), (73, (m.1 73)), (74, (m.1 74)), (75, (m.1 75))] [(65, (m.2 65)), (66, (m.2 66)), (67, (m.2 67)), (68, (m.2 68)), (76, (m.2 76)), (77, (m.2 77)), (78, (m.2 78)), (79, upI (m.2 79) k 1), (80, (m.2 80)), (85, upI (m.2 85) k (m.1 69)), (86, upI (m.2 86) k (m.1 70)), (87, (m.2 87)), (88, (m.2 88)), (89, upI (m.2 89) k (m.1 71)), (90, (m.2 90)), (91, upI (m.2 91) k (m.1 72)), (92, (m.2 92))]) c N D (by omega) (Ty_mO hT rfl rfl ⟨f7, f8, f9, f10, f11, f12, f28, f69, f70, f71, f72, f73, f74, f75, trivial⟩ ⟨(hT.2.1 65), (hT.2.1 66), (hT.2.1 67), (hT.2.1 68), (hT.2.1 76), (hT.2.1 77), (hT.2.1 78), G142, (hT.2.1 80), G138, G139, (hT.2.1 87), (hT.2.1 88), G140, (hT.2.1 90), G141, (hT.2.1 92), trivial⟩) (show (m.1 10) = 0 → (m.1 8) + (m.1 9) ≤ (m.1 6) by first | omega | (intro h9; have h8 := hLx h9; omega))) (fun rr143 k144 => ?_)
      obtain ⟨y145, y147, y149, y151, y153, y155, g146, g148, g150, g152, g154, g156, h157, h158, h159, h160, rfl⟩ := k144
      refine ⟨_, _, rfl, ?_⟩
      refine T_nf2 (st' := []) (l' := [(7, y145), (8, y147), (9, y149), (10, y151), (11, y153), (12, y155), (28, (m.1 28)), (69, (m.1 69)), (70, (m.1 70)), (71, (m.1 71)), (72, (m.1 72)), (73, (m.1 73)), (74, (m.1 74)), (75, (m.1 75))]) (a' := [(65, (m.2 65)), (66, (m.2 66)), (67, (m.2 67)), (68, (m.2 68)), (76, (m.2 76)), (77, (m.2 77)), (78, (m.2 78)), (79, upI (m.2 79) k 1), (80, (m.2 80)), (85, upI (m.2 85) k (m.1 69)), (86, upI (m.2 86) k (m.1 70)), (87, (m.2 87)), (88, (m.2 88)), (89, upI (m.2 89) k (m.1 71)), (90, (m.2 90)), (91, upI (m.2 91) k (m.1 72)), (92, (m.2 92))]) [7, 8, 9, 10, 11, 12] [] rfl ⟨rfl, rfl, rfl, rfl, rfl, rfl, rfl, rfl, rfl, rfl, rfl, rfl, rfl, rfl, rfl, rfl, rfl, rfl, rfl, rfl, rfl, rfl, rfl, rfl, rfl, rfl, rfl, rfl, trivial⟩ ⟨rfl, rfl, rfl, rfl, rfl, rfl, rfl, rfl, rfl, rfl, rfl, rfl, rfl, rfl, rfl, rfl, rfl, rfl, rfl, rfl, rfl, rfl, rfl, rfl, rfl, rfl, rfl, rfl, rfl, rfl, rfl, rfl, rfl, rfl, trivial⟩ rfl rfl (by decide) (by decide) ?_
      by_cases hf161 : y151 = 0
      · skip
        subst hf161
        replace h157 : LxP y145 y147 y149 (m.1 6) (0 : Int) := h157
        have hLx := h157
        replace h158 : (m.1 10) = 0 := h158 rfl
        replace h159 : (m.1 8) ≤ y147 := h159
        replace h160 : (m.1 8) + (m.1 9) ≤ y147 := h160 rfl
        have hAgC : agr (m.2 65) (m.2 65) (m.1 28) := by first | exact agr_r _ _ | exact hAgC | exact agr_t hAgC hAg (by omega)
        clear g152
        refine T_ld 70 (.ref 189) rfl (fun _ => rfl) ?_
        refine T_ld 71 (.int (i32 0)) rfl (fun _ => rfl) ?_
        refine T_pf (l' := [(7, y145), (8, y147), (9, y149), (10, 0), (11, y153), (12, y155), (28, (m.1 28)), (69, (m.1 69)), (70, (m.1 70)), (71, (m.1 71)), (72, (m.1 72)), (73, (m.1 73)), (74, (m.1 74)), (75, 0)]) 74 0 rfl rfl rfl rfl rfl rfl ?_
        have hXE : XS (m.2 65) (m.2 67) (m.2 76) (m.2 78) (upI (m.2 79) k 1) (m.2 80) B (m.1 28) (m.1 73) (m.1 74) (um (0 : Int)) := by
          rw [show um (0 : Int) = 0 from if_pos (by omega)]
          exact ⟨hXT, hXS.2⟩
        refine T_goto 151 rfl (fun _ => rfl) ?_
        refine T_ret rfl (fun _ => rfl) ?_
        exact ⟨(mO m [(7, y145), (8, y147), (9, y149), (10, 0), (11, y153), (12, y155), (28, (m.1 28)), (69, (m.1 69)), (70, (m.1 70)), (71, (m.1 71)), (72, (m.1 72)), (73, (m.1 73)), (74, (m.1 74)), (75, 0)] [(65, (m.2 65)), (66, (m.2 66)), (67, (m.2 67)), (68, (m.2 68)), (76, (m.2 76)), (77, (m.2 77)), (78, (m.2 78)), (79, upI (m.2 79) k 1), (80, (m.2 80)), (85, upI (m.2 85) k (m.1 69)), (86, upI (m.2 86) k (m.1 70)), (87, (m.2 87)), (88, (m.2 88)), (89, upI (m.2 89) k (m.1 71)), (90, (m.2 90)), (91, upI (m.2 91) k (m.1 72)), (92, (m.2 92))]), (Ty_mO hT rfl rfl ⟨g146, g148, g150, ⟨(by omega : (0 : Int) ≤ 0), (by omega : (0 : Int) ≤ 8)⟩, g154, g156, f28, f69, f70, f71, f72, f73, f74, ⟨(by omega : (0 : Int) ≤ 0), (by omega : (0 : Int) ≤ 3)⟩, trivial⟩ ⟨(hT.2.1 65), (hT.2.1 66), (hT.2.1 67), (hT.2.1 68), (hT.2.1 76), (hT.2.1 77), (hT.2.1 78), G142, (hT.2.1 80), G138, G139, (hT.2.1 87), (hT.2.1 88), G140, (hT.2.1 90), G141, (hT.2.1 92), trivial⟩), (show (0 : Int) = 0 → (m.1 10) = 0 by omega), (show LxP y145 y147 y149 (m.1 6) (0 : Int) by first | (first | exact hLx | exact (fun _ => hLx (by omega)) | (intro h9; exfalso; omega)) | (exfalso; omega)), (fun _ => ⟨(show GP (m.1 8) y147 (0 : Int) (m.1 73) (m.1 73) by first | (first | assumption | (unfold GP; omega)) | (exfalso; omega)), (show GU (0 : Int) (m.1 69) by first | (first | assumption | (unfold GU; omega)) | (exfalso; omega)), (show GH (0 : Int) (m.1 73) by first | (first | assumption | (unfold GH; omega)) | (exfalso; omega)), (show (m.1 28) ≤ (m.1 28) by omega), (show XS (m.2 65) (m.2 67) (m.2 76) (m.2 78) (upI (m.2 79) k 1) (m.2 80) B (m.1 28) (m.1 73) (m.1 74) (um (0 : Int)) by first | (exact hXE) | (exfalso; omega)), (show agr (m.2 65) (m.2 65) (m.1 28) by first | (exact hAgC) | (exfalso; omega))⟩), rfl⟩
      · skip
        replace h157 : LxP y145 y147 y149 (m.1 6) y151 := h157
        have hLx := h157
        clear h158
        replace h159 : (m.1 8) ≤ y147 := h159
        clear h160
        have hf162 : 1 ≤ y151 := by omega
        refine T_ld 70 (.ref 189) rfl (fun _ => rfl) ?_
        refine T_ld 71 (.int (i32 0)) rfl (fun _ => rfl) ?_
        refine T_pf (l' := [(7, y145), (8, y147), (9, y149), (10, y151), (11, y153), (12, y155), (28, (m.1 28)), (69, (m.1 69)), (70, (m.1 70)), (71, (m.1 71)), (72, (m.1 72)), (73, (m.1 73)), (74, (m.1 74)), (75, 0)]) 74 0 rfl rfl rfl rfl rfl rfl ?_
        refine T_goto 151 rfl (fun _ => rfl) ?_
        refine T_ret rfl (fun _ => rfl) ?_
        exact ⟨(mO m [(7, y145), (8, y147), (9, y149), (10, y151), (11, y153), (12, y155), (28, (m.1 28)), (69, (m.1 69)), (70, (m.1 70)), (71, (m.1 71)), (72, (m.1 72)), (73, (m.1 73)), (74, (m.1 74)), (75, 0)] [(65, (m.2 65)), (66, (m.2 66)), (67, (m.2 67)), (68, (m.2 68)), (76, (m.2 76)), (77, (m.2 77)), (78, (m.2 78)), (79, upI (m.2 79) k 1), (80, (m.2 80)), (85, upI (m.2 85) k (m.1 69)), (86, upI (m.2 86) k (m.1 70)), (87, (m.2 87)), (88, (m.2 88)), (89, upI (m.2 89) k (m.1 71)), (90, (m.2 90)), (91, upI (m.2 91) k (m.1 72)), (92, (m.2 92))]), (Ty_mO hT rfl rfl ⟨g146, g148, g150, g152, g154, g156, f28, f69, f70, f71, f72, f73, f74, ⟨(by omega : (0 : Int) ≤ 0), (by omega : (0 : Int) ≤ 3)⟩, trivial⟩ ⟨(hT.2.1 65), (hT.2.1 66), (hT.2.1 67), (hT.2.1 68), (hT.2.1 76), (hT.2.1 77), (hT.2.1 78), G142, (hT.2.1 80), G138, G139, (hT.2.1 87), (hT.2.1 88), G140, (hT.2.1 90), G141, (hT.2.1 92), trivial⟩), (show y151 = 0 → (m.1 10) = 0 by omega), (show LxP y145 y147 y149 (m.1 6) y151 by first | (first | exact hLx | exact (fun _ => hLx (by omega)) | (intro h9; exfalso; omega)) | (exfalso; omega)), (fun (h : y151 = 0) => absurd h (by omega)), rfl⟩
