def Q_goOn (m : mR) (c : Nat → Option am_C) (N : Nat) (B : Int) : ag_Re af_T → Prop := fun R => ∃ (M : mR), Ty M ∧ ((M.1 10) = 0 → (m.1 10) = 0) ∧ (LxP (M.1 7) (M.1 8) (M.1 9) (m.1 6) (M.1 10)) ∧ (M.1 10 = 0 → (GP (m.1 8) (M.1 8) (M.1 75) (M.1 73) (m.1 73)) ∧ (GU (M.1 75) (M.1 69)) ∧ (GH (M.1 75) (M.1 73)) ∧ ((m.1 28) ≤ (M.1 28)) ∧ (XS (M.2 65) (M.2 67) (M.2 76) (M.2 78) (M.2 79) (M.2 80) B (M.1 28) (M.1 73) (M.1 74) (um (M.1 75))) ∧ (agr (m.2 65) (M.2 65) (m.1 28))) ∧ R = (.inl (none), (mhp (mO m [(7, (M.1 7)), (8, (M.1 8)), (9, (M.1 9)), (10, (M.1 10)), (11, (M.1 11)), (12, (M.1 12)), (28, (M.1 28)), (69, (M.1 69)), (70, (M.1 70)), (71, (M.1 71)), (72, (M.1 72)), (73, (M.1 73)), (74, (M.1 74)), (75, (M.1 75))] [(65, (M.2 65)), (66, (M.2 66)), (67, (M.2 67)), (68, (M.2 68)), (76, (M.2 76)), (77, (M.2 77)), (78, (M.2 78)), (79, (M.2 79)), (80, (M.2 80)), (81, (M.2 81)), (82, (M.2 82)), (83, (M.2 83)), (84, (M.2 84)), (85, (M.2 85)), (86, (M.2 86)), (87, (M.2 87)), (88, (M.2 88)), (89, (M.2 89)), (90, (M.2 90)), (91, (M.2 91)), (92, (M.2 92))]) c, N), 0, 0)
set_option maxHeartbeats 8000000 in
theorem c_goOn (w : wX) (m : mR) (c : Nat → Option am_C) (N D : Nat) (hD : 9 ≤ D) (hT : Ty m) (B : Int) (hLx0 : LxP (m.1 7) (m.1 8) (m.1 9) (m.1 6) (m.1 10)) (hf0 : m.1 10 = 0) (hC : (XS (m.2 65) (m.2 67) (m.2 76) (m.2 78) (m.2 79) (m.2 80) B (m.1 28) (m.1 73) (m.1 74) 1) ∧ (1 ≤ (m.1 73)) ∧ ((m.1 69) ≤ 64) ∧ ((m.1 75) = 2)) : TC w D 257 [.ref 189] (mhp m c, N) (Q_goOn m c N B) := by
  obtain ⟨D, rfl⟩ : ∃ k, D = k + 1 := ⟨D - 1, by omega⟩
  have hLx := hLx0
  have f7 : 0 ≤ m.1 7 ∧ m.1 7 ≤ 330 := hT.1 7
  have f8 : 0 ≤ m.1 8 ∧ m.1 8 ≤ 4000 := hT.1 8
  have f9 : 0 ≤ m.1 9 ∧ m.1 9 ≤ 4000 := hT.1 9
  have f10 : 0 ≤ m.1 10 ∧ m.1 10 ≤ 8 := hT.1 10
  have f11 : (-1) ≤ m.1 11 ∧ m.1 11 ≤ 4000 := hT.1 11
  have f12 : (-9223372036854775808) ≤ m.1 12 ∧ m.1 12 ≤ 9223372036854775807 := hT.1 12
  have f28 : 0 ≤ m.1 28 ∧ m.1 28 ≤ 800 := hT.1 28
  have f69 : 0 ≤ m.1 69 ∧ m.1 69 ≤ 1024 := hT.1 69
  have f70 : 0 ≤ m.1 70 ∧ m.1 70 ≤ 4000 := hT.1 70
  have f71 : 0 ≤ m.1 71 ∧ m.1 71 ≤ 1 := hT.1 71
  have f72 : (-9223372036854775808) ≤ m.1 72 ∧ m.1 72 ≤ 9223372036854775807 := hT.1 72
  have f73 : 0 ≤ m.1 73 ∧ m.1 73 ≤ 60 := hT.1 73
  have f74 : 0 ≤ m.1 74 ∧ m.1 74 ≤ 24 := hT.1 74
  have f75 : 0 ≤ m.1 75 ∧ m.1 75 ≤ 3 := hT.1 75
  have f6 : 0 ≤ m.1 6 ∧ m.1 6 ≤ 4000 := hT.1 6
  refine Tc_of rfl ?_
  show TT w D pm_257 (0, [(0, .ref 189)], [], (mhp m c, N), 0, 0) (Q_goOn m c N B)
  rw [show (mhp m c, N) = (mhp (mO m [(7, (m.1 7)), (8, (m.1 8)), (9, (m.1 9)), (10, (m.1 10)), (11, (m.1 11)), (12, (m.1 12)), (28, (m.1 28)), (69, (m.1 69)), (70, (m.1 70)), (71, (m.1 71)), (72, (m.1 72)), (73, (m.1 73)), (74, (m.1 74)), (75, (m.1 75))] [(65, (m.2 65)), (66, (m.2 66)), (67, (m.2 67)), (68, (m.2 68)), (76, (m.2 76)), (77, (m.2 77)), (78, (m.2 78)), (79, (m.2 79)), (80, (m.2 80)), (81, (m.2 81)), (82, (m.2 82)), (83, (m.2 83)), (84, (m.2 84)), (85, (m.2 85)), (86, (m.2 86)), (87, (m.2 87)), (88, (m.2 88)), (89, (m.2 89)), (90, (m.2 90)), (91, (m.2 91)), (92, (m.2 92))]) c, N) from congrArg (fun M => (mhp M c, N)) (mO_pad m [7, 8, 9, 10, 11, 12, 28, 69, 70, 71, 72, 73, 74, 75] [65, 66, 67, 68, 76, 77, 78, 79, 80, 81, 82, 83, 84, 85, 86, 87, 88, 89, 90, 91, 92])]
  obtain ⟨hXS, c1, c2, c3⟩ := hC
  have hb := OS_hi hXS.1.2
  have hAgC := agr_r (m.2 65) (m.1 28)
  have h7 := hLx (by omega)
  have ht2 := hXS.2 (by omega)
  refine T_gf 4 (.int (i32 (m.1 73))) rfl rfl rfl rfl rfl rfl ?_
  refine T_ld 5 (.int (i32 1)) rfl (fun _ => rfl) ?_
  refine T_isub 6 rfl rfl ?_
  refine T_sto 7 [(1, .int (i32 ((m.1 73) - 1))), (0, .ref 189)] rfl (fun _ => rfl) ?_
  refine T_gf 11 (.ref 238) rfl rfl rfl rfl rfl rfl ?_
  refine T_ld 12 (.int (i32 ((m.1 73) - 1))) rfl (fun _ => rfl) ?_
  refine T_iald 13 76 (m.2 76) rfl rfl rfl (by omega) (show ((m.1 73) - 1) < (60 : Int) by omega) rfl ?_
  have e4 : 0 ≤ (m.2 76) ((m.1 73) - 1) ∧ (m.2 76) ((m.1 73) - 1) ≤ 2 := (hT.2.1 76) ((m.1 73) - 1)
  refine T_ld 14 (.int (i32 1)) rfl (fun _ => rfl) ?_
  refine T_icmp 130 17 rfl rfl rfl (r32 (by omega) (by omega)) ⟨by decide, by decide⟩ (fun (h5 : (m.2 76) ((m.1 73) - 1) ≠ 1) => ?_) (fun (h5 : ¬ ((m.2 76) ((m.1 73) - 1) ≠ 1)) => ?_)
  · skip
    refine T_gf 134 (.int (i32 (m.1 7))) rfl rfl rfl rfl rfl rfl ?_
    refine T_call 137 259 [.int (i32 (m.1 7))] [] rfl (fun _ => rfl) rfl (c_level w (mO m [(7, (m.1 7)), (8, (m.1 8)), (9, (m.1 9)), (10, (m.1 10)), (11, (m.1 11)), (12, (m.1 12)), (28, (m.1 28)), (69, (m.1 69)), (70, (m.1 70)), (71, (m.1 71)), (72, (m.1 72)), (73, (m.1 73)), (74, (m.1 74)), (75, (m.1 75))] [(65, (m.2 65)), (66, (m.2 66)), (67, (m.2 67)), (68, (m.2 68)), (76, (m.2 76)), (77, (m.2 77)), (78, (m.2 78)), (79, (m.2 79)), (80, (m.2 80)), (81, (m.2 81)), (82, (m.2 82)), (83, (m.2 83)), (84, (m.2 84)), (85, (m.2 85)), (86, (m.2 86)), (87, (m.2 87)), (88, (m.2 88)), (89, (m.2 89)), (90, (m.2 90)), (91, (m.2 91)), (92, (m.2 92))]) c N D (by omega) (Ty_mO hT rfl rfl ⟨f7, f8, f9, f10, f11, f12, f28, f69, f70, f71, f72, f73, f74, f75, trivial⟩ ⟨(hT.2.1 65), (hT.2.1 66), (hT.2.1 67), (hT.2.1 68), (hT.2.1 76), (hT.2.1 77), (hT.2.1 78), (hT.2.1 79), (hT.2.1 80), (hT.2.1 81), (hT.2.1 82), (hT.2.1 83), (hT.2.1 84), (hT.2.1 85), (hT.2.1 86), (hT.2.1 87), (hT.2.1 88), (hT.2.1 89), (hT.2.1 90), (hT.2.1 91), (hT.2.1 92), trivial⟩) (m.1 7) (r32 (by omega) (by omega))) (fun rr6 k7 => ?_)
    obtain ⟨x8, g9, h10, rfl⟩ := k7
    refine ⟨_, _, rfl, ?_⟩
    refine T_nf2 (st' := [.int (i32 x8)]) (l' := [(7, (m.1 7)), (8, (m.1 8)), (9, (m.1 9)), (10, (m.1 10)), (11, (m.1 11)), (12, (m.1 12)), (28, (m.1 28)), (69, (m.1 69)), (70, (m.1 70)), (71, (m.1 71)), (72, (m.1 72)), (73, (m.1 73)), (74, (m.1 74)), (75, (m.1 75))]) (a' := [(65, (m.2 65)), (66, (m.2 66)), (67, (m.2 67)), (68, (m.2 68)), (76, (m.2 76)), (77, (m.2 77)), (78, (m.2 78)), (79, (m.2 79)), (80, (m.2 80)), (81, (m.2 81)), (82, (m.2 82)), (83, (m.2 83)), (84, (m.2 84)), (85, (m.2 85)), (86, (m.2 86)), (87, (m.2 87)), (88, (m.2 88)), (89, (m.2 89)), (90, (m.2 90)), (91, (m.2 91)), (92, (m.2 92))]) [] [] rfl ⟨rfl, rfl, rfl, rfl, rfl, rfl, rfl, rfl, rfl, rfl, rfl, rfl, rfl, rfl, rfl, rfl, rfl, rfl, rfl, rfl, rfl, rfl, rfl, rfl, rfl, rfl, rfl, rfl, trivial⟩ ⟨rfl, rfl, rfl, rfl, rfl, rfl, rfl, rfl, rfl, rfl, rfl, rfl, rfl, rfl, rfl, rfl, rfl, rfl, rfl, rfl, rfl, rfl, rfl, rfl, rfl, rfl, rfl, rfl, rfl, rfl, rfl, rfl, rfl, rfl, rfl, rfl, rfl, rfl, rfl, rfl, rfl, rfl, trivial⟩ rfl rfl (by decide) (by decide) ?_
    obtain ⟨g9a, g9b⟩ := g9
    replace h10 : 0 ≤ x8 → 4 ≤ (m.1 7) ∧ (m.1 7) ≤ 124 := h10
    have hAgC : agr (m.2 65) (m.2 65) (m.1 28) := by first | exact agr_r _ _ | exact hAgC | exact agr_t hAgC hAg (by omega)
    refine T_sto 138 [(2, .int (i32 x8)), (1, .int (i32 ((m.1 73) - 1))), (0, .ref 189)] rfl (fun _ => rfl) ?_
    have J159_12 : ∀ (v11 : Int), (R32 v11) → (v11 = -1 ∨ (0 ≤ v11 ∧ v11 ≤ 8 ∧ 4 ≤ (m.1 7))) → TT w D pm_257 (159, [(0, .ref 189), (1, .int (i32 ((m.1 73) - 1))), (2, .int (i32 v11))], [], (mhp (mO m [(7, (m.1 7)), (8, (m.1 8)), (9, (m.1 9)), (10, (m.1 10)), (11, (m.1 11)), (12, (m.1 12)), (28, (m.1 28)), (69, (m.1 69)), (70, (m.1 70)), (71, (m.1 71)), (72, (m.1 72)), (73, (m.1 73)), (74, (m.1 74)), (75, (m.1 75))] [(65, (m.2 65)), (66, (m.2 66)), (67, (m.2 67)), (68, (m.2 68)), (76, (m.2 76)), (77, (m.2 77)), (78, (m.2 78)), (79, (m.2 79)), (80, (m.2 80)), (81, (m.2 81)), (82, (m.2 82)), (83, (m.2 83)), (84, (m.2 84)), (85, (m.2 85)), (86, (m.2 86)), (87, (m.2 87)), (88, (m.2 88)), (89, (m.2 89)), (90, (m.2 90)), (91, (m.2 91)), (92, (m.2 92))]) c, N), 0, 0) (Q_goOn m c N B) := by
      intro v11 q13 ic14
      obtain ⟨q13a, q13b⟩ := id q13
      refine T_ld 161 (.int (i32 8)) rfl (fun _ => rfl) ?_
      refine T_sto 162 [(3, .int (i32 8)), (0, .ref 189), (1, .int (i32 ((m.1 73) - 1))), (2, .int (i32 v11))] rfl (fun _ => rfl) ?_
      have L162_18 : ∀ (n : Nat) (v16 : Int) (m17 : mR), (R32 v16) → (Ty m17) → (v16 ≤ 8) → ((-1) ≤ v16) → ((m17.1 69) ≤ 64 * (9 - v16)) → ((m17.1 10) = 0 → (XS (m17.2 65) (m17.2 67) (m.2 76) (m.2 78) (m.2 79) (m17.2 80) B (m17.1 28) (m.1 73) (m.1 74) 1) ∧ ((m17.1 69) ≤ 64) ∧ ((m.1 28) ≤ (m17.1 28)) ∧ (agr (m.2 65) (m17.2 65) (m.1 28))) → v16 + 1 < (n : Int) → TT w D pm_257 (162, [(0, .ref 189), (1, .int (i32 ((m.1 73) - 1))), (2, .int (i32 v11)), (3, .int (i32 v16))], [], (mhp (mO m [(7, (m.1 7)), (8, (m.1 8)), (9, (m.1 9)), (10, (m17.1 10)), (11, (m17.1 11)), (12, (m.1 12)), (28, (m17.1 28)), (69, (m17.1 69)), (70, (m17.1 70)), (71, (m17.1 71)), (72, (m17.1 72)), (73, (m.1 73)), (74, (m.1 74)), (75, (m.1 75))] [(65, (m17.2 65)), (66, (m17.2 66)), (67, (m17.2 67)), (68, (m17.2 68)), (76, (m.2 76)), (77, (m.2 77)), (78, (m.2 78)), (79, (m.2 79)), (80, (m17.2 80)), (81, (m.2 81)), (82, (m.2 82)), (83, (m.2 83)), (84, (m.2 84)), (85, (m.2 85)), (86, (m.2 86)), (87, (m.2 87)), (88, (m.2 88)), (89, (m.2 89)), (90, (m.2 90)), (91, (m.2 91)), (92, (m.2 92))]) c, N), 0, 0) (Q_goOn m c N B) := by
        intro n
        induction n with
        | zero =>
          intro v16 m17 q19 q20 ic21 ic22 ic23 c24 hmu
          obtain ⟨q19a, q19b⟩ := id q19
          have q20_10 : 0 ≤ m17.1 10 ∧ m17.1 10 ≤ 8 := q20.1 10
          have q20_11 : (-1) ≤ m17.1 11 ∧ m17.1 11 ≤ 4000 := q20.1 11
          have q20_28 : 0 ≤ m17.1 28 ∧ m17.1 28 ≤ 800 := q20.1 28
          have q20_69 : 0 ≤ m17.1 69 ∧ m17.1 69 ≤ 1024 := q20.1 69
          have q20_70 : 0 ≤ m17.1 70 ∧ m17.1 70 ≤ 4000 := q20.1 70
          have q20_71 : 0 ≤ m17.1 71 ∧ m17.1 71 ≤ 1 := q20.1 71
          have q20_72 : (-9223372036854775808) ≤ m17.1 72 ∧ m17.1 72 ≤ 9223372036854775807 := q20.1 72
          have hLx : LxP (m.1 7) (m.1 8) (m.1 9) (m.1 6) (m17.1 10) := fun _ => hLx (by omega)
          exfalso
          omega
        | succ n ih =>
          intro v16 m17 q19 q20 ic21 ic22 ic23 c24 hmu
          obtain ⟨q19a, q19b⟩ := id q19
          have q20_10 : 0 ≤ m17.1 10 ∧ m17.1 10 ≤ 8 := q20.1 10
          have q20_11 : (-1) ≤ m17.1 11 ∧ m17.1 11 ≤ 4000 := q20.1 11
          have q20_28 : 0 ≤ m17.1 28 ∧ m17.1 28 ≤ 800 := q20.1 28
          have q20_69 : 0 ≤ m17.1 69 ∧ m17.1 69 ≤ 1024 := q20.1 69
          have q20_70 : 0 ≤ m17.1 70 ∧ m17.1 70 ≤ 4000 := q20.1 70
          have q20_71 : 0 ≤ m17.1 71 ∧ m17.1 71 ≤ 1 := q20.1 71
          have q20_72 : (-9223372036854775808) ≤ m17.1 72 ∧ m17.1 72 ≤ 9223372036854775807 := q20.1 72
          have ih25 := ih
          by_cases hf26 : (m17.1 10) = 0
          · skip
            obtain ⟨c27, c28, c29, c30⟩ := c24 hf26
            clear c24
            have hXS := c27
            have hAgC := c30
            have hLx : LxP (m.1 7) (m.1 8) (m.1 9) (m.1 6) (m17.1 10) := fun _ => hLx (by omega)
            refine T_ld 163 (.int (i32 v16)) rfl (fun _ => rfl) ?_
            refine T_if 204 166 rfl rfl rfl (r32 (by omega) (by omega)) (fun (h31 : v16 < 0) => ?_) (fun (h31 : ¬ (v16 < 0)) => ?_)
            · skip
              refine T_gf 208 (.int (i32 (m17.1 10))) rfl rfl rfl rfl rfl rfl ?_
              refine T_if 212 211 rfl rfl rfl (r32 (by omega) (by omega)) (fun (h32 : (m17.1 10) ≤ 0) => ?_) (fun (h32 : ¬ ((m17.1 10) ≤ 0)) => by exfalso; omega)
              refine T_ld 213 (.int (i32 v11)) rfl (fun _ => rfl) ?_
              refine T_if 285 216 rfl rfl rfl (r32 (by omega) (by omega)) (fun (h33 : v11 < 0) => ?_) (fun (h33 : ¬ (v11 < 0)) => ?_)
              · skip
                refine T_ld 286 (.ref 189) rfl (fun _ => rfl) ?_
                refine T_ld 287 (.int (i32 ((m.1 73) - 1))) rfl (fun _ => rfl) ?_
                refine T_call 290 263 [.ref 189, .int (i32 ((m.1 73) - 1))] [] rfl (fun _ => rfl) rfl (c_endOr w (mO m [(7, (m.1 7)), (8, (m.1 8)), (9, (m.1 9)), (10, (m17.1 10)), (11, (m17.1 11)), (12, (m.1 12)), (28, (m17.1 28)), (69, (m17.1 69)), (70, (m17.1 70)), (71, (m17.1 71)), (72, (m17.1 72)), (73, (m.1 73)), (74, (m.1 74)), (75, (m.1 75))] [(65, (m17.2 65)), (66, (m17.2 66)), (67, (m17.2 67)), (68, (m17.2 68)), (76, (m.2 76)), (77, (m.2 77)), (78, (m.2 78)), (79, (m.2 79)), (80, (m17.2 80)), (81, (m.2 81)), (82, (m.2 82)), (83, (m.2 83)), (84, (m.2 84)), (85, (m.2 85)), (86, (m.2 86)), (87, (m.2 87)), (88, (m.2 88)), (89, (m.2 89)), (90, (m.2 90)), (91, (m.2 91)), (92, (m.2 92))]) c N D (by omega) (Ty_mO hT rfl rfl ⟨f7, f8, f9, (q20.1 10), (q20.1 11), f12, (q20.1 28), (q20.1 69), (q20.1 70), (q20.1 71), (q20.1 72), f73, f74, f75, trivial⟩ ⟨(q20.2.1 65), (q20.2.1 66), (q20.2.1 67), (q20.2.1 68), (hT.2.1 76), (hT.2.1 77), (hT.2.1 78), (hT.2.1 79), (q20.2.1 80), (hT.2.1 81), (hT.2.1 82), (hT.2.1 83), (hT.2.1 84), (hT.2.1 85), (hT.2.1 86), (hT.2.1 87), (hT.2.1 88), (hT.2.1 89), (hT.2.1 90), (hT.2.1 91), (hT.2.1 92), trivial⟩) ((m.1 73) - 1) B (r32 (by omega) (by omega)) (show LxP (m.1 7) (m.1 8) (m.1 9) (m.1 6) (m17.1 10) by first | exact hLx | exact (fun _ => hLx (by omega)) | (intro h9; exfalso; omega)) (show (m17.1 10) = 0 by omega) ⟨(show XS (m17.2 65) (m17.2 67) (m.2 76) (m.2 78) (m.2 79) (m17.2 80) B (m17.1 28) (m.1 73) (m.1 74) 1 by first | exact hXS | assumption), (show ((m.1 73) - 1) = (m.1 73) - 1 by omega), (show 1 ≤ (m.1 73) by omega), (show (m.2 76) ((m.1 73) - 1) = 0 by omega), (show (m17.1 69) ≤ 64 by omega), (show (m.1 75) = 2 by omega)⟩) (fun rr34 k35 => ?_)
                obtain ⟨m36, hT37, h38, h39, c40, rfl⟩ := k35
                refine ⟨_, _, rfl, ?_⟩
                refine T_nf2 (st' := []) (l' := [(7, (m36.1 7)), (8, (m36.1 8)), (9, (m36.1 9)), (10, (m36.1 10)), (11, (m36.1 11)), (12, (m36.1 12)), (28, (m36.1 28)), (69, (m36.1 69)), (70, (m36.1 70)), (71, (m36.1 71)), (72, (m36.1 72)), (73, (m36.1 73)), (74, (m36.1 74)), (75, (m36.1 75))]) (a' := [(65, (m36.2 65)), (66, (m36.2 66)), (67, (m36.2 67)), (68, (m36.2 68)), (76, (m36.2 76)), (77, (m36.2 77)), (78, (m36.2 78)), (79, (m36.2 79)), (80, (m36.2 80)), (81, (m.2 81)), (82, (m.2 82)), (83, (m.2 83)), (84, (m.2 84)), (85, (m36.2 85)), (86, (m36.2 86)), (87, (m36.2 87)), (88, (m36.2 88)), (89, (m36.2 89)), (90, (m36.2 90)), (91, (m36.2 91)), (92, (m36.2 92))]) [7, 8, 9, 10, 11, 12, 28, 69, 70, 71, 72, 73, 74, 75] [65, 66, 67, 68, 76, 77, 78, 79, 80, 85, 86, 87, 88, 89, 90, 91, 92] rfl ⟨rfl, rfl, rfl, rfl, rfl, rfl, rfl, rfl, rfl, rfl, rfl, rfl, rfl, rfl, rfl, rfl, rfl, rfl, rfl, rfl, rfl, rfl, rfl, rfl, rfl, rfl, rfl, rfl, trivial⟩ ⟨rfl, rfl, rfl, rfl, rfl, rfl, rfl, rfl, rfl, rfl, rfl, rfl, rfl, rfl, rfl, rfl, rfl, rfl, rfl, rfl, rfl, rfl, rfl, rfl, rfl, rfl, rfl, rfl, rfl, rfl, rfl, rfl, rfl, rfl, rfl, rfl, rfl, rfl, rfl, rfl, rfl, rfl, rfl, rfl, rfl, rfl, trivial⟩ rfl rfl (by decide) (by decide) ?_
                have g41 : 0 ≤ m36.1 7 ∧ m36.1 7 ≤ 330 := hT37.1 7
                have g42 : 0 ≤ m36.1 8 ∧ m36.1 8 ≤ 4000 := hT37.1 8
                have g43 : 0 ≤ m36.1 9 ∧ m36.1 9 ≤ 4000 := hT37.1 9
                have g44 : 0 ≤ m36.1 10 ∧ m36.1 10 ≤ 8 := hT37.1 10
                have g45 : (-1) ≤ m36.1 11 ∧ m36.1 11 ≤ 4000 := hT37.1 11
                have g46 : (-9223372036854775808) ≤ m36.1 12 ∧ m36.1 12 ≤ 9223372036854775807 := hT37.1 12
                have g47 : 0 ≤ m36.1 28 ∧ m36.1 28 ≤ 800 := hT37.1 28
                have g48 : 0 ≤ m36.1 69 ∧ m36.1 69 ≤ 1024 := hT37.1 69
                have g49 : 0 ≤ m36.1 70 ∧ m36.1 70 ≤ 4000 := hT37.1 70
                have g50 : 0 ≤ m36.1 71 ∧ m36.1 71 ≤ 1 := hT37.1 71
                have g51 : (-9223372036854775808) ≤ m36.1 72 ∧ m36.1 72 ≤ 9223372036854775807 := hT37.1 72
                have g52 : 0 ≤ m36.1 73 ∧ m36.1 73 ≤ 60 := hT37.1 73
                have g53 : 0 ≤ m36.1 74 ∧ m36.1 74 ≤ 24 := hT37.1 74
                have g54 : 0 ≤ m36.1 75 ∧ m36.1 75 ≤ 3 := hT37.1 75
                by_cases hf55 : (m36.1 10) = 0
                · skip
                  replace h38 : (m17.1 10) = 0 := h38 hf55
                  replace h39 : LxP (m36.1 7) (m36.1 8) (m36.1 9) (m.1 6) (m36.1 10) := h39
                  have hLx := h39
                  obtain ⟨c56, c57, c58, c59, c60, c61⟩ := c40 hf55
                  replace c56 : GP (m.1 8) (m36.1 8) (m36.1 75) (m36.1 73) (m.1 73) := c56
                  have hGP := c56
                  replace c57 : GU (m36.1 75) (m36.1 69) := c57
                  have hGU := c57
                  replace c58 : GH (m36.1 75) (m36.1 73) := c58
                  have hGH := c58
                  replace c59 : (m17.1 28) ≤ (m36.1 28) := c59
                  replace c60 : XS (m36.2 65) (m36.2 67) (m36.2 76) (m36.2 78) (m36.2 79) (m36.2 80) B (m36.1 28) (m36.1 73) (m36.1 74) (um (m36.1 75)) := c60
                  have hXE := c60
                  replace c61 : agr (m17.2 65) (m36.2 65) (m17.1 28) := c61
                  have hAg := c61
                  clear c40
                  have hAgC : agr (m.2 65) (m36.2 65) (m.1 28) := by first | exact agr_r _ _ | exact hAgC | exact agr_t hAgC hAg (by omega)
                  refine T_ret rfl (fun _ => rfl) ?_
                  exact ⟨(mO m [(7, (m36.1 7)), (8, (m36.1 8)), (9, (m36.1 9)), (10, (m36.1 10)), (11, (m36.1 11)), (12, (m36.1 12)), (28, (m36.1 28)), (69, (m36.1 69)), (70, (m36.1 70)), (71, (m36.1 71)), (72, (m36.1 72)), (73, (m36.1 73)), (74, (m36.1 74)), (75, (m36.1 75))] [(65, (m36.2 65)), (66, (m36.2 66)), (67, (m36.2 67)), (68, (m36.2 68)), (76, (m36.2 76)), (77, (m36.2 77)), (78, (m36.2 78)), (79, (m36.2 79)), (80, (m36.2 80)), (81, (m.2 81)), (82, (m.2 82)), (83, (m.2 83)), (84, (m.2 84)), (85, (m36.2 85)), (86, (m36.2 86)), (87, (m36.2 87)), (88, (m36.2 88)), (89, (m36.2 89)), (90, (m36.2 90)), (91, (m36.2 91)), (92, (m36.2 92))]), (Ty_mO hT rfl rfl ⟨(hT37.1 7), (hT37.1 8), (hT37.1 9), (hT37.1 10), (hT37.1 11), (hT37.1 12), (hT37.1 28), (hT37.1 69), (hT37.1 70), (hT37.1 71), (hT37.1 72), (hT37.1 73), (hT37.1 74), (hT37.1 75), trivial⟩ ⟨(hT37.2.1 65), (hT37.2.1 66), (hT37.2.1 67), (hT37.2.1 68), (hT37.2.1 76), (hT37.2.1 77), (hT37.2.1 78), (hT37.2.1 79), (hT37.2.1 80), (hT.2.1 81), (hT.2.1 82), (hT.2.1 83), (hT.2.1 84), (hT37.2.1 85), (hT37.2.1 86), (hT37.2.1 87), (hT37.2.1 88), (hT37.2.1 89), (hT37.2.1 90), (hT37.2.1 91), (hT37.2.1 92), trivial⟩), (show (m36.1 10) = 0 → (m.1 10) = 0 by omega), (show LxP (m36.1 7) (m36.1 8) (m36.1 9) (m.1 6) (m36.1 10) by first | (first | exact hLx | exact (fun _ => hLx (by omega)) | (intro h9; exfalso; omega)) | (exfalso; omega)), (fun _ => ⟨(show GP (m.1 8) (m36.1 8) (m36.1 75) (m36.1 73) (m.1 73) by first | (first | assumption | (unfold GP; omega)) | (exfalso; omega)), (show GU (m36.1 75) (m36.1 69) by first | (first | assumption | (unfold GU; omega)) | (exfalso; omega)), (show GH (m36.1 75) (m36.1 73) by first | (first | assumption | (unfold GH; omega)) | (exfalso; omega)), (show (m.1 28) ≤ (m36.1 28) by omega), (show XS (m36.2 65) (m36.2 67) (m36.2 76) (m36.2 78) (m36.2 79) (m36.2 80) B (m36.1 28) (m36.1 73) (m36.1 74) (um (m36.1 75)) by first | (exact hXE) | (exfalso; omega)), (show agr (m.2 65) (m36.2 65) (m.1 28) by first | (exact hAgC) | (exfalso; omega))⟩), rfl⟩
                · skip
                  clear c40
                  clear h38
                  replace h39 : LxP (m36.1 7) (m36.1 8) (m36.1 9) (m.1 6) (m36.1 10) := h39
                  have hLx := h39
                  have hf62 : 1 ≤ (m36.1 10) := by omega
                  refine T_ret rfl (fun _ => rfl) ?_
                  exact ⟨(mO m [(7, (m36.1 7)), (8, (m36.1 8)), (9, (m36.1 9)), (10, (m36.1 10)), (11, (m36.1 11)), (12, (m36.1 12)), (28, (m36.1 28)), (69, (m36.1 69)), (70, (m36.1 70)), (71, (m36.1 71)), (72, (m36.1 72)), (73, (m36.1 73)), (74, (m36.1 74)), (75, (m36.1 75))] [(65, (m36.2 65)), (66, (m36.2 66)), (67, (m36.2 67)), (68, (m36.2 68)), (76, (m36.2 76)), (77, (m36.2 77)), (78, (m36.2 78)), (79, (m36.2 79)), (80, (m36.2 80)), (81, (m.2 81)), (82, (m.2 82)), (83, (m.2 83)), (84, (m.2 84)), (85, (m36.2 85)), (86, (m36.2 86)), (87, (m36.2 87)), (88, (m36.2 88)), (89, (m36.2 89)), (90, (m36.2 90)), (91, (m36.2 91)), (92, (m36.2 92))]), (Ty_mO hT rfl rfl ⟨(hT37.1 7), (hT37.1 8), (hT37.1 9), (hT37.1 10), (hT37.1 11), (hT37.1 12), (hT37.1 28), (hT37.1 69), (hT37.1 70), (hT37.1 71), (hT37.1 72), (hT37.1 73), (hT37.1 74), (hT37.1 75), trivial⟩ ⟨(hT37.2.1 65), (hT37.2.1 66), (hT37.2.1 67), (hT37.2.1 68), (hT37.2.1 76), (hT37.2.1 77), (hT37.2.1 78), (hT37.2.1 79), (hT37.2.1 80), (hT.2.1 81), (hT.2.1 82), (hT.2.1 83), (hT.2.1 84), (hT37.2.1 85), (hT37.2.1 86), (hT37.2.1 87), (hT37.2.1 88), (hT37.2.1 89), (hT37.2.1 90), (hT37.2.1 91), (hT37.2.1 92), trivial⟩), (show (m36.1 10) = 0 → (m.1 10) = 0 by omega), (show LxP (m36.1 7) (m36.1 8) (m36.1 9) (m.1 6) (m36.1 10) by first | (first | exact hLx | exact (fun _ => hLx (by omega)) | (intro h9; exfalso; omega)) | (exfalso; omega)), (fun (h : (m36.1 10) = 0) => absurd h (by omega)), rfl⟩
              · skip
                refine T_ld 218 (.int (i32 9)) rfl (fun _ => rfl) ?_
                refine T_ld 219 (.int (i32 ((m.1 73) - 1))) rfl (fun _ => rfl) ?_
                refine T_imul 220 rfl rfl ?_
                refine T_ld 221 (.int (i32 v11)) rfl (fun _ => rfl) ?_
                refine T_iadd 222 rfl rfl ?_
                refine T_sto 223 [(3, .int (i32 ((9 * ((m.1 73) - 1)) + v11))), (0, .ref 189), (1, .int (i32 ((m.1 73) - 1))), (2, .int (i32 v11))] rfl (fun _ => rfl) ?_
                have hXE0 := XS_ws (i := ((9 * ((m.1 73) - 1)) + v11)) (x := (m.1 7)) (U' := 0) hXS (by omega) (by omega) (by omega) (by have := cn1_0 (m17.2 80) ((9 * ((m.1 73) - 1)) + v11); split <;> omega)
                refine T_gf 227 (.ref 242) rfl rfl rfl rfl rfl rfl ?_
                refine T_ld 228 (.int (i32 ((9 * ((m.1 73) - 1)) + v11))) rfl (fun _ => rfl) ?_
                refine T_gf 232 (.int (i32 (m.1 7))) rfl rfl rfl rfl rfl rfl ?_
                have G63 : ∀ j, (-1) ≤ (upI (m17.2 80) ((9 * ((m.1 73) - 1)) + v11) (m.1 7)) j ∧ (upI (m17.2 80) ((9 * ((m.1 73) - 1)) + v11) (m.1 7)) j ≤ 330 := upI_rg (q20.2.1 80) ⟨by omega, by omega⟩
                refine T_iast (a' := [(65, (m17.2 65)), (66, (m17.2 66)), (67, (m17.2 67)), (68, (m17.2 68)), (76, (m.2 76)), (77, (m.2 77)), (78, (m.2 78)), (79, (m.2 79)), (80, upI (m17.2 80) ((9 * ((m.1 73) - 1)) + v11) (m.1 7)), (81, (m.2 81)), (82, (m.2 82)), (83, (m.2 83)), (84, (m.2 84)), (85, (m.2 85)), (86, (m.2 86)), (87, (m.2 87)), (88, (m.2 88)), (89, (m.2 89)), (90, (m.2 90)), (91, (m.2 91)), (92, (m.2 92))]) 233 80 (m17.2 80) rfl rfl rfl (by omega) (show ((9 * ((m.1 73) - 1)) + v11) < (540 : Int) by omega) rfl rfl ?_
                refine T_gf 237 (.ref 243) rfl rfl rfl rfl rfl rfl ?_
                refine T_ld 238 (.int (i32 ((9 * ((m.1 73) - 1)) + v11))) rfl (fun _ => rfl) ?_
                refine T_gf 242 (.int (i32 (m17.1 69))) rfl rfl rfl rfl rfl rfl ?_
                have G64 : ∀ j, 0 ≤ (upI (m.2 81) ((9 * ((m.1 73) - 1)) + v11) (m17.1 69)) j ∧ (upI (m.2 81) ((9 * ((m.1 73) - 1)) + v11) (m17.1 69)) j ≤ 64 := upI_rg (hT.2.1 81) ⟨by omega, by omega⟩
                refine T_iast (a' := [(65, (m17.2 65)), (66, (m17.2 66)), (67, (m17.2 67)), (68, (m17.2 68)), (76, (m.2 76)), (77, (m.2 77)), (78, (m.2 78)), (79, (m.2 79)), (80, upI (m17.2 80) ((9 * ((m.1 73) - 1)) + v11) (m.1 7)), (81, upI (m.2 81) ((9 * ((m.1 73) - 1)) + v11) (m17.1 69)), (82, (m.2 82)), (83, (m.2 83)), (84, (m.2 84)), (85, (m.2 85)), (86, (m.2 86)), (87, (m.2 87)), (88, (m.2 88)), (89, (m.2 89)), (90, (m.2 90)), (91, (m.2 91)), (92, (m.2 92))]) 243 81 (m.2 81) rfl rfl rfl (by omega) (show ((9 * ((m.1 73) - 1)) + v11) < (540 : Int) by omega) rfl rfl ?_
                refine T_gf 247 (.ref 244) rfl rfl rfl rfl rfl rfl ?_
                refine T_ld 248 (.int (i32 ((9 * ((m.1 73) - 1)) + v11))) rfl (fun _ => rfl) ?_
                refine T_gf 252 (.int (i32 (m17.1 70))) rfl rfl rfl rfl rfl rfl ?_
                have G65 : ∀ j, 0 ≤ (upI (m.2 82) ((9 * ((m.1 73) - 1)) + v11) (m17.1 70)) j ∧ (upI (m.2 82) ((9 * ((m.1 73) - 1)) + v11) (m17.1 70)) j ≤ 4000 := upI_rg (hT.2.1 82) ⟨by omega, by omega⟩
                refine T_iast (a' := [(65, (m17.2 65)), (66, (m17.2 66)), (67, (m17.2 67)), (68, (m17.2 68)), (76, (m.2 76)), (77, (m.2 77)), (78, (m.2 78)), (79, (m.2 79)), (80, upI (m17.2 80) ((9 * ((m.1 73) - 1)) + v11) (m.1 7)), (81, upI (m.2 81) ((9 * ((m.1 73) - 1)) + v11) (m17.1 69)), (82, upI (m.2 82) ((9 * ((m.1 73) - 1)) + v11) (m17.1 70)), (83, (m.2 83)), (84, (m.2 84)), (85, (m.2 85)), (86, (m.2 86)), (87, (m.2 87)), (88, (m.2 88)), (89, (m.2 89)), (90, (m.2 90)), (91, (m.2 91)), (92, (m.2 92))]) 253 82 (m.2 82) rfl rfl rfl (by omega) (show ((9 * ((m.1 73) - 1)) + v11) < (540 : Int) by omega) rfl rfl ?_
                refine T_gf 257 (.ref 245) rfl rfl rfl rfl rfl rfl ?_
                refine T_ld 258 (.int (i32 ((9 * ((m.1 73) - 1)) + v11))) rfl (fun _ => rfl) ?_
                refine T_gf 262 (.int (i32 (m17.1 71))) rfl rfl rfl rfl rfl rfl ?_
                have G66 : ∀ j, 0 ≤ (upI (m.2 83) ((9 * ((m.1 73) - 1)) + v11) (m17.1 71)) j ∧ (upI (m.2 83) ((9 * ((m.1 73) - 1)) + v11) (m17.1 71)) j ≤ 1 := upI_rg (hT.2.1 83) ⟨by omega, by omega⟩
                refine T_bast (a' := [(65, (m17.2 65)), (66, (m17.2 66)), (67, (m17.2 67)), (68, (m17.2 68)), (76, (m.2 76)), (77, (m.2 77)), (78, (m.2 78)), (79, (m.2 79)), (80, upI (m17.2 80) ((9 * ((m.1 73) - 1)) + v11) (m.1 7)), (81, upI (m.2 81) ((9 * ((m.1 73) - 1)) + v11) (m17.1 69)), (82, upI (m.2 82) ((9 * ((m.1 73) - 1)) + v11) (m17.1 70)), (83, upI (m.2 83) ((9 * ((m.1 73) - 1)) + v11) (m17.1 71)), (84, (m.2 84)), (85, (m.2 85)), (86, (m.2 86)), (87, (m.2 87)), (88, (m.2 88)), (89, (m.2 89)), (90, (m.2 90)), (91, (m.2 91)), (92, (m.2 92))]) 263 83 (m.2 83) rfl rfl rfl (by omega) (show ((9 * ((m.1 73) - 1)) + v11) < (540 : Int) by omega) (by omega) rfl rfl ?_
                refine T_gf 267 (.ref 246) rfl rfl rfl rfl rfl rfl ?_
                refine T_ld 268 (.int (i32 ((9 * ((m.1 73) - 1)) + v11))) rfl (fun _ => rfl) ?_
                refine T_gf 272 (.long (i64 (m17.1 72))) rfl rfl rfl rfl rfl rfl ?_
                have G67 : ∀ j, (-9223372036854775808) ≤ (upI (m.2 84) ((9 * ((m.1 73) - 1)) + v11) (m17.1 72)) j ∧ (upI (m.2 84) ((9 * ((m.1 73) - 1)) + v11) (m17.1 72)) j ≤ 9223372036854775807 := upI_rg (hT.2.1 84) ⟨by omega, by omega⟩
                refine T_last (a' := [(65, (m17.2 65)), (66, (m17.2 66)), (67, (m17.2 67)), (68, (m17.2 68)), (76, (m.2 76)), (77, (m.2 77)), (78, (m.2 78)), (79, (m.2 79)), (80, upI (m17.2 80) ((9 * ((m.1 73) - 1)) + v11) (m.1 7)), (81, upI (m.2 81) ((9 * ((m.1 73) - 1)) + v11) (m17.1 69)), (82, upI (m.2 82) ((9 * ((m.1 73) - 1)) + v11) (m17.1 70)), (83, upI (m.2 83) ((9 * ((m.1 73) - 1)) + v11) (m17.1 71)), (84, upI (m.2 84) ((9 * ((m.1 73) - 1)) + v11) (m17.1 72)), (85, (m.2 85)), (86, (m.2 86)), (87, (m.2 87)), (88, (m.2 88)), (89, (m.2 89)), (90, (m.2 90)), (91, (m.2 91)), (92, (m.2 92))]) 273 84 (m.2 84) rfl rfl rfl (by omega) (show ((9 * ((m.1 73) - 1)) + v11) < (540 : Int) by omega) rfl rfl ?_
                refine T_ld 274 (.ref 189) rfl (fun _ => rfl) ?_
                refine T_call 277 212 [.ref 189] [] rfl (fun _ => rfl) rfl (c_next w (mO m [(7, (m.1 7)), (8, (m.1 8)), (9, (m.1 9)), (10, (m17.1 10)), (11, (m17.1 11)), (12, (m.1 12)), (28, (m17.1 28)), (69, (m17.1 69)), (70, (m17.1 70)), (71, (m17.1 71)), (72, (m17.1 72)), (73, (m.1 73)), (74, (m.1 74)), (75, (m.1 75))] [(65, (m17.2 65)), (66, (m17.2 66)), (67, (m17.2 67)), (68, (m17.2 68)), (76, (m.2 76)), (77, (m.2 77)), (78, (m.2 78)), (79, (m.2 79)), (80, upI (m17.2 80) ((9 * ((m.1 73) - 1)) + v11) (m.1 7)), (81, upI (m.2 81) ((9 * ((m.1 73) - 1)) + v11) (m17.1 69)), (82, upI (m.2 82) ((9 * ((m.1 73) - 1)) + v11) (m17.1 70)), (83, upI (m.2 83) ((9 * ((m.1 73) - 1)) + v11) (m17.1 71)), (84, upI (m.2 84) ((9 * ((m.1 73) - 1)) + v11) (m17.1 72)), (85, (m.2 85)), (86, (m.2 86)), (87, (m.2 87)), (88, (m.2 88)), (89, (m.2 89)), (90, (m.2 90)), (91, (m.2 91)), (92, (m.2 92))]) c N D (by omega) (Ty_mO hT rfl rfl ⟨f7, f8, f9, (q20.1 10), (q20.1 11), f12, (q20.1 28), (q20.1 69), (q20.1 70), (q20.1 71), (q20.1 72), f73, f74, f75, trivial⟩ ⟨(q20.2.1 65), (q20.2.1 66), (q20.2.1 67), (q20.2.1 68), (hT.2.1 76), (hT.2.1 77), (hT.2.1 78), (hT.2.1 79), G63, G64, G65, G66, G67, (hT.2.1 85), (hT.2.1 86), (hT.2.1 87), (hT.2.1 88), (hT.2.1 89), (hT.2.1 90), (hT.2.1 91), (hT.2.1 92), trivial⟩) (show (m17.1 10) = 0 → (m.1 8) + (m.1 9) ≤ (m.1 6) by first | omega | (intro h9; have h8 := hLx h9; omega))) (fun rr68 k69 => ?_)
                obtain ⟨y70, y72, y74, y76, y78, y80, g71, g73, g75, g77, g79, g81, h82, h83, h84, h85, rfl⟩ := k69
                refine ⟨_, _, rfl, ?_⟩
                refine T_nf2 (st' := []) (l' := [(7, y70), (8, y72), (9, y74), (10, y76), (11, y78), (12, y80), (28, (m17.1 28)), (69, (m17.1 69)), (70, (m17.1 70)), (71, (m17.1 71)), (72, (m17.1 72)), (73, (m.1 73)), (74, (m.1 74)), (75, (m.1 75))]) (a' := [(65, (m17.2 65)), (66, (m17.2 66)), (67, (m17.2 67)), (68, (m17.2 68)), (76, (m.2 76)), (77, (m.2 77)), (78, (m.2 78)), (79, (m.2 79)), (80, upI (m17.2 80) ((9 * ((m.1 73) - 1)) + v11) (m.1 7)), (81, upI (m.2 81) ((9 * ((m.1 73) - 1)) + v11) (m17.1 69)), (82, upI (m.2 82) ((9 * ((m.1 73) - 1)) + v11) (m17.1 70)), (83, upI (m.2 83) ((9 * ((m.1 73) - 1)) + v11) (m17.1 71)), (84, upI (m.2 84) ((9 * ((m.1 73) - 1)) + v11) (m17.1 72)), (85, (m.2 85)), (86, (m.2 86)), (87, (m.2 87)), (88, (m.2 88)), (89, (m.2 89)), (90, (m.2 90)), (91, (m.2 91)), (92, (m.2 92))]) [7, 8, 9, 10, 11, 12] [] rfl ⟨rfl, rfl, rfl, rfl, rfl, rfl, rfl, rfl, rfl, rfl, rfl, rfl, rfl, rfl, rfl, rfl, rfl, rfl, rfl, rfl, rfl, rfl, rfl, rfl, rfl, rfl, rfl, rfl, trivial⟩ ⟨rfl, rfl, rfl, rfl, rfl, rfl, rfl, rfl, rfl, rfl, rfl, rfl, rfl, rfl, rfl, rfl, rfl, rfl, rfl, rfl, rfl, rfl, rfl, rfl, rfl, rfl, rfl, rfl, rfl, rfl, rfl, rfl, rfl, rfl, rfl, rfl, rfl, rfl, rfl, rfl, rfl, rfl, trivial⟩ rfl rfl (by decide) (by decide) ?_
                by_cases hf86 : y76 = 0
                · skip
                  subst hf86
                  replace h82 : LxP y70 y72 y74 (m.1 6) (0 : Int) := h82
                  have hLx := h82
                  replace h83 : (m17.1 10) = 0 := h83 rfl
                  replace h84 : (m.1 8) ≤ y72 := h84
                  replace h85 : (m.1 8) + (m.1 9) ≤ y72 := h85 rfl
                  have hAgC : agr (m.2 65) (m17.2 65) (m.1 28) := by first | exact agr_r _ _ | exact hAgC | exact agr_t hAgC hAg (by omega)
                  refine T_ld 278 (.ref 189) rfl (fun _ => rfl) ?_
                  refine T_ld 279 (.int (i32 0)) rfl (fun _ => rfl) ?_
                  refine T_pf (l' := [(7, y70), (8, y72), (9, y74), (10, 0), (11, y78), (12, y80), (28, (m17.1 28)), (69, (m17.1 69)), (70, (m17.1 70)), (71, (m17.1 71)), (72, (m17.1 72)), (73, (m.1 73)), (74, (m.1 74)), (75, 0)]) 282 0 rfl rfl rfl rfl rfl rfl ?_
                  have hXE : XS (m17.2 65) (m17.2 67) (m.2 76) (m.2 78) (m.2 79) (upI (m17.2 80) ((9 * ((m.1 73) - 1)) + v11) (m.1 7)) B (m17.1 28) (m.1 73) (m.1 74) (um (0 : Int)) := by
                    rw [show um (0 : Int) = 0 from if_pos (by omega)]
                    exact hXE0
                  refine T_goto 290 rfl (fun _ => rfl) ?_
                  refine T_ret rfl (fun _ => rfl) ?_
                  exact ⟨(mO m [(7, y70), (8, y72), (9, y74), (10, 0), (11, y78), (12, y80), (28, (m17.1 28)), (69, (m17.1 69)), (70, (m17.1 70)), (71, (m17.1 71)), (72, (m17.1 72)), (73, (m.1 73)), (74, (m.1 74)), (75, 0)] [(65, (m17.2 65)), (66, (m17.2 66)), (67, (m17.2 67)), (68, (m17.2 68)), (76, (m.2 76)), (77, (m.2 77)), (78, (m.2 78)), (79, (m.2 79)), (80, upI (m17.2 80) ((9 * ((m.1 73) - 1)) + v11) (m.1 7)), (81, upI (m.2 81) ((9 * ((m.1 73) - 1)) + v11) (m17.1 69)), (82, upI (m.2 82) ((9 * ((m.1 73) - 1)) + v11) (m17.1 70)), (83, upI (m.2 83) ((9 * ((m.1 73) - 1)) + v11) (m17.1 71)), (84, upI (m.2 84) ((9 * ((m.1 73) - 1)) + v11) (m17.1 72)), (85, (m.2 85)), (86, (m.2 86)), (87, (m.2 87)), (88, (m.2 88)), (89, (m.2 89)), (90, (m.2 90)), (91, (m.2 91)), (92, (m.2 92))]), (Ty_mO hT rfl rfl ⟨g71, g73, g75, ⟨(by omega : (0 : Int) ≤ 0), (by omega : (0 : Int) ≤ 8)⟩, g79, g81, (q20.1 28), (q20.1 69), (q20.1 70), (q20.1 71), (q20.1 72), f73, f74, ⟨(by omega : (0 : Int) ≤ 0), (by omega : (0 : Int) ≤ 3)⟩, trivial⟩ ⟨(q20.2.1 65), (q20.2.1 66), (q20.2.1 67), (q20.2.1 68), (hT.2.1 76), (hT.2.1 77), (hT.2.1 78), (hT.2.1 79), G63, G64, G65, G66, G67, (hT.2.1 85), (hT.2.1 86), (hT.2.1 87), (hT.2.1 88), (hT.2.1 89), (hT.2.1 90), (hT.2.1 91), (hT.2.1 92), trivial⟩), (show (0 : Int) = 0 → (m.1 10) = 0 by omega), (show LxP y70 y72 y74 (m.1 6) (0 : Int) by first | (first | exact hLx | exact (fun _ => hLx (by omega)) | (intro h9; exfalso; omega)) | (exfalso; omega)), (fun _ => ⟨(show GP (m.1 8) y72 (0 : Int) (m.1 73) (m.1 73) by first | (first | assumption | (unfold GP; omega)) | (exfalso; omega)), (show GU (0 : Int) (m17.1 69) by first | (first | assumption | (unfold GU; omega)) | (exfalso; omega)), (show GH (0 : Int) (m.1 73) by first | (first | assumption | (unfold GH; omega)) | (exfalso; omega)), (show (m.1 28) ≤ (m17.1 28) by omega), (show XS (m17.2 65) (m17.2 67) (m.2 76) (m.2 78) (m.2 79) (upI (m17.2 80) ((9 * ((m.1 73) - 1)) + v11) (m.1 7)) B (m17.1 28) (m.1 73) (m.1 74) (um (0 : Int)) by first | (exact hXE) | (exfalso; omega)), (show agr (m.2 65) (m17.2 65) (m.1 28) by first | (exact hAgC) | (exfalso; omega))⟩), rfl⟩
                · skip
                  replace h82 : LxP y70 y72 y74 (m.1 6) y76 := h82
                  have hLx := h82
                  clear h83
                  replace h84 : (m.1 8) ≤ y72 := h84
                  clear h85
                  have hf87 : 1 ≤ y76 := by omega
                  refine T_ld 278 (.ref 189) rfl (fun _ => rfl) ?_
                  refine T_ld 279 (.int (i32 0)) rfl (fun _ => rfl) ?_
                  refine T_pf (l' := [(7, y70), (8, y72), (9, y74), (10, y76), (11, y78), (12, y80), (28, (m17.1 28)), (69, (m17.1 69)), (70, (m17.1 70)), (71, (m17.1 71)), (72, (m17.1 72)), (73, (m.1 73)), (74, (m.1 74)), (75, 0)]) 282 0 rfl rfl rfl rfl rfl rfl ?_
                  refine T_goto 290 rfl (fun _ => rfl) ?_
                  refine T_ret rfl (fun _ => rfl) ?_
                  exact ⟨(mO m [(7, y70), (8, y72), (9, y74), (10, y76), (11, y78), (12, y80), (28, (m17.1 28)), (69, (m17.1 69)), (70, (m17.1 70)), (71, (m17.1 71)), (72, (m17.1 72)), (73, (m.1 73)), (74, (m.1 74)), (75, 0)] [(65, (m17.2 65)), (66, (m17.2 66)), (67, (m17.2 67)), (68, (m17.2 68)), (76, (m.2 76)), (77, (m.2 77)), (78, (m.2 78)), (79, (m.2 79)), (80, upI (m17.2 80) ((9 * ((m.1 73) - 1)) + v11) (m.1 7)), (81, upI (m.2 81) ((9 * ((m.1 73) - 1)) + v11) (m17.1 69)), (82, upI (m.2 82) ((9 * ((m.1 73) - 1)) + v11) (m17.1 70)), (83, upI (m.2 83) ((9 * ((m.1 73) - 1)) + v11) (m17.1 71)), (84, upI (m.2 84) ((9 * ((m.1 73) - 1)) + v11) (m17.1 72)), (85, (m.2 85)), (86, (m.2 86)), (87, (m.2 87)), (88, (m.2 88)), (89, (m.2 89)), (90, (m.2 90)), (91, (m.2 91)), (92, (m.2 92))]), (Ty_mO hT rfl rfl ⟨g71, g73, g75, g77, g79, g81, (q20.1 28), (q20.1 69), (q20.1 70), (q20.1 71), (q20.1 72), f73, f74, ⟨(by omega : (0 : Int) ≤ 0), (by omega : (0 : Int) ≤ 3)⟩, trivial⟩ ⟨(q20.2.1 65), (q20.2.1 66), (q20.2.1 67), (q20.2.1 68), (hT.2.1 76), (hT.2.1 77), (hT.2.1 78), (hT.2.1 79), G63, G64, G65, G66, G67, (hT.2.1 85), (hT.2.1 86), (hT.2.1 87), (hT.2.1 88), (hT.2.1 89), (hT.2.1 90), (hT.2.1 91), (hT.2.1 92), trivial⟩), (show y76 = 0 → (m.1 10) = 0 by omega), (show LxP y70 y72 y74 (m.1 6) y76 by first | (first | exact hLx | exact (fun _ => hLx (by omega)) | (intro h9; exfalso; omega)) | (exfalso; omega)), (fun (h : y76 = 0) => absurd h (by omega)), rfl⟩
            · skip
              refine T_ld 167 (.int (i32 v16)) rfl (fun _ => rfl) ?_
              refine T_ld 168 (.int (i32 v11)) rfl (fun _ => rfl) ?_
              refine T_icmp 204 171 rfl rfl rfl (r32 (by omega) (by omega)) (r32 (by omega) (by omega)) (fun (h88 : v16 < v11) => ?_) (fun (h88 : ¬ (v16 < v11)) => ?_)
              · skip
                refine T_gf 208 (.int (i32 (m17.1 10))) rfl rfl rfl rfl rfl rfl ?_
                refine T_if 212 211 rfl rfl rfl (r32 (by omega) (by omega)) (fun (h89 : (m17.1 10) ≤ 0) => ?_) (fun (h89 : ¬ ((m17.1 10) ≤ 0)) => by exfalso; omega)
                refine T_ld 213 (.int (i32 v11)) rfl (fun _ => rfl) ?_
                refine T_if 285 216 rfl rfl rfl (r32 (by omega) (by omega)) (fun (h90 : v11 < 0) => by exfalso; omega) (fun (h90 : ¬ (v11 < 0)) => ?_)
                refine T_ld 218 (.int (i32 9)) rfl (fun _ => rfl) ?_
                refine T_ld 219 (.int (i32 ((m.1 73) - 1))) rfl (fun _ => rfl) ?_
                refine T_imul 220 rfl rfl ?_
                refine T_ld 221 (.int (i32 v11)) rfl (fun _ => rfl) ?_
                refine T_iadd 222 rfl rfl ?_
                refine T_sto 223 [(3, .int (i32 ((9 * ((m.1 73) - 1)) + v11))), (0, .ref 189), (1, .int (i32 ((m.1 73) - 1))), (2, .int (i32 v11))] rfl (fun _ => rfl) ?_
                have hXE0 := XS_ws (i := ((9 * ((m.1 73) - 1)) + v11)) (x := (m.1 7)) (U' := 0) hXS (by omega) (by omega) (by omega) (by have := cn1_0 (m17.2 80) ((9 * ((m.1 73) - 1)) + v11); split <;> omega)
                refine T_gf 227 (.ref 242) rfl rfl rfl rfl rfl rfl ?_
                refine T_ld 228 (.int (i32 ((9 * ((m.1 73) - 1)) + v11))) rfl (fun _ => rfl) ?_
                refine T_gf 232 (.int (i32 (m.1 7))) rfl rfl rfl rfl rfl rfl ?_
                have G91 : ∀ j, (-1) ≤ (upI (m17.2 80) ((9 * ((m.1 73) - 1)) + v11) (m.1 7)) j ∧ (upI (m17.2 80) ((9 * ((m.1 73) - 1)) + v11) (m.1 7)) j ≤ 330 := upI_rg (q20.2.1 80) ⟨by omega, by omega⟩
                refine T_iast (a' := [(65, (m17.2 65)), (66, (m17.2 66)), (67, (m17.2 67)), (68, (m17.2 68)), (76, (m.2 76)), (77, (m.2 77)), (78, (m.2 78)), (79, (m.2 79)), (80, upI (m17.2 80) ((9 * ((m.1 73) - 1)) + v11) (m.1 7)), (81, (m.2 81)), (82, (m.2 82)), (83, (m.2 83)), (84, (m.2 84)), (85, (m.2 85)), (86, (m.2 86)), (87, (m.2 87)), (88, (m.2 88)), (89, (m.2 89)), (90, (m.2 90)), (91, (m.2 91)), (92, (m.2 92))]) 233 80 (m17.2 80) rfl rfl rfl (by omega) (show ((9 * ((m.1 73) - 1)) + v11) < (540 : Int) by omega) rfl rfl ?_
                refine T_gf 237 (.ref 243) rfl rfl rfl rfl rfl rfl ?_
                refine T_ld 238 (.int (i32 ((9 * ((m.1 73) - 1)) + v11))) rfl (fun _ => rfl) ?_
                refine T_gf 242 (.int (i32 (m17.1 69))) rfl rfl rfl rfl rfl rfl ?_
                have G92 : ∀ j, 0 ≤ (upI (m.2 81) ((9 * ((m.1 73) - 1)) + v11) (m17.1 69)) j ∧ (upI (m.2 81) ((9 * ((m.1 73) - 1)) + v11) (m17.1 69)) j ≤ 64 := upI_rg (hT.2.1 81) ⟨by omega, by omega⟩
                refine T_iast (a' := [(65, (m17.2 65)), (66, (m17.2 66)), (67, (m17.2 67)), (68, (m17.2 68)), (76, (m.2 76)), (77, (m.2 77)), (78, (m.2 78)), (79, (m.2 79)), (80, upI (m17.2 80) ((9 * ((m.1 73) - 1)) + v11) (m.1 7)), (81, upI (m.2 81) ((9 * ((m.1 73) - 1)) + v11) (m17.1 69)), (82, (m.2 82)), (83, (m.2 83)), (84, (m.2 84)), (85, (m.2 85)), (86, (m.2 86)), (87, (m.2 87)), (88, (m.2 88)), (89, (m.2 89)), (90, (m.2 90)), (91, (m.2 91)), (92, (m.2 92))]) 243 81 (m.2 81) rfl rfl rfl (by omega) (show ((9 * ((m.1 73) - 1)) + v11) < (540 : Int) by omega) rfl rfl ?_
                refine T_gf 247 (.ref 244) rfl rfl rfl rfl rfl rfl ?_
                refine T_ld 248 (.int (i32 ((9 * ((m.1 73) - 1)) + v11))) rfl (fun _ => rfl) ?_
                refine T_gf 252 (.int (i32 (m17.1 70))) rfl rfl rfl rfl rfl rfl ?_
                have G93 : ∀ j, 0 ≤ (upI (m.2 82) ((9 * ((m.1 73) - 1)) + v11) (m17.1 70)) j ∧ (upI (m.2 82) ((9 * ((m.1 73) - 1)) + v11) (m17.1 70)) j ≤ 4000 := upI_rg (hT.2.1 82) ⟨by omega, by omega⟩
                refine T_iast (a' := [(65, (m17.2 65)), (66, (m17.2 66)), (67, (m17.2 67)), (68, (m17.2 68)), (76, (m.2 76)), (77, (m.2 77)), (78, (m.2 78)), (79, (m.2 79)), (80, upI (m17.2 80) ((9 * ((m.1 73) - 1)) + v11) (m.1 7)), (81, upI (m.2 81) ((9 * ((m.1 73) - 1)) + v11) (m17.1 69)), (82, upI (m.2 82) ((9 * ((m.1 73) - 1)) + v11) (m17.1 70)), (83, (m.2 83)), (84, (m.2 84)), (85, (m.2 85)), (86, (m.2 86)), (87, (m.2 87)), (88, (m.2 88)), (89, (m.2 89)), (90, (m.2 90)), (91, (m.2 91)), (92, (m.2 92))]) 253 82 (m.2 82) rfl rfl rfl (by omega) (show ((9 * ((m.1 73) - 1)) + v11) < (540 : Int) by omega) rfl rfl ?_
                refine T_gf 257 (.ref 245) rfl rfl rfl rfl rfl rfl ?_
                refine T_ld 258 (.int (i32 ((9 * ((m.1 73) - 1)) + v11))) rfl (fun _ => rfl) ?_
                refine T_gf 262 (.int (i32 (m17.1 71))) rfl rfl rfl rfl rfl rfl ?_
                have G94 : ∀ j, 0 ≤ (upI (m.2 83) ((9 * ((m.1 73) - 1)) + v11) (m17.1 71)) j ∧ (upI (m.2 83) ((9 * ((m.1 73) - 1)) + v11) (m17.1 71)) j ≤ 1 := upI_rg (hT.2.1 83) ⟨by omega, by omega⟩
                refine T_bast (a' := [(65, (m17.2 65)), (66, (m17.2 66)), (67, (m17.2 67)), (68, (m17.2 68)), (76, (m.2 76)), (77, (m.2 77)), (78, (m.2 78)), (79, (m.2 79)), (80, upI (m17.2 80) ((9 * ((m.1 73) - 1)) + v11) (m.1 7)), (81, upI (m.2 81) ((9 * ((m.1 73) - 1)) + v11) (m17.1 69)), (82, upI (m.2 82) ((9 * ((m.1 73) - 1)) + v11) (m17.1 70)), (83, upI (m.2 83) ((9 * ((m.1 73) - 1)) + v11) (m17.1 71)), (84, (m.2 84)), (85, (m.2 85)), (86, (m.2 86)), (87, (m.2 87)), (88, (m.2 88)), (89, (m.2 89)), (90, (m.2 90)), (91, (m.2 91)), (92, (m.2 92))]) 263 83 (m.2 83) rfl rfl rfl (by omega) (show ((9 * ((m.1 73) - 1)) + v11) < (540 : Int) by omega) (by omega) rfl rfl ?_
                refine T_gf 267 (.ref 246) rfl rfl rfl rfl rfl rfl ?_
                refine T_ld 268 (.int (i32 ((9 * ((m.1 73) - 1)) + v11))) rfl (fun _ => rfl) ?_
                refine T_gf 272 (.long (i64 (m17.1 72))) rfl rfl rfl rfl rfl rfl ?_
                have G95 : ∀ j, (-9223372036854775808) ≤ (upI (m.2 84) ((9 * ((m.1 73) - 1)) + v11) (m17.1 72)) j ∧ (upI (m.2 84) ((9 * ((m.1 73) - 1)) + v11) (m17.1 72)) j ≤ 9223372036854775807 := upI_rg (hT.2.1 84) ⟨by omega, by omega⟩
                refine T_last (a' := [(65, (m17.2 65)), (66, (m17.2 66)), (67, (m17.2 67)), (68, (m17.2 68)), (76, (m.2 76)), (77, (m.2 77)), (78, (m.2 78)), (79, (m.2 79)), (80, upI (m17.2 80) ((9 * ((m.1 73) - 1)) + v11) (m.1 7)), (81, upI (m.2 81) ((9 * ((m.1 73) - 1)) + v11) (m17.1 69)), (82, upI (m.2 82) ((9 * ((m.1 73) - 1)) + v11) (m17.1 70)), (83, upI (m.2 83) ((9 * ((m.1 73) - 1)) + v11) (m17.1 71)), (84, upI (m.2 84) ((9 * ((m.1 73) - 1)) + v11) (m17.1 72)), (85, (m.2 85)), (86, (m.2 86)), (87, (m.2 87)), (88, (m.2 88)), (89, (m.2 89)), (90, (m.2 90)), (91, (m.2 91)), (92, (m.2 92))]) 273 84 (m.2 84) rfl rfl rfl (by omega) (show ((9 * ((m.1 73) - 1)) + v11) < (540 : Int) by omega) rfl rfl ?_
                refine T_ld 274 (.ref 189) rfl (fun _ => rfl) ?_
                refine T_call 277 212 [.ref 189] [] rfl (fun _ => rfl) rfl (c_next w (mO m [(7, (m.1 7)), (8, (m.1 8)), (9, (m.1 9)), (10, (m17.1 10)), (11, (m17.1 11)), (12, (m.1 12)), (28, (m17.1 28)), (69, (m17.1 69)), (70, (m17.1 70)), (71, (m17.1 71)), (72, (m17.1 72)), (73, (m.1 73)), (74, (m.1 74)), (75, (m.1 75))] [(65, (m17.2 65)), (66, (m17.2 66)), (67, (m17.2 67)), (68, (m17.2 68)), (76, (m.2 76)), (77, (m.2 77)), (78, (m.2 78)), (79, (m.2 79)), (80, upI (m17.2 80) ((9 * ((m.1 73) - 1)) + v11) (m.1 7)), (81, upI (m.2 81) ((9 * ((m.1 73) - 1)) + v11) (m17.1 69)), (82, upI (m.2 82) ((9 * ((m.1 73) - 1)) + v11) (m17.1 70)), (83, upI (m.2 83) ((9 * ((m.1 73) - 1)) + v11) (m17.1 71)), (84, upI (m.2 84) ((9 * ((m.1 73) - 1)) + v11) (m17.1 72)), (85, (m.2 85)), (86, (m.2 86)), (87, (m.2 87)), (88, (m.2 88)), (89, (m.2 89)), (90, (m.2 90)), (91, (m.2 91)), (92, (m.2 92))]) c N D (by omega) (Ty_mO hT rfl rfl ⟨f7, f8, f9, (q20.1 10), (q20.1 11), f12, (q20.1 28), (q20.1 69), (q20.1 70), (q20.1 71), (q20.1 72), f73, f74, f75, trivial⟩ ⟨(q20.2.1 65), (q20.2.1 66), (q20.2.1 67), (q20.2.1 68), (hT.2.1 76), (hT.2.1 77), (hT.2.1 78), (hT.2.1 79), G91, G92, G93, G94, G95, (hT.2.1 85), (hT.2.1 86), (hT.2.1 87), (hT.2.1 88), (hT.2.1 89), (hT.2.1 90), (hT.2.1 91), (hT.2.1 92), trivial⟩) (show (m17.1 10) = 0 → (m.1 8) + (m.1 9) ≤ (m.1 6) by first | omega | (intro h9; have h8 := hLx h9; omega))) (fun rr96 k97 => ?_)
                obtain ⟨y98, y100, y102, y104, y106, y108, g99, g101, g103, g105, g107, g109, h110, h111, h112, h113, rfl⟩ := k97
                refine ⟨_, _, rfl, ?_⟩
                refine T_nf2 (st' := []) (l' := [(7, y98), (8, y100), (9, y102), (10, y104), (11, y106), (12, y108), (28, (m17.1 28)), (69, (m17.1 69)), (70, (m17.1 70)), (71, (m17.1 71)), (72, (m17.1 72)), (73, (m.1 73)), (74, (m.1 74)), (75, (m.1 75))]) (a' := [(65, (m17.2 65)), (66, (m17.2 66)), (67, (m17.2 67)), (68, (m17.2 68)), (76, (m.2 76)), (77, (m.2 77)), (78, (m.2 78)), (79, (m.2 79)), (80, upI (m17.2 80) ((9 * ((m.1 73) - 1)) + v11) (m.1 7)), (81, upI (m.2 81) ((9 * ((m.1 73) - 1)) + v11) (m17.1 69)), (82, upI (m.2 82) ((9 * ((m.1 73) - 1)) + v11) (m17.1 70)), (83, upI (m.2 83) ((9 * ((m.1 73) - 1)) + v11) (m17.1 71)), (84, upI (m.2 84) ((9 * ((m.1 73) - 1)) + v11) (m17.1 72)), (85, (m.2 85)), (86, (m.2 86)), (87, (m.2 87)), (88, (m.2 88)), (89, (m.2 89)), (90, (m.2 90)), (91, (m.2 91)), (92, (m.2 92))]) [7, 8, 9, 10, 11, 12] [] rfl ⟨rfl, rfl, rfl, rfl, rfl, rfl, rfl, rfl, rfl, rfl, rfl, rfl, rfl, rfl, rfl, rfl, rfl, rfl, rfl, rfl, rfl, rfl, rfl, rfl, rfl, rfl, rfl, rfl, trivial⟩ ⟨rfl, rfl, rfl, rfl, rfl, rfl, rfl, rfl, rfl, rfl, rfl, rfl, rfl, rfl, rfl, rfl, rfl, rfl, rfl, rfl, rfl, rfl, rfl, rfl, rfl, rfl, rfl, rfl, rfl, rfl, rfl, rfl, rfl, rfl, rfl, rfl, rfl, rfl, rfl, rfl, rfl, rfl, trivial⟩ rfl rfl (by decide) (by decide) ?_
                by_cases hf114 : y104 = 0
                · skip
                  subst hf114
                  replace h110 : LxP y98 y100 y102 (m.1 6) (0 : Int) := h110
                  have hLx := h110
                  replace h111 : (m17.1 10) = 0 := h111 rfl
                  replace h112 : (m.1 8) ≤ y100 := h112
                  replace h113 : (m.1 8) + (m.1 9) ≤ y100 := h113 rfl
                  have hAgC : agr (m.2 65) (m17.2 65) (m.1 28) := by first | exact agr_r _ _ | exact hAgC | exact agr_t hAgC hAg (by omega)
                  refine T_ld 278 (.ref 189) rfl (fun _ => rfl) ?_
                  refine T_ld 279 (.int (i32 0)) rfl (fun _ => rfl) ?_
                  refine T_pf (l' := [(7, y98), (8, y100), (9, y102), (10, 0), (11, y106), (12, y108), (28, (m17.1 28)), (69, (m17.1 69)), (70, (m17.1 70)), (71, (m17.1 71)), (72, (m17.1 72)), (73, (m.1 73)), (74, (m.1 74)), (75, 0)]) 282 0 rfl rfl rfl rfl rfl rfl ?_
                  have hXE : XS (m17.2 65) (m17.2 67) (m.2 76) (m.2 78) (m.2 79) (upI (m17.2 80) ((9 * ((m.1 73) - 1)) + v11) (m.1 7)) B (m17.1 28) (m.1 73) (m.1 74) (um (0 : Int)) := by
                    rw [show um (0 : Int) = 0 from if_pos (by omega)]
                    exact hXE0
                  refine T_goto 290 rfl (fun _ => rfl) ?_
                  refine T_ret rfl (fun _ => rfl) ?_
                  exact ⟨(mO m [(7, y98), (8, y100), (9, y102), (10, 0), (11, y106), (12, y108), (28, (m17.1 28)), (69, (m17.1 69)), (70, (m17.1 70)), (71, (m17.1 71)), (72, (m17.1 72)), (73, (m.1 73)), (74, (m.1 74)), (75, 0)] [(65, (m17.2 65)), (66, (m17.2 66)), (67, (m17.2 67)), (68, (m17.2 68)), (76, (m.2 76)), (77, (m.2 77)), (78, (m.2 78)), (79, (m.2 79)), (80, upI (m17.2 80) ((9 * ((m.1 73) - 1)) + v11) (m.1 7)), (81, upI (m.2 81) ((9 * ((m.1 73) - 1)) + v11) (m17.1 69)), (82, upI (m.2 82) ((9 * ((m.1 73) - 1)) + v11) (m17.1 70)), (83, upI (m.2 83) ((9 * ((m.1 73) - 1)) + v11) (m17.1 71)), (84, upI (m.2 84) ((9 * ((m.1 73) - 1)) + v11) (m17.1 72)), (85, (m.2 85)), (86, (m.2 86)), (87, (m.2 87)), (88, (m.2 88)), (89, (m.2 89)), (90, (m.2 90)), (91, (m.2 91)), (92, (m.2 92))]), (Ty_mO hT rfl rfl ⟨g99, g101, g103, ⟨(by omega : (0 : Int) ≤ 0), (by omega : (0 : Int) ≤ 8)⟩, g107, g109, (q20.1 28), (q20.1 69), (q20.1 70), (q20.1 71), (q20.1 72), f73, f74, ⟨(by omega : (0 : Int) ≤ 0), (by omega : (0 : Int) ≤ 3)⟩, trivial⟩ ⟨(q20.2.1 65), (q20.2.1 66), (q20.2.1 67), (q20.2.1 68), (hT.2.1 76), (hT.2.1 77), (hT.2.1 78), (hT.2.1 79), G91, G92, G93, G94, G95, (hT.2.1 85), (hT.2.1 86), (hT.2.1 87), (hT.2.1 88), (hT.2.1 89), (hT.2.1 90), (hT.2.1 91), (hT.2.1 92), trivial⟩), (show (0 : Int) = 0 → (m.1 10) = 0 by omega), (show LxP y98 y100 y102 (m.1 6) (0 : Int) by first | (first | exact hLx | exact (fun _ => hLx (by omega)) | (intro h9; exfalso; omega)) | (exfalso; omega)), (fun _ => ⟨(show GP (m.1 8) y100 (0 : Int) (m.1 73) (m.1 73) by first | (first | assumption | (unfold GP; omega)) | (exfalso; omega)), (show GU (0 : Int) (m17.1 69) by first | (first | assumption | (unfold GU; omega)) | (exfalso; omega)), (show GH (0 : Int) (m.1 73) by first | (first | assumption | (unfold GH; omega)) | (exfalso; omega)), (show (m.1 28) ≤ (m17.1 28) by omega), (show XS (m17.2 65) (m17.2 67) (m.2 76) (m.2 78) (m.2 79) (upI (m17.2 80) ((9 * ((m.1 73) - 1)) + v11) (m.1 7)) B (m17.1 28) (m.1 73) (m.1 74) (um (0 : Int)) by first | (exact hXE) | (exfalso; omega)), (show agr (m.2 65) (m17.2 65) (m.1 28) by first | (exact hAgC) | (exfalso; omega))⟩), rfl⟩
                · skip
                  replace h110 : LxP y98 y100 y102 (m.1 6) y104 := h110
                  have hLx := h110
                  clear h111
                  replace h112 : (m.1 8) ≤ y100 := h112
                  clear h113
                  have hf115 : 1 ≤ y104 := by omega
                  refine T_ld 278 (.ref 189) rfl (fun _ => rfl) ?_
                  refine T_ld 279 (.int (i32 0)) rfl (fun _ => rfl) ?_
                  refine T_pf (l' := [(7, y98), (8, y100), (9, y102), (10, y104), (11, y106), (12, y108), (28, (m17.1 28)), (69, (m17.1 69)), (70, (m17.1 70)), (71, (m17.1 71)), (72, (m17.1 72)), (73, (m.1 73)), (74, (m.1 74)), (75, 0)]) 282 0 rfl rfl rfl rfl rfl rfl ?_
                  refine T_goto 290 rfl (fun _ => rfl) ?_
                  refine T_ret rfl (fun _ => rfl) ?_
                  exact ⟨(mO m [(7, y98), (8, y100), (9, y102), (10, y104), (11, y106), (12, y108), (28, (m17.1 28)), (69, (m17.1 69)), (70, (m17.1 70)), (71, (m17.1 71)), (72, (m17.1 72)), (73, (m.1 73)), (74, (m.1 74)), (75, 0)] [(65, (m17.2 65)), (66, (m17.2 66)), (67, (m17.2 67)), (68, (m17.2 68)), (76, (m.2 76)), (77, (m.2 77)), (78, (m.2 78)), (79, (m.2 79)), (80, upI (m17.2 80) ((9 * ((m.1 73) - 1)) + v11) (m.1 7)), (81, upI (m.2 81) ((9 * ((m.1 73) - 1)) + v11) (m17.1 69)), (82, upI (m.2 82) ((9 * ((m.1 73) - 1)) + v11) (m17.1 70)), (83, upI (m.2 83) ((9 * ((m.1 73) - 1)) + v11) (m17.1 71)), (84, upI (m.2 84) ((9 * ((m.1 73) - 1)) + v11) (m17.1 72)), (85, (m.2 85)), (86, (m.2 86)), (87, (m.2 87)), (88, (m.2 88)), (89, (m.2 89)), (90, (m.2 90)), (91, (m.2 91)), (92, (m.2 92))]), (Ty_mO hT rfl rfl ⟨g99, g101, g103, g105, g107, g109, (q20.1 28), (q20.1 69), (q20.1 70), (q20.1 71), (q20.1 72), f73, f74, ⟨(by omega : (0 : Int) ≤ 0), (by omega : (0 : Int) ≤ 3)⟩, trivial⟩ ⟨(q20.2.1 65), (q20.2.1 66), (q20.2.1 67), (q20.2.1 68), (hT.2.1 76), (hT.2.1 77), (hT.2.1 78), (hT.2.1 79), G91, G92, G93, G94, G95, (hT.2.1 85), (hT.2.1 86), (hT.2.1 87), (hT.2.1 88), (hT.2.1 89), (hT.2.1 90), (hT.2.1 91), (hT.2.1 92), trivial⟩), (show y104 = 0 → (m.1 10) = 0 by omega), (show LxP y98 y100 y102 (m.1 6) y104 by first | (first | exact hLx | exact (fun _ => hLx (by omega)) | (intro h9; exfalso; omega)) | (exfalso; omega)), (fun (h : y104 = 0) => absurd h (by omega)), rfl⟩
              · skip
                refine T_gf 175 (.ref 242) rfl rfl rfl rfl rfl rfl ?_
                refine T_ld 177 (.int (i32 9)) rfl (fun _ => rfl) ?_
                refine T_ld 178 (.int (i32 ((m.1 73) - 1))) rfl (fun _ => rfl) ?_
                refine T_imul 179 rfl rfl ?_
                refine T_ld 180 (.int (i32 v16)) rfl (fun _ => rfl) ?_
                refine T_iadd 181 rfl rfl ?_
                refine T_iald 182 80 (m17.2 80) rfl rfl rfl (by omega) (show ((9 * ((m.1 73) - 1)) + v16) < (540 : Int) by omega) rfl ?_
                have e116 : (-1) ≤ (m17.2 80) ((9 * ((m.1 73) - 1)) + v16) ∧ (m17.2 80) ((9 * ((m.1 73) - 1)) + v16) ≤ 330 := (q20.2.1 80) ((9 * ((m.1 73) - 1)) + v16)
                refine T_if 188 185 rfl rfl rfl (r32 (by omega) (by omega)) (fun (h117 : (0 : Int) ≤ (m17.2 80) ((9 * ((m.1 73) - 1)) + v16)) => ?_) (fun (h117 : ¬ ((0 : Int) ≤ (m17.2 80) ((9 * ((m.1 73) - 1)) + v16))) => ?_)
                · skip
                  refine T_ld 189 (.ref 189) rfl (fun _ => rfl) ?_
                  refine T_ld 191 (.int (i32 9)) rfl (fun _ => rfl) ?_
                  refine T_ld 192 (.int (i32 ((m.1 73) - 1))) rfl (fun _ => rfl) ?_
                  refine T_imul 193 rfl rfl ?_
                  refine T_ld 194 (.int (i32 v16)) rfl (fun _ => rfl) ?_
                  refine T_iadd 195 rfl rfl ?_
                  refine T_call 198 260 [.ref 189, .int (i32 ((9 * ((m.1 73) - 1)) + v16))] [] rfl (fun _ => rfl) rfl (c_join w (mO m [(7, (m.1 7)), (8, (m.1 8)), (9, (m.1 9)), (10, (m17.1 10)), (11, (m17.1 11)), (12, (m.1 12)), (28, (m17.1 28)), (69, (m17.1 69)), (70, (m17.1 70)), (71, (m17.1 71)), (72, (m17.1 72)), (73, (m.1 73)), (74, (m.1 74)), (75, (m.1 75))] [(65, (m17.2 65)), (66, (m17.2 66)), (67, (m17.2 67)), (68, (m17.2 68)), (76, (m.2 76)), (77, (m.2 77)), (78, (m.2 78)), (79, (m.2 79)), (80, (m17.2 80)), (81, (m.2 81)), (82, (m.2 82)), (83, (m.2 83)), (84, (m.2 84)), (85, (m.2 85)), (86, (m.2 86)), (87, (m.2 87)), (88, (m.2 88)), (89, (m.2 89)), (90, (m.2 90)), (91, (m.2 91)), (92, (m.2 92))]) c N D (by omega) (Ty_mO hT rfl rfl ⟨f7, f8, f9, (q20.1 10), (q20.1 11), f12, (q20.1 28), (q20.1 69), (q20.1 70), (q20.1 71), (q20.1 72), f73, f74, f75, trivial⟩ ⟨(q20.2.1 65), (q20.2.1 66), (q20.2.1 67), (q20.2.1 68), (hT.2.1 76), (hT.2.1 77), (hT.2.1 78), (hT.2.1 79), (q20.2.1 80), (hT.2.1 81), (hT.2.1 82), (hT.2.1 83), (hT.2.1 84), (hT.2.1 85), (hT.2.1 86), (hT.2.1 87), (hT.2.1 88), (hT.2.1 89), (hT.2.1 90), (hT.2.1 91), (hT.2.1 92), trivial⟩) ((9 * ((m.1 73) - 1)) + v16) B (r32 (by omega) (by omega)) (show 0 ≤ ((9 * ((m.1 73) - 1)) + v16) ∧ ((9 * ((m.1 73) - 1)) + v16) ≤ 539 by omega) (show (m17.1 69) ≤ 900 by omega) (fun _ => ⟨(show XS (m17.2 65) (m17.2 67) (m.2 76) (m.2 78) (m.2 79) (m17.2 80) B (m17.1 28) (m.1 73) (m.1 74) 1 by first | exact hXS | assumption), (show (m17.1 69) ≤ 64 by omega), (show 1 ≤ (m.1 73) by omega), (show 9 * ((m.1 73) - 1) ≤ ((9 * ((m.1 73) - 1)) + v16) ∧ ((9 * ((m.1 73) - 1)) + v16) < 9 * (m.1 73) by omega), (show 0 ≤ (m17.2 80) ((9 * ((m.1 73) - 1)) + v16) by omega)⟩)) (fun rr118 k119 => ?_)
                  obtain ⟨m120, hT121, h122, h123, c124, rfl⟩ := k119
                  refine ⟨_, _, rfl, ?_⟩
                  refine T_nf2 (st' := []) (l' := [(7, (m.1 7)), (8, (m.1 8)), (9, (m.1 9)), (10, (m120.1 10)), (11, (m120.1 11)), (12, (m.1 12)), (28, (m120.1 28)), (69, (m120.1 69)), (70, (m120.1 70)), (71, (m120.1 71)), (72, (m120.1 72)), (73, (m.1 73)), (74, (m.1 74)), (75, (m.1 75))]) (a' := [(65, (m120.2 65)), (66, (m120.2 66)), (67, (m120.2 67)), (68, (m120.2 68)), (76, (m.2 76)), (77, (m.2 77)), (78, (m.2 78)), (79, (m.2 79)), (80, (m120.2 80)), (81, (m.2 81)), (82, (m.2 82)), (83, (m.2 83)), (84, (m.2 84)), (85, (m.2 85)), (86, (m.2 86)), (87, (m.2 87)), (88, (m.2 88)), (89, (m.2 89)), (90, (m.2 90)), (91, (m.2 91)), (92, (m.2 92))]) [10, 11, 28, 69, 70, 71, 72] [65, 66, 67, 68, 80] rfl ⟨rfl, rfl, rfl, rfl, rfl, rfl, rfl, rfl, rfl, rfl, rfl, rfl, rfl, rfl, rfl, rfl, rfl, rfl, rfl, rfl, rfl, rfl, rfl, rfl, rfl, rfl, rfl, rfl, rfl, rfl, rfl, rfl, trivial⟩ ⟨rfl, rfl, rfl, rfl, rfl, rfl, rfl, rfl, rfl, rfl, rfl, rfl, rfl, rfl, rfl, rfl, rfl, rfl, rfl, rfl, rfl, rfl, rfl, rfl, rfl, rfl, rfl, rfl, rfl, rfl, rfl, rfl, rfl, rfl, rfl, rfl, rfl, rfl, rfl, rfl, rfl, rfl, rfl, rfl, rfl, rfl, trivial⟩ rfl rfl (by decide) (by decide) ?_
                  have g125 : 0 ≤ m120.1 10 ∧ m120.1 10 ≤ 8 := hT121.1 10
                  have g126 : (-1) ≤ m120.1 11 ∧ m120.1 11 ≤ 4000 := hT121.1 11
                  have g127 : 0 ≤ m120.1 28 ∧ m120.1 28 ≤ 800 := hT121.1 28
                  have g128 : 0 ≤ m120.1 69 ∧ m120.1 69 ≤ 1024 := hT121.1 69
                  have g129 : 0 ≤ m120.1 70 ∧ m120.1 70 ≤ 4000 := hT121.1 70
                  have g130 : 0 ≤ m120.1 71 ∧ m120.1 71 ≤ 1 := hT121.1 71
                  have g131 : (-9223372036854775808) ≤ m120.1 72 ∧ m120.1 72 ≤ 9223372036854775807 := hT121.1 72
                  by_cases hf132 : (m120.1 10) = 0
                  · skip
                    replace h122 : (m17.1 10) = 0 := h122 hf132
                    replace h123 : (m120.1 69) ≤ (m17.1 69) + 64 := h123
                    obtain ⟨c133, c134, c135, c136, c137⟩ := c124 hf132
                    replace c133 : (m120.1 69) ≤ 64 := c133
                    replace c134 : (m120.1 28) = (m17.1 28) + 1 := c134
                    replace c135 : XS (m120.2 65) (m120.2 67) (m.2 76) (m.2 78) (m.2 79) (m120.2 80) B (m120.1 28) (m.1 73) (m.1 74) 1 := c135
                    have hXS := c135
                    replace c136 : agr (m17.2 65) (m120.2 65) (m17.1 28) := c136
                    have hAg := c136
                    replace c137 : (m120.2 80) = upI (m17.2 80) ((9 * ((m.1 73) - 1)) + v16) (-1) := c137
                    have hWS := c137
                    clear c124
                    have hAgC : agr (m.2 65) (m120.2 65) (m.1 28) := by first | exact agr_r _ _ | exact hAgC | exact agr_t hAgC hAg (by omega)
                    refine T_iinc 201 [(3, .int (i32 (v16 + (-1)))), (0, .ref 189), (1, .int (i32 ((m.1 73) - 1))), (2, .int (i32 v11))] rfl rfl (by decide) rfl rfl ?_
                    refine T_goto 162 rfl (fun _ => rfl) ?_
                    refine Tm_lv (a := [(0, .ref 189), (1, .int (i32 ((m.1 73) - 1))), (2, .int (i32 v11)), (3, .int (i32 (v16 + (-1))))]) rfl rfl ⟨rfl, rfl, rfl, rfl, trivial⟩ ?_
                    exact ih25 (v16 + (-1)) (mO m [(7, (m.1 7)), (8, (m.1 8)), (9, (m.1 9)), (10, (m120.1 10)), (11, (m120.1 11)), (12, (m.1 12)), (28, (m120.1 28)), (69, (m120.1 69)), (70, (m120.1 70)), (71, (m120.1 71)), (72, (m120.1 72)), (73, (m.1 73)), (74, (m.1 74)), (75, (m.1 75))] [(65, (m120.2 65)), (66, (m120.2 66)), (67, (m120.2 67)), (68, (m120.2 68)), (76, (m.2 76)), (77, (m.2 77)), (78, (m.2 78)), (79, (m.2 79)), (80, (m120.2 80)), (81, (m.2 81)), (82, (m.2 82)), (83, (m.2 83)), (84, (m.2 84)), (85, (m.2 85)), (86, (m.2 86)), (87, (m.2 87)), (88, (m.2 88)), (89, (m.2 89)), (90, (m.2 90)), (91, (m.2 91)), (92, (m.2 92))]) (r32 (by omega) (by omega)) (Ty_mO hT rfl rfl ⟨f7, f8, f9, (hT121.1 10), (hT121.1 11), f12, (hT121.1 28), (hT121.1 69), (hT121.1 70), (hT121.1 71), (hT121.1 72), f73, f74, f75, trivial⟩ ⟨(hT121.2.1 65), (hT121.2.1 66), (hT121.2.1 67), (hT121.2.1 68), (hT.2.1 76), (hT.2.1 77), (hT.2.1 78), (hT.2.1 79), (hT121.2.1 80), (hT.2.1 81), (hT.2.1 82), (hT.2.1 83), (hT.2.1 84), (hT.2.1 85), (hT.2.1 86), (hT.2.1 87), (hT.2.1 88), (hT.2.1 89), (hT.2.1 90), (hT.2.1 91), (hT.2.1 92), trivial⟩) (show (v16 + (-1)) ≤ 8 by omega) (show (-1) ≤ (v16 + (-1)) by omega) (show (m120.1 69) ≤ 64 * (9 - (v16 + (-1))) by omega) (fun _ => ⟨(show XS (m120.2 65) (m120.2 67) (m.2 76) (m.2 78) (m.2 79) (m120.2 80) B (m120.1 28) (m.1 73) (m.1 74) 1 by exact hXS), (show (m120.1 69) ≤ 64 by omega), (show (m.1 28) ≤ (m120.1 28) by omega), (show agr (m.2 65) (m120.2 65) (m.1 28) by exact hAgC)⟩) (show (v16 + (-1)) + 1 < (n : Int) by omega)
                  · skip
                    clear c124
                    clear h122
                    replace h123 : (m120.1 69) ≤ (m17.1 69) + 64 := h123
                    have hf138 : 1 ≤ (m120.1 10) := by omega
                    refine T_iinc 201 [(3, .int (i32 (v16 + (-1)))), (0, .ref 189), (1, .int (i32 ((m.1 73) - 1))), (2, .int (i32 v11))] rfl rfl (by decide) rfl rfl ?_
                    refine T_goto 162 rfl (fun _ => rfl) ?_
                    refine Tm_lv (a := [(0, .ref 189), (1, .int (i32 ((m.1 73) - 1))), (2, .int (i32 v11)), (3, .int (i32 (v16 + (-1))))]) rfl rfl ⟨rfl, rfl, rfl, rfl, trivial⟩ ?_
                    exact ih25 (v16 + (-1)) (mO m [(7, (m.1 7)), (8, (m.1 8)), (9, (m.1 9)), (10, (m120.1 10)), (11, (m120.1 11)), (12, (m.1 12)), (28, (m120.1 28)), (69, (m120.1 69)), (70, (m120.1 70)), (71, (m120.1 71)), (72, (m120.1 72)), (73, (m.1 73)), (74, (m.1 74)), (75, (m.1 75))] [(65, (m120.2 65)), (66, (m120.2 66)), (67, (m120.2 67)), (68, (m120.2 68)), (76, (m.2 76)), (77, (m.2 77)), (78, (m.2 78)), (79, (m.2 79)), (80, (m120.2 80)), (81, (m.2 81)), (82, (m.2 82)), (83, (m.2 83)), (84, (m.2 84)), (85, (m.2 85)), (86, (m.2 86)), (87, (m.2 87)), (88, (m.2 88)), (89, (m.2 89)), (90, (m.2 90)), (91, (m.2 91)), (92, (m.2 92))]) (r32 (by omega) (by omega)) (Ty_mO hT rfl rfl ⟨f7, f8, f9, (hT121.1 10), (hT121.1 11), f12, (hT121.1 28), (hT121.1 69), (hT121.1 70), (hT121.1 71), (hT121.1 72), f73, f74, f75, trivial⟩ ⟨(hT121.2.1 65), (hT121.2.1 66), (hT121.2.1 67), (hT121.2.1 68), (hT.2.1 76), (hT.2.1 77), (hT.2.1 78), (hT.2.1 79), (hT121.2.1 80), (hT.2.1 81), (hT.2.1 82), (hT.2.1 83), (hT.2.1 84), (hT.2.1 85), (hT.2.1 86), (hT.2.1 87), (hT.2.1 88), (hT.2.1 89), (hT.2.1 90), (hT.2.1 91), (hT.2.1 92), trivial⟩) (show (v16 + (-1)) ≤ 8 by omega) (show (-1) ≤ (v16 + (-1)) by omega) (show (m120.1 69) ≤ 64 * (9 - (v16 + (-1))) by omega) (fun (h : (m120.1 10) = 0) => absurd h (by omega)) (show (v16 + (-1)) + 1 < (n : Int) by omega)
                · skip
                  refine T_goto 198 rfl (fun _ => rfl) ?_
                  refine T_iinc 201 [(3, .int (i32 (v16 + (-1)))), (0, .ref 189), (1, .int (i32 ((m.1 73) - 1))), (2, .int (i32 v11))] rfl rfl (by decide) rfl rfl ?_
                  refine T_goto 162 rfl (fun _ => rfl) ?_
                  refine Tm_lv (a := [(0, .ref 189), (1, .int (i32 ((m.1 73) - 1))), (2, .int (i32 v11)), (3, .int (i32 (v16 + (-1))))]) rfl rfl ⟨rfl, rfl, rfl, rfl, trivial⟩ ?_
                  exact ih25 (v16 + (-1)) (mO m [(7, (m.1 7)), (8, (m.1 8)), (9, (m.1 9)), (10, (m17.1 10)), (11, (m17.1 11)), (12, (m.1 12)), (28, (m17.1 28)), (69, (m17.1 69)), (70, (m17.1 70)), (71, (m17.1 71)), (72, (m17.1 72)), (73, (m.1 73)), (74, (m.1 74)), (75, (m.1 75))] [(65, (m17.2 65)), (66, (m17.2 66)), (67, (m17.2 67)), (68, (m17.2 68)), (76, (m.2 76)), (77, (m.2 77)), (78, (m.2 78)), (79, (m.2 79)), (80, (m17.2 80)), (81, (m.2 81)), (82, (m.2 82)), (83, (m.2 83)), (84, (m.2 84)), (85, (m.2 85)), (86, (m.2 86)), (87, (m.2 87)), (88, (m.2 88)), (89, (m.2 89)), (90, (m.2 90)), (91, (m.2 91)), (92, (m.2 92))]) (r32 (by omega) (by omega)) (Ty_mO hT rfl rfl ⟨f7, f8, f9, (q20.1 10), (q20.1 11), f12, (q20.1 28), (q20.1 69), (q20.1 70), (q20.1 71), (q20.1 72), f73, f74, f75, trivial⟩ ⟨(q20.2.1 65), (q20.2.1 66), (q20.2.1 67), (q20.2.1 68), (hT.2.1 76), (hT.2.1 77), (hT.2.1 78), (hT.2.1 79), (q20.2.1 80), (hT.2.1 81), (hT.2.1 82), (hT.2.1 83), (hT.2.1 84), (hT.2.1 85), (hT.2.1 86), (hT.2.1 87), (hT.2.1 88), (hT.2.1 89), (hT.2.1 90), (hT.2.1 91), (hT.2.1 92), trivial⟩) (show (v16 + (-1)) ≤ 8 by omega) (show (-1) ≤ (v16 + (-1)) by omega) (show (m17.1 69) ≤ 64 * (9 - (v16 + (-1))) by omega) (fun _ => ⟨(show XS (m17.2 65) (m17.2 67) (m.2 76) (m.2 78) (m.2 79) (m17.2 80) B (m17.1 28) (m.1 73) (m.1 74) 1 by exact hXS), (show (m17.1 69) ≤ 64 by omega), (show (m.1 28) ≤ (m17.1 28) by omega), (show agr (m.2 65) (m17.2 65) (m.1 28) by exact hAgC)⟩) (show (v16 + (-1)) + 1 < (n : Int) by omega)
          · skip
            clear c24
            have hf139 : 1 ≤ (m17.1 10) := by omega
            refine T_ld 163 (.int (i32 v16)) rfl (fun _ => rfl) ?_
            refine T_if 204 166 rfl rfl rfl (r32 (by omega) (by omega)) (fun (h140 : v16 < 0) => ?_) (fun (h140 : ¬ (v16 < 0)) => ?_)
            · skip
              refine T_gf 208 (.int (i32 (m17.1 10))) rfl rfl rfl rfl rfl rfl ?_
              refine T_if 212 211 rfl rfl rfl (r32 (by omega) (by omega)) (fun (h141 : (m17.1 10) ≤ 0) => by exfalso; omega) (fun (h141 : ¬ ((m17.1 10) ≤ 0)) => ?_)
              refine T_ret rfl (fun _ => rfl) ?_
              exact ⟨(mO m [(7, (m.1 7)), (8, (m.1 8)), (9, (m.1 9)), (10, (m17.1 10)), (11, (m17.1 11)), (12, (m.1 12)), (28, (m17.1 28)), (69, (m17.1 69)), (70, (m17.1 70)), (71, (m17.1 71)), (72, (m17.1 72)), (73, (m.1 73)), (74, (m.1 74)), (75, (m.1 75))] [(65, (m17.2 65)), (66, (m17.2 66)), (67, (m17.2 67)), (68, (m17.2 68)), (76, (m.2 76)), (77, (m.2 77)), (78, (m.2 78)), (79, (m.2 79)), (80, (m17.2 80)), (81, (m.2 81)), (82, (m.2 82)), (83, (m.2 83)), (84, (m.2 84)), (85, (m.2 85)), (86, (m.2 86)), (87, (m.2 87)), (88, (m.2 88)), (89, (m.2 89)), (90, (m.2 90)), (91, (m.2 91)), (92, (m.2 92))]), (Ty_mO hT rfl rfl ⟨f7, f8, f9, (q20.1 10), (q20.1 11), f12, (q20.1 28), (q20.1 69), (q20.1 70), (q20.1 71), (q20.1 72), f73, f74, f75, trivial⟩ ⟨(q20.2.1 65), (q20.2.1 66), (q20.2.1 67), (q20.2.1 68), (hT.2.1 76), (hT.2.1 77), (hT.2.1 78), (hT.2.1 79), (q20.2.1 80), (hT.2.1 81), (hT.2.1 82), (hT.2.1 83), (hT.2.1 84), (hT.2.1 85), (hT.2.1 86), (hT.2.1 87), (hT.2.1 88), (hT.2.1 89), (hT.2.1 90), (hT.2.1 91), (hT.2.1 92), trivial⟩), (show (m17.1 10) = 0 → (m.1 10) = 0 by omega), (show LxP (m.1 7) (m.1 8) (m.1 9) (m.1 6) (m17.1 10) by first | (first | exact hLx | exact (fun _ => hLx (by omega)) | (intro h9; exfalso; omega)) | (exfalso; omega)), (fun (h : (m17.1 10) = 0) => absurd h (by omega)), rfl⟩
            · skip
              refine T_ld 167 (.int (i32 v16)) rfl (fun _ => rfl) ?_
              refine T_ld 168 (.int (i32 v11)) rfl (fun _ => rfl) ?_
              refine T_icmp 204 171 rfl rfl rfl (r32 (by omega) (by omega)) (r32 (by omega) (by omega)) (fun (h142 : v16 < v11) => ?_) (fun (h142 : ¬ (v16 < v11)) => ?_)
              · skip
                refine T_gf 208 (.int (i32 (m17.1 10))) rfl rfl rfl rfl rfl rfl ?_
                refine T_if 212 211 rfl rfl rfl (r32 (by omega) (by omega)) (fun (h143 : (m17.1 10) ≤ 0) => by exfalso; omega) (fun (h143 : ¬ ((m17.1 10) ≤ 0)) => ?_)
                refine T_ret rfl (fun _ => rfl) ?_
                exact ⟨(mO m [(7, (m.1 7)), (8, (m.1 8)), (9, (m.1 9)), (10, (m17.1 10)), (11, (m17.1 11)), (12, (m.1 12)), (28, (m17.1 28)), (69, (m17.1 69)), (70, (m17.1 70)), (71, (m17.1 71)), (72, (m17.1 72)), (73, (m.1 73)), (74, (m.1 74)), (75, (m.1 75))] [(65, (m17.2 65)), (66, (m17.2 66)), (67, (m17.2 67)), (68, (m17.2 68)), (76, (m.2 76)), (77, (m.2 77)), (78, (m.2 78)), (79, (m.2 79)), (80, (m17.2 80)), (81, (m.2 81)), (82, (m.2 82)), (83, (m.2 83)), (84, (m.2 84)), (85, (m.2 85)), (86, (m.2 86)), (87, (m.2 87)), (88, (m.2 88)), (89, (m.2 89)), (90, (m.2 90)), (91, (m.2 91)), (92, (m.2 92))]), (Ty_mO hT rfl rfl ⟨f7, f8, f9, (q20.1 10), (q20.1 11), f12, (q20.1 28), (q20.1 69), (q20.1 70), (q20.1 71), (q20.1 72), f73, f74, f75, trivial⟩ ⟨(q20.2.1 65), (q20.2.1 66), (q20.2.1 67), (q20.2.1 68), (hT.2.1 76), (hT.2.1 77), (hT.2.1 78), (hT.2.1 79), (q20.2.1 80), (hT.2.1 81), (hT.2.1 82), (hT.2.1 83), (hT.2.1 84), (hT.2.1 85), (hT.2.1 86), (hT.2.1 87), (hT.2.1 88), (hT.2.1 89), (hT.2.1 90), (hT.2.1 91), (hT.2.1 92), trivial⟩), (show (m17.1 10) = 0 → (m.1 10) = 0 by omega), (show LxP (m.1 7) (m.1 8) (m.1 9) (m.1 6) (m17.1 10) by first | (first | exact hLx | exact (fun _ => hLx (by omega)) | (intro h9; exfalso; omega)) | (exfalso; omega)), (fun (h : (m17.1 10) = 0) => absurd h (by omega)), rfl⟩
              · skip
                refine T_gf 175 (.ref 242) rfl rfl rfl rfl rfl rfl ?_
                refine T_ld 177 (.int (i32 9)) rfl (fun _ => rfl) ?_
                refine T_ld 178 (.int (i32 ((m.1 73) - 1))) rfl (fun _ => rfl) ?_
                refine T_imul 179 rfl rfl ?_
                refine T_ld 180 (.int (i32 v16)) rfl (fun _ => rfl) ?_
                refine T_iadd 181 rfl rfl ?_
                refine T_iald 182 80 (m17.2 80) rfl rfl rfl (by omega) (show ((9 * ((m.1 73) - 1)) + v16) < (540 : Int) by omega) rfl ?_
                have e144 : (-1) ≤ (m17.2 80) ((9 * ((m.1 73) - 1)) + v16) ∧ (m17.2 80) ((9 * ((m.1 73) - 1)) + v16) ≤ 330 := (q20.2.1 80) ((9 * ((m.1 73) - 1)) + v16)
                refine T_if 188 185 rfl rfl rfl (r32 (by omega) (by omega)) (fun (h145 : (0 : Int) ≤ (m17.2 80) ((9 * ((m.1 73) - 1)) + v16)) => ?_) (fun (h145 : ¬ ((0 : Int) ≤ (m17.2 80) ((9 * ((m.1 73) - 1)) + v16))) => ?_)
                · skip
                  refine T_ld 189 (.ref 189) rfl (fun _ => rfl) ?_
                  refine T_ld 191 (.int (i32 9)) rfl (fun _ => rfl) ?_
                  refine T_ld 192 (.int (i32 ((m.1 73) - 1))) rfl (fun _ => rfl) ?_
                  refine T_imul 193 rfl rfl ?_
                  refine T_ld 194 (.int (i32 v16)) rfl (fun _ => rfl) ?_
                  refine T_iadd 195 rfl rfl ?_
                  refine T_call 198 260 [.ref 189, .int (i32 ((9 * ((m.1 73) - 1)) + v16))] [] rfl (fun _ => rfl) rfl (c_join w (mO m [(7, (m.1 7)), (8, (m.1 8)), (9, (m.1 9)), (10, (m17.1 10)), (11, (m17.1 11)), (12, (m.1 12)), (28, (m17.1 28)), (69, (m17.1 69)), (70, (m17.1 70)), (71, (m17.1 71)), (72, (m17.1 72)), (73, (m.1 73)), (74, (m.1 74)), (75, (m.1 75))] [(65, (m17.2 65)), (66, (m17.2 66)), (67, (m17.2 67)), (68, (m17.2 68)), (76, (m.2 76)), (77, (m.2 77)), (78, (m.2 78)), (79, (m.2 79)), (80, (m17.2 80)), (81, (m.2 81)), (82, (m.2 82)), (83, (m.2 83)), (84, (m.2 84)), (85, (m.2 85)), (86, (m.2 86)), (87, (m.2 87)), (88, (m.2 88)), (89, (m.2 89)), (90, (m.2 90)), (91, (m.2 91)), (92, (m.2 92))]) c N D (by omega) (Ty_mO hT rfl rfl ⟨f7, f8, f9, (q20.1 10), (q20.1 11), f12, (q20.1 28), (q20.1 69), (q20.1 70), (q20.1 71), (q20.1 72), f73, f74, f75, trivial⟩ ⟨(q20.2.1 65), (q20.2.1 66), (q20.2.1 67), (q20.2.1 68), (hT.2.1 76), (hT.2.1 77), (hT.2.1 78), (hT.2.1 79), (q20.2.1 80), (hT.2.1 81), (hT.2.1 82), (hT.2.1 83), (hT.2.1 84), (hT.2.1 85), (hT.2.1 86), (hT.2.1 87), (hT.2.1 88), (hT.2.1 89), (hT.2.1 90), (hT.2.1 91), (hT.2.1 92), trivial⟩) ((9 * ((m.1 73) - 1)) + v16) B (r32 (by omega) (by omega)) (show 0 ≤ ((9 * ((m.1 73) - 1)) + v16) ∧ ((9 * ((m.1 73) - 1)) + v16) ≤ 539 by omega) (show (m17.1 69) ≤ 900 by omega) (fun (h : (m17.1 10) = 0) => absurd h (by omega))) (fun rr146 k147 => ?_)
                  obtain ⟨m148, hT149, h150, h151, c152, rfl⟩ := k147
                  refine ⟨_, _, rfl, ?_⟩
                  refine T_nf2 (st' := []) (l' := [(7, (m.1 7)), (8, (m.1 8)), (9, (m.1 9)), (10, (m148.1 10)), (11, (m148.1 11)), (12, (m.1 12)), (28, (m148.1 28)), (69, (m148.1 69)), (70, (m148.1 70)), (71, (m148.1 71)), (72, (m148.1 72)), (73, (m.1 73)), (74, (m.1 74)), (75, (m.1 75))]) (a' := [(65, (m148.2 65)), (66, (m148.2 66)), (67, (m148.2 67)), (68, (m148.2 68)), (76, (m.2 76)), (77, (m.2 77)), (78, (m.2 78)), (79, (m.2 79)), (80, (m148.2 80)), (81, (m.2 81)), (82, (m.2 82)), (83, (m.2 83)), (84, (m.2 84)), (85, (m.2 85)), (86, (m.2 86)), (87, (m.2 87)), (88, (m.2 88)), (89, (m.2 89)), (90, (m.2 90)), (91, (m.2 91)), (92, (m.2 92))]) [10, 11, 28, 69, 70, 71, 72] [65, 66, 67, 68, 80] rfl ⟨rfl, rfl, rfl, rfl, rfl, rfl, rfl, rfl, rfl, rfl, rfl, rfl, rfl, rfl, rfl, rfl, rfl, rfl, rfl, rfl, rfl, rfl, rfl, rfl, rfl, rfl, rfl, rfl, rfl, rfl, rfl, rfl, trivial⟩ ⟨rfl, rfl, rfl, rfl, rfl, rfl, rfl, rfl, rfl, rfl, rfl, rfl, rfl, rfl, rfl, rfl, rfl, rfl, rfl, rfl, rfl, rfl, rfl, rfl, rfl, rfl, rfl, rfl, rfl, rfl, rfl, rfl, rfl, rfl, rfl, rfl, rfl, rfl, rfl, rfl, rfl, rfl, rfl, rfl, rfl, rfl, trivial⟩ rfl rfl (by decide) (by decide) ?_
                  have g153 : 0 ≤ m148.1 10 ∧ m148.1 10 ≤ 8 := hT149.1 10
                  have g154 : (-1) ≤ m148.1 11 ∧ m148.1 11 ≤ 4000 := hT149.1 11
                  have g155 : 0 ≤ m148.1 28 ∧ m148.1 28 ≤ 800 := hT149.1 28
                  have g156 : 0 ≤ m148.1 69 ∧ m148.1 69 ≤ 1024 := hT149.1 69
                  have g157 : 0 ≤ m148.1 70 ∧ m148.1 70 ≤ 4000 := hT149.1 70
                  have g158 : 0 ≤ m148.1 71 ∧ m148.1 71 ≤ 1 := hT149.1 71
                  have g159 : (-9223372036854775808) ≤ m148.1 72 ∧ m148.1 72 ≤ 9223372036854775807 := hT149.1 72
                  replace h150 : (m148.1 10) = 0 → (m17.1 10) = 0 := h150
                  replace h151 : (m148.1 69) ≤ (m17.1 69) + 64 := h151
                  have hf160 : 1 ≤ (m148.1 10) := by omega
                  clear c152
                  clear h150
                  refine T_iinc 201 [(3, .int (i32 (v16 + (-1)))), (0, .ref 189), (1, .int (i32 ((m.1 73) - 1))), (2, .int (i32 v11))] rfl rfl (by decide) rfl rfl ?_
                  refine T_goto 162 rfl (fun _ => rfl) ?_
                  refine Tm_lv (a := [(0, .ref 189), (1, .int (i32 ((m.1 73) - 1))), (2, .int (i32 v11)), (3, .int (i32 (v16 + (-1))))]) rfl rfl ⟨rfl, rfl, rfl, rfl, trivial⟩ ?_
                  exact ih25 (v16 + (-1)) (mO m [(7, (m.1 7)), (8, (m.1 8)), (9, (m.1 9)), (10, (m148.1 10)), (11, (m148.1 11)), (12, (m.1 12)), (28, (m148.1 28)), (69, (m148.1 69)), (70, (m148.1 70)), (71, (m148.1 71)), (72, (m148.1 72)), (73, (m.1 73)), (74, (m.1 74)), (75, (m.1 75))] [(65, (m148.2 65)), (66, (m148.2 66)), (67, (m148.2 67)), (68, (m148.2 68)), (76, (m.2 76)), (77, (m.2 77)), (78, (m.2 78)), (79, (m.2 79)), (80, (m148.2 80)), (81, (m.2 81)), (82, (m.2 82)), (83, (m.2 83)), (84, (m.2 84)), (85, (m.2 85)), (86, (m.2 86)), (87, (m.2 87)), (88, (m.2 88)), (89, (m.2 89)), (90, (m.2 90)), (91, (m.2 91)), (92, (m.2 92))]) (r32 (by omega) (by omega)) (Ty_mO hT rfl rfl ⟨f7, f8, f9, (hT149.1 10), (hT149.1 11), f12, (hT149.1 28), (hT149.1 69), (hT149.1 70), (hT149.1 71), (hT149.1 72), f73, f74, f75, trivial⟩ ⟨(hT149.2.1 65), (hT149.2.1 66), (hT149.2.1 67), (hT149.2.1 68), (hT.2.1 76), (hT.2.1 77), (hT.2.1 78), (hT.2.1 79), (hT149.2.1 80), (hT.2.1 81), (hT.2.1 82), (hT.2.1 83), (hT.2.1 84), (hT.2.1 85), (hT.2.1 86), (hT.2.1 87), (hT.2.1 88), (hT.2.1 89), (hT.2.1 90), (hT.2.1 91), (hT.2.1 92), trivial⟩) (show (v16 + (-1)) ≤ 8 by omega) (show (-1) ≤ (v16 + (-1)) by omega) (show (m148.1 69) ≤ 64 * (9 - (v16 + (-1))) by omega) (fun (h : (m148.1 10) = 0) => absurd h (by omega)) (show (v16 + (-1)) + 1 < (n : Int) by omega)
                · skip
                  refine T_goto 198 rfl (fun _ => rfl) ?_
                  refine T_iinc 201 [(3, .int (i32 (v16 + (-1)))), (0, .ref 189), (1, .int (i32 ((m.1 73) - 1))), (2, .int (i32 v11))] rfl rfl (by decide) rfl rfl ?_
                  refine T_goto 162 rfl (fun _ => rfl) ?_
                  refine Tm_lv (a := [(0, .ref 189), (1, .int (i32 ((m.1 73) - 1))), (2, .int (i32 v11)), (3, .int (i32 (v16 + (-1))))]) rfl rfl ⟨rfl, rfl, rfl, rfl, trivial⟩ ?_
                  exact ih25 (v16 + (-1)) (mO m [(7, (m.1 7)), (8, (m.1 8)), (9, (m.1 9)), (10, (m17.1 10)), (11, (m17.1 11)), (12, (m.1 12)), (28, (m17.1 28)), (69, (m17.1 69)), (70, (m17.1 70)), (71, (m17.1 71)), (72, (m17.1 72)), (73, (m.1 73)), (74, (m.1 74)), (75, (m.1 75))] [(65, (m17.2 65)), (66, (m17.2 66)), (67, (m17.2 67)), (68, (m17.2 68)), (76, (m.2 76)), (77, (m.2 77)), (78, (m.2 78)), (79, (m.2 79)), (80, (m17.2 80)), (81, (m.2 81)), (82, (m.2 82)), (83, (m.2 83)), (84, (m.2 84)), (85, (m.2 85)), (86, (m.2 86)), (87, (m.2 87)), (88, (m.2 88)), (89, (m.2 89)), (90, (m.2 90)), (91, (m.2 91)), (92, (m.2 92))]) (r32 (by omega) (by omega)) (Ty_mO hT rfl rfl ⟨f7, f8, f9, (q20.1 10), (q20.1 11), f12, (q20.1 28), (q20.1 69), (q20.1 70), (q20.1 71), (q20.1 72), f73, f74, f75, trivial⟩ ⟨(q20.2.1 65), (q20.2.1 66), (q20.2.1 67), (q20.2.1 68), (hT.2.1 76), (hT.2.1 77), (hT.2.1 78), (hT.2.1 79), (q20.2.1 80), (hT.2.1 81), (hT.2.1 82), (hT.2.1 83), (hT.2.1 84), (hT.2.1 85), (hT.2.1 86), (hT.2.1 87), (hT.2.1 88), (hT.2.1 89), (hT.2.1 90), (hT.2.1 91), (hT.2.1 92), trivial⟩) (show (v16 + (-1)) ≤ 8 by omega) (show (-1) ≤ (v16 + (-1)) by omega) (show (m17.1 69) ≤ 64 * (9 - (v16 + (-1))) by omega) (fun (h : (m17.1 10) = 0) => absurd h (by omega)) (show (v16 + (-1)) + 1 < (n : Int) by omega)
      refine Tm_lv (a := [(0, .ref 189), (1, .int (i32 ((m.1 73) - 1))), (2, .int (i32 v11)), (3, .int (i32 8))]) rfl rfl ⟨rfl, rfl, rfl, rfl, trivial⟩ ?_
      exact L162_18 (((8 : Int) + 1 : Int) + 1).toNat 8 (mO m [(7, (m.1 7)), (8, (m.1 8)), (9, (m.1 9)), (10, (m.1 10)), (11, (m.1 11)), (12, (m.1 12)), (28, (m.1 28)), (69, (m.1 69)), (70, (m.1 70)), (71, (m.1 71)), (72, (m.1 72)), (73, (m.1 73)), (74, (m.1 74)), (75, (m.1 75))] [(65, (m.2 65)), (66, (m.2 66)), (67, (m.2 67)), (68, (m.2 68)), (76, (m.2 76)), (77, (m.2 77)), (78, (m.2 78)), (79, (m.2 79)), (80, (m.2 80)), (81, (m.2 81)), (82, (m.2 82)), (83, (m.2 83)), (84, (m.2 84)), (85, (m.2 85)), (86, (m.2 86)), (87, (m.2 87)), (88, (m.2 88)), (89, (m.2 89)), (90, (m.2 90)), (91, (m.2 91)), (92, (m.2 92))]) ⟨by decide, by decide⟩ (Ty_mO hT rfl rfl ⟨f7, f8, f9, f10, f11, f12, f28, f69, f70, f71, f72, f73, f74, f75, trivial⟩ ⟨(hT.2.1 65), (hT.2.1 66), (hT.2.1 67), (hT.2.1 68), (hT.2.1 76), (hT.2.1 77), (hT.2.1 78), (hT.2.1 79), (hT.2.1 80), (hT.2.1 81), (hT.2.1 82), (hT.2.1 83), (hT.2.1 84), (hT.2.1 85), (hT.2.1 86), (hT.2.1 87), (hT.2.1 88), (hT.2.1 89), (hT.2.1 90), (hT.2.1 91), (hT.2.1 92), trivial⟩) (show (8 : Int) ≤ 8 by omega) (show (-1) ≤ (8 : Int) by omega) (show (m.1 69) ≤ 64 * (9 - (8 : Int)) by omega) (fun _ => ⟨(show XS (m.2 65) (m.2 67) (m.2 76) (m.2 78) (m.2 79) (m.2 80) B (m.1 28) (m.1 73) (m.1 74) 1 by exact hXS), (show (m.1 69) ≤ 64 by omega), (show (m.1 28) ≤ (m.1 28) by omega), (show agr (m.2 65) (m.2 65) (m.1 28) by exact hAgC)⟩) (show (8 : Int) + 1 < (((((8 : Int) + 1 : Int) + 1).toNat : Nat) : Int) by omega)
    refine T_ld 139 (.int (i32 x8)) rfl (fun _ => rfl) ?_
    refine T_ld 140 (.int (i32 2)) rfl (fun _ => rfl) ?_
    refine T_icmp 159 143 rfl rfl rfl (r32 (by omega) (by omega)) ⟨by decide, by decide⟩ (fun (h161 : x8 ≠ 2) => ?_) (fun (h161 : ¬ (x8 ≠ 2)) => ?_)
    · skip
      refine Tm_lv (a := [(0, .ref 189), (1, .int (i32 ((m.1 73) - 1))), (2, .int (i32 x8))]) rfl rfl ⟨rfl, rfl, rfl, trivial⟩ ?_
      exact J159_12 x8 (r32 (by omega) (by omega)) (show x8 = -1 ∨ (0 ≤ x8 ∧ x8 ≤ 8 ∧ 4 ≤ (m.1 7)) by omega)
    · skip
      refine T_gf 147 (.ref 242) rfl rfl rfl rfl rfl rfl ?_
      refine T_ld 149 (.int (i32 9)) rfl (fun _ => rfl) ?_
      refine T_ld 150 (.int (i32 ((m.1 73) - 1))) rfl (fun _ => rfl) ?_
      refine T_imul 151 rfl rfl ?_
      refine T_ld 152 (.int (i32 2)) rfl (fun _ => rfl) ?_
      refine T_iadd 153 rfl rfl ?_
      refine T_iald 154 80 (m.2 80) rfl rfl rfl (by omega) (show ((9 * ((m.1 73) - 1)) + 2) < (540 : Int) by omega) rfl ?_
      have e162 : (-1) ≤ (m.2 80) ((9 * ((m.1 73) - 1)) + 2) ∧ (m.2 80) ((9 * ((m.1 73) - 1)) + 2) ≤ 330 := (hT.2.1 80) ((9 * ((m.1 73) - 1)) + 2)
      refine T_if 159 157 rfl rfl rfl (r32 (by omega) (by omega)) (fun (h163 : (m.2 80) ((9 * ((m.1 73) - 1)) + 2) < 0) => ?_) (fun (h163 : ¬ ((m.2 80) ((9 * ((m.1 73) - 1)) + 2) < 0)) => ?_)
      · skip
        refine Tm_lv (a := [(0, .ref 189), (1, .int (i32 ((m.1 73) - 1))), (2, .int (i32 x8))]) rfl rfl ⟨rfl, rfl, rfl, trivial⟩ ?_
        exact J159_12 x8 (r32 (by omega) (by omega)) (show x8 = -1 ∨ (0 ≤ x8 ∧ x8 ≤ 8 ∧ 4 ≤ (m.1 7)) by omega)
      · skip
        refine T_ld 158 (.int (i32 (-1))) rfl (fun _ => rfl) ?_
        refine T_sto 159 [(2, .int (i32 (-1))), (1, .int (i32 ((m.1 73) - 1))), (0, .ref 189)] rfl (fun _ => rfl) ?_
        refine Tm_lv (a := [(0, .ref 189), (1, .int (i32 ((m.1 73) - 1))), (2, .int (i32 (-1)))]) rfl rfl ⟨rfl, rfl, rfl, trivial⟩ ?_
        exact J159_12 (-1) ⟨by decide, by decide⟩ (show (-1 : Int) = -1 ∨ (0 ≤ (-1 : Int) ∧ (-1 : Int) ≤ 8 ∧ 4 ≤ (m.1 7)) by omega)
  · skip
    obtain ⟨hXP, hh2⟩ := XS_pop1 hXS (by omega) (by omega) (hT.2.1 79 _).1
    have hos := hXS.1.2.2.2.1 ((m.1 73) - 1) (by omega) (by omega) (by omega)
    have hEX := hXP.1.1
    have hl0 : 0 ≤ lh (m.2 79) (m.2 80) ((m.1 73) - 1) := lh_0 (hT.2.1 79) _ _
    refine T_gf 21 (.ref 239) rfl rfl rfl rfl rfl rfl ?_
    refine T_ld 22 (.int (i32 ((m.1 73) - 1))) rfl (fun _ => rfl) ?_
    refine T_iald 23 77 (m.2 77) rfl rfl rfl (by omega) (show ((m.1 73) - 1) < (60 : Int) by omega) rfl ?_
    have e164 : 0 ≤ (m.2 77) ((m.1 73) - 1) ∧ (m.2 77) ((m.1 73) - 1) ≤ 4000 := (hT.2.1 77) ((m.1 73) - 1)
    refine T_sto 24 [(2, .int (i32 ((m.2 77) ((m.1 73) - 1)))), (1, .int (i32 ((m.1 73) - 1))), (0, .ref 189)] rfl (fun _ => rfl) ?_
    refine T_gf 28 (.int (i32 (m.1 69))) rfl rfl rfl rfl rfl rfl ?_
    refine T_sto 29 [(3, .int (i32 (m.1 69))), (2, .int (i32 ((m.2 77) ((m.1 73) - 1)))), (1, .int (i32 ((m.1 73) - 1))), (0, .ref 189)] rfl (fun _ => rfl) ?_
    refine T_gf 33 (.ref 240) rfl rfl rfl rfl rfl rfl ?_
    refine T_ld 34 (.int (i32 ((m.1 73) - 1))) rfl (fun _ => rfl) ?_
    refine T_iald 35 78 (m.2 78) rfl rfl rfl (by omega) (show ((m.1 73) - 1) < (60 : Int) by omega) rfl ?_
    have e165 : 0 ≤ (m.2 78) ((m.1 73) - 1) ∧ (m.2 78) ((m.1 73) - 1) ≤ 330 := (hT.2.1 78) ((m.1 73) - 1)
    refine T_ld 37 (.int (i32 33)) rfl (fun _ => rfl) ?_
    refine T_icmp 60 40 rfl rfl rfl (r32 (by omega) (by omega)) ⟨by decide, by decide⟩ (fun (h166 : (m.2 78) ((m.1 73) - 1) ≠ 33) => ?_) (fun (h166 : ¬ ((m.2 78) ((m.1 73) - 1) ≠ 33)) => ?_)
    · skip
      refine T_gf 64 (.ref 240) rfl rfl rfl rfl rfl rfl ?_
      refine T_ld 65 (.int (i32 ((m.1 73) - 1))) rfl (fun _ => rfl) ?_
      refine T_iald 66 78 (m.2 78) rfl rfl rfl (by omega) (show ((m.1 73) - 1) < (60 : Int) by omega) rfl ?_
      have e167 : 0 ≤ (m.2 78) ((m.1 73) - 1) ∧ (m.2 78) ((m.1 73) - 1) ≤ 330 := (hT.2.1 78) ((m.1 73) - 1)
      refine T_ld 68 (.int (i32 33)) rfl (fun _ => rfl) ?_
      have J73_169 : ∀ (v168 : Int), (R32 v168) → (0 ≤ v168) → (v168 ≤ 64) → TT w D pm_257 (73, [(0, .ref 189), (1, .int (i32 ((m.1 73) - 1))), (2, .int (i32 ((m.2 77) ((m.1 73) - 1)))), (3, .int (i32 v168))], [], (mhp (mO m [(7, (m.1 7)), (8, (m.1 8)), (9, (m.1 9)), (10, (m.1 10)), (11, (m.1 11)), (12, (m.1 12)), (28, (m.1 28)), (69, (m.1 69)), (70, (m.1 70)), (71, (m.1 71)), (72, (m.1 72)), (73, (m.1 73)), (74, (m.1 74)), (75, (m.1 75))] [(65, (m.2 65)), (66, (m.2 66)), (67, (m.2 67)), (68, (m.2 68)), (76, (m.2 76)), (77, (m.2 77)), (78, (m.2 78)), (79, (m.2 79)), (80, (m.2 80)), (81, (m.2 81)), (82, (m.2 82)), (83, (m.2 83)), (84, (m.2 84)), (85, (m.2 85)), (86, (m.2 86)), (87, (m.2 87)), (88, (m.2 88)), (89, (m.2 89)), (90, (m.2 90)), (91, (m.2 91)), (92, (m.2 92))]) c, N), 0, 0) (Q_goOn m c N B) := by
        intro v168 q170 ic171 ic172
        obtain ⟨q170a, q170b⟩ := id q170
        refine T_ld 74 (.ref 189) rfl (fun _ => rfl) ?_
        refine T_ld 75 (.ref 189) rfl (fun _ => rfl) ?_
        refine T_gf1 78 (.int (i32 (m.1 73))) rfl rfl rfl rfl ?_
        refine T_ld 79 (.int (i32 1)) rfl (fun _ => rfl) ?_
        refine T_isub 80 rfl rfl ?_
        refine T_pf (l' := [(7, (m.1 7)), (8, (m.1 8)), (9, (m.1 9)), (10, (m.1 10)), (11, (m.1 11)), (12, (m.1 12)), (28, (m.1 28)), (69, (m.1 69)), (70, (m.1 70)), (71, (m.1 71)), (72, (m.1 72)), (73, (m.1 73) - 1), (74, (m.1 74)), (75, (m.1 75))]) 83 ((m.1 73) - 1) rfl rfl rfl rfl rfl rfl ?_
        have g174 : 0 ≤ (m.1 73) - 1 ∧ (m.1 73) - 1 ≤ 60 := ⟨by omega, by omega⟩
        refine T_ld 84 (.ref 189) rfl (fun _ => rfl) ?_
        refine T_ld 85 (.ref 189) rfl (fun _ => rfl) ?_
        refine T_gf1 88 (.int (i32 (m.1 74))) rfl rfl rfl rfl ?_
        refine T_ld 89 (.int (i32 1)) rfl (fun _ => rfl) ?_
        refine T_isub 90 rfl rfl ?_
        refine T_pf (l' := [(7, (m.1 7)), (8, (m.1 8)), (9, (m.1 9)), (10, (m.1 10)), (11, (m.1 11)), (12, (m.1 12)), (28, (m.1 28)), (69, (m.1 69)), (70, (m.1 70)), (71, (m.1 71)), (72, (m.1 72)), (73, (m.1 73) - 1), (74, (m.1 74) - 1), (75, (m.1 75))]) 93 ((m.1 74) - 1) rfl rfl rfl rfl rfl rfl ?_
        have g175 : 0 ≤ (m.1 74) - 1 ∧ (m.1 74) - 1 ≤ 24 := ⟨by omega, by omega⟩
        refine T_ld 94 (.ref 189) rfl (fun _ => rfl) ?_
        refine T_gf 98 (.ref 240) rfl rfl rfl rfl rfl rfl ?_
        refine T_ld 99 (.int (i32 ((m.1 73) - 1))) rfl (fun _ => rfl) ?_
        refine T_iald 100 78 (m.2 78) rfl rfl rfl (by omega) (show ((m.1 73) - 1) < (60 : Int) by omega) rfl ?_
        have e176 : 0 ≤ (m.2 78) ((m.1 73) - 1) ∧ (m.2 78) ((m.1 73) - 1) ≤ 330 := (hT.2.1 78) ((m.1 73) - 1)
        refine T_ld 102 (.int (i32 45)) rfl (fun _ => rfl) ?_
        refine T_icmp 111 105 rfl rfl rfl (r32 (by omega) (by omega)) ⟨by decide, by decide⟩ (fun (h177 : (m.2 78) ((m.1 73) - 1) ≠ 45) => ?_) (fun (h177 : ¬ ((m.2 78) ((m.1 73) - 1) ≠ 45)) => ?_)
        · skip
          refine T_gf 115 (.ref 240) rfl rfl rfl rfl rfl rfl ?_
          refine T_ld 116 (.int (i32 ((m.1 73) - 1))) rfl (fun _ => rfl) ?_
          refine T_iald 117 78 (m.2 78) rfl rfl rfl (by omega) (show ((m.1 73) - 1) < (60 : Int) by omega) rfl ?_
          have e178 : 0 ≤ (m.2 78) ((m.1 73) - 1) ∧ (m.2 78) ((m.1 73) - 1) ≤ 330 := (hT.2.1 78) ((m.1 73) - 1)
          have hA : ar ((m.2 78) ((m.1 73) - 1)) = 1 := ar_1 (by omega)
          have hAr : ar ((m.2 78) ((m.1 73) - 1)) ≤ 1 + lh (m.2 79) (m.2 80) ((m.1 73) - 1) := by omega
          have hCk : CNk ((m.2 78) ((m.1 73) - 1)) 0 := by refine ⟨?_, ?_, ?_, ?_⟩ <;> omega
          refine T_ld 118 (.int (i32 v168)) rfl (fun _ => rfl) ?_
          refine T_ld 119 (.int (i32 0)) rfl (fun _ => rfl) ?_
          refine T_ld 120 (.long (i64 0)) rfl (fun _ => rfl) ?_
          refine T_call 123 248 [.ref 189, .int (i32 ((m.2 78) ((m.1 73) - 1))), .int (i32 v168), .int (i32 0), .long (i64 0)] [] rfl (fun _ => rfl) rfl (c_node w (mO m [(7, (m.1 7)), (8, (m.1 8)), (9, (m.1 9)), (10, (m.1 10)), (11, (m.1 11)), (12, (m.1 12)), (28, (m.1 28)), (69, (m.1 69)), (70, (m.1 70)), (71, (m.1 71)), (72, (m.1 72)), (73, (m.1 73) - 1), (74, (m.1 74) - 1), (75, (m.1 75))] [(65, (m.2 65)), (66, (m.2 66)), (67, (m.2 67)), (68, (m.2 68)), (76, (m.2 76)), (77, (m.2 77)), (78, (m.2 78)), (79, (m.2 79)), (80, (m.2 80)), (81, (m.2 81)), (82, (m.2 82)), (83, (m.2 83)), (84, (m.2 84)), (85, (m.2 85)), (86, (m.2 86)), (87, (m.2 87)), (88, (m.2 88)), (89, (m.2 89)), (90, (m.2 90)), (91, (m.2 91)), (92, (m.2 92))]) c N D (by omega) (Ty_mO hT rfl rfl ⟨f7, f8, f9, f10, f11, f12, f28, f69, f70, f71, f72, g174, g175, f75, trivial⟩ ⟨(hT.2.1 65), (hT.2.1 66), (hT.2.1 67), (hT.2.1 68), (hT.2.1 76), (hT.2.1 77), (hT.2.1 78), (hT.2.1 79), (hT.2.1 80), (hT.2.1 81), (hT.2.1 82), (hT.2.1 83), (hT.2.1 84), (hT.2.1 85), (hT.2.1 86), (hT.2.1 87), (hT.2.1 88), (hT.2.1 89), (hT.2.1 90), (hT.2.1 91), (hT.2.1 92), trivial⟩) ((m.2 78) ((m.1 73) - 1)) v168 0 0 B (1 + lh (m.2 79) (m.2 80) ((m.1 73) - 1)) (r32 (by omega) (by omega)) (r32 (by omega) (by omega)) ⟨by decide, by decide⟩ ⟨by decide, by decide⟩ (fun _ => ⟨(show 0 ≤ ((m.2 78) ((m.1 73) - 1)) ∧ ((m.2 78) ((m.1 73) - 1)) ≤ 408 by first | omega | decide), (show 0 ≤ v168 ∧ v168 ≤ 64 by first | omega | decide), (show 0 ≤ (0 : Int) ∧ (0 : Int) ≤ 191 by first | omega | decide), (show CNk ((m.2 78) ((m.1 73) - 1)) (0 : Int) by first | exact hCk | (refine ⟨?_, ?_, ?_, ?_⟩ <;> omega)), (show ar ((m.2 78) ((m.1 73) - 1)) ≤ (1 + lh (m.2 79) (m.2 80) ((m.1 73) - 1)) by first | exact hAr | omega), (show EX (m.2 65) (m.2 67) B (m.1 28) (1 + lh (m.2 79) (m.2 80) ((m.1 73) - 1)) by first | exact hEX | assumption)⟩)) (fun rr179 k180 => ?_)
          obtain ⟨m181, hT182, h183, c184, rfl⟩ := k180
          refine ⟨_, _, rfl, ?_⟩
          refine T_nf2 (st' := []) (l' := [(7, (m.1 7)), (8, (m.1 8)), (9, (m.1 9)), (10, (m181.1 10)), (11, (m181.1 11)), (12, (m.1 12)), (28, (m181.1 28)), (69, (m.1 69)), (70, (m.1 70)), (71, (m.1 71)), (72, (m.1 72)), (73, (m.1 73) - 1), (74, (m.1 74) - 1), (75, (m.1 75))]) (a' := [(65, (m181.2 65)), (66, (m181.2 66)), (67, (m181.2 67)), (68, (m181.2 68)), (76, (m.2 76)), (77, (m.2 77)), (78, (m.2 78)), (79, (m.2 79)), (80, (m.2 80)), (81, (m.2 81)), (82, (m.2 82)), (83, (m.2 83)), (84, (m.2 84)), (85, (m.2 85)), (86, (m.2 86)), (87, (m.2 87)), (88, (m.2 88)), (89, (m.2 89)), (90, (m.2 90)), (91, (m.2 91)), (92, (m.2 92))]) [10, 11, 28] [65, 66, 67, 68] rfl ⟨rfl, rfl, rfl, rfl, rfl, rfl, rfl, rfl, rfl, rfl, rfl, rfl, rfl, rfl, rfl, rfl, rfl, rfl, rfl, rfl, rfl, rfl, rfl, rfl, rfl, rfl, rfl, rfl, rfl, rfl, rfl, rfl, trivial⟩ ⟨rfl, rfl, rfl, rfl, rfl, rfl, rfl, rfl, rfl, rfl, rfl, rfl, rfl, rfl, rfl, rfl, rfl, rfl, rfl, rfl, rfl, rfl, rfl, rfl, rfl, rfl, rfl, rfl, rfl, rfl, rfl, rfl, rfl, rfl, rfl, rfl, rfl, rfl, rfl, rfl, rfl, rfl, trivial⟩ rfl rfl (by decide) (by decide) ?_
          have g185 : 0 ≤ m181.1 10 ∧ m181.1 10 ≤ 8 := hT182.1 10
          have g186 : (-1) ≤ m181.1 11 ∧ m181.1 11 ≤ 4000 := hT182.1 11
          have g187 : 0 ≤ m181.1 28 ∧ m181.1 28 ≤ 800 := hT182.1 28
          by_cases hf188 : (m181.1 10) = 0
          · skip
            replace h183 : (m.1 10) = 0 := h183 hf188
            obtain ⟨c189, c190, c191⟩ := c184 hf188
            replace c189 : (m181.1 28) = (m.1 28) + 1 := c189
            replace c190 : EX (m181.2 65) (m181.2 67) B (m181.1 28) ((1 + lh (m.2 79) (m.2 80) ((m.1 73) - 1)) + 1 - ar ((m.2 78) ((m.1 73) - 1))) := c190
            have hEX := c190
            replace c191 : agr (m.2 65) (m181.2 65) (m.1 28) := c191
            have hAg := c191
            clear c184
            have hAgC : agr (m.2 65) (m181.2 65) (m.1 28) := by first | exact agr_r _ _ | exact hAgC | exact agr_t hAgC hAg (by omega)
            have hXE : XS (m181.2 65) (m181.2 67) (m.2 76) (m.2 78) (m.2 79) (m.2 80) B (m181.1 28) ((m.1 73) - 1) ((m.1 74) - 1) (um (m.1 75)) := by
              rw [show um (m.1 75) = 1 from if_neg (by omega)]
              exact XS_of hXP hEX (by omega)
            refine T_ld 124 (.ref 189) rfl (fun _ => rfl) ?_
            refine T_ld 125 (.int (i32 v168)) rfl (fun _ => rfl) ?_
            refine T_ld 126 (.int (i32 ((m.2 77) ((m.1 73) - 1)))) rfl (fun _ => rfl) ?_
            refine T_call 129 250 [.ref 189, .int (i32 v168), .int (i32 ((m.2 77) ((m.1 73) - 1)))] [] rfl (fun _ => rfl) rfl (c_unit w (mO m [(7, (m.1 7)), (8, (m.1 8)), (9, (m.1 9)), (10, (m181.1 10)), (11, (m181.1 11)), (12, (m.1 12)), (28, (m181.1 28)), (69, (m.1 69)), (70, (m.1 70)), (71, (m.1 71)), (72, (m.1 72)), (73, (m.1 73) - 1), (74, (m.1 74) - 1), (75, (m.1 75))] [(65, (m181.2 65)), (66, (m181.2 66)), (67, (m181.2 67)), (68, (m181.2 68)), (76, (m.2 76)), (77, (m.2 77)), (78, (m.2 78)), (79, (m.2 79)), (80, (m.2 80)), (81, (m.2 81)), (82, (m.2 82)), (83, (m.2 83)), (84, (m.2 84)), (85, (m.2 85)), (86, (m.2 86)), (87, (m.2 87)), (88, (m.2 88)), (89, (m.2 89)), (90, (m.2 90)), (91, (m.2 91)), (92, (m.2 92))]) c N D (by omega) (Ty_mO hT rfl rfl ⟨f7, f8, f9, (hT182.1 10), (hT182.1 11), f12, (hT182.1 28), f69, f70, f71, f72, g174, g175, f75, trivial⟩ ⟨(hT182.2.1 65), (hT182.2.1 66), (hT182.2.1 67), (hT182.2.1 68), (hT.2.1 76), (hT.2.1 77), (hT.2.1 78), (hT.2.1 79), (hT.2.1 80), (hT.2.1 81), (hT.2.1 82), (hT.2.1 83), (hT.2.1 84), (hT.2.1 85), (hT.2.1 86), (hT.2.1 87), (hT.2.1 88), (hT.2.1 89), (hT.2.1 90), (hT.2.1 91), (hT.2.1 92), trivial⟩) v168 ((m.2 77) ((m.1 73) - 1)) (r32 (by omega) (by omega)) (r32 (by omega) (by omega)) (show 0 ≤ v168 ∧ v168 ≤ 1024 by omega) (show 0 ≤ ((m.2 77) ((m.1 73) - 1)) ∧ ((m.2 77) ((m.1 73) - 1)) ≤ 4000 by omega)) (fun rr192 k193 => ?_)
            obtain ⟨m194, hT195, h196, rfl⟩ := k193
            refine ⟨_, _, rfl, ?_⟩
            refine T_nf2 (st' := []) (l' := [(7, (m.1 7)), (8, (m.1 8)), (9, (m.1 9)), (10, (m181.1 10)), (11, (m181.1 11)), (12, (m.1 12)), (28, (m181.1 28)), (69, (m194.1 69)), (70, (m194.1 70)), (71, (m194.1 71)), (72, (m194.1 72)), (73, (m.1 73) - 1), (74, (m.1 74) - 1), (75, (m.1 75))]) (a' := [(65, (m181.2 65)), (66, (m181.2 66)), (67, (m181.2 67)), (68, (m181.2 68)), (76, (m.2 76)), (77, (m.2 77)), (78, (m.2 78)), (79, (m.2 79)), (80, (m.2 80)), (81, (m.2 81)), (82, (m.2 82)), (83, (m.2 83)), (84, (m.2 84)), (85, (m.2 85)), (86, (m.2 86)), (87, (m.2 87)), (88, (m.2 88)), (89, (m.2 89)), (90, (m.2 90)), (91, (m.2 91)), (92, (m.2 92))]) [69, 70, 71, 72] [] rfl ⟨rfl, rfl, rfl, rfl, rfl, rfl, rfl, rfl, rfl, rfl, rfl, rfl, rfl, rfl, rfl, rfl, rfl, rfl, rfl, rfl, rfl, rfl, rfl, rfl, rfl, rfl, rfl, rfl, rfl, rfl, rfl, rfl, rfl, rfl, rfl, trivial⟩ ⟨rfl, rfl, rfl, rfl, rfl, rfl, rfl, rfl, rfl, rfl, rfl, rfl, rfl, rfl, rfl, rfl, rfl, rfl, rfl, rfl, rfl, rfl, rfl, rfl, rfl, rfl, rfl, rfl, rfl, rfl, rfl, rfl, rfl, rfl, rfl, rfl, rfl, rfl, rfl, rfl, rfl, rfl, trivial⟩ rfl rfl (by decide) (by decide) ?_
            have g197 : 0 ≤ m194.1 69 ∧ m194.1 69 ≤ 1024 := hT195.1 69
            have g198 : 0 ≤ m194.1 70 ∧ m194.1 70 ≤ 4000 := hT195.1 70
            have g199 : 0 ≤ m194.1 71 ∧ m194.1 71 ≤ 1 := hT195.1 71
            have g200 : (-9223372036854775808) ≤ m194.1 72 ∧ m194.1 72 ≤ 9223372036854775807 := hT195.1 72
            replace h196 : (m194.1 69) = v168 := h196
            have hAgC : agr (m.2 65) (m181.2 65) (m.1 28) := by first | exact agr_r _ _ | exact hAgC | exact agr_t hAgC hAg (by omega)
            refine T_ret rfl (fun _ => rfl) ?_
            exact ⟨(mO m [(7, (m.1 7)), (8, (m.1 8)), (9, (m.1 9)), (10, (m181.1 10)), (11, (m181.1 11)), (12, (m.1 12)), (28, (m181.1 28)), (69, (m194.1 69)), (70, (m194.1 70)), (71, (m194.1 71)), (72, (m194.1 72)), (73, (m.1 73) - 1), (74, (m.1 74) - 1), (75, (m.1 75))] [(65, (m181.2 65)), (66, (m181.2 66)), (67, (m181.2 67)), (68, (m181.2 68)), (76, (m.2 76)), (77, (m.2 77)), (78, (m.2 78)), (79, (m.2 79)), (80, (m.2 80)), (81, (m.2 81)), (82, (m.2 82)), (83, (m.2 83)), (84, (m.2 84)), (85, (m.2 85)), (86, (m.2 86)), (87, (m.2 87)), (88, (m.2 88)), (89, (m.2 89)), (90, (m.2 90)), (91, (m.2 91)), (92, (m.2 92))]), (Ty_mO hT rfl rfl ⟨f7, f8, f9, (hT182.1 10), (hT182.1 11), f12, (hT182.1 28), (hT195.1 69), (hT195.1 70), (hT195.1 71), (hT195.1 72), g174, g175, f75, trivial⟩ ⟨(hT182.2.1 65), (hT182.2.1 66), (hT182.2.1 67), (hT182.2.1 68), (hT.2.1 76), (hT.2.1 77), (hT.2.1 78), (hT.2.1 79), (hT.2.1 80), (hT.2.1 81), (hT.2.1 82), (hT.2.1 83), (hT.2.1 84), (hT.2.1 85), (hT.2.1 86), (hT.2.1 87), (hT.2.1 88), (hT.2.1 89), (hT.2.1 90), (hT.2.1 91), (hT.2.1 92), trivial⟩), (show (m181.1 10) = 0 → (m.1 10) = 0 by omega), (show LxP (m.1 7) (m.1 8) (m.1 9) (m.1 6) (m181.1 10) by first | (first | exact hLx | exact (fun _ => hLx (by omega)) | (intro h9; exfalso; omega)) | (exfalso; omega)), (fun _ => ⟨(show GP (m.1 8) (m.1 8) (m.1 75) ((m.1 73) - 1) (m.1 73) by first | (first | assumption | (unfold GP; omega)) | (exfalso; omega)), (show GU (m.1 75) (m194.1 69) by first | (first | assumption | (unfold GU; omega)) | (exfalso; omega)), (show GH (m.1 75) ((m.1 73) - 1) by first | (first | assumption | (unfold GH; omega)) | (exfalso; omega)), (show (m.1 28) ≤ (m181.1 28) by omega), (show XS (m181.2 65) (m181.2 67) (m.2 76) (m.2 78) (m.2 79) (m.2 80) B (m181.1 28) ((m.1 73) - 1) ((m.1 74) - 1) (um (m.1 75)) by first | (exact hXE) | (exfalso; omega)), (show agr (m.2 65) (m181.2 65) (m.1 28) by first | (exact hAgC) | (exfalso; omega))⟩), rfl⟩
          · skip
            clear c184
            clear h183
            have hf201 : 1 ≤ (m181.1 10) := by omega
            refine T_ld 124 (.ref 189) rfl (fun _ => rfl) ?_
            refine T_ld 125 (.int (i32 v168)) rfl (fun _ => rfl) ?_
            refine T_ld 126 (.int (i32 ((m.2 77) ((m.1 73) - 1)))) rfl (fun _ => rfl) ?_
            refine T_call 129 250 [.ref 189, .int (i32 v168), .int (i32 ((m.2 77) ((m.1 73) - 1)))] [] rfl (fun _ => rfl) rfl (c_unit w (mO m [(7, (m.1 7)), (8, (m.1 8)), (9, (m.1 9)), (10, (m181.1 10)), (11, (m181.1 11)), (12, (m.1 12)), (28, (m181.1 28)), (69, (m.1 69)), (70, (m.1 70)), (71, (m.1 71)), (72, (m.1 72)), (73, (m.1 73) - 1), (74, (m.1 74) - 1), (75, (m.1 75))] [(65, (m181.2 65)), (66, (m181.2 66)), (67, (m181.2 67)), (68, (m181.2 68)), (76, (m.2 76)), (77, (m.2 77)), (78, (m.2 78)), (79, (m.2 79)), (80, (m.2 80)), (81, (m.2 81)), (82, (m.2 82)), (83, (m.2 83)), (84, (m.2 84)), (85, (m.2 85)), (86, (m.2 86)), (87, (m.2 87)), (88, (m.2 88)), (89, (m.2 89)), (90, (m.2 90)), (91, (m.2 91)), (92, (m.2 92))]) c N D (by omega) (Ty_mO hT rfl rfl ⟨f7, f8, f9, (hT182.1 10), (hT182.1 11), f12, (hT182.1 28), f69, f70, f71, f72, g174, g175, f75, trivial⟩ ⟨(hT182.2.1 65), (hT182.2.1 66), (hT182.2.1 67), (hT182.2.1 68), (hT.2.1 76), (hT.2.1 77), (hT.2.1 78), (hT.2.1 79), (hT.2.1 80), (hT.2.1 81), (hT.2.1 82), (hT.2.1 83), (hT.2.1 84), (hT.2.1 85), (hT.2.1 86), (hT.2.1 87), (hT.2.1 88), (hT.2.1 89), (hT.2.1 90), (hT.2.1 91), (hT.2.1 92), trivial⟩) v168 ((m.2 77) ((m.1 73) - 1)) (r32 (by omega) (by omega)) (r32 (by omega) (by omega)) (show 0 ≤ v168 ∧ v168 ≤ 1024 by omega) (show 0 ≤ ((m.2 77) ((m.1 73) - 1)) ∧ ((m.2 77) ((m.1 73) - 1)) ≤ 4000 by omega)) (fun rr202 k203 => ?_)
            obtain ⟨m204, hT205, h206, rfl⟩ := k203
            refine ⟨_, _, rfl, ?_⟩
            refine T_nf2 (st' := []) (l' := [(7, (m.1 7)), (8, (m.1 8)), (9, (m.1 9)), (10, (m181.1 10)), (11, (m181.1 11)), (12, (m.1 12)), (28, (m181.1 28)), (69, (m204.1 69)), (70, (m204.1 70)), (71, (m204.1 71)), (72, (m204.1 72)), (73, (m.1 73) - 1), (74, (m.1 74) - 1), (75, (m.1 75))]) (a' := [(65, (m181.2 65)), (66, (m181.2 66)), (67, (m181.2 67)), (68, (m181.2 68)), (76, (m.2 76)), (77, (m.2 77)), (78, (m.2 78)), (79, (m.2 79)), (80, (m.2 80)), (81, (m.2 81)), (82, (m.2 82)), (83, (m.2 83)), (84, (m.2 84)), (85, (m.2 85)), (86, (m.2 86)), (87, (m.2 87)), (88, (m.2 88)), (89, (m.2 89)), (90, (m.2 90)), (91, (m.2 91)), (92, (m.2 92))]) [69, 70, 71, 72] [] rfl ⟨rfl, rfl, rfl, rfl, rfl, rfl, rfl, rfl, rfl, rfl, rfl, rfl, rfl, rfl, rfl, rfl, rfl, rfl, rfl, rfl, rfl, rfl, rfl, rfl, rfl, rfl, rfl, rfl, rfl, rfl, rfl, rfl, rfl, rfl, rfl, trivial⟩ ⟨rfl, rfl, rfl, rfl, rfl, rfl, rfl, rfl, rfl, rfl, rfl, rfl, rfl, rfl, rfl, rfl, rfl, rfl, rfl, rfl, rfl, rfl, rfl, rfl, rfl, rfl, rfl, rfl, rfl, rfl, rfl, rfl, rfl, rfl, rfl, rfl, rfl, rfl, rfl, rfl, rfl, rfl, trivial⟩ rfl rfl (by decide) (by decide) ?_
            have g207 : 0 ≤ m204.1 69 ∧ m204.1 69 ≤ 1024 := hT205.1 69
            have g208 : 0 ≤ m204.1 70 ∧ m204.1 70 ≤ 4000 := hT205.1 70
            have g209 : 0 ≤ m204.1 71 ∧ m204.1 71 ≤ 1 := hT205.1 71
            have g210 : (-9223372036854775808) ≤ m204.1 72 ∧ m204.1 72 ≤ 9223372036854775807 := hT205.1 72
            replace h206 : (m204.1 69) = v168 := h206
            refine T_ret rfl (fun _ => rfl) ?_
            exact ⟨(mO m [(7, (m.1 7)), (8, (m.1 8)), (9, (m.1 9)), (10, (m181.1 10)), (11, (m181.1 11)), (12, (m.1 12)), (28, (m181.1 28)), (69, (m204.1 69)), (70, (m204.1 70)), (71, (m204.1 71)), (72, (m204.1 72)), (73, (m.1 73) - 1), (74, (m.1 74) - 1), (75, (m.1 75))] [(65, (m181.2 65)), (66, (m181.2 66)), (67, (m181.2 67)), (68, (m181.2 68)), (76, (m.2 76)), (77, (m.2 77)), (78, (m.2 78)), (79, (m.2 79)), (80, (m.2 80)), (81, (m.2 81)), (82, (m.2 82)), (83, (m.2 83)), (84, (m.2 84)), (85, (m.2 85)), (86, (m.2 86)), (87, (m.2 87)), (88, (m.2 88)), (89, (m.2 89)), (90, (m.2 90)), (91, (m.2 91)), (92, (m.2 92))]), (Ty_mO hT rfl rfl ⟨f7, f8, f9, (hT182.1 10), (hT182.1 11), f12, (hT182.1 28), (hT205.1 69), (hT205.1 70), (hT205.1 71), (hT205.1 72), g174, g175, f75, trivial⟩ ⟨(hT182.2.1 65), (hT182.2.1 66), (hT182.2.1 67), (hT182.2.1 68), (hT.2.1 76), (hT.2.1 77), (hT.2.1 78), (hT.2.1 79), (hT.2.1 80), (hT.2.1 81), (hT.2.1 82), (hT.2.1 83), (hT.2.1 84), (hT.2.1 85), (hT.2.1 86), (hT.2.1 87), (hT.2.1 88), (hT.2.1 89), (hT.2.1 90), (hT.2.1 91), (hT.2.1 92), trivial⟩), (show (m181.1 10) = 0 → (m.1 10) = 0 by omega), (show LxP (m.1 7) (m.1 8) (m.1 9) (m.1 6) (m181.1 10) by first | (first | exact hLx | exact (fun _ => hLx (by omega)) | (intro h9; exfalso; omega)) | (exfalso; omega)), (fun (h : (m181.1 10) = 0) => absurd h (by omega)), rfl⟩
        · skip
          refine T_ld 108 (.int (i32 408)) rfl (fun _ => rfl) ?_
          refine T_goto 117 rfl (fun _ => rfl) ?_
          have hA : ar 408 = 1 := ar_1 (by omega)
          have hAr : ar 408 ≤ 1 + lh (m.2 79) (m.2 80) ((m.1 73) - 1) := by omega
          have hCk : CNk 408 0 := by refine ⟨?_, ?_, ?_, ?_⟩ <;> omega
          refine T_ld 118 (.int (i32 v168)) rfl (fun _ => rfl) ?_
          refine T_ld 119 (.int (i32 0)) rfl (fun _ => rfl) ?_
          refine T_ld 120 (.long (i64 0)) rfl (fun _ => rfl) ?_
          refine T_call 123 248 [.ref 189, .int (i32 408), .int (i32 v168), .int (i32 0), .long (i64 0)] [] rfl (fun _ => rfl) rfl (c_node w (mO m [(7, (m.1 7)), (8, (m.1 8)), (9, (m.1 9)), (10, (m.1 10)), (11, (m.1 11)), (12, (m.1 12)), (28, (m.1 28)), (69, (m.1 69)), (70, (m.1 70)), (71, (m.1 71)), (72, (m.1 72)), (73, (m.1 73) - 1), (74, (m.1 74) - 1), (75, (m.1 75))] [(65, (m.2 65)), (66, (m.2 66)), (67, (m.2 67)), (68, (m.2 68)), (76, (m.2 76)), (77, (m.2 77)), (78, (m.2 78)), (79, (m.2 79)), (80, (m.2 80)), (81, (m.2 81)), (82, (m.2 82)), (83, (m.2 83)), (84, (m.2 84)), (85, (m.2 85)), (86, (m.2 86)), (87, (m.2 87)), (88, (m.2 88)), (89, (m.2 89)), (90, (m.2 90)), (91, (m.2 91)), (92, (m.2 92))]) c N D (by omega) (Ty_mO hT rfl rfl ⟨f7, f8, f9, f10, f11, f12, f28, f69, f70, f71, f72, g174, g175, f75, trivial⟩ ⟨(hT.2.1 65), (hT.2.1 66), (hT.2.1 67), (hT.2.1 68), (hT.2.1 76), (hT.2.1 77), (hT.2.1 78), (hT.2.1 79), (hT.2.1 80), (hT.2.1 81), (hT.2.1 82), (hT.2.1 83), (hT.2.1 84), (hT.2.1 85), (hT.2.1 86), (hT.2.1 87), (hT.2.1 88), (hT.2.1 89), (hT.2.1 90), (hT.2.1 91), (hT.2.1 92), trivial⟩) 408 v168 0 0 B (1 + lh (m.2 79) (m.2 80) ((m.1 73) - 1)) ⟨by decide, by decide⟩ (r32 (by omega) (by omega)) ⟨by decide, by decide⟩ ⟨by decide, by decide⟩ (fun _ => ⟨(show 0 ≤ (408 : Int) ∧ (408 : Int) ≤ 408 by first | omega | decide), (show 0 ≤ v168 ∧ v168 ≤ 64 by first | omega | decide), (show 0 ≤ (0 : Int) ∧ (0 : Int) ≤ 191 by first | omega | decide), (show CNk (408 : Int) (0 : Int) by first | exact hCk | (refine ⟨?_, ?_, ?_, ?_⟩ <;> omega)), (show ar (408 : Int) ≤ (1 + lh (m.2 79) (m.2 80) ((m.1 73) - 1)) by first | exact hAr | omega), (show EX (m.2 65) (m.2 67) B (m.1 28) (1 + lh (m.2 79) (m.2 80) ((m.1 73) - 1)) by first | exact hEX | assumption)⟩)) (fun rr211 k212 => ?_)
          obtain ⟨m213, hT214, h215, c216, rfl⟩ := k212
          refine ⟨_, _, rfl, ?_⟩
          refine T_nf2 (st' := []) (l' := [(7, (m.1 7)), (8, (m.1 8)), (9, (m.1 9)), (10, (m213.1 10)), (11, (m213.1 11)), (12, (m.1 12)), (28, (m213.1 28)), (69, (m.1 69)), (70, (m.1 70)), (71, (m.1 71)), (72, (m.1 72)), (73, (m.1 73) - 1), (74, (m.1 74) - 1), (75, (m.1 75))]) (a' := [(65, (m213.2 65)), (66, (m213.2 66)), (67, (m213.2 67)), (68, (m213.2 68)), (76, (m.2 76)), (77, (m.2 77)), (78, (m.2 78)), (79, (m.2 79)), (80, (m.2 80)), (81, (m.2 81)), (82, (m.2 82)), (83, (m.2 83)), (84, (m.2 84)), (85, (m.2 85)), (86, (m.2 86)), (87, (m.2 87)), (88, (m.2 88)), (89, (m.2 89)), (90, (m.2 90)), (91, (m.2 91)), (92, (m.2 92))]) [10, 11, 28] [65, 66, 67, 68] rfl ⟨rfl, rfl, rfl, rfl, rfl, rfl, rfl, rfl, rfl, rfl, rfl, rfl, rfl, rfl, rfl, rfl, rfl, rfl, rfl, rfl, rfl, rfl, rfl, rfl, rfl, rfl, rfl, rfl, rfl, rfl, rfl, rfl, trivial⟩ ⟨rfl, rfl, rfl, rfl, rfl, rfl, rfl, rfl, rfl, rfl, rfl, rfl, rfl, rfl, rfl, rfl, rfl, rfl, rfl, rfl, rfl, rfl, rfl, rfl, rfl, rfl, rfl, rfl, rfl, rfl, rfl, rfl, rfl, rfl, rfl, rfl, rfl, rfl, rfl, rfl, rfl, rfl, trivial⟩ rfl rfl (by decide) (by decide) ?_
          have g217 : 0 ≤ m213.1 10 ∧ m213.1 10 ≤ 8 := hT214.1 10
          have g218 : (-1) ≤ m213.1 11 ∧ m213.1 11 ≤ 4000 := hT214.1 11
          have g219 : 0 ≤ m213.1 28 ∧ m213.1 28 ≤ 800 := hT214.1 28
          by_cases hf220 : (m213.1 10) = 0
          · skip
            replace h215 : (m.1 10) = 0 := h215 hf220
            obtain ⟨c221, c222, c223⟩ := c216 hf220
            replace c221 : (m213.1 28) = (m.1 28) + 1 := c221
            replace c222 : EX (m213.2 65) (m213.2 67) B (m213.1 28) ((1 + lh (m.2 79) (m.2 80) ((m.1 73) - 1)) + 1 - ar (408 : Int)) := c222
            have hEX := c222
            replace c223 : agr (m.2 65) (m213.2 65) (m.1 28) := c223
            have hAg := c223
            clear c216
            have hAgC : agr (m.2 65) (m213.2 65) (m.1 28) := by first | exact agr_r _ _ | exact hAgC | exact agr_t hAgC hAg (by omega)
            have hXE : XS (m213.2 65) (m213.2 67) (m.2 76) (m.2 78) (m.2 79) (m.2 80) B (m213.1 28) ((m.1 73) - 1) ((m.1 74) - 1) (um (m.1 75)) := by
              rw [show um (m.1 75) = 1 from if_neg (by omega)]
              exact XS_of hXP hEX (by omega)
            refine T_ld 124 (.ref 189) rfl (fun _ => rfl) ?_
            refine T_ld 125 (.int (i32 v168)) rfl (fun _ => rfl) ?_
            refine T_ld 126 (.int (i32 ((m.2 77) ((m.1 73) - 1)))) rfl (fun _ => rfl) ?_
            refine T_call 129 250 [.ref 189, .int (i32 v168), .int (i32 ((m.2 77) ((m.1 73) - 1)))] [] rfl (fun _ => rfl) rfl (c_unit w (mO m [(7, (m.1 7)), (8, (m.1 8)), (9, (m.1 9)), (10, (m213.1 10)), (11, (m213.1 11)), (12, (m.1 12)), (28, (m213.1 28)), (69, (m.1 69)), (70, (m.1 70)), (71, (m.1 71)), (72, (m.1 72)), (73, (m.1 73) - 1), (74, (m.1 74) - 1), (75, (m.1 75))] [(65, (m213.2 65)), (66, (m213.2 66)), (67, (m213.2 67)), (68, (m213.2 68)), (76, (m.2 76)), (77, (m.2 77)), (78, (m.2 78)), (79, (m.2 79)), (80, (m.2 80)), (81, (m.2 81)), (82, (m.2 82)), (83, (m.2 83)), (84, (m.2 84)), (85, (m.2 85)), (86, (m.2 86)), (87, (m.2 87)), (88, (m.2 88)), (89, (m.2 89)), (90, (m.2 90)), (91, (m.2 91)), (92, (m.2 92))]) c N D (by omega) (Ty_mO hT rfl rfl ⟨f7, f8, f9, (hT214.1 10), (hT214.1 11), f12, (hT214.1 28), f69, f70, f71, f72, g174, g175, f75, trivial⟩ ⟨(hT214.2.1 65), (hT214.2.1 66), (hT214.2.1 67), (hT214.2.1 68), (hT.2.1 76), (hT.2.1 77), (hT.2.1 78), (hT.2.1 79), (hT.2.1 80), (hT.2.1 81), (hT.2.1 82), (hT.2.1 83), (hT.2.1 84), (hT.2.1 85), (hT.2.1 86), (hT.2.1 87), (hT.2.1 88), (hT.2.1 89), (hT.2.1 90), (hT.2.1 91), (hT.2.1 92), trivial⟩) v168 ((m.2 77) ((m.1 73) - 1)) (r32 (by omega) (by omega)) (r32 (by omega) (by omega)) (show 0 ≤ v168 ∧ v168 ≤ 1024 by omega) (show 0 ≤ ((m.2 77) ((m.1 73) - 1)) ∧ ((m.2 77) ((m.1 73) - 1)) ≤ 4000 by omega)) (fun rr224 k225 => ?_)
            obtain ⟨m226, hT227, h228, rfl⟩ := k225
            refine ⟨_, _, rfl, ?_⟩
            refine T_nf2 (st' := []) (l' := [(7, (m.1 7)), (8, (m.1 8)), (9, (m.1 9)), (10, (m213.1 10)), (11, (m213.1 11)), (12, (m.1 12)), (28, (m213.1 28)), (69, (m226.1 69)), (70, (m226.1 70)), (71, (m226.1 71)), (72, (m226.1 72)), (73, (m.1 73) - 1), (74, (m.1 74) - 1), (75, (m.1 75))]) (a' := [(65, (m213.2 65)), (66, (m213.2 66)), (67, (m213.2 67)), (68, (m213.2 68)), (76, (m.2 76)), (77, (m.2 77)), (78, (m.2 78)), (79, (m.2 79)), (80, (m.2 80)), (81, (m.2 81)), (82, (m.2 82)), (83, (m.2 83)), (84, (m.2 84)), (85, (m.2 85)), (86, (m.2 86)), (87, (m.2 87)), (88, (m.2 88)), (89, (m.2 89)), (90, (m.2 90)), (91, (m.2 91)), (92, (m.2 92))]) [69, 70, 71, 72] [] rfl ⟨rfl, rfl, rfl, rfl, rfl, rfl, rfl, rfl, rfl, rfl, rfl, rfl, rfl, rfl, rfl, rfl, rfl, rfl, rfl, rfl, rfl, rfl, rfl, rfl, rfl, rfl, rfl, rfl, rfl, rfl, rfl, rfl, rfl, rfl, rfl, trivial⟩ ⟨rfl, rfl, rfl, rfl, rfl, rfl, rfl, rfl, rfl, rfl, rfl, rfl, rfl, rfl, rfl, rfl, rfl, rfl, rfl, rfl, rfl, rfl, rfl, rfl, rfl, rfl, rfl, rfl, rfl, rfl, rfl, rfl, rfl, rfl, rfl, rfl, rfl, rfl, rfl, rfl, rfl, rfl, trivial⟩ rfl rfl (by decide) (by decide) ?_
            have g229 : 0 ≤ m226.1 69 ∧ m226.1 69 ≤ 1024 := hT227.1 69
            have g230 : 0 ≤ m226.1 70 ∧ m226.1 70 ≤ 4000 := hT227.1 70
            have g231 : 0 ≤ m226.1 71 ∧ m226.1 71 ≤ 1 := hT227.1 71
            have g232 : (-9223372036854775808) ≤ m226.1 72 ∧ m226.1 72 ≤ 9223372036854775807 := hT227.1 72
            replace h228 : (m226.1 69) = v168 := h228
            have hAgC : agr (m.2 65) (m213.2 65) (m.1 28) := by first | exact agr_r _ _ | exact hAgC | exact agr_t hAgC hAg (by omega)
            refine T_ret rfl (fun _ => rfl) ?_
            exact ⟨(mO m [(7, (m.1 7)), (8, (m.1 8)), (9, (m.1 9)), (10, (m213.1 10)), (11, (m213.1 11)), (12, (m.1 12)), (28, (m213.1 28)), (69, (m226.1 69)), (70, (m226.1 70)), (71, (m226.1 71)), (72, (m226.1 72)), (73, (m.1 73) - 1), (74, (m.1 74) - 1), (75, (m.1 75))] [(65, (m213.2 65)), (66, (m213.2 66)), (67, (m213.2 67)), (68, (m213.2 68)), (76, (m.2 76)), (77, (m.2 77)), (78, (m.2 78)), (79, (m.2 79)), (80, (m.2 80)), (81, (m.2 81)), (82, (m.2 82)), (83, (m.2 83)), (84, (m.2 84)), (85, (m.2 85)), (86, (m.2 86)), (87, (m.2 87)), (88, (m.2 88)), (89, (m.2 89)), (90, (m.2 90)), (91, (m.2 91)), (92, (m.2 92))]), (Ty_mO hT rfl rfl ⟨f7, f8, f9, (hT214.1 10), (hT214.1 11), f12, (hT214.1 28), (hT227.1 69), (hT227.1 70), (hT227.1 71), (hT227.1 72), g174, g175, f75, trivial⟩ ⟨(hT214.2.1 65), (hT214.2.1 66), (hT214.2.1 67), (hT214.2.1 68), (hT.2.1 76), (hT.2.1 77), (hT.2.1 78), (hT.2.1 79), (hT.2.1 80), (hT.2.1 81), (hT.2.1 82), (hT.2.1 83), (hT.2.1 84), (hT.2.1 85), (hT.2.1 86), (hT.2.1 87), (hT.2.1 88), (hT.2.1 89), (hT.2.1 90), (hT.2.1 91), (hT.2.1 92), trivial⟩), (show (m213.1 10) = 0 → (m.1 10) = 0 by omega), (show LxP (m.1 7) (m.1 8) (m.1 9) (m.1 6) (m213.1 10) by first | (first | exact hLx | exact (fun _ => hLx (by omega)) | (intro h9; exfalso; omega)) | (exfalso; omega)), (fun _ => ⟨(show GP (m.1 8) (m.1 8) (m.1 75) ((m.1 73) - 1) (m.1 73) by first | (first | assumption | (unfold GP; omega)) | (exfalso; omega)), (show GU (m.1 75) (m226.1 69) by first | (first | assumption | (unfold GU; omega)) | (exfalso; omega)), (show GH (m.1 75) ((m.1 73) - 1) by first | (first | assumption | (unfold GH; omega)) | (exfalso; omega)), (show (m.1 28) ≤ (m213.1 28) by omega), (show XS (m213.2 65) (m213.2 67) (m.2 76) (m.2 78) (m.2 79) (m.2 80) B (m213.1 28) ((m.1 73) - 1) ((m.1 74) - 1) (um (m.1 75)) by first | (exact hXE) | (exfalso; omega)), (show agr (m.2 65) (m213.2 65) (m.1 28) by first | (exact hAgC) | (exfalso; omega))⟩), rfl⟩
          · skip
            clear c216
            clear h215
            have hf233 : 1 ≤ (m213.1 10) := by omega
            refine T_ld 124 (.ref 189) rfl (fun _ => rfl) ?_
            refine T_ld 125 (.int (i32 v168)) rfl (fun _ => rfl) ?_
            refine T_ld 126 (.int (i32 ((m.2 77) ((m.1 73) - 1)))) rfl (fun _ => rfl) ?_
            refine T_call 129 250 [.ref 189, .int (i32 v168), .int (i32 ((m.2 77) ((m.1 73) - 1)))] [] rfl (fun _ => rfl) rfl (c_unit w (mO m [(7, (m.1 7)), (8, (m.1 8)), (9, (m.1 9)), (10, (m213.1 10)), (11, (m213.1 11)), (12, (m.1 12)), (28, (m213.1 28)), (69, (m.1 69)), (70, (m.1 70)), (71, (m.1 71)), (72, (m.1 72)), (73, (m.1 73) - 1), (74, (m.1 74) - 1), (75, (m.1 75))] [(65, (m213.2 65)), (66, (m213.2 66)), (67, (m213.2 67)), (68, (m213.2 68)), (76, (m.2 76)), (77, (m.2 77)), (78, (m.2 78)), (79, (m.2 79)), (80, (m.2 80)), (81, (m.2 81)), (82, (m.2 82)), (83, (m.2 83)), (84, (m.2 84)), (85, (m.2 85)), (86, (m.2 86)), (87, (m.2 87)), (88, (m.2 88)), (89, (m.2 89)), (90, (m.2 90)), (91, (m.2 91)), (92, (m.2 92))]) c N D (by omega) (Ty_mO hT rfl rfl ⟨f7, f8, f9, (hT214.1 10), (hT214.1 11), f12, (hT214.1 28), f69, f70, f71, f72, g174, g175, f75, trivial⟩ ⟨(hT214.2.1 65), (hT214.2.1 66), (hT214.2.1 67), (hT214.2.1 68), (hT.2.1 76), (hT.2.1 77), (hT.2.1 78), (hT.2.1 79), (hT.2.1 80), (hT.2.1 81), (hT.2.1 82), (hT.2.1 83), (hT.2.1 84), (hT.2.1 85), (hT.2.1 86), (hT.2.1 87), (hT.2.1 88), (hT.2.1 89), (hT.2.1 90), (hT.2.1 91), (hT.2.1 92), trivial⟩) v168 ((m.2 77) ((m.1 73) - 1)) (r32 (by omega) (by omega)) (r32 (by omega) (by omega)) (show 0 ≤ v168 ∧ v168 ≤ 1024 by omega) (show 0 ≤ ((m.2 77) ((m.1 73) - 1)) ∧ ((m.2 77) ((m.1 73) - 1)) ≤ 4000 by omega)) (fun rr234 k235 => ?_)
            obtain ⟨m236, hT237, h238, rfl⟩ := k235
            refine ⟨_, _, rfl, ?_⟩
            refine T_nf2 (st' := []) (l' := [(7, (m.1 7)), (8, (m.1 8)), (9, (m.1 9)), (10, (m213.1 10)), (11, (m213.1 11)), (12, (m.1 12)), (28, (m213.1 28)), (69, (m236.1 69)), (70, (m236.1 70)), (71, (m236.1 71)), (72, (m236.1 72)), (73, (m.1 73) - 1), (74, (m.1 74) - 1), (75, (m.1 75))]) (a' := [(65, (m213.2 65)), (66, (m213.2 66)), (67, (m213.2 67)), (68, (m213.2 68)), (76, (m.2 76)), (77, (m.2 77)), (78, (m.2 78)), (79, (m.2 79)), (80, (m.2 80)), (81, (m.2 81)), (82, (m.2 82)), (83, (m.2 83)), (84, (m.2 84)), (85, (m.2 85)), (86, (m.2 86)), (87, (m.2 87)), (88, (m.2 88)), (89, (m.2 89)), (90, (m.2 90)), (91, (m.2 91)), (92, (m.2 92))]) [69, 70, 71, 72] [] rfl ⟨rfl, rfl, rfl, rfl, rfl, rfl, rfl, rfl, rfl, rfl, rfl, rfl, rfl, rfl, rfl, rfl, rfl, rfl, rfl, rfl, rfl, rfl, rfl, rfl, rfl, rfl, rfl, rfl, rfl, rfl, rfl, rfl, rfl, rfl, rfl, trivial⟩ ⟨rfl, rfl, rfl, rfl, rfl, rfl, rfl, rfl, rfl, rfl, rfl, rfl, rfl, rfl, rfl, rfl, rfl, rfl, rfl, rfl, rfl, rfl, rfl, rfl, rfl, rfl, rfl, rfl, rfl, rfl, rfl, rfl, rfl, rfl, rfl, rfl, rfl, rfl, rfl, rfl, rfl, rfl, trivial⟩ rfl rfl (by decide) (by decide) ?_
            have g239 : 0 ≤ m236.1 69 ∧ m236.1 69 ≤ 1024 := hT237.1 69
            have g240 : 0 ≤ m236.1 70 ∧ m236.1 70 ≤ 4000 := hT237.1 70
            have g241 : 0 ≤ m236.1 71 ∧ m236.1 71 ≤ 1 := hT237.1 71
            have g242 : (-9223372036854775808) ≤ m236.1 72 ∧ m236.1 72 ≤ 9223372036854775807 := hT237.1 72
            replace h238 : (m236.1 69) = v168 := h238
            refine T_ret rfl (fun _ => rfl) ?_
            exact ⟨(mO m [(7, (m.1 7)), (8, (m.1 8)), (9, (m.1 9)), (10, (m213.1 10)), (11, (m213.1 11)), (12, (m.1 12)), (28, (m213.1 28)), (69, (m236.1 69)), (70, (m236.1 70)), (71, (m236.1 71)), (72, (m236.1 72)), (73, (m.1 73) - 1), (74, (m.1 74) - 1), (75, (m.1 75))] [(65, (m213.2 65)), (66, (m213.2 66)), (67, (m213.2 67)), (68, (m213.2 68)), (76, (m.2 76)), (77, (m.2 77)), (78, (m.2 78)), (79, (m.2 79)), (80, (m.2 80)), (81, (m.2 81)), (82, (m.2 82)), (83, (m.2 83)), (84, (m.2 84)), (85, (m.2 85)), (86, (m.2 86)), (87, (m.2 87)), (88, (m.2 88)), (89, (m.2 89)), (90, (m.2 90)), (91, (m.2 91)), (92, (m.2 92))]), (Ty_mO hT rfl rfl ⟨f7, f8, f9, (hT214.1 10), (hT214.1 11), f12, (hT214.1 28), (hT237.1 69), (hT237.1 70), (hT237.1 71), (hT237.1 72), g174, g175, f75, trivial⟩ ⟨(hT214.2.1 65), (hT214.2.1 66), (hT214.2.1 67), (hT214.2.1 68), (hT.2.1 76), (hT.2.1 77), (hT.2.1 78), (hT.2.1 79), (hT.2.1 80), (hT.2.1 81), (hT.2.1 82), (hT.2.1 83), (hT.2.1 84), (hT.2.1 85), (hT.2.1 86), (hT.2.1 87), (hT.2.1 88), (hT.2.1 89), (hT.2.1 90), (hT.2.1 91), (hT.2.1 92), trivial⟩), (show (m213.1 10) = 0 → (m.1 10) = 0 by omega), (show LxP (m.1 7) (m.1 8) (m.1 9) (m.1 6) (m213.1 10) by first | (first | exact hLx | exact (fun _ => hLx (by omega)) | (intro h9; exfalso; omega)) | (exfalso; omega)), (fun (h : (m213.1 10) = 0) => absurd h (by omega)), rfl⟩
      refine T_icmp 73 71 rfl rfl rfl (r32 (by omega) (by omega)) ⟨by decide, by decide⟩ (fun (h243 : (m.2 78) ((m.1 73) - 1) ≠ 33) => ?_) (fun (h243 : ¬ ((m.2 78) ((m.1 73) - 1) ≠ 33)) => ?_)
      · skip
        refine Tm_lv (a := [(0, .ref 189), (1, .int (i32 ((m.1 73) - 1))), (2, .int (i32 ((m.2 77) ((m.1 73) - 1)))), (3, .int (i32 (m.1 69)))]) rfl rfl ⟨rfl, rfl, rfl, rfl, trivial⟩ ?_
        exact J73_169 (m.1 69) (r32 (by omega) (by omega)) (show 0 ≤ (m.1 69) by omega) (show (m.1 69) ≤ 64 by omega)
      · skip
        refine T_ld 72 (.int (i32 1)) rfl (fun _ => rfl) ?_
        refine T_sto 73 [(3, .int (i32 1)), (2, .int (i32 ((m.2 77) ((m.1 73) - 1)))), (1, .int (i32 ((m.1 73) - 1))), (0, .ref 189)] rfl (fun _ => rfl) ?_
        refine Tm_lv (a := [(0, .ref 189), (1, .int (i32 ((m.1 73) - 1))), (2, .int (i32 ((m.2 77) ((m.1 73) - 1)))), (3, .int (i32 1))]) rfl rfl ⟨rfl, rfl, rfl, rfl, trivial⟩ ?_
        exact J73_169 1 ⟨by decide, by decide⟩ (show 0 ≤ (1 : Int) by omega) (show (1 : Int) ≤ 64 by omega)
    · skip
      refine T_ld 41 (.ref 189) rfl (fun _ => rfl) ?_
      refine T_gf 45 (.int (i32 (m.1 69))) rfl rfl rfl rfl rfl rfl ?_
      refine T_gf 49 (.int (i32 (m.1 71))) rfl rfl rfl rfl rfl rfl ?_
      refine T_gf 53 (.long (i64 (m.1 72))) rfl rfl rfl rfl rfl rfl ?_
      refine T_gf 57 (.int (i32 (m.1 70))) rfl rfl rfl rfl rfl rfl ?_
      refine T_call 60 258 [.ref 189, .int (i32 (m.1 69)), .int (i32 (m.1 71)), .long (i64 (m.1 72)), .int (i32 (m.1 70))] [] rfl (fun _ => rfl) rfl (c_wantBit w (mO m [(7, (m.1 7)), (8, (m.1 8)), (9, (m.1 9)), (10, (m.1 10)), (11, (m.1 11)), (12, (m.1 12)), (28, (m.1 28)), (69, (m.1 69)), (70, (m.1 70)), (71, (m.1 71)), (72, (m.1 72)), (73, (m.1 73)), (74, (m.1 74)), (75, (m.1 75))] [(65, (m.2 65)), (66, (m.2 66)), (67, (m.2 67)), (68, (m.2 68)), (76, (m.2 76)), (77, (m.2 77)), (78, (m.2 78)), (79, (m.2 79)), (80, (m.2 80)), (81, (m.2 81)), (82, (m.2 82)), (83, (m.2 83)), (84, (m.2 84)), (85, (m.2 85)), (86, (m.2 86)), (87, (m.2 87)), (88, (m.2 88)), (89, (m.2 89)), (90, (m.2 90)), (91, (m.2 91)), (92, (m.2 92))]) c N D (by omega) (Ty_mO hT rfl rfl ⟨f7, f8, f9, f10, f11, f12, f28, f69, f70, f71, f72, f73, f74, f75, trivial⟩ ⟨(hT.2.1 65), (hT.2.1 66), (hT.2.1 67), (hT.2.1 68), (hT.2.1 76), (hT.2.1 77), (hT.2.1 78), (hT.2.1 79), (hT.2.1 80), (hT.2.1 81), (hT.2.1 82), (hT.2.1 83), (hT.2.1 84), (hT.2.1 85), (hT.2.1 86), (hT.2.1 87), (hT.2.1 88), (hT.2.1 89), (hT.2.1 90), (hT.2.1 91), (hT.2.1 92), trivial⟩) (m.1 69) (m.1 71) (m.1 72) (m.1 70) (r32 (by omega) (by omega)) (r32 (by omega) (by omega)) (r64 (by omega) (by omega)) (r32 (by omega) (by omega)) (show 0 ≤ (m.1 70) ∧ (m.1 70) ≤ 4000 by omega) (fun _ => trivial)) (fun rr244 k245 => ?_)
      obtain ⟨m246, hT247, h248, c249, rfl⟩ := k245
      refine ⟨_, _, rfl, ?_⟩
      refine T_nf2 (st' := []) (l' := [(7, (m.1 7)), (8, (m.1 8)), (9, (m.1 9)), (10, (m246.1 10)), (11, (m246.1 11)), (12, (m.1 12)), (28, (m.1 28)), (69, (m.1 69)), (70, (m.1 70)), (71, (m.1 71)), (72, (m.1 72)), (73, (m.1 73)), (74, (m.1 74)), (75, (m.1 75))]) (a' := [(65, (m.2 65)), (66, (m.2 66)), (67, (m.2 67)), (68, (m.2 68)), (76, (m.2 76)), (77, (m.2 77)), (78, (m.2 78)), (79, (m.2 79)), (80, (m.2 80)), (81, (m.2 81)), (82, (m.2 82)), (83, (m.2 83)), (84, (m.2 84)), (85, (m.2 85)), (86, (m.2 86)), (87, (m.2 87)), (88, (m.2 88)), (89, (m.2 89)), (90, (m.2 90)), (91, (m.2 91)), (92, (m.2 92))]) [10, 11] [] rfl ⟨rfl, rfl, rfl, rfl, rfl, rfl, rfl, rfl, rfl, rfl, rfl, rfl, rfl, rfl, rfl, rfl, rfl, rfl, rfl, rfl, rfl, rfl, rfl, rfl, rfl, rfl, rfl, rfl, rfl, rfl, rfl, trivial⟩ ⟨rfl, rfl, rfl, rfl, rfl, rfl, rfl, rfl, rfl, rfl, rfl, rfl, rfl, rfl, rfl, rfl, rfl, rfl, rfl, rfl, rfl, rfl, rfl, rfl, rfl, rfl, rfl, rfl, rfl, rfl, rfl, rfl, rfl, rfl, rfl, rfl, rfl, rfl, rfl, rfl, rfl, rfl, trivial⟩ rfl rfl (by decide) (by decide) ?_
      have g250 : 0 ≤ m246.1 10 ∧ m246.1 10 ≤ 8 := hT247.1 10
      have g251 : (-1) ≤ m246.1 11 ∧ m246.1 11 ≤ 4000 := hT247.1 11
      by_cases hf252 : (m246.1 10) = 0
      · skip
        replace h248 : (m.1 10) = 0 := h248 hf252
        clear c249
        have hAgC : agr (m.2 65) (m.2 65) (m.1 28) := by first | exact agr_r _ _ | exact hAgC | exact agr_t hAgC hAg (by omega)
        refine T_gf 64 (.ref 240) rfl rfl rfl rfl rfl rfl ?_
        refine T_ld 65 (.int (i32 ((m.1 73) - 1))) rfl (fun _ => rfl) ?_
        refine T_iald 66 78 (m.2 78) rfl rfl rfl (by omega) (show ((m.1 73) - 1) < (60 : Int) by omega) rfl ?_
        have e253 : 0 ≤ (m.2 78) ((m.1 73) - 1) ∧ (m.2 78) ((m.1 73) - 1) ≤ 330 := (hT.2.1 78) ((m.1 73) - 1)
        refine T_ld 68 (.int (i32 33)) rfl (fun _ => rfl) ?_
        refine T_icmp 73 71 rfl rfl rfl (r32 (by omega) (by omega)) ⟨by decide, by decide⟩ (fun (h254 : (m.2 78) ((m.1 73) - 1) ≠ 33) => by exfalso; omega) (fun (h254 : ¬ ((m.2 78) ((m.1 73) - 1) ≠ 33)) => ?_)
        refine T_ld 72 (.int (i32 1)) rfl (fun _ => rfl) ?_
        refine T_sto 73 [(3, .int (i32 1)), (2, .int (i32 ((m.2 77) ((m.1 73) - 1)))), (1, .int (i32 ((m.1 73) - 1))), (0, .ref 189)] rfl (fun _ => rfl) ?_
        refine T_ld 74 (.ref 189) rfl (fun _ => rfl) ?_
        refine T_ld 75 (.ref 189) rfl (fun _ => rfl) ?_
        refine T_gf1 78 (.int (i32 (m.1 73))) rfl rfl rfl rfl ?_
        refine T_ld 79 (.int (i32 1)) rfl (fun _ => rfl) ?_
        refine T_isub 80 rfl rfl ?_
        refine T_pf (l' := [(7, (m.1 7)), (8, (m.1 8)), (9, (m.1 9)), (10, (m246.1 10)), (11, (m246.1 11)), (12, (m.1 12)), (28, (m.1 28)), (69, (m.1 69)), (70, (m.1 70)), (71, (m.1 71)), (72, (m.1 72)), (73, (m.1 73) - 1), (74, (m.1 74)), (75, (m.1 75))]) 83 ((m.1 73) - 1) rfl rfl rfl rfl rfl rfl ?_
        have g255 : 0 ≤ (m.1 73) - 1 ∧ (m.1 73) - 1 ≤ 60 := ⟨by omega, by omega⟩
        refine T_ld 84 (.ref 189) rfl (fun _ => rfl) ?_
        refine T_ld 85 (.ref 189) rfl (fun _ => rfl) ?_
        refine T_gf1 88 (.int (i32 (m.1 74))) rfl rfl rfl rfl ?_
        refine T_ld 89 (.int (i32 1)) rfl (fun _ => rfl) ?_
        refine T_isub 90 rfl rfl ?_
        refine T_pf (l' := [(7, (m.1 7)), (8, (m.1 8)), (9, (m.1 9)), (10, (m246.1 10)), (11, (m246.1 11)), (12, (m.1 12)), (28, (m.1 28)), (69, (m.1 69)), (70, (m.1 70)), (71, (m.1 71)), (72, (m.1 72)), (73, (m.1 73) - 1), (74, (m.1 74) - 1), (75, (m.1 75))]) 93 ((m.1 74) - 1) rfl rfl rfl rfl rfl rfl ?_
        have g256 : 0 ≤ (m.1 74) - 1 ∧ (m.1 74) - 1 ≤ 24 := ⟨by omega, by omega⟩
        refine T_ld 94 (.ref 189) rfl (fun _ => rfl) ?_
        refine T_gf 98 (.ref 240) rfl rfl rfl rfl rfl rfl ?_
        refine T_ld 99 (.int (i32 ((m.1 73) - 1))) rfl (fun _ => rfl) ?_
        refine T_iald 100 78 (m.2 78) rfl rfl rfl (by omega) (show ((m.1 73) - 1) < (60 : Int) by omega) rfl ?_
        have e257 : 0 ≤ (m.2 78) ((m.1 73) - 1) ∧ (m.2 78) ((m.1 73) - 1) ≤ 330 := (hT.2.1 78) ((m.1 73) - 1)
        refine T_ld 102 (.int (i32 45)) rfl (fun _ => rfl) ?_
        refine T_icmp 111 105 rfl rfl rfl (r32 (by omega) (by omega)) ⟨by decide, by decide⟩ (fun (h258 : (m.2 78) ((m.1 73) - 1) ≠ 45) => ?_) (fun (h258 : ¬ ((m.2 78) ((m.1 73) - 1) ≠ 45)) => by exfalso; omega)
        refine T_gf 115 (.ref 240) rfl rfl rfl rfl rfl rfl ?_
        refine T_ld 116 (.int (i32 ((m.1 73) - 1))) rfl (fun _ => rfl) ?_
        refine T_iald 117 78 (m.2 78) rfl rfl rfl (by omega) (show ((m.1 73) - 1) < (60 : Int) by omega) rfl ?_
        have e259 : 0 ≤ (m.2 78) ((m.1 73) - 1) ∧ (m.2 78) ((m.1 73) - 1) ≤ 330 := (hT.2.1 78) ((m.1 73) - 1)
        have hA : ar ((m.2 78) ((m.1 73) - 1)) = 1 := ar_1 (by omega)
        have hAr : ar ((m.2 78) ((m.1 73) - 1)) ≤ 1 + lh (m.2 79) (m.2 80) ((m.1 73) - 1) := by omega
        have hCk : CNk ((m.2 78) ((m.1 73) - 1)) 0 := by refine ⟨?_, ?_, ?_, ?_⟩ <;> omega
        refine T_ld 118 (.int (i32 1)) rfl (fun _ => rfl) ?_
        refine T_ld 119 (.int (i32 0)) rfl (fun _ => rfl) ?_
        refine T_ld 120 (.long (i64 0)) rfl (fun _ => rfl) ?_
        refine T_call 123 248 [.ref 189, .int (i32 ((m.2 78) ((m.1 73) - 1))), .int (i32 1), .int (i32 0), .long (i64 0)] [] rfl (fun _ => rfl) rfl (c_node w (mO m [(7, (m.1 7)), (8, (m.1 8)), (9, (m.1 9)), (10, (m246.1 10)), (11, (m246.1 11)), (12, (m.1 12)), (28, (m.1 28)), (69, (m.1 69)), (70, (m.1 70)), (71, (m.1 71)), (72, (m.1 72)), (73, (m.1 73) - 1), (74, (m.1 74) - 1), (75, (m.1 75))] [(65, (m.2 65)), (66, (m.2 66)), (67, (m.2 67)), (68, (m.2 68)), (76, (m.2 76)), (77, (m.2 77)), (78, (m.2 78)), (79, (m.2 79)), (80, (m.2 80)), (81, (m.2 81)), (82, (m.2 82)), (83, (m.2 83)), (84, (m.2 84)), (85, (m.2 85)), (86, (m.2 86)), (87, (m.2 87)), (88, (m.2 88)), (89, (m.2 89)), (90, (m.2 90)), (91, (m.2 91)), (92, (m.2 92))]) c N D (by omega) (Ty_mO hT rfl rfl ⟨f7, f8, f9, (hT247.1 10), (hT247.1 11), f12, f28, f69, f70, f71, f72, g255, g256, f75, trivial⟩ ⟨(hT.2.1 65), (hT.2.1 66), (hT.2.1 67), (hT.2.1 68), (hT.2.1 76), (hT.2.1 77), (hT.2.1 78), (hT.2.1 79), (hT.2.1 80), (hT.2.1 81), (hT.2.1 82), (hT.2.1 83), (hT.2.1 84), (hT.2.1 85), (hT.2.1 86), (hT.2.1 87), (hT.2.1 88), (hT.2.1 89), (hT.2.1 90), (hT.2.1 91), (hT.2.1 92), trivial⟩) ((m.2 78) ((m.1 73) - 1)) 1 0 0 B (1 + lh (m.2 79) (m.2 80) ((m.1 73) - 1)) (r32 (by omega) (by omega)) ⟨by decide, by decide⟩ ⟨by decide, by decide⟩ ⟨by decide, by decide⟩ (fun _ => ⟨(show 0 ≤ ((m.2 78) ((m.1 73) - 1)) ∧ ((m.2 78) ((m.1 73) - 1)) ≤ 408 by first | omega | decide), (show 0 ≤ (1 : Int) ∧ (1 : Int) ≤ 64 by first | omega | decide), (show 0 ≤ (0 : Int) ∧ (0 : Int) ≤ 191 by first | omega | decide), (show CNk ((m.2 78) ((m.1 73) - 1)) (0 : Int) by first | exact hCk | (refine ⟨?_, ?_, ?_, ?_⟩ <;> omega)), (show ar ((m.2 78) ((m.1 73) - 1)) ≤ (1 + lh (m.2 79) (m.2 80) ((m.1 73) - 1)) by first | exact hAr | omega), (show EX (m.2 65) (m.2 67) B (m.1 28) (1 + lh (m.2 79) (m.2 80) ((m.1 73) - 1)) by first | exact hEX | assumption)⟩)) (fun rr260 k261 => ?_)
        obtain ⟨m262, hT263, h264, c265, rfl⟩ := k261
        refine ⟨_, _, rfl, ?_⟩
        refine T_nf2 (st' := []) (l' := [(7, (m.1 7)), (8, (m.1 8)), (9, (m.1 9)), (10, (m262.1 10)), (11, (m262.1 11)), (12, (m.1 12)), (28, (m262.1 28)), (69, (m.1 69)), (70, (m.1 70)), (71, (m.1 71)), (72, (m.1 72)), (73, (m.1 73) - 1), (74, (m.1 74) - 1), (75, (m.1 75))]) (a' := [(65, (m262.2 65)), (66, (m262.2 66)), (67, (m262.2 67)), (68, (m262.2 68)), (76, (m.2 76)), (77, (m.2 77)), (78, (m.2 78)), (79, (m.2 79)), (80, (m.2 80)), (81, (m.2 81)), (82, (m.2 82)), (83, (m.2 83)), (84, (m.2 84)), (85, (m.2 85)), (86, (m.2 86)), (87, (m.2 87)), (88, (m.2 88)), (89, (m.2 89)), (90, (m.2 90)), (91, (m.2 91)), (92, (m.2 92))]) [10, 11, 28] [65, 66, 67, 68] rfl ⟨rfl, rfl, rfl, rfl, rfl, rfl, rfl, rfl, rfl, rfl, rfl, rfl, rfl, rfl, rfl, rfl, rfl, rfl, rfl, rfl, rfl, rfl, rfl, rfl, rfl, rfl, rfl, rfl, rfl, rfl, rfl, rfl, trivial⟩ ⟨rfl, rfl, rfl, rfl, rfl, rfl, rfl, rfl, rfl, rfl, rfl, rfl, rfl, rfl, rfl, rfl, rfl, rfl, rfl, rfl, rfl, rfl, rfl, rfl, rfl, rfl, rfl, rfl, rfl, rfl, rfl, rfl, rfl, rfl, rfl, rfl, rfl, rfl, rfl, rfl, rfl, rfl, trivial⟩ rfl rfl (by decide) (by decide) ?_
        have g266 : 0 ≤ m262.1 10 ∧ m262.1 10 ≤ 8 := hT263.1 10
        have g267 : (-1) ≤ m262.1 11 ∧ m262.1 11 ≤ 4000 := hT263.1 11
        have g268 : 0 ≤ m262.1 28 ∧ m262.1 28 ≤ 800 := hT263.1 28
        by_cases hf269 : (m262.1 10) = 0
        · skip
          replace h264 : (m246.1 10) = 0 := h264 hf269
          obtain ⟨c270, c271, c272⟩ := c265 hf269
          replace c270 : (m262.1 28) = (m.1 28) + 1 := c270
          replace c271 : EX (m262.2 65) (m262.2 67) B (m262.1 28) ((1 + lh (m.2 79) (m.2 80) ((m.1 73) - 1)) + 1 - ar ((m.2 78) ((m.1 73) - 1))) := c271
          have hEX := c271
          replace c272 : agr (m.2 65) (m262.2 65) (m.1 28) := c272
          have hAg := c272
          clear c265
          have hAgC : agr (m.2 65) (m262.2 65) (m.1 28) := by first | exact agr_r _ _ | exact hAgC | exact agr_t hAgC hAg (by omega)
          have hXE : XS (m262.2 65) (m262.2 67) (m.2 76) (m.2 78) (m.2 79) (m.2 80) B (m262.1 28) ((m.1 73) - 1) ((m.1 74) - 1) (um (m.1 75)) := by
            rw [show um (m.1 75) = 1 from if_neg (by omega)]
            exact XS_of hXP hEX (by omega)
          refine T_ld 124 (.ref 189) rfl (fun _ => rfl) ?_
          refine T_ld 125 (.int (i32 1)) rfl (fun _ => rfl) ?_
          refine T_ld 126 (.int (i32 ((m.2 77) ((m.1 73) - 1)))) rfl (fun _ => rfl) ?_
          refine T_call 129 250 [.ref 189, .int (i32 1), .int (i32 ((m.2 77) ((m.1 73) - 1)))] [] rfl (fun _ => rfl) rfl (c_unit w (mO m [(7, (m.1 7)), (8, (m.1 8)), (9, (m.1 9)), (10, (m262.1 10)), (11, (m262.1 11)), (12, (m.1 12)), (28, (m262.1 28)), (69, (m.1 69)), (70, (m.1 70)), (71, (m.1 71)), (72, (m.1 72)), (73, (m.1 73) - 1), (74, (m.1 74) - 1), (75, (m.1 75))] [(65, (m262.2 65)), (66, (m262.2 66)), (67, (m262.2 67)), (68, (m262.2 68)), (76, (m.2 76)), (77, (m.2 77)), (78, (m.2 78)), (79, (m.2 79)), (80, (m.2 80)), (81, (m.2 81)), (82, (m.2 82)), (83, (m.2 83)), (84, (m.2 84)), (85, (m.2 85)), (86, (m.2 86)), (87, (m.2 87)), (88, (m.2 88)), (89, (m.2 89)), (90, (m.2 90)), (91, (m.2 91)), (92, (m.2 92))]) c N D (by omega) (Ty_mO hT rfl rfl ⟨f7, f8, f9, (hT263.1 10), (hT263.1 11), f12, (hT263.1 28), f69, f70, f71, f72, g255, g256, f75, trivial⟩ ⟨(hT263.2.1 65), (hT263.2.1 66), (hT263.2.1 67), (hT263.2.1 68), (hT.2.1 76), (hT.2.1 77), (hT.2.1 78), (hT.2.1 79), (hT.2.1 80), (hT.2.1 81), (hT.2.1 82), (hT.2.1 83), (hT.2.1 84), (hT.2.1 85), (hT.2.1 86), (hT.2.1 87), (hT.2.1 88), (hT.2.1 89), (hT.2.1 90), (hT.2.1 91), (hT.2.1 92), trivial⟩) 1 ((m.2 77) ((m.1 73) - 1)) ⟨by decide, by decide⟩ (r32 (by omega) (by omega)) (show 0 ≤ (1 : Int) ∧ (1 : Int) ≤ 1024 by omega) (show 0 ≤ ((m.2 77) ((m.1 73) - 1)) ∧ ((m.2 77) ((m.1 73) - 1)) ≤ 4000 by omega)) (fun rr273 k274 => ?_)
          obtain ⟨m275, hT276, h277, rfl⟩ := k274
          refine ⟨_, _, rfl, ?_⟩
          refine T_nf2 (st' := []) (l' := [(7, (m.1 7)), (8, (m.1 8)), (9, (m.1 9)), (10, (m262.1 10)), (11, (m262.1 11)), (12, (m.1 12)), (28, (m262.1 28)), (69, (m275.1 69)), (70, (m275.1 70)), (71, (m275.1 71)), (72, (m275.1 72)), (73, (m.1 73) - 1), (74, (m.1 74) - 1), (75, (m.1 75))]) (a' := [(65, (m262.2 65)), (66, (m262.2 66)), (67, (m262.2 67)), (68, (m262.2 68)), (76, (m.2 76)), (77, (m.2 77)), (78, (m.2 78)), (79, (m.2 79)), (80, (m.2 80)), (81, (m.2 81)), (82, (m.2 82)), (83, (m.2 83)), (84, (m.2 84)), (85, (m.2 85)), (86, (m.2 86)), (87, (m.2 87)), (88, (m.2 88)), (89, (m.2 89)), (90, (m.2 90)), (91, (m.2 91)), (92, (m.2 92))]) [69, 70, 71, 72] [] rfl ⟨rfl, rfl, rfl, rfl, rfl, rfl, rfl, rfl, rfl, rfl, rfl, rfl, rfl, rfl, rfl, rfl, rfl, rfl, rfl, rfl, rfl, rfl, rfl, rfl, rfl, rfl, rfl, rfl, rfl, rfl, rfl, rfl, rfl, rfl, rfl, trivial⟩ ⟨rfl, rfl, rfl, rfl, rfl, rfl, rfl, rfl, rfl, rfl, rfl, rfl, rfl, rfl, rfl, rfl, rfl, rfl, rfl, rfl, rfl, rfl, rfl, rfl, rfl, rfl, rfl, rfl, rfl, rfl, rfl, rfl, rfl, rfl, rfl, rfl, rfl, rfl, rfl, rfl, rfl, rfl, trivial⟩ rfl rfl (by decide) (by decide) ?_
          have g278 : 0 ≤ m275.1 69 ∧ m275.1 69 ≤ 1024 := hT276.1 69
          have g279 : 0 ≤ m275.1 70 ∧ m275.1 70 ≤ 4000 := hT276.1 70
          have g280 : 0 ≤ m275.1 71 ∧ m275.1 71 ≤ 1 := hT276.1 71
          have g281 : (-9223372036854775808) ≤ m275.1 72 ∧ m275.1 72 ≤ 9223372036854775807 := hT276.1 72
          replace h277 : (m275.1 69) = (1 : Int) := h277
          have hAgC : agr (m.2 65) (m262.2 65) (m.1 28) := by first | exact agr_r _ _ | exact hAgC | exact agr_t hAgC hAg (by omega)
          refine T_ret rfl (fun _ => rfl) ?_
          exact ⟨(mO m [(7, (m.1 7)), (8, (m.1 8)), (9, (m.1 9)), (10, (m262.1 10)), (11, (m262.1 11)), (12, (m.1 12)), (28, (m262.1 28)), (69, (m275.1 69)), (70, (m275.1 70)), (71, (m275.1 71)), (72, (m275.1 72)), (73, (m.1 73) - 1), (74, (m.1 74) - 1), (75, (m.1 75))] [(65, (m262.2 65)), (66, (m262.2 66)), (67, (m262.2 67)), (68, (m262.2 68)), (76, (m.2 76)), (77, (m.2 77)), (78, (m.2 78)), (79, (m.2 79)), (80, (m.2 80)), (81, (m.2 81)), (82, (m.2 82)), (83, (m.2 83)), (84, (m.2 84)), (85, (m.2 85)), (86, (m.2 86)), (87, (m.2 87)), (88, (m.2 88)), (89, (m.2 89)), (90, (m.2 90)), (91, (m.2 91)), (92, (m.2 92))]), (Ty_mO hT rfl rfl ⟨f7, f8, f9, (hT263.1 10), (hT263.1 11), f12, (hT263.1 28), (hT276.1 69), (hT276.1 70), (hT276.1 71), (hT276.1 72), g255, g256, f75, trivial⟩ ⟨(hT263.2.1 65), (hT263.2.1 66), (hT263.2.1 67), (hT263.2.1 68), (hT.2.1 76), (hT.2.1 77), (hT.2.1 78), (hT.2.1 79), (hT.2.1 80), (hT.2.1 81), (hT.2.1 82), (hT.2.1 83), (hT.2.1 84), (hT.2.1 85), (hT.2.1 86), (hT.2.1 87), (hT.2.1 88), (hT.2.1 89), (hT.2.1 90), (hT.2.1 91), (hT.2.1 92), trivial⟩), (show (m262.1 10) = 0 → (m.1 10) = 0 by omega), (show LxP (m.1 7) (m.1 8) (m.1 9) (m.1 6) (m262.1 10) by first | (first | exact hLx | exact (fun _ => hLx (by omega)) | (intro h9; exfalso; omega)) | (exfalso; omega)), (fun _ => ⟨(show GP (m.1 8) (m.1 8) (m.1 75) ((m.1 73) - 1) (m.1 73) by first | (first | assumption | (unfold GP; omega)) | (exfalso; omega)), (show GU (m.1 75) (m275.1 69) by first | (first | assumption | (unfold GU; omega)) | (exfalso; omega)), (show GH (m.1 75) ((m.1 73) - 1) by first | (first | assumption | (unfold GH; omega)) | (exfalso; omega)), (show (m.1 28) ≤ (m262.1 28) by omega), (show XS (m262.2 65) (m262.2 67) (m.2 76) (m.2 78) (m.2 79) (m.2 80) B (m262.1 28) ((m.1 73) - 1) ((m.1 74) - 1) (um (m.1 75)) by first | (exact hXE) | (exfalso; omega)), (show agr (m.2 65) (m262.2 65) (m.1 28) by first | (exact hAgC) | (exfalso; omega))⟩), rfl⟩
        · skip
          clear c265
          clear h264
          have hf282 : 1 ≤ (m262.1 10) := by omega
          refine T_ld 124 (.ref 189) rfl (fun _ => rfl) ?_
          refine T_ld 125 (.int (i32 1)) rfl (fun _ => rfl) ?_
          refine T_ld 126 (.int (i32 ((m.2 77) ((m.1 73) - 1)))) rfl (fun _ => rfl) ?_
          refine T_call 129 250 [.ref 189, .int (i32 1), .int (i32 ((m.2 77) ((m.1 73) - 1)))] [] rfl (fun _ => rfl) rfl (c_unit w (mO m [(7, (m.1 7)), (8, (m.1 8)), (9, (m.1 9)), (10, (m262.1 10)), (11, (m262.1 11)), (12, (m.1 12)), (28, (m262.1 28)), (69, (m.1 69)), (70, (m.1 70)), (71, (m.1 71)), (72, (m.1 72)), (73, (m.1 73) - 1), (74, (m.1 74) - 1), (75, (m.1 75))] [(65, (m262.2 65)), (66, (m262.2 66)), (67, (m262.2 67)), (68, (m262.2 68)), (76, (m.2 76)), (77, (m.2 77)), (78, (m.2 78)), (79, (m.2 79)), (80, (m.2 80)), (81, (m.2 81)), (82, (m.2 82)), (83, (m.2 83)), (84, (m.2 84)), (85, (m.2 85)), (86, (m.2 86)), (87, (m.2 87)), (88, (m.2 88)), (89, (m.2 89)), (90, (m.2 90)), (91, (m.2 91)), (92, (m.2 92))]) c N D (by omega) (Ty_mO hT rfl rfl ⟨f7, f8, f9, (hT263.1 10), (hT263.1 11), f12, (hT263.1 28), f69, f70, f71, f72, g255, g256, f75, trivial⟩ ⟨(hT263.2.1 65), (hT263.2.1 66), (hT263.2.1 67), (hT263.2.1 68), (hT.2.1 76), (hT.2.1 77), (hT.2.1 78), (hT.2.1 79), (hT.2.1 80), (hT.2.1 81), (hT.2.1 82), (hT.2.1 83), (hT.2.1 84), (hT.2.1 85), (hT.2.1 86), (hT.2.1 87), (hT.2.1 88), (hT.2.1 89), (hT.2.1 90), (hT.2.1 91), (hT.2.1 92), trivial⟩) 1 ((m.2 77) ((m.1 73) - 1)) ⟨by decide, by decide⟩ (r32 (by omega) (by omega)) (show 0 ≤ (1 : Int) ∧ (1 : Int) ≤ 1024 by omega) (show 0 ≤ ((m.2 77) ((m.1 73) - 1)) ∧ ((m.2 77) ((m.1 73) - 1)) ≤ 4000 by omega)) (fun rr283 k284 => ?_)
          obtain ⟨m285, hT286, h287, rfl⟩ := k284
          refine ⟨_, _, rfl, ?_⟩
          refine T_nf2 (st' := []) (l' := [(7, (m.1 7)), (8, (m.1 8)), (9, (m.1 9)), (10, (m262.1 10)), (11, (m262.1 11)), (12, (m.1 12)), (28, (m262.1 28)), (69, (m285.1 69)), (70, (m285.1 70)), (71, (m285.1 71)), (72, (m285.1 72)), (73, (m.1 73) - 1), (74, (m.1 74) - 1), (75, (m.1 75))]) (a' := [(65, (m262.2 65)), (66, (m262.2 66)), (67, (m262.2 67)), (68, (m262.2 68)), (76, (m.2 76)), (77, (m.2 77)), (78, (m.2 78)), (79, (m.2 79)), (80, (m.2 80)), (81, (m.2 81)), (82, (m.2 82)), (83, (m.2 83)), (84, (m.2 84)), (85, (m.2 85)), (86, (m.2 86)), (87, (m.2 87)), (88, (m.2 88)), (89, (m.2 89)), (90, (m.2 90)), (91, (m.2 91)), (92, (m.2 92))]) [69, 70, 71, 72] [] rfl ⟨rfl, rfl, rfl, rfl, rfl, rfl, rfl, rfl, rfl, rfl, rfl, rfl, rfl, rfl, rfl, rfl, rfl, rfl, rfl, rfl, rfl, rfl, rfl, rfl, rfl, rfl, rfl, rfl, rfl, rfl, rfl, rfl, rfl, rfl, rfl, trivial⟩ ⟨rfl, rfl, rfl, rfl, rfl, rfl, rfl, rfl, rfl, rfl, rfl, rfl, rfl, rfl, rfl, rfl, rfl, rfl, rfl, rfl, rfl, rfl, rfl, rfl, rfl, rfl, rfl, rfl, rfl, rfl, rfl, rfl, rfl, rfl, rfl, rfl, rfl, rfl, rfl, rfl, rfl, rfl, trivial⟩ rfl rfl (by decide) (by decide) ?_
          have g288 : 0 ≤ m285.1 69 ∧ m285.1 69 ≤ 1024 := hT286.1 69
          have g289 : 0 ≤ m285.1 70 ∧ m285.1 70 ≤ 4000 := hT286.1 70
          have g290 : 0 ≤ m285.1 71 ∧ m285.1 71 ≤ 1 := hT286.1 71
          have g291 : (-9223372036854775808) ≤ m285.1 72 ∧ m285.1 72 ≤ 9223372036854775807 := hT286.1 72
          replace h287 : (m285.1 69) = (1 : Int) := h287
          refine T_ret rfl (fun _ => rfl) ?_
          exact ⟨(mO m [(7, (m.1 7)), (8, (m.1 8)), (9, (m.1 9)), (10, (m262.1 10)), (11, (m262.1 11)), (12, (m.1 12)), (28, (m262.1 28)), (69, (m285.1 69)), (70, (m285.1 70)), (71, (m285.1 71)), (72, (m285.1 72)), (73, (m.1 73) - 1), (74, (m.1 74) - 1), (75, (m.1 75))] [(65, (m262.2 65)), (66, (m262.2 66)), (67, (m262.2 67)), (68, (m262.2 68)), (76, (m.2 76)), (77, (m.2 77)), (78, (m.2 78)), (79, (m.2 79)), (80, (m.2 80)), (81, (m.2 81)), (82, (m.2 82)), (83, (m.2 83)), (84, (m.2 84)), (85, (m.2 85)), (86, (m.2 86)), (87, (m.2 87)), (88, (m.2 88)), (89, (m.2 89)), (90, (m.2 90)), (91, (m.2 91)), (92, (m.2 92))]), (Ty_mO hT rfl rfl ⟨f7, f8, f9, (hT263.1 10), (hT263.1 11), f12, (hT263.1 28), (hT286.1 69), (hT286.1 70), (hT286.1 71), (hT286.1 72), g255, g256, f75, trivial⟩ ⟨(hT263.2.1 65), (hT263.2.1 66), (hT263.2.1 67), (hT263.2.1 68), (hT.2.1 76), (hT.2.1 77), (hT.2.1 78), (hT.2.1 79), (hT.2.1 80), (hT.2.1 81), (hT.2.1 82), (hT.2.1 83), (hT.2.1 84), (hT.2.1 85), (hT.2.1 86), (hT.2.1 87), (hT.2.1 88), (hT.2.1 89), (hT.2.1 90), (hT.2.1 91), (hT.2.1 92), trivial⟩), (show (m262.1 10) = 0 → (m.1 10) = 0 by omega), (show LxP (m.1 7) (m.1 8) (m.1 9) (m.1 6) (m262.1 10) by first | (first | exact hLx | exact (fun _ => hLx (by omega)) | (intro h9; exfalso; omega)) | (exfalso; omega)), (fun (h : (m262.1 10) = 0) => absurd h (by omega)), rfl⟩
      · skip
        clear c249
        clear h248
        have hf292 : 1 ≤ (m246.1 10) := by omega
        refine T_gf 64 (.ref 240) rfl rfl rfl rfl rfl rfl ?_
        refine T_ld 65 (.int (i32 ((m.1 73) - 1))) rfl (fun _ => rfl) ?_
        refine T_iald 66 78 (m.2 78) rfl rfl rfl (by omega) (show ((m.1 73) - 1) < (60 : Int) by omega) rfl ?_
        have e293 : 0 ≤ (m.2 78) ((m.1 73) - 1) ∧ (m.2 78) ((m.1 73) - 1) ≤ 330 := (hT.2.1 78) ((m.1 73) - 1)
        refine T_ld 68 (.int (i32 33)) rfl (fun _ => rfl) ?_
        refine T_icmp 73 71 rfl rfl rfl (r32 (by omega) (by omega)) ⟨by decide, by decide⟩ (fun (h294 : (m.2 78) ((m.1 73) - 1) ≠ 33) => by exfalso; omega) (fun (h294 : ¬ ((m.2 78) ((m.1 73) - 1) ≠ 33)) => ?_)
        refine T_ld 72 (.int (i32 1)) rfl (fun _ => rfl) ?_
        refine T_sto 73 [(3, .int (i32 1)), (2, .int (i32 ((m.2 77) ((m.1 73) - 1)))), (1, .int (i32 ((m.1 73) - 1))), (0, .ref 189)] rfl (fun _ => rfl) ?_
        refine T_ld 74 (.ref 189) rfl (fun _ => rfl) ?_
        refine T_ld 75 (.ref 189) rfl (fun _ => rfl) ?_
        refine T_gf1 78 (.int (i32 (m.1 73))) rfl rfl rfl rfl ?_
        refine T_ld 79 (.int (i32 1)) rfl (fun _ => rfl) ?_
        refine T_isub 80 rfl rfl ?_
        refine T_pf (l' := [(7, (m.1 7)), (8, (m.1 8)), (9, (m.1 9)), (10, (m246.1 10)), (11, (m246.1 11)), (12, (m.1 12)), (28, (m.1 28)), (69, (m.1 69)), (70, (m.1 70)), (71, (m.1 71)), (72, (m.1 72)), (73, (m.1 73) - 1), (74, (m.1 74)), (75, (m.1 75))]) 83 ((m.1 73) - 1) rfl rfl rfl rfl rfl rfl ?_
        have g295 : 0 ≤ (m.1 73) - 1 ∧ (m.1 73) - 1 ≤ 60 := ⟨by omega, by omega⟩
        refine T_ld 84 (.ref 189) rfl (fun _ => rfl) ?_
        refine T_ld 85 (.ref 189) rfl (fun _ => rfl) ?_
        refine T_gf1 88 (.int (i32 (m.1 74))) rfl rfl rfl rfl ?_
        refine T_ld 89 (.int (i32 1)) rfl (fun _ => rfl) ?_
        refine T_isub 90 rfl rfl ?_
        refine T_pf (l' := [(7, (m.1 7)), (8, (m.1 8)), (9, (m.1 9)), (10, (m246.1 10)), (11, (m246.1 11)), (12, (m.1 12)), (28, (m.1 28)), (69, (m.1 69)), (70, (m.1 70)), (71, (m.1 71)), (72, (m.1 72)), (73, (m.1 73) - 1), (74, (m.1 74) - 1), (75, (m.1 75))]) 93 ((m.1 74) - 1) rfl rfl rfl rfl rfl rfl ?_
        have g296 : 0 ≤ (m.1 74) - 1 ∧ (m.1 74) - 1 ≤ 24 := ⟨by omega, by omega⟩
        refine T_ld 94 (.ref 189) rfl (fun _ => rfl) ?_
        refine T_gf 98 (.ref 240) rfl rfl rfl rfl rfl rfl ?_
        refine T_ld 99 (.int (i32 ((m.1 73) - 1))) rfl (fun _ => rfl) ?_
        refine T_iald 100 78 (m.2 78) rfl rfl rfl (by omega) (show ((m.1 73) - 1) < (60 : Int) by omega) rfl ?_
        have e297 : 0 ≤ (m.2 78) ((m.1 73) - 1) ∧ (m.2 78) ((m.1 73) - 1) ≤ 330 := (hT.2.1 78) ((m.1 73) - 1)
        refine T_ld 102 (.int (i32 45)) rfl (fun _ => rfl) ?_
        refine T_icmp 111 105 rfl rfl rfl (r32 (by omega) (by omega)) ⟨by decide, by decide⟩ (fun (h298 : (m.2 78) ((m.1 73) - 1) ≠ 45) => ?_) (fun (h298 : ¬ ((m.2 78) ((m.1 73) - 1) ≠ 45)) => by exfalso; omega)
        refine T_gf 115 (.ref 240) rfl rfl rfl rfl rfl rfl ?_
        refine T_ld 116 (.int (i32 ((m.1 73) - 1))) rfl (fun _ => rfl) ?_
        refine T_iald 117 78 (m.2 78) rfl rfl rfl (by omega) (show ((m.1 73) - 1) < (60 : Int) by omega) rfl ?_
        have e299 : 0 ≤ (m.2 78) ((m.1 73) - 1) ∧ (m.2 78) ((m.1 73) - 1) ≤ 330 := (hT.2.1 78) ((m.1 73) - 1)
        refine T_ld 118 (.int (i32 1)) rfl (fun _ => rfl) ?_
        refine T_ld 119 (.int (i32 0)) rfl (fun _ => rfl) ?_
        refine T_ld 120 (.long (i64 0)) rfl (fun _ => rfl) ?_
        refine T_call 123 248 [.ref 189, .int (i32 ((m.2 78) ((m.1 73) - 1))), .int (i32 1), .int (i32 0), .long (i64 0)] [] rfl (fun _ => rfl) rfl (c_node w (mO m [(7, (m.1 7)), (8, (m.1 8)), (9, (m.1 9)), (10, (m246.1 10)), (11, (m246.1 11)), (12, (m.1 12)), (28, (m.1 28)), (69, (m.1 69)), (70, (m.1 70)), (71, (m.1 71)), (72, (m.1 72)), (73, (m.1 73) - 1), (74, (m.1 74) - 1), (75, (m.1 75))] [(65, (m.2 65)), (66, (m.2 66)), (67, (m.2 67)), (68, (m.2 68)), (76, (m.2 76)), (77, (m.2 77)), (78, (m.2 78)), (79, (m.2 79)), (80, (m.2 80)), (81, (m.2 81)), (82, (m.2 82)), (83, (m.2 83)), (84, (m.2 84)), (85, (m.2 85)), (86, (m.2 86)), (87, (m.2 87)), (88, (m.2 88)), (89, (m.2 89)), (90, (m.2 90)), (91, (m.2 91)), (92, (m.2 92))]) c N D (by omega) (Ty_mO hT rfl rfl ⟨f7, f8, f9, (hT247.1 10), (hT247.1 11), f12, f28, f69, f70, f71, f72, g295, g296, f75, trivial⟩ ⟨(hT.2.1 65), (hT.2.1 66), (hT.2.1 67), (hT.2.1 68), (hT.2.1 76), (hT.2.1 77), (hT.2.1 78), (hT.2.1 79), (hT.2.1 80), (hT.2.1 81), (hT.2.1 82), (hT.2.1 83), (hT.2.1 84), (hT.2.1 85), (hT.2.1 86), (hT.2.1 87), (hT.2.1 88), (hT.2.1 89), (hT.2.1 90), (hT.2.1 91), (hT.2.1 92), trivial⟩) ((m.2 78) ((m.1 73) - 1)) 1 0 0 B (1 + lh (m.2 79) (m.2 80) ((m.1 73) - 1)) (r32 (by omega) (by omega)) ⟨by decide, by decide⟩ ⟨by decide, by decide⟩ ⟨by decide, by decide⟩ (fun (h : (m246.1 10) = 0) => absurd h (by omega))) (fun rr300 k301 => ?_)
        obtain ⟨m302, hT303, h304, c305, rfl⟩ := k301
        refine ⟨_, _, rfl, ?_⟩
        refine T_nf2 (st' := []) (l' := [(7, (m.1 7)), (8, (m.1 8)), (9, (m.1 9)), (10, (m302.1 10)), (11, (m302.1 11)), (12, (m.1 12)), (28, (m302.1 28)), (69, (m.1 69)), (70, (m.1 70)), (71, (m.1 71)), (72, (m.1 72)), (73, (m.1 73) - 1), (74, (m.1 74) - 1), (75, (m.1 75))]) (a' := [(65, (m302.2 65)), (66, (m302.2 66)), (67, (m302.2 67)), (68, (m302.2 68)), (76, (m.2 76)), (77, (m.2 77)), (78, (m.2 78)), (79, (m.2 79)), (80, (m.2 80)), (81, (m.2 81)), (82, (m.2 82)), (83, (m.2 83)), (84, (m.2 84)), (85, (m.2 85)), (86, (m.2 86)), (87, (m.2 87)), (88, (m.2 88)), (89, (m.2 89)), (90, (m.2 90)), (91, (m.2 91)), (92, (m.2 92))]) [10, 11, 28] [65, 66, 67, 68] rfl ⟨rfl, rfl, rfl, rfl, rfl, rfl, rfl, rfl, rfl, rfl, rfl, rfl, rfl, rfl, rfl, rfl, rfl, rfl, rfl, rfl, rfl, rfl, rfl, rfl, rfl, rfl, rfl, rfl, rfl, rfl, rfl, rfl, trivial⟩ ⟨rfl, rfl, rfl, rfl, rfl, rfl, rfl, rfl, rfl, rfl, rfl, rfl, rfl, rfl, rfl, rfl, rfl, rfl, rfl, rfl, rfl, rfl, rfl, rfl, rfl, rfl, rfl, rfl, rfl, rfl, rfl, rfl, rfl, rfl, rfl, rfl, rfl, rfl, rfl, rfl, rfl, rfl, trivial⟩ rfl rfl (by decide) (by decide) ?_
        have g306 : 0 ≤ m302.1 10 ∧ m302.1 10 ≤ 8 := hT303.1 10
        have g307 : (-1) ≤ m302.1 11 ∧ m302.1 11 ≤ 4000 := hT303.1 11
        have g308 : 0 ≤ m302.1 28 ∧ m302.1 28 ≤ 800 := hT303.1 28
        replace h304 : (m302.1 10) = 0 → (m246.1 10) = 0 := h304
        have hf309 : 1 ≤ (m302.1 10) := by omega
        clear c305
        clear h304
        refine T_ld 124 (.ref 189) rfl (fun _ => rfl) ?_
        refine T_ld 125 (.int (i32 1)) rfl (fun _ => rfl) ?_
        refine T_ld 126 (.int (i32 ((m.2 77) ((m.1 73) - 1)))) rfl (fun _ => rfl) ?_
        refine T_call 129 250 [.ref 189, .int (i32 1), .int (i32 ((m.2 77) ((m.1 73) - 1)))] [] rfl (fun _ => rfl) rfl (c_unit w (mO m [(7, (m.1 7)), (8, (m.1 8)), (9, (m.1 9)), (10, (m302.1 10)), (11, (m302.1 11)), (12, (m.1 12)), (28, (m302.1 28)), (69, (m.1 69)), (70, (m.1 70)), (71, (m.1 71)), (72, (m.1 72)), (73, (m.1 73) - 1), (74, (m.1 74) - 1), (75, (m.1 75))] [(65, (m302.2 65)), (66, (m302.2 66)), (67, (m302.2 67)), (68, (m302.2 68)), (76, (m.2 76)), (77, (m.2 77)), (78, (m.2 78)), (79, (m.2 79)), (80, (m.2 80)), (81, (m.2 81)), (82, (m.2 82)), (83, (m.2 83)), (84, (m.2 84)), (85, (m.2 85)), (86, (m.2 86)), (87, (m.2 87)), (88, (m.2 88)), (89, (m.2 89)), (90, (m.2 90)), (91, (m.2 91)), (92, (m.2 92))]) c N D (by omega) (Ty_mO hT rfl rfl ⟨f7, f8, f9, (hT303.1 10), (hT303.1 11), f12, (hT303.1 28), f69, f70, f71, f72, g295, g296, f75, trivial⟩ ⟨(hT303.2.1 65), (hT303.2.1 66), (hT303.2.1 67), (hT303.2.1 68), (hT.2.1 76), (hT.2.1 77), (hT.2.1 78), (hT.2.1 79), (hT.2.1 80), (hT.2.1 81), (hT.2.1 82), (hT.2.1 83), (hT.2.1 84), (hT.2.1 85), (hT.2.1 86), (hT.2.1 87), (hT.2.1 88), (hT.2.1 89), (hT.2.1 90), (hT.2.1 91), (hT.2.1 92), trivial⟩) 1 ((m.2 77) ((m.1 73) - 1)) ⟨by decide, by decide⟩ (r32 (by omega) (by omega)) (show 0 ≤ (1 : Int) ∧ (1 : Int) ≤ 1024 by omega) (show 0 ≤ ((m.2 77) ((m.1 73) - 1)) ∧ ((m.2 77) ((m.1 73) - 1)) ≤ 4000 by omega)) (fun rr310 k311 => ?_)
        obtain ⟨m312, hT313, h314, rfl⟩ := k311
        refine ⟨_, _, rfl, ?_⟩
        refine T_nf2 (st' := []) (l' := [(7, (m.1 7)), (8, (m.1 8)), (9, (m.1 9)), (10, (m302.1 10)), (11, (m302.1 11)), (12, (m.1 12)), (28, (m302.1 28)), (69, (m312.1 69)), (70, (m312.1 70)), (71, (m312.1 71)), (72, (m312.1 72)), (73, (m.1 73) - 1), (74, (m.1 74) - 1), (75, (m.1 75))]) (a' := [(65, (m302.2 65)), (66, (m302.2 66)), (67, (m302.2 67)), (68, (m302.2 68)), (76, (m.2 76)), (77, (m.2 77)), (78, (m.2 78)), (79, (m.2 79)), (80, (m.2 80)), (81, (m.2 81)), (82, (m.2 82)), (83, (m.2 83)), (84, (m.2 84)), (85, (m.2 85)), (86, (m.2 86)), (87, (m.2 87)), (88, (m.2 88)), (89, (m.2 89)), (90, (m.2 90)), (91, (m.2 91)), (92, (m.2 92))]) [69, 70, 71, 72] [] rfl ⟨rfl, rfl, rfl, rfl, rfl, rfl, rfl, rfl, rfl, rfl, rfl, rfl, rfl, rfl, rfl, rfl, rfl, rfl, rfl, rfl, rfl, rfl, rfl, rfl, rfl, rfl, rfl, rfl, rfl, rfl, rfl, rfl, rfl, rfl, rfl, trivial⟩ ⟨rfl, rfl, rfl, rfl, rfl, rfl, rfl, rfl, rfl, rfl, rfl, rfl, rfl, rfl, rfl, rfl, rfl, rfl, rfl, rfl, rfl, rfl, rfl, rfl, rfl, rfl, rfl, rfl, rfl, rfl, rfl, rfl, rfl, rfl, rfl, rfl, rfl, rfl, rfl, rfl, rfl, rfl, trivial⟩ rfl rfl (by decide) (by decide) ?_
        have g315 : 0 ≤ m312.1 69 ∧ m312.1 69 ≤ 1024 := hT313.1 69
        have g316 : 0 ≤ m312.1 70 ∧ m312.1 70 ≤ 4000 := hT313.1 70
        have g317 : 0 ≤ m312.1 71 ∧ m312.1 71 ≤ 1 := hT313.1 71
        have g318 : (-9223372036854775808) ≤ m312.1 72 ∧ m312.1 72 ≤ 9223372036854775807 := hT313.1 72
        replace h314 : (m312.1 69) = (1 : Int) := h314
        refine T_ret rfl (fun _ => rfl) ?_
        exact ⟨(mO m [(7, (m.1 7)), (8, (m.1 8)), (9, (m.1 9)), (10, (m302.1 10)), (11, (m302.1 11)), (12, (m.1 12)), (28, (m302.1 28)), (69, (m312.1 69)), (70, (m312.1 70)), (71, (m312.1 71)), (72, (m312.1 72)), (73, (m.1 73) - 1), (74, (m.1 74) - 1), (75, (m.1 75))] [(65, (m302.2 65)), (66, (m302.2 66)), (67, (m302.2 67)), (68, (m302.2 68)), (76, (m.2 76)), (77, (m.2 77)), (78, (m.2 78)), (79, (m.2 79)), (80, (m.2 80)), (81, (m.2 81)), (82, (m.2 82)), (83, (m.2 83)), (84, (m.2 84)), (85, (m.2 85)), (86, (m.2 86)), (87, (m.2 87)), (88, (m.2 88)), (89, (m.2 89)), (90, (m.2 90)), (91, (m.2 91)), (92, (m.2 92))]), (Ty_mO hT rfl rfl ⟨f7, f8, f9, (hT303.1 10), (hT303.1 11), f12, (hT303.1 28), (hT313.1 69), (hT313.1 70), (hT313.1 71), (hT313.1 72), g295, g296, f75, trivial⟩ ⟨(hT303.2.1 65), (hT303.2.1 66), (hT303.2.1 67), (hT303.2.1 68), (hT.2.1 76), (hT.2.1 77), (hT.2.1 78), (hT.2.1 79), (hT.2.1 80), (hT.2.1 81), (hT.2.1 82), (hT.2.1 83), (hT.2.1 84), (hT.2.1 85), (hT.2.1 86), (hT.2.1 87), (hT.2.1 88), (hT.2.1 89), (hT.2.1 90), (hT.2.1 91), (hT.2.1 92), trivial⟩), (show (m302.1 10) = 0 → (m.1 10) = 0 by omega), (show LxP (m.1 7) (m.1 8) (m.1 9) (m.1 6) (m302.1 10) by first | (first | exact hLx | exact (fun _ => hLx (by omega)) | (intro h9; exfalso; omega)) | (exfalso; omega)), (fun (h : (m302.1 10) = 0) => absurd h (by omega)), rfl⟩
