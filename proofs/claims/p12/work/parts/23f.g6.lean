def Q_endChoice (m : mR) (c : Nat → Option am_C) (N : Nat) (B : Int) : ag_Re af_T → Prop := fun R => ∃ (M : mR), Ty M ∧ ((M.1 10) = 0 → (m.1 10) = 0) ∧ (LxP (M.1 7) (M.1 8) (M.1 9) (m.1 6) (M.1 10)) ∧ (M.1 10 = 0 → (GP (m.1 8) (M.1 8) (M.1 75) (M.1 73) (m.1 73)) ∧ (GU (M.1 75) (M.1 69)) ∧ (GH (M.1 75) (M.1 73)) ∧ ((m.1 28) ≤ (M.1 28)) ∧ (XS (M.2 65) (M.2 67) (m.2 76) (m.2 78) (m.2 79) (m.2 80) B (M.1 28) (M.1 73) (M.1 74) (um (M.1 75))) ∧ (agr (m.2 65) (M.2 65) (m.1 28))) ∧ R = (.inl (none), (mhp (mO m [(7, (M.1 7)), (8, (M.1 8)), (9, (M.1 9)), (10, (M.1 10)), (11, (M.1 11)), (12, (M.1 12)), (28, (M.1 28)), (69, (M.1 69)), (70, (M.1 70)), (71, (M.1 71)), (72, (M.1 72)), (73, (M.1 73)), (74, (M.1 74)), (75, (M.1 75))] [(65, (M.2 65)), (66, (M.2 66)), (67, (M.2 67)), (68, (M.2 68))]) c, N), 0, 0)
set_option maxHeartbeats 8000000 in
theorem c_endChoice (w : wX) (m : mR) (c : Nat → Option am_C) (N D : Nat) (hD : 7 ≤ D) (hT : Ty m) (B : Int) (hLx0 : LxP (m.1 7) (m.1 8) (m.1 9) (m.1 6) (m.1 10)) (hf0 : m.1 10 = 0) (hC : (XS (m.2 65) (m.2 67) (m.2 76) (m.2 78) (m.2 79) (m.2 80) B (m.1 28) (m.1 73) (m.1 74) 1) ∧ (1 ≤ (m.1 73)) ∧ ((m.2 76) ((m.1 73) - 1) = 0) ∧ ((m.1 69) ≤ 64)) : TC w D 264 [.ref 189] (mhp m c, N) (Q_endChoice m c N B) := by
  obtain ⟨D, rfl⟩ : ∃ k, D = k + 1 := ⟨D - 1, by omega⟩
  have hLx := hLx0
  have f7 : 0 ≤ m.1 7 ∧ m.1 7 ≤ 330 := hT.1 7
  have f8 : 0 ≤ m.1 8 ∧ m.1 8 ≤ 4000 := hT.1 8
  have f9 : 0 ≤ m.1 9 ∧ m.1 9 ≤ 4000 := hT.1 9
  have f10 : 0 ≤ m.1 10 ∧ m.1 10 ≤ 8 := hT.1 10
  have f11 : (-1) ≤ m.1 11 ∧ m.1 11 ≤ 4000 := hT.1 11
  have f12 : (-9223372036854775808) ≤ m.1 12 ∧ m.1 12 ≤ 9223372036854775807 := hT.1 12
  have f28 : 0 ≤ m.1 28 ∧ m.1 28 ≤ 800 := hT.1 28
  have f69 : 0 ≤ m.1 69 ∧ m.1 69 ≤ 1024 := hT.1 69
  have f70 : 0 ≤ m.1 70 ∧ m.1 70 ≤ 4000 := hT.1 70
  have f71 : 0 ≤ m.1 71 ∧ m.1 71 ≤ 1 := hT.1 71
  have f72 : (-9223372036854775808) ≤ m.1 72 ∧ m.1 72 ≤ 9223372036854775807 := hT.1 72
  have f73 : 0 ≤ m.1 73 ∧ m.1 73 ≤ 60 := hT.1 73
  have f74 : 0 ≤ m.1 74 ∧ m.1 74 ≤ 24 := hT.1 74
  have f75 : 0 ≤ m.1 75 ∧ m.1 75 ≤ 3 := hT.1 75
  have f6 : 0 ≤ m.1 6 ∧ m.1 6 ≤ 4000 := hT.1 6
  refine Tc_of rfl ?_
  show TT w D pm_264 (0, [(0, .ref 189)], [], (mhp m c, N), 0, 0) (Q_endChoice m c N B)
  rw [show (mhp m c, N) = (mhp (mO m [(7, (m.1 7)), (8, (m.1 8)), (9, (m.1 9)), (10, (m.1 10)), (11, (m.1 11)), (12, (m.1 12)), (28, (m.1 28)), (69, (m.1 69)), (70, (m.1 70)), (71, (m.1 71)), (72, (m.1 72)), (73, (m.1 73)), (74, (m.1 74)), (75, (m.1 75))] [(65, (m.2 65)), (66, (m.2 66)), (67, (m.2 67)), (68, (m.2 68))]) c, N) from congrArg (fun M => (mhp M c, N)) (mO_pad m [7, 8, 9, 10, 11, 12, 28, 69, 70, 71, 72, 73, 74, 75] [65, 66, 67, 68])]
  obtain ⟨hXS, c1, c2, c3⟩ := hC
  have hb := OS_hi hXS.1.2
  have hXC := XC_0 hXS (by omega) (by omega) (hT.2.1 79 _).1
  have hAgC := agr_r (m.2 65) (m.1 28)
  have h7 := hLx (by omega)
  refine T_ld 1 (.ref 189) rfl (fun _ => rfl) ?_
  refine T_ld 2 (.ref 189) rfl (fun _ => rfl) ?_
  refine T_gf1 5 (.int (i32 (m.1 73))) rfl rfl rfl rfl ?_
  refine T_ld 6 (.int (i32 1)) rfl (fun _ => rfl) ?_
  refine T_isub 7 rfl rfl ?_
  refine T_pf (l' := [(7, (m.1 7)), (8, (m.1 8)), (9, (m.1 9)), (10, (m.1 10)), (11, (m.1 11)), (12, (m.1 12)), (28, (m.1 28)), (69, (m.1 69)), (70, (m.1 70)), (71, (m.1 71)), (72, (m.1 72)), (73, (m.1 73) - 1), (74, (m.1 74)), (75, (m.1 75))]) 10 ((m.1 73) - 1) rfl rfl rfl rfl rfl rfl ?_
  have g4 : 0 ≤ (m.1 73) - 1 ∧ (m.1 73) - 1 ≤ 60 := ⟨by omega, by omega⟩
  refine T_ld 11 (.ref 189) rfl (fun _ => rfl) ?_
  refine T_ld 12 (.ref 189) rfl (fun _ => rfl) ?_
  refine T_gf1 15 (.int (i32 (m.1 74))) rfl rfl rfl rfl ?_
  refine T_ld 16 (.int (i32 1)) rfl (fun _ => rfl) ?_
  refine T_isub 17 rfl rfl ?_
  refine T_pf (l' := [(7, (m.1 7)), (8, (m.1 8)), (9, (m.1 9)), (10, (m.1 10)), (11, (m.1 11)), (12, (m.1 12)), (28, (m.1 28)), (69, (m.1 69)), (70, (m.1 70)), (71, (m.1 71)), (72, (m.1 72)), (73, (m.1 73) - 1), (74, (m.1 74) - 1), (75, (m.1 75))]) 20 ((m.1 74) - 1) rfl rfl rfl rfl rfl rfl ?_
  have g5 : 0 ≤ (m.1 74) - 1 ∧ (m.1 74) - 1 ≤ 24 := ⟨by omega, by omega⟩
  refine T_gf 24 (.int (i32 ((m.1 73) - 1))) rfl rfl rfl rfl rfl rfl ?_
  refine T_if 31 27 rfl rfl rfl (r32 (by omega) (by omega)) (fun (h6 : (m.1 73) - 1 ≤ 0) => ?_) (fun (h6 : ¬ ((m.1 73) - 1 ≤ 0)) => ?_)
  · skip
    refine T_ld 32 (.int (i32 0)) rfl (fun _ => rfl) ?_
    refine T_sto 33 [(1, .int (i32 0)), (0, .ref 189)] rfl (fun _ => rfl) ?_
    have L33_9 : ∀ (n : Nat) (v7 : Int) (m8 : mR), (R32 v7) → (Ty m8) → (0 ≤ v7) → (v7 ≤ 0) → (v7 = 0 ∨ v7 = 1) → (v7 = 1 → 1 ≤ (m8.1 73)) → ((m8.1 73) + 1 ≤ (m.1 73)) → ((m8.1 10) = 0 ∨ v7 = 0) → ((m8.1 10) = 0 → (XC (m8.2 65) (m8.2 67) (m.2 76) (m.2 78) (m.2 79) (m.2 80) B (m8.1 28) (m8.1 73) (m8.1 74)) ∧ ((m8.1 69) ≤ 64) ∧ ((m.1 28) ≤ (m8.1 28)) ∧ (v7 = 0 → (m8.1 73) = 0) ∧ (agr (m.2 65) (m8.2 65) (m.1 28))) → (m8.1 73) < (n : Int) → TT w D pm_264 (33, [(0, .ref 189), (1, .int (i32 v7))], [], (mhp (mO m [(7, (m.1 7)), (8, (m.1 8)), (9, (m.1 9)), (10, (m8.1 10)), (11, (m8.1 11)), (12, (m.1 12)), (28, (m8.1 28)), (69, (m8.1 69)), (70, (m8.1 70)), (71, (m8.1 71)), (72, (m8.1 72)), (73, (m8.1 73)), (74, (m8.1 74)), (75, (m.1 75))] [(65, (m8.2 65)), (66, (m8.2 66)), (67, (m8.2 67)), (68, (m8.2 68))]) c, N), 0, 0) (Q_endChoice m c N B) := by
      intro n
      induction n with
      | zero =>
        intro v7 m8 q10 q11 ic12 ic13 ic14 ic15 ic16 ic17 c18 hmu
        obtain ⟨q10a, q10b⟩ := id q10
        have q11_10 : 0 ≤ m8.1 10 ∧ m8.1 10 ≤ 8 := q11.1 10
        have q11_11 : (-1) ≤ m8.1 11 ∧ m8.1 11 ≤ 4000 := q11.1 11
        have q11_28 : 0 ≤ m8.1 28 ∧ m8.1 28 ≤ 800 := q11.1 28
        have q11_69 : 0 ≤ m8.1 69 ∧ m8.1 69 ≤ 1024 := q11.1 69
        have q11_70 : 0 ≤ m8.1 70 ∧ m8.1 70 ≤ 4000 := q11.1 70
        have q11_71 : 0 ≤ m8.1 71 ∧ m8.1 71 ≤ 1 := q11.1 71
        have q11_72 : (-9223372036854775808) ≤ m8.1 72 ∧ m8.1 72 ≤ 9223372036854775807 := q11.1 72
        have q11_73 : 0 ≤ m8.1 73 ∧ m8.1 73 ≤ 60 := q11.1 73
        have q11_74 : 0 ≤ m8.1 74 ∧ m8.1 74 ≤ 24 := q11.1 74
        exfalso
        omega
      | succ n ih =>
        intro v7 m8 q10 q11 ic12 ic13 ic14 ic15 ic16 ic17 c18 hmu
        obtain ⟨q10a, q10b⟩ := id q10
        have q11_10 : 0 ≤ m8.1 10 ∧ m8.1 10 ≤ 8 := q11.1 10
        have q11_11 : (-1) ≤ m8.1 11 ∧ m8.1 11 ≤ 4000 := q11.1 11
        have q11_28 : 0 ≤ m8.1 28 ∧ m8.1 28 ≤ 800 := q11.1 28
        have q11_69 : 0 ≤ m8.1 69 ∧ m8.1 69 ≤ 1024 := q11.1 69
        have q11_70 : 0 ≤ m8.1 70 ∧ m8.1 70 ≤ 4000 := q11.1 70
        have q11_71 : 0 ≤ m8.1 71 ∧ m8.1 71 ≤ 1 := q11.1 71
        have q11_72 : (-9223372036854775808) ≤ m8.1 72 ∧ m8.1 72 ≤ 9223372036854775807 := q11.1 72
        have q11_73 : 0 ≤ m8.1 73 ∧ m8.1 73 ≤ 60 := q11.1 73
        have q11_74 : 0 ≤ m8.1 74 ∧ m8.1 74 ≤ 24 := q11.1 74
        have ih19 := ih
        by_cases hf20 : (m8.1 10) = 0
        · skip
          obtain ⟨c21, c22, c23, c24, c25⟩ := c18 hf20
          clear c18
          have hXC := c21
          have hAgC := c25
          refine T_ld 34 (.int (i32 v7)) rfl (fun _ => rfl) ?_
          refine T_if 195 37 rfl rfl rfl (r32 (by omega) (by omega)) (fun (h26 : v7 = 0) => ?_) (fun (h26 : ¬ (v7 = 0)) => by exfalso; omega)
          refine T_gf 199 (.int (i32 (m8.1 73))) rfl rfl rfl rfl rfl rfl ?_
          refine T_if 208 202 rfl rfl rfl (r32 (by omega) (by omega)) (fun (h27 : (m8.1 73) ≠ 0) => ?_) (fun (h27 : ¬ ((m8.1 73) ≠ 0)) => ?_)
          · skip
            obtain ⟨hXB, hh2⟩ := XC_bra hXC (by omega) (by omega) (hT.2.1 76 _) (hT.2.1 79 _).1
            refine T_gf 212 (.ref 239) rfl rfl rfl rfl rfl rfl ?_
            refine T_gf 216 (.int (i32 (m8.1 73))) rfl rfl rfl rfl rfl rfl ?_
            refine T_ld 217 (.int (i32 1)) rfl (fun _ => rfl) ?_
            refine T_isub 218 rfl rfl ?_
            refine T_iald 219 77 (m.2 77) rfl rfl rfl (by omega) (show ((m8.1 73) - 1) < (60 : Int) by omega) rfl ?_
            have e28 : 0 ≤ m.2 77 ((m8.1 73) - 1) ∧ m.2 77 ((m8.1 73) - 1) ≤ 4000 := hT.2.1 77 ((m8.1 73) - 1)
            refine T_sto 220 [(2, .int (i32 ((m.2 77) ((m8.1 73) - 1)))), (0, .ref 189), (1, .int (i32 v7))] rfl (fun _ => rfl) ?_
            refine T_ld 221 (.ref 189) rfl (fun _ => rfl) ?_
            refine T_ld 223 (.int (i32 41)) rfl (fun _ => rfl) ?_
            refine T_call 226 232 [.ref 189, .int (i32 41)] [] rfl (fun _ => rfl) rfl (c_need w (mO m [(7, (m.1 7)), (8, (m.1 8)), (9, (m.1 9)), (10, (m8.1 10)), (11, (m8.1 11)), (12, (m.1 12)), (28, (m8.1 28)), (69, (m8.1 69)), (70, (m8.1 70)), (71, (m8.1 71)), (72, (m8.1 72)), (73, (m8.1 73)), (74, (m8.1 74)), (75, (m.1 75))] [(65, (m8.2 65)), (66, (m8.2 66)), (67, (m8.2 67)), (68, (m8.2 68))]) c N D (by omega) (Ty_mO hT rfl rfl ⟨f7, f8, f9, (q11.1 10), (q11.1 11), f12, (q11.1 28), (q11.1 69), (q11.1 70), (q11.1 71), (q11.1 72), (q11.1 73), (q11.1 74), f75, trivial⟩ ⟨(q11.2.1 65), (q11.2.1 66), (q11.2.1 67), (q11.2.1 68), trivial⟩) 41 ⟨by decide, by decide⟩ (show 1 ≤ (41 : Int) by omega) (show LxP (m.1 7) (m.1 8) (m.1 9) (m.1 6) (m8.1 10) by first | exact hLx | (intro h9; exfalso; omega) | (intro h9; have h8 := hLx (by omega); omega))) (fun rr29 k30 => ?_)
            obtain ⟨y31, y33, y35, y37, y39, y41, g32, g34, g36, g38, g40, g42, h43, h44, h45, h46, rfl⟩ := k30
            refine ⟨_, _, rfl, ?_⟩
            refine T_nf2 (st' := []) (l' := [(7, y31), (8, y33), (9, y35), (10, y37), (11, y39), (12, y41), (28, (m8.1 28)), (69, (m8.1 69)), (70, (m8.1 70)), (71, (m8.1 71)), (72, (m8.1 72)), (73, (m8.1 73)), (74, (m8.1 74)), (75, (m.1 75))]) (a' := [(65, (m8.2 65)), (66, (m8.2 66)), (67, (m8.2 67)), (68, (m8.2 68))]) [7, 8, 9, 10, 11, 12] [] rfl ⟨rfl, rfl, rfl, rfl, rfl, rfl, rfl, rfl, rfl, rfl, rfl, rfl, rfl, rfl, rfl, rfl, rfl, rfl, rfl, rfl, rfl, rfl, rfl, rfl, rfl, rfl, rfl, rfl, trivial⟩ ⟨rfl, rfl, rfl, rfl, rfl, rfl, rfl, rfl, trivial⟩ rfl rfl (by decide) (by decide) ?_
            by_cases hf47 : y37 = 0
            · skip
              subst hf47
              replace h43 : LxP y31 y33 y35 (m.1 6) (0 : Int) := h43
              have hLx := h43
              replace h44 : (m8.1 10) = 0 ∧ (m.1 7) = (41 : Int) := h44 rfl
              replace h45 : (m.1 8) ≤ y33 := h45
              replace h46 : (m.1 8) + (m.1 9) ≤ y33 := h46 rfl
              have hAgC : agr (m.2 65) (m8.2 65) (m.1 28) := by first | exact agr_r _ _ | exact hAgC | exact agr_t hAgC hAg (by omega)
              have u48 : (m.1 28) ≤ (m8.1 28) := by omega
              have u49 : (m8.1 69) ≤ 64 := by omega
              clear q11_10 q11_11 ic17 g38 h44
              refine T_ld 227 (.ref 189) rfl (fun _ => rfl) ?_
              refine T_ld 228 (.ref 189) rfl (fun _ => rfl) ?_
              refine T_gf1 231 (.int (i32 (m8.1 73))) rfl rfl rfl rfl ?_
              refine T_ld 232 (.int (i32 1)) rfl (fun _ => rfl) ?_
              refine T_isub 233 rfl rfl ?_
              refine T_pf (l' := [(7, y31), (8, y33), (9, y35), (10, 0), (11, y39), (12, y41), (28, (m8.1 28)), (69, (m8.1 69)), (70, (m8.1 70)), (71, (m8.1 71)), (72, (m8.1 72)), (73, (m8.1 73) - 1), (74, (m8.1 74)), (75, (m.1 75))]) 236 ((m8.1 73) - 1) rfl rfl rfl rfl rfl rfl ?_
              have g50 : 0 ≤ (m8.1 73) - 1 ∧ (m8.1 73) - 1 ≤ 60 := ⟨by omega, by omega⟩
              refine T_ld 237 (.ref 189) rfl (fun _ => rfl) ?_
              refine T_ld 238 (.int (i32 ((m.2 77) ((m8.1 73) - 1)))) rfl (fun _ => rfl) ?_
              refine T_pf (l' := [(7, y31), (8, y33), (9, y35), (10, 0), (11, y39), (12, y41), (28, (m8.1 28)), (69, (m8.1 69)), (70, (m.2 77) ((m8.1 73) - 1)), (71, (m8.1 71)), (72, (m8.1 72)), (73, (m8.1 73) - 1), (74, (m8.1 74)), (75, (m.1 75))]) 241 ((m.2 77) ((m8.1 73) - 1)) rfl rfl rfl rfl rfl rfl ?_
              have g51 : 0 ≤ (m.2 77) ((m8.1 73) - 1) ∧ (m.2 77) ((m8.1 73) - 1) ≤ 4000 := ⟨by omega, by omega⟩
              refine T_ld 242 (.ref 189) rfl (fun _ => rfl) ?_
              refine T_ld 243 (.int (i32 1)) rfl (fun _ => rfl) ?_
              refine T_pf (l' := [(7, y31), (8, y33), (9, y35), (10, 0), (11, y39), (12, y41), (28, (m8.1 28)), (69, (m8.1 69)), (70, (m.2 77) ((m8.1 73) - 1)), (71, (m8.1 71)), (72, (m8.1 72)), (73, (m8.1 73) - 1), (74, (m8.1 74)), (75, 1)]) 246 1 rfl rfl rfl rfl rfl rfl ?_
              have hXE : XS (m8.2 65) (m8.2 67) (m.2 76) (m.2 78) (m.2 79) (m.2 80) B (m8.1 28) ((m8.1 73) - 1) (m8.1 74) (um (1 : Int)) := by
                rw [show um (1 : Int) = 1 from if_neg (by omega)]
                exact hXB
              refine T_ret rfl (fun _ => rfl) ?_
              exact ⟨(mO m [(7, y31), (8, y33), (9, y35), (10, 0), (11, y39), (12, y41), (28, (m8.1 28)), (69, (m8.1 69)), (70, (m.2 77) ((m8.1 73) - 1)), (71, (m8.1 71)), (72, (m8.1 72)), (73, (m8.1 73) - 1), (74, (m8.1 74)), (75, 1)] [(65, (m8.2 65)), (66, (m8.2 66)), (67, (m8.2 67)), (68, (m8.2 68))]), (Ty_mO hT rfl rfl ⟨g32, g34, g36, ⟨(by omega : (0 : Int) ≤ 0), (by omega : (0 : Int) ≤ 8)⟩, g40, g42, (q11.1 28), (q11.1 69), g51, (q11.1 71), (q11.1 72), g50, (q11.1 74), ⟨(by omega : (0 : Int) ≤ 1), (by omega : (1 : Int) ≤ 3)⟩, trivial⟩ ⟨(q11.2.1 65), (q11.2.1 66), (q11.2.1 67), (q11.2.1 68), trivial⟩), (show (0 : Int) = 0 → (m.1 10) = 0 by omega), (show LxP y31 y33 y35 (m.1 6) (0 : Int) by first | (first | exact hLx | exact (fun _ => hLx (by omega)) | (intro h9; exfalso; omega)) | (exfalso; omega)), (fun _ => ⟨(show GP (m.1 8) y33 (1 : Int) ((m8.1 73) - 1) (m.1 73) by first | (first | assumption | (unfold GP; omega)) | (exfalso; omega)), (show GU (1 : Int) (m8.1 69) by first | (first | assumption | (unfold GU; omega)) | (exfalso; omega)), (show GH (1 : Int) ((m8.1 73) - 1) by first | (first | assumption | (unfold GH; omega)) | (exfalso; omega)), (show (m.1 28) ≤ (m8.1 28) by omega), (show XS (m8.2 65) (m8.2 67) (m.2 76) (m.2 78) (m.2 79) (m.2 80) B (m8.1 28) ((m8.1 73) - 1) (m8.1 74) (um (1 : Int)) by first | (exact hXE) | (exfalso; omega)), (show agr (m.2 65) (m8.2 65) (m.1 28) by first | (exact hAgC) | (exfalso; omega))⟩), rfl⟩
            · skip
              replace h43 : LxP y31 y33 y35 (m.1 6) y37 := h43
              have hLx := h43
              clear h44
              replace h45 : (m.1 8) ≤ y33 := h45
              clear h46
              have hf52 : 1 ≤ y37 := by omega
              clear q11_10 q11_11 ic17
              refine T_ld 227 (.ref 189) rfl (fun _ => rfl) ?_
              refine T_ld 228 (.ref 189) rfl (fun _ => rfl) ?_
              refine T_gf1 231 (.int (i32 (m8.1 73))) rfl rfl rfl rfl ?_
              refine T_ld 232 (.int (i32 1)) rfl (fun _ => rfl) ?_
              refine T_isub 233 rfl rfl ?_
              refine T_pf (l' := [(7, y31), (8, y33), (9, y35), (10, y37), (11, y39), (12, y41), (28, (m8.1 28)), (69, (m8.1 69)), (70, (m8.1 70)), (71, (m8.1 71)), (72, (m8.1 72)), (73, (m8.1 73) - 1), (74, (m8.1 74)), (75, (m.1 75))]) 236 ((m8.1 73) - 1) rfl rfl rfl rfl rfl rfl ?_
              have g53 : 0 ≤ (m8.1 73) - 1 ∧ (m8.1 73) - 1 ≤ 60 := ⟨by omega, by omega⟩
              refine T_ld 237 (.ref 189) rfl (fun _ => rfl) ?_
              refine T_ld 238 (.int (i32 ((m.2 77) ((m8.1 73) - 1)))) rfl (fun _ => rfl) ?_
              refine T_pf (l' := [(7, y31), (8, y33), (9, y35), (10, y37), (11, y39), (12, y41), (28, (m8.1 28)), (69, (m8.1 69)), (70, (m.2 77) ((m8.1 73) - 1)), (71, (m8.1 71)), (72, (m8.1 72)), (73, (m8.1 73) - 1), (74, (m8.1 74)), (75, (m.1 75))]) 241 ((m.2 77) ((m8.1 73) - 1)) rfl rfl rfl rfl rfl rfl ?_
              have g54 : 0 ≤ (m.2 77) ((m8.1 73) - 1) ∧ (m.2 77) ((m8.1 73) - 1) ≤ 4000 := ⟨by omega, by omega⟩
              refine T_ld 242 (.ref 189) rfl (fun _ => rfl) ?_
              refine T_ld 243 (.int (i32 1)) rfl (fun _ => rfl) ?_
              refine T_pf (l' := [(7, y31), (8, y33), (9, y35), (10, y37), (11, y39), (12, y41), (28, (m8.1 28)), (69, (m8.1 69)), (70, (m.2 77) ((m8.1 73) - 1)), (71, (m8.1 71)), (72, (m8.1 72)), (73, (m8.1 73) - 1), (74, (m8.1 74)), (75, 1)]) 246 1 rfl rfl rfl rfl rfl rfl ?_
              refine T_ret rfl (fun _ => rfl) ?_
              exact ⟨(mO m [(7, y31), (8, y33), (9, y35), (10, y37), (11, y39), (12, y41), (28, (m8.1 28)), (69, (m8.1 69)), (70, (m.2 77) ((m8.1 73) - 1)), (71, (m8.1 71)), (72, (m8.1 72)), (73, (m8.1 73) - 1), (74, (m8.1 74)), (75, 1)] [(65, (m8.2 65)), (66, (m8.2 66)), (67, (m8.2 67)), (68, (m8.2 68))]), (Ty_mO hT rfl rfl ⟨g32, g34, g36, g38, g40, g42, (q11.1 28), (q11.1 69), g54, (q11.1 71), (q11.1 72), g53, (q11.1 74), ⟨(by omega : (0 : Int) ≤ 1), (by omega : (1 : Int) ≤ 3)⟩, trivial⟩ ⟨(q11.2.1 65), (q11.2.1 66), (q11.2.1 67), (q11.2.1 68), trivial⟩), (show y37 = 0 → (m.1 10) = 0 by omega), (show LxP y31 y33 y35 (m.1 6) y37 by first | (first | exact hLx | exact (fun _ => hLx (by omega)) | (intro h9; exfalso; omega)) | (exfalso; omega)), (fun (h : y37 = 0) => absurd h (by omega)), rfl⟩
          · skip
            refine T_ld 203 (.ref 189) rfl (fun _ => rfl) ?_
            refine T_ld 204 (.int (i32 3)) rfl (fun _ => rfl) ?_
            refine T_pf (l' := [(7, (m.1 7)), (8, (m.1 8)), (9, (m.1 9)), (10, (m8.1 10)), (11, (m8.1 11)), (12, (m.1 12)), (28, (m8.1 28)), (69, (m8.1 69)), (70, (m8.1 70)), (71, (m8.1 71)), (72, (m8.1 72)), (73, (m8.1 73)), (74, (m8.1 74)), (75, 3)]) 207 3 rfl rfl rfl rfl rfl rfl ?_
            have hXE : XS (m8.2 65) (m8.2 67) (m.2 76) (m.2 78) (m.2 79) (m.2 80) B (m8.1 28) (m8.1 73) (m8.1 74) (um (3 : Int)) := by
              rw [show um (3 : Int) = 1 from if_neg (by omega)]
              have e : (m8.1 73) = 0 := by omega
              have H := hXC
              rw [e] at H ⊢
              exact XC_end H
            refine T_ret rfl (fun _ => rfl) ?_
            exact ⟨(mO m [(7, (m.1 7)), (8, (m.1 8)), (9, (m.1 9)), (10, (m8.1 10)), (11, (m8.1 11)), (12, (m.1 12)), (28, (m8.1 28)), (69, (m8.1 69)), (70, (m8.1 70)), (71, (m8.1 71)), (72, (m8.1 72)), (73, (m8.1 73)), (74, (m8.1 74)), (75, 3)] [(65, (m8.2 65)), (66, (m8.2 66)), (67, (m8.2 67)), (68, (m8.2 68))]), (Ty_mO hT rfl rfl ⟨f7, f8, f9, (q11.1 10), (q11.1 11), f12, (q11.1 28), (q11.1 69), (q11.1 70), (q11.1 71), (q11.1 72), (q11.1 73), (q11.1 74), ⟨(by omega : (0 : Int) ≤ 3), (by omega : (3 : Int) ≤ 3)⟩, trivial⟩ ⟨(q11.2.1 65), (q11.2.1 66), (q11.2.1 67), (q11.2.1 68), trivial⟩), (show (m8.1 10) = 0 → (m.1 10) = 0 by omega), (show LxP (m.1 7) (m.1 8) (m.1 9) (m.1 6) (m8.1 10) by first | (first | exact hLx | exact (fun _ => hLx (by omega)) | (intro h9; exfalso; omega)) | (exfalso; omega)), (fun _ => ⟨(show GP (m.1 8) (m.1 8) (3 : Int) (m8.1 73) (m.1 73) by first | (first | assumption | (unfold GP; omega)) | (exfalso; omega)), (show GU (3 : Int) (m8.1 69) by first | (first | assumption | (unfold GU; omega)) | (exfalso; omega)), (show GH (3 : Int) (m8.1 73) by first | (first | assumption | (unfold GH; omega)) | (exfalso; omega)), (show (m.1 28) ≤ (m8.1 28) by omega), (show XS (m8.2 65) (m8.2 67) (m.2 76) (m.2 78) (m.2 79) (m.2 80) B (m8.1 28) (m8.1 73) (m8.1 74) (um (3 : Int)) by first | (exact hXE) | (exfalso; omega)), (show agr (m.2 65) (m8.2 65) (m.1 28) by first | (exact hAgC) | (exfalso; omega))⟩), rfl⟩
        · skip
          clear c18
          have hf55 : 1 ≤ (m8.1 10) := by omega
          refine T_ld 34 (.int (i32 v7)) rfl (fun _ => rfl) ?_
          refine T_if 195 37 rfl rfl rfl (r32 (by omega) (by omega)) (fun (h56 : v7 = 0) => ?_) (fun (h56 : ¬ (v7 = 0)) => by exfalso; omega)
          refine T_gf 199 (.int (i32 (m8.1 73))) rfl rfl rfl rfl rfl rfl ?_
          refine T_if 208 202 rfl rfl rfl (r32 (by omega) (by omega)) (fun (h57 : (m8.1 73) ≠ 0) => ?_) (fun (h57 : ¬ ((m8.1 73) ≠ 0)) => ?_)
          · skip
            refine T_gf 212 (.ref 239) rfl rfl rfl rfl rfl rfl ?_
            refine T_gf 216 (.int (i32 (m8.1 73))) rfl rfl rfl rfl rfl rfl ?_
            refine T_ld 217 (.int (i32 1)) rfl (fun _ => rfl) ?_
            refine T_isub 218 rfl rfl ?_
            refine T_iald 219 77 (m.2 77) rfl rfl rfl (by omega) (show ((m8.1 73) - 1) < (60 : Int) by omega) rfl ?_
            have e58 : 0 ≤ m.2 77 ((m8.1 73) - 1) ∧ m.2 77 ((m8.1 73) - 1) ≤ 4000 := hT.2.1 77 ((m8.1 73) - 1)
            refine T_sto 220 [(2, .int (i32 ((m.2 77) ((m8.1 73) - 1)))), (0, .ref 189), (1, .int (i32 v7))] rfl (fun _ => rfl) ?_
            refine T_ld 221 (.ref 189) rfl (fun _ => rfl) ?_
            refine T_ld 223 (.int (i32 41)) rfl (fun _ => rfl) ?_
            refine T_call 226 232 [.ref 189, .int (i32 41)] [] rfl (fun _ => rfl) rfl (c_need w (mO m [(7, (m.1 7)), (8, (m.1 8)), (9, (m.1 9)), (10, (m8.1 10)), (11, (m8.1 11)), (12, (m.1 12)), (28, (m8.1 28)), (69, (m8.1 69)), (70, (m8.1 70)), (71, (m8.1 71)), (72, (m8.1 72)), (73, (m8.1 73)), (74, (m8.1 74)), (75, (m.1 75))] [(65, (m8.2 65)), (66, (m8.2 66)), (67, (m8.2 67)), (68, (m8.2 68))]) c N D (by omega) (Ty_mO hT rfl rfl ⟨f7, f8, f9, (q11.1 10), (q11.1 11), f12, (q11.1 28), (q11.1 69), (q11.1 70), (q11.1 71), (q11.1 72), (q11.1 73), (q11.1 74), f75, trivial⟩ ⟨(q11.2.1 65), (q11.2.1 66), (q11.2.1 67), (q11.2.1 68), trivial⟩) 41 ⟨by decide, by decide⟩ (show 1 ≤ (41 : Int) by omega) (show LxP (m.1 7) (m.1 8) (m.1 9) (m.1 6) (m8.1 10) by first | exact hLx | (intro h9; exfalso; omega) | (intro h9; have h8 := hLx (by omega); omega))) (fun rr59 k60 => ?_)
            obtain ⟨y61, y63, y65, y67, y69, y71, g62, g64, g66, g68, g70, g72, h73, h74, h75, h76, rfl⟩ := k60
            refine ⟨_, _, rfl, ?_⟩
            refine T_nf2 (st' := []) (l' := [(7, y61), (8, y63), (9, y65), (10, y67), (11, y69), (12, y71), (28, (m8.1 28)), (69, (m8.1 69)), (70, (m8.1 70)), (71, (m8.1 71)), (72, (m8.1 72)), (73, (m8.1 73)), (74, (m8.1 74)), (75, (m.1 75))]) (a' := [(65, (m8.2 65)), (66, (m8.2 66)), (67, (m8.2 67)), (68, (m8.2 68))]) [7, 8, 9, 10, 11, 12] [] rfl ⟨rfl, rfl, rfl, rfl, rfl, rfl, rfl, rfl, rfl, rfl, rfl, rfl, rfl, rfl, rfl, rfl, rfl, rfl, rfl, rfl, rfl, rfl, rfl, rfl, rfl, rfl, rfl, rfl, trivial⟩ ⟨rfl, rfl, rfl, rfl, rfl, rfl, rfl, rfl, trivial⟩ rfl rfl (by decide) (by decide) ?_
            replace h73 : LxP y61 y63 y65 (m.1 6) y67 := h73
            replace h74 : y67 = 0 → (m8.1 10) = 0 ∧ (m.1 7) = (41 : Int) := h74
            replace h75 : (m.1 8) ≤ y63 := h75
            replace h76 : y67 = 0 → (m.1 8) + (m.1 9) ≤ y63 := h76
            have hf77 : 1 ≤ y67 := by omega
            clear h74
            clear h76
            have hLx := h73
            clear q11_10 q11_11 ic17 hf55
            refine T_ld 227 (.ref 189) rfl (fun _ => rfl) ?_
            refine T_ld 228 (.ref 189) rfl (fun _ => rfl) ?_
            refine T_gf1 231 (.int (i32 (m8.1 73))) rfl rfl rfl rfl ?_
            refine T_ld 232 (.int (i32 1)) rfl (fun _ => rfl) ?_
            refine T_isub 233 rfl rfl ?_
            refine T_pf (l' := [(7, y61), (8, y63), (9, y65), (10, y67), (11, y69), (12, y71), (28, (m8.1 28)), (69, (m8.1 69)), (70, (m8.1 70)), (71, (m8.1 71)), (72, (m8.1 72)), (73, (m8.1 73) - 1), (74, (m8.1 74)), (75, (m.1 75))]) 236 ((m8.1 73) - 1) rfl rfl rfl rfl rfl rfl ?_
            have g78 : 0 ≤ (m8.1 73) - 1 ∧ (m8.1 73) - 1 ≤ 60 := ⟨by omega, by omega⟩
            refine T_ld 237 (.ref 189) rfl (fun _ => rfl) ?_
            refine T_ld 238 (.int (i32 ((m.2 77) ((m8.1 73) - 1)))) rfl (fun _ => rfl) ?_
            refine T_pf (l' := [(7, y61), (8, y63), (9, y65), (10, y67), (11, y69), (12, y71), (28, (m8.1 28)), (69, (m8.1 69)), (70, (m.2 77) ((m8.1 73) - 1)), (71, (m8.1 71)), (72, (m8.1 72)), (73, (m8.1 73) - 1), (74, (m8.1 74)), (75, (m.1 75))]) 241 ((m.2 77) ((m8.1 73) - 1)) rfl rfl rfl rfl rfl rfl ?_
            have g79 : 0 ≤ (m.2 77) ((m8.1 73) - 1) ∧ (m.2 77) ((m8.1 73) - 1) ≤ 4000 := ⟨by omega, by omega⟩
            refine T_ld 242 (.ref 189) rfl (fun _ => rfl) ?_
            refine T_ld 243 (.int (i32 1)) rfl (fun _ => rfl) ?_
            refine T_pf (l' := [(7, y61), (8, y63), (9, y65), (10, y67), (11, y69), (12, y71), (28, (m8.1 28)), (69, (m8.1 69)), (70, (m.2 77) ((m8.1 73) - 1)), (71, (m8.1 71)), (72, (m8.1 72)), (73, (m8.1 73) - 1), (74, (m8.1 74)), (75, 1)]) 246 1 rfl rfl rfl rfl rfl rfl ?_
            refine T_ret rfl (fun _ => rfl) ?_
            exact ⟨(mO m [(7, y61), (8, y63), (9, y65), (10, y67), (11, y69), (12, y71), (28, (m8.1 28)), (69, (m8.1 69)), (70, (m.2 77) ((m8.1 73) - 1)), (71, (m8.1 71)), (72, (m8.1 72)), (73, (m8.1 73) - 1), (74, (m8.1 74)), (75, 1)] [(65, (m8.2 65)), (66, (m8.2 66)), (67, (m8.2 67)), (68, (m8.2 68))]), (Ty_mO hT rfl rfl ⟨g62, g64, g66, g68, g70, g72, (q11.1 28), (q11.1 69), g79, (q11.1 71), (q11.1 72), g78, (q11.1 74), ⟨(by omega : (0 : Int) ≤ 1), (by omega : (1 : Int) ≤ 3)⟩, trivial⟩ ⟨(q11.2.1 65), (q11.2.1 66), (q11.2.1 67), (q11.2.1 68), trivial⟩), (show y67 = 0 → (m.1 10) = 0 by omega), (show LxP y61 y63 y65 (m.1 6) y67 by first | (first | exact hLx | exact (fun _ => hLx (by omega)) | (intro h9; exfalso; omega)) | (exfalso; omega)), (fun (h : y67 = 0) => absurd h (by omega)), rfl⟩
          · skip
            refine T_ld 203 (.ref 189) rfl (fun _ => rfl) ?_
            refine T_ld 204 (.int (i32 3)) rfl (fun _ => rfl) ?_
            refine T_pf (l' := [(7, (m.1 7)), (8, (m.1 8)), (9, (m.1 9)), (10, (m8.1 10)), (11, (m8.1 11)), (12, (m.1 12)), (28, (m8.1 28)), (69, (m8.1 69)), (70, (m8.1 70)), (71, (m8.1 71)), (72, (m8.1 72)), (73, (m8.1 73)), (74, (m8.1 74)), (75, 3)]) 207 3 rfl rfl rfl rfl rfl rfl ?_
            refine T_ret rfl (fun _ => rfl) ?_
            exact ⟨(mO m [(7, (m.1 7)), (8, (m.1 8)), (9, (m.1 9)), (10, (m8.1 10)), (11, (m8.1 11)), (12, (m.1 12)), (28, (m8.1 28)), (69, (m8.1 69)), (70, (m8.1 70)), (71, (m8.1 71)), (72, (m8.1 72)), (73, (m8.1 73)), (74, (m8.1 74)), (75, 3)] [(65, (m8.2 65)), (66, (m8.2 66)), (67, (m8.2 67)), (68, (m8.2 68))]), (Ty_mO hT rfl rfl ⟨f7, f8, f9, (q11.1 10), (q11.1 11), f12, (q11.1 28), (q11.1 69), (q11.1 70), (q11.1 71), (q11.1 72), (q11.1 73), (q11.1 74), ⟨(by omega : (0 : Int) ≤ 3), (by omega : (3 : Int) ≤ 3)⟩, trivial⟩ ⟨(q11.2.1 65), (q11.2.1 66), (q11.2.1 67), (q11.2.1 68), trivial⟩), (show (m8.1 10) = 0 → (m.1 10) = 0 by omega), (show LxP (m.1 7) (m.1 8) (m.1 9) (m.1 6) (m8.1 10) by first | (first | exact hLx | exact (fun _ => hLx (by omega)) | (intro h9; exfalso; omega)) | (exfalso; omega)), (fun (h : (m8.1 10) = 0) => absurd h (by omega)), rfl⟩
    refine Tm_lv (a := [(0, .ref 189), (1, .int (i32 0))]) rfl rfl ⟨rfl, rfl, trivial⟩ ?_
    exact L33_9 ((((m.1 73) - 1) : Int) + 1).toNat 0 (mO m [(7, (m.1 7)), (8, (m.1 8)), (9, (m.1 9)), (10, (m.1 10)), (11, (m.1 11)), (12, (m.1 12)), (28, (m.1 28)), (69, (m.1 69)), (70, (m.1 70)), (71, (m.1 71)), (72, (m.1 72)), (73, (m.1 73) - 1), (74, (m.1 74) - 1), (75, (m.1 75))] [(65, (m.2 65)), (66, (m.2 66)), (67, (m.2 67)), (68, (m.2 68))]) ⟨by decide, by decide⟩ (Ty_mO hT rfl rfl ⟨f7, f8, f9, f10, f11, f12, f28, f69, f70, f71, f72, g4, g5, f75, trivial⟩ ⟨(hT.2.1 65), (hT.2.1 66), (hT.2.1 67), (hT.2.1 68), trivial⟩) (show 0 ≤ (0 : Int) by omega) (show (0 : Int) ≤ 0 by omega) (show (0 : Int) = 0 ∨ (0 : Int) = 1 by omega) (show (0 : Int) = 1 → 1 ≤ ((m.1 73) - 1) by omega) (show ((m.1 73) - 1) + 1 ≤ (m.1 73) by omega) (show (m.1 10) = 0 ∨ (0 : Int) = 0 by omega) (fun _ => ⟨(show XC (m.2 65) (m.2 67) (m.2 76) (m.2 78) (m.2 79) (m.2 80) B (m.1 28) ((m.1 73) - 1) ((m.1 74) - 1) by exact hXC), (show (m.1 69) ≤ 64 by omega), (show (m.1 28) ≤ (m.1 28) by omega), (show (0 : Int) = 0 → ((m.1 73) - 1) = 0 by omega), (show agr (m.2 65) (m.2 65) (m.1 28) by exact hAgC)⟩) (show ((m.1 73) - 1) < ((((((m.1 73) - 1) : Int) + 1).toNat : Nat) : Int) by omega)
  · skip
    refine T_ld 28 (.int (i32 1)) rfl (fun _ => rfl) ?_
    refine T_goto 32 rfl (fun _ => rfl) ?_
    refine T_sto 33 [(1, .int (i32 1)), (0, .ref 189)] rfl (fun _ => rfl) ?_
    have L33_82 : ∀ (n : Nat) (v80 : Int) (m81 : mR), (R32 v80) → (Ty m81) → (0 ≤ v80) → (v80 ≤ 1) → (v80 = 0 ∨ v80 = 1) → (v80 = 1 → 1 ≤ (m81.1 73)) → ((m81.1 73) + 1 ≤ (m.1 73)) → ((m81.1 10) = 0 ∨ v80 = 0) → ((m81.1 10) = 0 → (XC (m81.2 65) (m81.2 67) (m.2 76) (m.2 78) (m.2 79) (m.2 80) B (m81.1 28) (m81.1 73) (m81.1 74)) ∧ ((m81.1 69) ≤ 64) ∧ ((m.1 28) ≤ (m81.1 28)) ∧ (v80 = 0 → (m81.1 73) = 0) ∧ (agr (m.2 65) (m81.2 65) (m.1 28))) → (m81.1 73) < (n : Int) → TT w D pm_264 (33, [(0, .ref 189), (1, .int (i32 v80))], [], (mhp (mO m [(7, (m.1 7)), (8, (m.1 8)), (9, (m.1 9)), (10, (m81.1 10)), (11, (m81.1 11)), (12, (m.1 12)), (28, (m81.1 28)), (69, (m81.1 69)), (70, (m81.1 70)), (71, (m81.1 71)), (72, (m81.1 72)), (73, (m81.1 73)), (74, (m81.1 74)), (75, (m.1 75))] [(65, (m81.2 65)), (66, (m81.2 66)), (67, (m81.2 67)), (68, (m81.2 68))]) c, N), 0, 0) (Q_endChoice m c N B) := by
      intro n
      induction n with
      | zero =>
        intro v80 m81 q83 q84 ic85 ic86 ic87 ic88 ic89 ic90 c91 hmu
        obtain ⟨q83a, q83b⟩ := id q83
        have q84_10 : 0 ≤ m81.1 10 ∧ m81.1 10 ≤ 8 := q84.1 10
        have q84_11 : (-1) ≤ m81.1 11 ∧ m81.1 11 ≤ 4000 := q84.1 11
        have q84_28 : 0 ≤ m81.1 28 ∧ m81.1 28 ≤ 800 := q84.1 28
        have q84_69 : 0 ≤ m81.1 69 ∧ m81.1 69 ≤ 1024 := q84.1 69
        have q84_70 : 0 ≤ m81.1 70 ∧ m81.1 70 ≤ 4000 := q84.1 70
        have q84_71 : 0 ≤ m81.1 71 ∧ m81.1 71 ≤ 1 := q84.1 71
        have q84_72 : (-9223372036854775808) ≤ m81.1 72 ∧ m81.1 72 ≤ 9223372036854775807 := q84.1 72
        have q84_73 : 0 ≤ m81.1 73 ∧ m81.1 73 ≤ 60 := q84.1 73
        have q84_74 : 0 ≤ m81.1 74 ∧ m81.1 74 ≤ 24 := q84.1 74
        exfalso
        omega
      | succ n ih =>
        intro v80 m81 q83 q84 ic85 ic86 ic87 ic88 ic89 ic90 c91 hmu
        obtain ⟨q83a, q83b⟩ := id q83
        have q84_10 : 0 ≤ m81.1 10 ∧ m81.1 10 ≤ 8 := q84.1 10
        have q84_11 : (-1) ≤ m81.1 11 ∧ m81.1 11 ≤ 4000 := q84.1 11
        have q84_28 : 0 ≤ m81.1 28 ∧ m81.1 28 ≤ 800 := q84.1 28
        have q84_69 : 0 ≤ m81.1 69 ∧ m81.1 69 ≤ 1024 := q84.1 69
        have q84_70 : 0 ≤ m81.1 70 ∧ m81.1 70 ≤ 4000 := q84.1 70
        have q84_71 : 0 ≤ m81.1 71 ∧ m81.1 71 ≤ 1 := q84.1 71
        have q84_72 : (-9223372036854775808) ≤ m81.1 72 ∧ m81.1 72 ≤ 9223372036854775807 := q84.1 72
        have q84_73 : 0 ≤ m81.1 73 ∧ m81.1 73 ≤ 60 := q84.1 73
        have q84_74 : 0 ≤ m81.1 74 ∧ m81.1 74 ≤ 24 := q84.1 74
        have ih92 := ih
        by_cases hf93 : (m81.1 10) = 0
        · skip
          obtain ⟨c94, c95, c96, c97, c98⟩ := c91 hf93
          clear c91
          have hXC := c94
          have hAgC := c98
          refine T_ld 34 (.int (i32 v80)) rfl (fun _ => rfl) ?_
          refine T_if 195 37 rfl rfl rfl (r32 (by omega) (by omega)) (fun (h99 : v80 = 0) => ?_) (fun (h99 : ¬ (v80 = 0)) => ?_)
          · skip
            refine T_gf 199 (.int (i32 (m81.1 73))) rfl rfl rfl rfl rfl rfl ?_
            refine T_if 208 202 rfl rfl rfl (r32 (by omega) (by omega)) (fun (h100 : (m81.1 73) ≠ 0) => ?_) (fun (h100 : ¬ ((m81.1 73) ≠ 0)) => ?_)
            · skip
              obtain ⟨hXB, hh2⟩ := XC_bra hXC (by omega) (by omega) (hT.2.1 76 _) (hT.2.1 79 _).1
              refine T_gf 212 (.ref 239) rfl rfl rfl rfl rfl rfl ?_
              refine T_gf 216 (.int (i32 (m81.1 73))) rfl rfl rfl rfl rfl rfl ?_
              refine T_ld 217 (.int (i32 1)) rfl (fun _ => rfl) ?_
              refine T_isub 218 rfl rfl ?_
              refine T_iald 219 77 (m.2 77) rfl rfl rfl (by omega) (show ((m81.1 73) - 1) < (60 : Int) by omega) rfl ?_
              have e101 : 0 ≤ m.2 77 ((m81.1 73) - 1) ∧ m.2 77 ((m81.1 73) - 1) ≤ 4000 := hT.2.1 77 ((m81.1 73) - 1)
              refine T_sto 220 [(2, .int (i32 ((m.2 77) ((m81.1 73) - 1)))), (0, .ref 189), (1, .int (i32 v80))] rfl (fun _ => rfl) ?_
              refine T_ld 221 (.ref 189) rfl (fun _ => rfl) ?_
              refine T_ld 223 (.int (i32 41)) rfl (fun _ => rfl) ?_
              refine T_call 226 232 [.ref 189, .int (i32 41)] [] rfl (fun _ => rfl) rfl (c_need w (mO m [(7, (m.1 7)), (8, (m.1 8)), (9, (m.1 9)), (10, (m81.1 10)), (11, (m81.1 11)), (12, (m.1 12)), (28, (m81.1 28)), (69, (m81.1 69)), (70, (m81.1 70)), (71, (m81.1 71)), (72, (m81.1 72)), (73, (m81.1 73)), (74, (m81.1 74)), (75, (m.1 75))] [(65, (m81.2 65)), (66, (m81.2 66)), (67, (m81.2 67)), (68, (m81.2 68))]) c N D (by omega) (Ty_mO hT rfl rfl ⟨f7, f8, f9, (q84.1 10), (q84.1 11), f12, (q84.1 28), (q84.1 69), (q84.1 70), (q84.1 71), (q84.1 72), (q84.1 73), (q84.1 74), f75, trivial⟩ ⟨(q84.2.1 65), (q84.2.1 66), (q84.2.1 67), (q84.2.1 68), trivial⟩) 41 ⟨by decide, by decide⟩ (show 1 ≤ (41 : Int) by omega) (show LxP (m.1 7) (m.1 8) (m.1 9) (m.1 6) (m81.1 10) by first | exact hLx | (intro h9; exfalso; omega) | (intro h9; have h8 := hLx (by omega); omega))) (fun rr102 k103 => ?_)
              obtain ⟨y104, y106, y108, y110, y112, y114, g105, g107, g109, g111, g113, g115, h116, h117, h118, h119, rfl⟩ := k103
              refine ⟨_, _, rfl, ?_⟩
              refine T_nf2 (st' := []) (l' := [(7, y104), (8, y106), (9, y108), (10, y110), (11, y112), (12, y114), (28, (m81.1 28)), (69, (m81.1 69)), (70, (m81.1 70)), (71, (m81.1 71)), (72, (m81.1 72)), (73, (m81.1 73)), (74, (m81.1 74)), (75, (m.1 75))]) (a' := [(65, (m81.2 65)), (66, (m81.2 66)), (67, (m81.2 67)), (68, (m81.2 68))]) [7, 8, 9, 10, 11, 12] [] rfl ⟨rfl, rfl, rfl, rfl, rfl, rfl, rfl, rfl, rfl, rfl, rfl, rfl, rfl, rfl, rfl, rfl, rfl, rfl, rfl, rfl, rfl, rfl, rfl, rfl, rfl, rfl, rfl, rfl, trivial⟩ ⟨rfl, rfl, rfl, rfl, rfl, rfl, rfl, rfl, trivial⟩ rfl rfl (by decide) (by decide) ?_
              by_cases hf120 : y110 = 0
              · skip
                subst hf120
                replace h116 : LxP y104 y106 y108 (m.1 6) (0 : Int) := h116
                have hLx := h116
                replace h117 : (m81.1 10) = 0 ∧ (m.1 7) = (41 : Int) := h117 rfl
                replace h118 : (m.1 8) ≤ y106 := h118
                replace h119 : (m.1 8) + (m.1 9) ≤ y106 := h119 rfl
                have hAgC : agr (m.2 65) (m81.2 65) (m.1 28) := by first | exact agr_r _ _ | exact hAgC | exact agr_t hAgC hAg (by omega)
                have u121 : (m.1 28) ≤ (m81.1 28) := by omega
                have u122 : (m81.1 69) ≤ 64 := by omega
                clear q84_10 q84_11 ic90 g111 h117
                refine T_ld 227 (.ref 189) rfl (fun _ => rfl) ?_
                refine T_ld 228 (.ref 189) rfl (fun _ => rfl) ?_
                refine T_gf1 231 (.int (i32 (m81.1 73))) rfl rfl rfl rfl ?_
                refine T_ld 232 (.int (i32 1)) rfl (fun _ => rfl) ?_
                refine T_isub 233 rfl rfl ?_
                refine T_pf (l' := [(7, y104), (8, y106), (9, y108), (10, 0), (11, y112), (12, y114), (28, (m81.1 28)), (69, (m81.1 69)), (70, (m81.1 70)), (71, (m81.1 71)), (72, (m81.1 72)), (73, (m81.1 73) - 1), (74, (m81.1 74)), (75, (m.1 75))]) 236 ((m81.1 73) - 1) rfl rfl rfl rfl rfl rfl ?_
                have g123 : 0 ≤ (m81.1 73) - 1 ∧ (m81.1 73) - 1 ≤ 60 := ⟨by omega, by omega⟩
                refine T_ld 237 (.ref 189) rfl (fun _ => rfl) ?_
                refine T_ld 238 (.int (i32 ((m.2 77) ((m81.1 73) - 1)))) rfl (fun _ => rfl) ?_
                refine T_pf (l' := [(7, y104), (8, y106), (9, y108), (10, 0), (11, y112), (12, y114), (28, (m81.1 28)), (69, (m81.1 69)), (70, (m.2 77) ((m81.1 73) - 1)), (71, (m81.1 71)), (72, (m81.1 72)), (73, (m81.1 73) - 1), (74, (m81.1 74)), (75, (m.1 75))]) 241 ((m.2 77) ((m81.1 73) - 1)) rfl rfl rfl rfl rfl rfl ?_
                have g124 : 0 ≤ (m.2 77) ((m81.1 73) - 1) ∧ (m.2 77) ((m81.1 73) - 1) ≤ 4000 := ⟨by omega, by omega⟩
                refine T_ld 242 (.ref 189) rfl (fun _ => rfl) ?_
                refine T_ld 243 (.int (i32 1)) rfl (fun _ => rfl) ?_
                refine T_pf (l' := [(7, y104), (8, y106), (9, y108), (10, 0), (11, y112), (12, y114), (28, (m81.1 28)), (69, (m81.1 69)), (70, (m.2 77) ((m81.1 73) - 1)), (71, (m81.1 71)), (72, (m81.1 72)), (73, (m81.1 73) - 1), (74, (m81.1 74)), (75, 1)]) 246 1 rfl rfl rfl rfl rfl rfl ?_
                have hXE : XS (m81.2 65) (m81.2 67) (m.2 76) (m.2 78) (m.2 79) (m.2 80) B (m81.1 28) ((m81.1 73) - 1) (m81.1 74) (um (1 : Int)) := by
                  rw [show um (1 : Int) = 1 from if_neg (by omega)]
                  exact hXB
                refine T_ret rfl (fun _ => rfl) ?_
                exact ⟨(mO m [(7, y104), (8, y106), (9, y108), (10, 0), (11, y112), (12, y114), (28, (m81.1 28)), (69, (m81.1 69)), (70, (m.2 77) ((m81.1 73) - 1)), (71, (m81.1 71)), (72, (m81.1 72)), (73, (m81.1 73) - 1), (74, (m81.1 74)), (75, 1)] [(65, (m81.2 65)), (66, (m81.2 66)), (67, (m81.2 67)), (68, (m81.2 68))]), (Ty_mO hT rfl rfl ⟨g105, g107, g109, ⟨(by omega : (0 : Int) ≤ 0), (by omega : (0 : Int) ≤ 8)⟩, g113, g115, (q84.1 28), (q84.1 69), g124, (q84.1 71), (q84.1 72), g123, (q84.1 74), ⟨(by omega : (0 : Int) ≤ 1), (by omega : (1 : Int) ≤ 3)⟩, trivial⟩ ⟨(q84.2.1 65), (q84.2.1 66), (q84.2.1 67), (q84.2.1 68), trivial⟩), (show (0 : Int) = 0 → (m.1 10) = 0 by omega), (show LxP y104 y106 y108 (m.1 6) (0 : Int) by first | (first | exact hLx | exact (fun _ => hLx (by omega)) | (intro h9; exfalso; omega)) | (exfalso; omega)), (fun _ => ⟨(show GP (m.1 8) y106 (1 : Int) ((m81.1 73) - 1) (m.1 73) by first | (first | assumption | (unfold GP; omega)) | (exfalso; omega)), (show GU (1 : Int) (m81.1 69) by first | (first | assumption | (unfold GU; omega)) | (exfalso; omega)), (show GH (1 : Int) ((m81.1 73) - 1) by first | (first | assumption | (unfold GH; omega)) | (exfalso; omega)), (show (m.1 28) ≤ (m81.1 28) by omega), (show XS (m81.2 65) (m81.2 67) (m.2 76) (m.2 78) (m.2 79) (m.2 80) B (m81.1 28) ((m81.1 73) - 1) (m81.1 74) (um (1 : Int)) by first | (exact hXE) | (exfalso; omega)), (show agr (m.2 65) (m81.2 65) (m.1 28) by first | (exact hAgC) | (exfalso; omega))⟩), rfl⟩
              · skip
                replace h116 : LxP y104 y106 y108 (m.1 6) y110 := h116
                have hLx := h116
                clear h117
                replace h118 : (m.1 8) ≤ y106 := h118
                clear h119
                have hf125 : 1 ≤ y110 := by omega
                clear q84_10 q84_11 ic90
                refine T_ld 227 (.ref 189) rfl (fun _ => rfl) ?_
                refine T_ld 228 (.ref 189) rfl (fun _ => rfl) ?_
                refine T_gf1 231 (.int (i32 (m81.1 73))) rfl rfl rfl rfl ?_
                refine T_ld 232 (.int (i32 1)) rfl (fun _ => rfl) ?_
                refine T_isub 233 rfl rfl ?_
                refine T_pf (l' := [(7, y104), (8, y106), (9, y108), (10, y110), (11, y112), (12, y114), (28, (m81.1 28)), (69, (m81.1 69)), (70, (m81.1 70)), (71, (m81.1 71)), (72, (m81.1 72)), (73, (m81.1 73) - 1), (74, (m81.1 74)), (75, (m.1 75))]) 236 ((m81.1 73) - 1) rfl rfl rfl rfl rfl rfl ?_
                have g126 : 0 ≤ (m81.1 73) - 1 ∧ (m81.1 73) - 1 ≤ 60 := ⟨by omega, by omega⟩
                refine T_ld 237 (.ref 189) rfl (fun _ => rfl) ?_
                refine T_ld 238 (.int (i32 ((m.2 77) ((m81.1 73) - 1)))) rfl (fun _ => rfl) ?_
                refine T_pf (l' := [(7, y104), (8, y106), (9, y108), (10, y110), (11, y112), (12, y114), (28, (m81.1 28)), (69, (m81.1 69)), (70, (m.2 77) ((m81.1 73) - 1)), (71, (m81.1 71)), (72, (m81.1 72)), (73, (m81.1 73) - 1), (74, (m81.1 74)), (75, (m.1 75))]) 241 ((m.2 77) ((m81.1 73) - 1)) rfl rfl rfl rfl rfl rfl ?_
                have g127 : 0 ≤ (m.2 77) ((m81.1 73) - 1) ∧ (m.2 77) ((m81.1 73) - 1) ≤ 4000 := ⟨by omega, by omega⟩
                refine T_ld 242 (.ref 189) rfl (fun _ => rfl) ?_
                refine T_ld 243 (.int (i32 1)) rfl (fun _ => rfl) ?_
                refine T_pf (l' := [(7, y104), (8, y106), (9, y108), (10, y110), (11, y112), (12, y114), (28, (m81.1 28)), (69, (m81.1 69)), (70, (m.2 77) ((m81.1 73) - 1)), (71, (m81.1 71)), (72, (m81.1 72)), (73, (m81.1 73) - 1), (74, (m81.1 74)), (75, 1)]) 246 1 rfl rfl rfl rfl rfl rfl ?_
                refine T_ret rfl (fun _ => rfl) ?_
                exact ⟨(mO m [(7, y104), (8, y106), (9, y108), (10, y110), (11, y112), (12, y114), (28, (m81.1 28)), (69, (m81.1 69)), (70, (m.2 77) ((m81.1 73) - 1)), (71, (m81.1 71)), (72, (m81.1 72)), (73, (m81.1 73) - 1), (74, (m81.1 74)), (75, 1)] [(65, (m81.2 65)), (66, (m81.2 66)), (67, (m81.2 67)), (68, (m81.2 68))]), (Ty_mO hT rfl rfl ⟨g105, g107, g109, g111, g113, g115, (q84.1 28), (q84.1 69), g127, (q84.1 71), (q84.1 72), g126, (q84.1 74), ⟨(by omega : (0 : Int) ≤ 1), (by omega : (1 : Int) ≤ 3)⟩, trivial⟩ ⟨(q84.2.1 65), (q84.2.1 66), (q84.2.1 67), (q84.2.1 68), trivial⟩), (show y110 = 0 → (m.1 10) = 0 by omega), (show LxP y104 y106 y108 (m.1 6) y110 by first | (first | exact hLx | exact (fun _ => hLx (by omega)) | (intro h9; exfalso; omega)) | (exfalso; omega)), (fun (h : y110 = 0) => absurd h (by omega)), rfl⟩
            · skip
              refine T_ld 203 (.ref 189) rfl (fun _ => rfl) ?_
              refine T_ld 204 (.int (i32 3)) rfl (fun _ => rfl) ?_
              refine T_pf (l' := [(7, (m.1 7)), (8, (m.1 8)), (9, (m.1 9)), (10, (m81.1 10)), (11, (m81.1 11)), (12, (m.1 12)), (28, (m81.1 28)), (69, (m81.1 69)), (70, (m81.1 70)), (71, (m81.1 71)), (72, (m81.1 72)), (73, (m81.1 73)), (74, (m81.1 74)), (75, 3)]) 207 3 rfl rfl rfl rfl rfl rfl ?_
              have hXE : XS (m81.2 65) (m81.2 67) (m.2 76) (m.2 78) (m.2 79) (m.2 80) B (m81.1 28) (m81.1 73) (m81.1 74) (um (3 : Int)) := by
                rw [show um (3 : Int) = 1 from if_neg (by omega)]
                have e : (m81.1 73) = 0 := by omega
                have H := hXC
                rw [e] at H ⊢
                exact XC_end H
              refine T_ret rfl (fun _ => rfl) ?_
              exact ⟨(mO m [(7, (m.1 7)), (8, (m.1 8)), (9, (m.1 9)), (10, (m81.1 10)), (11, (m81.1 11)), (12, (m.1 12)), (28, (m81.1 28)), (69, (m81.1 69)), (70, (m81.1 70)), (71, (m81.1 71)), (72, (m81.1 72)), (73, (m81.1 73)), (74, (m81.1 74)), (75, 3)] [(65, (m81.2 65)), (66, (m81.2 66)), (67, (m81.2 67)), (68, (m81.2 68))]), (Ty_mO hT rfl rfl ⟨f7, f8, f9, (q84.1 10), (q84.1 11), f12, (q84.1 28), (q84.1 69), (q84.1 70), (q84.1 71), (q84.1 72), (q84.1 73), (q84.1 74), ⟨(by omega : (0 : Int) ≤ 3), (by omega : (3 : Int) ≤ 3)⟩, trivial⟩ ⟨(q84.2.1 65), (q84.2.1 66), (q84.2.1 67), (q84.2.1 68), trivial⟩), (show (m81.1 10) = 0 → (m.1 10) = 0 by omega), (show LxP (m.1 7) (m.1 8) (m.1 9) (m.1 6) (m81.1 10) by first | (first | exact hLx | exact (fun _ => hLx (by omega)) | (intro h9; exfalso; omega)) | (exfalso; omega)), (fun _ => ⟨(show GP (m.1 8) (m.1 8) (3 : Int) (m81.1 73) (m.1 73) by first | (first | assumption | (unfold GP; omega)) | (exfalso; omega)), (show GU (3 : Int) (m81.1 69) by first | (first | assumption | (unfold GU; omega)) | (exfalso; omega)), (show GH (3 : Int) (m81.1 73) by first | (first | assumption | (unfold GH; omega)) | (exfalso; omega)), (show (m.1 28) ≤ (m81.1 28) by omega), (show XS (m81.2 65) (m81.2 67) (m.2 76) (m.2 78) (m.2 79) (m.2 80) B (m81.1 28) (m81.1 73) (m81.1 74) (um (3 : Int)) by first | (exact hXE) | (exfalso; omega)), (show agr (m.2 65) (m81.2 65) (m.1 28) by first | (exact hAgC) | (exfalso; omega))⟩), rfl⟩
          · skip
            refine T_gf 41 (.ref 238) rfl rfl rfl rfl rfl rfl ?_
            refine T_gf 45 (.int (i32 (m81.1 73))) rfl rfl rfl rfl rfl rfl ?_
            refine T_ld 46 (.int (i32 1)) rfl (fun _ => rfl) ?_
            refine T_isub 47 rfl rfl ?_
            refine T_iald 48 76 (m.2 76) rfl rfl rfl (by omega) (show ((m81.1 73) - 1) < (60 : Int) by omega) rfl ?_
            have e128 : 0 ≤ m.2 76 ((m81.1 73) - 1) ∧ m.2 76 ((m81.1 73) - 1) ≤ 2 := hT.2.1 76 ((m81.1 73) - 1)
            refine T_if 195 51 rfl rfl rfl (r32 (by omega) (by omega)) (fun (h129 : (m.2 76) ((m81.1 73) - 1) ≠ 0) => ?_) (fun (h129 : ¬ ((m.2 76) ((m81.1 73) - 1) ≠ 0)) => ?_)
            · skip
              refine T_gf 199 (.int (i32 (m81.1 73))) rfl rfl rfl rfl rfl rfl ?_
              refine T_if 208 202 rfl rfl rfl (r32 (by omega) (by omega)) (fun (h130 : (m81.1 73) ≠ 0) => ?_) (fun (h130 : ¬ ((m81.1 73) ≠ 0)) => ?_)
              · skip
                obtain ⟨hXB, hh2⟩ := XC_bra hXC (by omega) (by omega) (hT.2.1 76 _) (hT.2.1 79 _).1
                refine T_gf 212 (.ref 239) rfl rfl rfl rfl rfl rfl ?_
                refine T_gf 216 (.int (i32 (m81.1 73))) rfl rfl rfl rfl rfl rfl ?_
                refine T_ld 217 (.int (i32 1)) rfl (fun _ => rfl) ?_
                refine T_isub 218 rfl rfl ?_
                refine T_iald 219 77 (m.2 77) rfl rfl rfl (by omega) (show ((m81.1 73) - 1) < (60 : Int) by omega) rfl ?_
                have e131 : 0 ≤ m.2 77 ((m81.1 73) - 1) ∧ m.2 77 ((m81.1 73) - 1) ≤ 4000 := hT.2.1 77 ((m81.1 73) - 1)
                refine T_sto 220 [(2, .int (i32 ((m.2 77) ((m81.1 73) - 1)))), (0, .ref 189), (1, .int (i32 v80))] rfl (fun _ => rfl) ?_
                refine T_ld 221 (.ref 189) rfl (fun _ => rfl) ?_
                refine T_ld 223 (.int (i32 41)) rfl (fun _ => rfl) ?_
                refine T_call 226 232 [.ref 189, .int (i32 41)] [] rfl (fun _ => rfl) rfl (c_need w (mO m [(7, (m.1 7)), (8, (m.1 8)), (9, (m.1 9)), (10, (m81.1 10)), (11, (m81.1 11)), (12, (m.1 12)), (28, (m81.1 28)), (69, (m81.1 69)), (70, (m81.1 70)), (71, (m81.1 71)), (72, (m81.1 72)), (73, (m81.1 73)), (74, (m81.1 74)), (75, (m.1 75))] [(65, (m81.2 65)), (66, (m81.2 66)), (67, (m81.2 67)), (68, (m81.2 68))]) c N D (by omega) (Ty_mO hT rfl rfl ⟨f7, f8, f9, (q84.1 10), (q84.1 11), f12, (q84.1 28), (q84.1 69), (q84.1 70), (q84.1 71), (q84.1 72), (q84.1 73), (q84.1 74), f75, trivial⟩ ⟨(q84.2.1 65), (q84.2.1 66), (q84.2.1 67), (q84.2.1 68), trivial⟩) 41 ⟨by decide, by decide⟩ (show 1 ≤ (41 : Int) by omega) (show LxP (m.1 7) (m.1 8) (m.1 9) (m.1 6) (m81.1 10) by first | exact hLx | (intro h9; exfalso; omega) | (intro h9; have h8 := hLx (by omega); omega))) (fun rr132 k133 => ?_)
                obtain ⟨y134, y136, y138, y140, y142, y144, g135, g137, g139, g141, g143, g145, h146, h147, h148, h149, rfl⟩ := k133
                refine ⟨_, _, rfl, ?_⟩
                refine T_nf2 (st' := []) (l' := [(7, y134), (8, y136), (9, y138), (10, y140), (11, y142), (12, y144), (28, (m81.1 28)), (69, (m81.1 69)), (70, (m81.1 70)), (71, (m81.1 71)), (72, (m81.1 72)), (73, (m81.1 73)), (74, (m81.1 74)), (75, (m.1 75))]) (a' := [(65, (m81.2 65)), (66, (m81.2 66)), (67, (m81.2 67)), (68, (m81.2 68))]) [7, 8, 9, 10, 11, 12] [] rfl ⟨rfl, rfl, rfl, rfl, rfl, rfl, rfl, rfl, rfl, rfl, rfl, rfl, rfl, rfl, rfl, rfl, rfl, rfl, rfl, rfl, rfl, rfl, rfl, rfl, rfl, rfl, rfl, rfl, trivial⟩ ⟨rfl, rfl, rfl, rfl, rfl, rfl, rfl, rfl, trivial⟩ rfl rfl (by decide) (by decide) ?_
                by_cases hf150 : y140 = 0
                · skip
                  subst hf150
                  replace h146 : LxP y134 y136 y138 (m.1 6) (0 : Int) := h146
                  have hLx := h146
                  replace h147 : (m81.1 10) = 0 ∧ (m.1 7) = (41 : Int) := h147 rfl
                  replace h148 : (m.1 8) ≤ y136 := h148
                  replace h149 : (m.1 8) + (m.1 9) ≤ y136 := h149 rfl
                  have hAgC : agr (m.2 65) (m81.2 65) (m.1 28) := by first | exact agr_r _ _ | exact hAgC | exact agr_t hAgC hAg (by omega)
                  have u151 : (m.1 28) ≤ (m81.1 28) := by omega
                  have u152 : (m81.1 69) ≤ 64 := by omega
                  clear q84_10 q84_11 ic90 g141 h147
                  refine T_ld 227 (.ref 189) rfl (fun _ => rfl) ?_
                  refine T_ld 228 (.ref 189) rfl (fun _ => rfl) ?_
                  refine T_gf1 231 (.int (i32 (m81.1 73))) rfl rfl rfl rfl ?_
                  refine T_ld 232 (.int (i32 1)) rfl (fun _ => rfl) ?_
                  refine T_isub 233 rfl rfl ?_
                  refine T_pf (l' := [(7, y134), (8, y136), (9, y138), (10, 0), (11, y142), (12, y144), (28, (m81.1 28)), (69, (m81.1 69)), (70, (m81.1 70)), (71, (m81.1 71)), (72, (m81.1 72)), (73, (m81.1 73) - 1), (74, (m81.1 74)), (75, (m.1 75))]) 236 ((m81.1 73) - 1) rfl rfl rfl rfl rfl rfl ?_
                  have g153 : 0 ≤ (m81.1 73) - 1 ∧ (m81.1 73) - 1 ≤ 60 := ⟨by omega, by omega⟩
                  refine T_ld 237 (.ref 189) rfl (fun _ => rfl) ?_
                  refine T_ld 238 (.int (i32 ((m.2 77) ((m81.1 73) - 1)))) rfl (fun _ => rfl) ?_
                  refine T_pf (l' := [(7, y134), (8, y136), (9, y138), (10, 0), (11, y142), (12, y144), (28, (m81.1 28)), (69, (m81.1 69)), (70, (m.2 77) ((m81.1 73) - 1)), (71, (m81.1 71)), (72, (m81.1 72)), (73, (m81.1 73) - 1), (74, (m81.1 74)), (75, (m.1 75))]) 241 ((m.2 77) ((m81.1 73) - 1)) rfl rfl rfl rfl rfl rfl ?_
                  have g154 : 0 ≤ (m.2 77) ((m81.1 73) - 1) ∧ (m.2 77) ((m81.1 73) - 1) ≤ 4000 := ⟨by omega, by omega⟩
                  refine T_ld 242 (.ref 189) rfl (fun _ => rfl) ?_
                  refine T_ld 243 (.int (i32 1)) rfl (fun _ => rfl) ?_
                  refine T_pf (l' := [(7, y134), (8, y136), (9, y138), (10, 0), (11, y142), (12, y144), (28, (m81.1 28)), (69, (m81.1 69)), (70, (m.2 77) ((m81.1 73) - 1)), (71, (m81.1 71)), (72, (m81.1 72)), (73, (m81.1 73) - 1), (74, (m81.1 74)), (75, 1)]) 246 1 rfl rfl rfl rfl rfl rfl ?_
                  have hXE : XS (m81.2 65) (m81.2 67) (m.2 76) (m.2 78) (m.2 79) (m.2 80) B (m81.1 28) ((m81.1 73) - 1) (m81.1 74) (um (1 : Int)) := by
                    rw [show um (1 : Int) = 1 from if_neg (by omega)]
                    exact hXB
                  refine T_ret rfl (fun _ => rfl) ?_
                  exact ⟨(mO m [(7, y134), (8, y136), (9, y138), (10, 0), (11, y142), (12, y144), (28, (m81.1 28)), (69, (m81.1 69)), (70, (m.2 77) ((m81.1 73) - 1)), (71, (m81.1 71)), (72, (m81.1 72)), (73, (m81.1 73) - 1), (74, (m81.1 74)), (75, 1)] [(65, (m81.2 65)), (66, (m81.2 66)), (67, (m81.2 67)), (68, (m81.2 68))]), (Ty_mO hT rfl rfl ⟨g135, g137, g139, ⟨(by omega : (0 : Int) ≤ 0), (by omega : (0 : Int) ≤ 8)⟩, g143, g145, (q84.1 28), (q84.1 69), g154, (q84.1 71), (q84.1 72), g153, (q84.1 74), ⟨(by omega : (0 : Int) ≤ 1), (by omega : (1 : Int) ≤ 3)⟩, trivial⟩ ⟨(q84.2.1 65), (q84.2.1 66), (q84.2.1 67), (q84.2.1 68), trivial⟩), (show (0 : Int) = 0 → (m.1 10) = 0 by omega), (show LxP y134 y136 y138 (m.1 6) (0 : Int) by first | (first | exact hLx | exact (fun _ => hLx (by omega)) | (intro h9; exfalso; omega)) | (exfalso; omega)), (fun _ => ⟨(show GP (m.1 8) y136 (1 : Int) ((m81.1 73) - 1) (m.1 73) by first | (first | assumption | (unfold GP; omega)) | (exfalso; omega)), (show GU (1 : Int) (m81.1 69) by first | (first | assumption | (unfold GU; omega)) | (exfalso; omega)), (show GH (1 : Int) ((m81.1 73) - 1) by first | (first | assumption | (unfold GH; omega)) | (exfalso; omega)), (show (m.1 28) ≤ (m81.1 28) by omega), (show XS (m81.2 65) (m81.2 67) (m.2 76) (m.2 78) (m.2 79) (m.2 80) B (m81.1 28) ((m81.1 73) - 1) (m81.1 74) (um (1 : Int)) by first | (exact hXE) | (exfalso; omega)), (show agr (m.2 65) (m81.2 65) (m.1 28) by first | (exact hAgC) | (exfalso; omega))⟩), rfl⟩
                · skip
                  replace h146 : LxP y134 y136 y138 (m.1 6) y140 := h146
                  have hLx := h146
                  clear h147
                  replace h148 : (m.1 8) ≤ y136 := h148
                  clear h149
                  have hf155 : 1 ≤ y140 := by omega
                  clear q84_10 q84_11 ic90
                  refine T_ld 227 (.ref 189) rfl (fun _ => rfl) ?_
                  refine T_ld 228 (.ref 189) rfl (fun _ => rfl) ?_
                  refine T_gf1 231 (.int (i32 (m81.1 73))) rfl rfl rfl rfl ?_
                  refine T_ld 232 (.int (i32 1)) rfl (fun _ => rfl) ?_
                  refine T_isub 233 rfl rfl ?_
                  refine T_pf (l' := [(7, y134), (8, y136), (9, y138), (10, y140), (11, y142), (12, y144), (28, (m81.1 28)), (69, (m81.1 69)), (70, (m81.1 70)), (71, (m81.1 71)), (72, (m81.1 72)), (73, (m81.1 73) - 1), (74, (m81.1 74)), (75, (m.1 75))]) 236 ((m81.1 73) - 1) rfl rfl rfl rfl rfl rfl ?_
                  have g156 : 0 ≤ (m81.1 73) - 1 ∧ (m81.1 73) - 1 ≤ 60 := ⟨by omega, by omega⟩
                  refine T_ld 237 (.ref 189) rfl (fun _ => rfl) ?_
                  refine T_ld 238 (.int (i32 ((m.2 77) ((m81.1 73) - 1)))) rfl (fun _ => rfl) ?_
                  refine T_pf (l' := [(7, y134), (8, y136), (9, y138), (10, y140), (11, y142), (12, y144), (28, (m81.1 28)), (69, (m81.1 69)), (70, (m.2 77) ((m81.1 73) - 1)), (71, (m81.1 71)), (72, (m81.1 72)), (73, (m81.1 73) - 1), (74, (m81.1 74)), (75, (m.1 75))]) 241 ((m.2 77) ((m81.1 73) - 1)) rfl rfl rfl rfl rfl rfl ?_
                  have g157 : 0 ≤ (m.2 77) ((m81.1 73) - 1) ∧ (m.2 77) ((m81.1 73) - 1) ≤ 4000 := ⟨by omega, by omega⟩
                  refine T_ld 242 (.ref 189) rfl (fun _ => rfl) ?_
                  refine T_ld 243 (.int (i32 1)) rfl (fun _ => rfl) ?_
                  refine T_pf (l' := [(7, y134), (8, y136), (9, y138), (10, y140), (11, y142), (12, y144), (28, (m81.1 28)), (69, (m81.1 69)), (70, (m.2 77) ((m81.1 73) - 1)), (71, (m81.1 71)), (72, (m81.1 72)), (73, (m81.1 73) - 1), (74, (m81.1 74)), (75, 1)]) 246 1 rfl rfl rfl rfl rfl rfl ?_
                  refine T_ret rfl (fun _ => rfl) ?_
                  exact ⟨(mO m [(7, y134), (8, y136), (9, y138), (10, y140), (11, y142), (12, y144), (28, (m81.1 28)), (69, (m81.1 69)), (70, (m.2 77) ((m81.1 73) - 1)), (71, (m81.1 71)), (72, (m81.1 72)), (73, (m81.1 73) - 1), (74, (m81.1 74)), (75, 1)] [(65, (m81.2 65)), (66, (m81.2 66)), (67, (m81.2 67)), (68, (m81.2 68))]), (Ty_mO hT rfl rfl ⟨g135, g137, g139, g141, g143, g145, (q84.1 28), (q84.1 69), g157, (q84.1 71), (q84.1 72), g156, (q84.1 74), ⟨(by omega : (0 : Int) ≤ 1), (by omega : (1 : Int) ≤ 3)⟩, trivial⟩ ⟨(q84.2.1 65), (q84.2.1 66), (q84.2.1 67), (q84.2.1 68), trivial⟩), (show y140 = 0 → (m.1 10) = 0 by omega), (show LxP y134 y136 y138 (m.1 6) y140 by first | (first | exact hLx | exact (fun _ => hLx (by omega)) | (intro h9; exfalso; omega)) | (exfalso; omega)), (fun (h : y140 = 0) => absurd h (by omega)), rfl⟩
              · skip
                refine T_ld 203 (.ref 189) rfl (fun _ => rfl) ?_
                refine T_ld 204 (.int (i32 3)) rfl (fun _ => rfl) ?_
                refine T_pf (l' := [(7, (m.1 7)), (8, (m.1 8)), (9, (m.1 9)), (10, (m81.1 10)), (11, (m81.1 11)), (12, (m.1 12)), (28, (m81.1 28)), (69, (m81.1 69)), (70, (m81.1 70)), (71, (m81.1 71)), (72, (m81.1 72)), (73, (m81.1 73)), (74, (m81.1 74)), (75, 3)]) 207 3 rfl rfl rfl rfl rfl rfl ?_
                have hXE : XS (m81.2 65) (m81.2 67) (m.2 76) (m.2 78) (m.2 79) (m.2 80) B (m81.1 28) (m81.1 73) (m81.1 74) (um (3 : Int)) := by
                  rw [show um (3 : Int) = 1 from if_neg (by omega)]
                  have e : (m81.1 73) = 0 := by omega
                  have H := hXC
                  rw [e] at H ⊢
                  exact XC_end H
                refine T_ret rfl (fun _ => rfl) ?_
                exact ⟨(mO m [(7, (m.1 7)), (8, (m.1 8)), (9, (m.1 9)), (10, (m81.1 10)), (11, (m81.1 11)), (12, (m.1 12)), (28, (m81.1 28)), (69, (m81.1 69)), (70, (m81.1 70)), (71, (m81.1 71)), (72, (m81.1 72)), (73, (m81.1 73)), (74, (m81.1 74)), (75, 3)] [(65, (m81.2 65)), (66, (m81.2 66)), (67, (m81.2 67)), (68, (m81.2 68))]), (Ty_mO hT rfl rfl ⟨f7, f8, f9, (q84.1 10), (q84.1 11), f12, (q84.1 28), (q84.1 69), (q84.1 70), (q84.1 71), (q84.1 72), (q84.1 73), (q84.1 74), ⟨(by omega : (0 : Int) ≤ 3), (by omega : (3 : Int) ≤ 3)⟩, trivial⟩ ⟨(q84.2.1 65), (q84.2.1 66), (q84.2.1 67), (q84.2.1 68), trivial⟩), (show (m81.1 10) = 0 → (m.1 10) = 0 by omega), (show LxP (m.1 7) (m.1 8) (m.1 9) (m.1 6) (m81.1 10) by first | (first | exact hLx | exact (fun _ => hLx (by omega)) | (intro h9; exfalso; omega)) | (exfalso; omega)), (fun _ => ⟨(show GP (m.1 8) (m.1 8) (3 : Int) (m81.1 73) (m.1 73) by first | (first | assumption | (unfold GP; omega)) | (exfalso; omega)), (show GU (3 : Int) (m81.1 69) by first | (first | assumption | (unfold GU; omega)) | (exfalso; omega)), (show GH (3 : Int) (m81.1 73) by first | (first | assumption | (unfold GH; omega)) | (exfalso; omega)), (show (m.1 28) ≤ (m81.1 28) by omega), (show XS (m81.2 65) (m81.2 67) (m.2 76) (m.2 78) (m.2 79) (m.2 80) B (m81.1 28) (m81.1 73) (m81.1 74) (um (3 : Int)) by first | (exact hXE) | (exfalso; omega)), (show agr (m.2 65) (m81.2 65) (m.1 28) by first | (exact hAgC) | (exfalso; omega))⟩), rfl⟩
            · skip
              have hd1 := XC_de hXC (by omega)
              have hh3 := XC_h hXC (by omega) (by omega)
              have hl0 : 0 ≤ lh (m.2 79) (m.2 80) ((m81.1 73) - 1) := lh_0 (hT.2.1 79) _ _
              refine T_gf 55 (.int (i32 (m81.1 73))) rfl rfl rfl rfl rfl rfl ?_
              refine T_ld 56 (.int (i32 1)) rfl (fun _ => rfl) ?_
              refine T_isub 57 rfl rfl ?_
              refine T_sto 58 [(2, .int (i32 ((m81.1 73) - 1))), (0, .ref 189), (1, .int (i32 v80))] rfl (fun _ => rfl) ?_
              refine T_ld 59 (.ref 189) rfl (fun _ => rfl) ?_
              refine T_gf 63 (.ref 247) rfl rfl rfl rfl rfl rfl ?_
              refine T_ld 64 (.int (i32 ((m81.1 73) - 1))) rfl (fun _ => rfl) ?_
              refine T_iald 65 85 (m.2 85) rfl rfl rfl (by omega) (show ((m81.1 73) - 1) < (60 : Int) by omega) rfl ?_
              have e158 : 0 ≤ m.2 85 ((m81.1 73) - 1) ∧ m.2 85 ((m81.1 73) - 1) ≤ 64 := hT.2.1 85 ((m81.1 73) - 1)
              refine T_gf 69 (.ref 251) rfl rfl rfl rfl rfl rfl ?_
              refine T_ld 70 (.int (i32 ((m81.1 73) - 1))) rfl (fun _ => rfl) ?_
              refine T_bald 71 89 (m.2 89) rfl rfl rfl (by omega) (show ((m81.1 73) - 1) < (60 : Int) by omega) rfl ?_
              have e159 : 0 ≤ m.2 89 ((m81.1 73) - 1) ∧ m.2 89 ((m81.1 73) - 1) ≤ 1 := hT.2.1 89 ((m81.1 73) - 1)
              refine T_gf 75 (.ref 253) rfl rfl rfl rfl rfl rfl ?_
              refine T_ld 76 (.int (i32 ((m81.1 73) - 1))) rfl (fun _ => rfl) ?_
              refine T_lald 77 91 (m.2 91) rfl rfl rfl (by omega) (show ((m81.1 73) - 1) < (60 : Int) by omega) rfl ?_
              have e160 : (-9223372036854775808) ≤ m.2 91 ((m81.1 73) - 1) ∧ m.2 91 ((m81.1 73) - 1) ≤ 9223372036854775807 := hT.2.1 91 ((m81.1 73) - 1)
              refine T_gf 81 (.ref 248) rfl rfl rfl rfl rfl rfl ?_
              refine T_ld 82 (.int (i32 ((m81.1 73) - 1))) rfl (fun _ => rfl) ?_
              refine T_iald 83 86 (m.2 86) rfl rfl rfl (by omega) (show ((m81.1 73) - 1) < (60 : Int) by omega) rfl ?_
              have e161 : 0 ≤ m.2 86 ((m81.1 73) - 1) ∧ m.2 86 ((m81.1 73) - 1) ≤ 4000 := hT.2.1 86 ((m81.1 73) - 1)
              refine T_call 86 258 [.ref 189, .int (i32 ((m.2 85) ((m81.1 73) - 1))), .int (i32 ((m.2 89) ((m81.1 73) - 1))), .long (i64 ((m.2 91) ((m81.1 73) - 1))), .int (i32 ((m.2 86) ((m81.1 73) - 1)))] [] rfl (fun _ => rfl) rfl (c_wantBit w (mO m [(7, (m.1 7)), (8, (m.1 8)), (9, (m.1 9)), (10, (m81.1 10)), (11, (m81.1 11)), (12, (m.1 12)), (28, (m81.1 28)), (69, (m81.1 69)), (70, (m81.1 70)), (71, (m81.1 71)), (72, (m81.1 72)), (73, (m81.1 73)), (74, (m81.1 74)), (75, (m.1 75))] [(65, (m81.2 65)), (66, (m81.2 66)), (67, (m81.2 67)), (68, (m81.2 68))]) c N D (by omega) (Ty_mO hT rfl rfl ⟨f7, f8, f9, (q84.1 10), (q84.1 11), f12, (q84.1 28), (q84.1 69), (q84.1 70), (q84.1 71), (q84.1 72), (q84.1 73), (q84.1 74), f75, trivial⟩ ⟨(q84.2.1 65), (q84.2.1 66), (q84.2.1 67), (q84.2.1 68), trivial⟩) ((m.2 85) ((m81.1 73) - 1)) ((m.2 89) ((m81.1 73) - 1)) ((m.2 91) ((m81.1 73) - 1)) ((m.2 86) ((m81.1 73) - 1)) (r32 (by omega) (by omega)) (r32 (by omega) (by omega)) (r64 (by omega) (by omega)) (r32 (by omega) (by omega)) (show 0 ≤ ((m.2 86) ((m81.1 73) - 1)) ∧ ((m.2 86) ((m81.1 73) - 1)) ≤ 4000 by omega) (fun _ => trivial)) (fun rr162 k163 => ?_)
              obtain ⟨m164, hT165, h166, c167, rfl⟩ := k163
              refine ⟨_, _, rfl, ?_⟩
              refine T_nf2 (st' := []) (l' := [(7, (m.1 7)), (8, (m.1 8)), (9, (m.1 9)), (10, (m164.1 10)), (11, (m164.1 11)), (12, (m.1 12)), (28, (m81.1 28)), (69, (m81.1 69)), (70, (m81.1 70)), (71, (m81.1 71)), (72, (m81.1 72)), (73, (m81.1 73)), (74, (m81.1 74)), (75, (m.1 75))]) (a' := [(65, (m81.2 65)), (66, (m81.2 66)), (67, (m81.2 67)), (68, (m81.2 68))]) [10, 11] [] rfl ⟨rfl, rfl, rfl, rfl, rfl, rfl, rfl, rfl, rfl, rfl, rfl, rfl, rfl, rfl, rfl, rfl, rfl, rfl, rfl, rfl, rfl, rfl, rfl, rfl, rfl, rfl, rfl, rfl, rfl, rfl, rfl, trivial⟩ ⟨rfl, rfl, rfl, rfl, rfl, rfl, rfl, rfl, trivial⟩ rfl rfl (by decide) (by decide) ?_
              have g168 : 0 ≤ m164.1 10 ∧ m164.1 10 ≤ 8 := hT165.1 10
              have g169 : (-1) ≤ m164.1 11 ∧ m164.1 11 ≤ 4000 := hT165.1 11
              by_cases hf170 : (m164.1 10) = 0
              · skip
                replace h166 : (m81.1 10) = 0 := h166 hf170
                clear c167
                have hAgC : agr (m.2 65) (m81.2 65) (m.1 28) := by first | exact agr_r _ _ | exact hAgC | exact agr_t hAgC hAg (by omega)
                have u171 : (m.1 28) ≤ (m81.1 28) := by omega
                have u172 : (m81.1 69) ≤ 64 := by omega
                clear q84_10 q84_11 ic90 h166
                refine T_ld 87 (.ref 189) rfl (fun _ => rfl) ?_
                refine T_gf 91 (.ref 249) rfl rfl rfl rfl rfl rfl ?_
                refine T_ld 92 (.int (i32 ((m81.1 73) - 1))) rfl (fun _ => rfl) ?_
                refine T_iald 93 87 (m.2 87) rfl rfl rfl (by omega) (show ((m81.1 73) - 1) < (60 : Int) by omega) rfl ?_
                have e173 : 0 ≤ m.2 87 ((m81.1 73) - 1) ∧ m.2 87 ((m81.1 73) - 1) ≤ 64 := hT.2.1 87 ((m81.1 73) - 1)
                refine T_gf 97 (.ref 252) rfl rfl rfl rfl rfl rfl ?_
                refine T_ld 98 (.int (i32 ((m81.1 73) - 1))) rfl (fun _ => rfl) ?_
                refine T_bald 99 90 (m.2 90) rfl rfl rfl (by omega) (show ((m81.1 73) - 1) < (60 : Int) by omega) rfl ?_
                have e174 : 0 ≤ m.2 90 ((m81.1 73) - 1) ∧ m.2 90 ((m81.1 73) - 1) ≤ 1 := hT.2.1 90 ((m81.1 73) - 1)
                refine T_gf 103 (.ref 254) rfl rfl rfl rfl rfl rfl ?_
                refine T_ld 104 (.int (i32 ((m81.1 73) - 1))) rfl (fun _ => rfl) ?_
                refine T_lald 105 92 (m.2 92) rfl rfl rfl (by omega) (show ((m81.1 73) - 1) < (60 : Int) by omega) rfl ?_
                have e175 : (-9223372036854775808) ≤ m.2 92 ((m81.1 73) - 1) ∧ m.2 92 ((m81.1 73) - 1) ≤ 9223372036854775807 := hT.2.1 92 ((m81.1 73) - 1)
                refine T_gf 109 (.ref 250) rfl rfl rfl rfl rfl rfl ?_
                refine T_ld 110 (.int (i32 ((m81.1 73) - 1))) rfl (fun _ => rfl) ?_
                refine T_iald 111 88 (m.2 88) rfl rfl rfl (by omega) (show ((m81.1 73) - 1) < (60 : Int) by omega) rfl ?_
                have e176 : 0 ≤ m.2 88 ((m81.1 73) - 1) ∧ m.2 88 ((m81.1 73) - 1) ≤ 4000 := hT.2.1 88 ((m81.1 73) - 1)
                refine T_gf 115 (.int (i32 (m81.1 69))) rfl rfl rfl rfl rfl rfl ?_
                refine T_gf 119 (.int (i32 (m81.1 71))) rfl rfl rfl rfl rfl rfl ?_
                refine T_gf 123 (.long (i64 (m81.1 72))) rfl rfl rfl rfl rfl rfl ?_
                refine T_gf 127 (.int (i32 (m81.1 70))) rfl rfl rfl rfl rfl rfl ?_
                refine T_call 130 261 [.ref 189, .int (i32 ((m.2 87) ((m81.1 73) - 1))), .int (i32 ((m.2 90) ((m81.1 73) - 1))), .long (i64 ((m.2 92) ((m81.1 73) - 1))), .int (i32 ((m.2 88) ((m81.1 73) - 1))), .int (i32 (m81.1 69)), .int (i32 (m81.1 71)), .long (i64 (m81.1 72)), .int (i32 (m81.1 70))] [] rfl (fun _ => rfl) rfl (c_common w (mO m [(7, (m.1 7)), (8, (m.1 8)), (9, (m.1 9)), (10, (m164.1 10)), (11, (m164.1 11)), (12, (m.1 12)), (28, (m81.1 28)), (69, (m81.1 69)), (70, (m81.1 70)), (71, (m81.1 71)), (72, (m81.1 72)), (73, (m81.1 73)), (74, (m81.1 74)), (75, (m.1 75))] [(65, (m81.2 65)), (66, (m81.2 66)), (67, (m81.2 67)), (68, (m81.2 68))]) c N D (by omega) (Ty_mO hT rfl rfl ⟨f7, f8, f9, (hT165.1 10), (hT165.1 11), f12, (q84.1 28), (q84.1 69), (q84.1 70), (q84.1 71), (q84.1 72), (q84.1 73), (q84.1 74), f75, trivial⟩ ⟨(q84.2.1 65), (q84.2.1 66), (q84.2.1 67), (q84.2.1 68), trivial⟩) ((m.2 87) ((m81.1 73) - 1)) ((m.2 90) ((m81.1 73) - 1)) ((m.2 92) ((m81.1 73) - 1)) ((m.2 88) ((m81.1 73) - 1)) (m81.1 69) (m81.1 71) (m81.1 72) (m81.1 70) (r32 (by omega) (by omega)) (r32 (by omega) (by omega)) (r64 (by omega) (by omega)) (r32 (by omega) (by omega)) (r32 (by omega) (by omega)) (r32 (by omega) (by omega)) (r64 (by omega) (by omega)) (r32 (by omega) (by omega)) (show 0 ≤ ((m.2 88) ((m81.1 73) - 1)) ∧ ((m.2 88) ((m81.1 73) - 1)) ≤ 4000 by omega) (show 0 ≤ (m81.1 70) ∧ (m81.1 70) ≤ 4000 by omega) (show 0 ≤ ((m.2 87) ((m81.1 73) - 1)) ∧ ((m.2 87) ((m81.1 73) - 1)) ≤ 1024 by omega) (show 0 ≤ (m81.1 69) ∧ (m81.1 69) ≤ 1024 by omega) (fun _ => trivial)) (fun rr177 k178 => ?_)
                obtain ⟨m179, x181, hT180, g182, h183, h184, c185, rfl⟩ := k178
                refine ⟨_, _, rfl, ?_⟩
                refine T_nf2 (st' := [.int (i32 x181)]) (l' := [(7, (m.1 7)), (8, (m.1 8)), (9, (m.1 9)), (10, (m179.1 10)), (11, (m179.1 11)), (12, (m.1 12)), (28, (m81.1 28)), (69, (m81.1 69)), (70, (m81.1 70)), (71, (m81.1 71)), (72, (m81.1 72)), (73, (m81.1 73)), (74, (m81.1 74)), (75, (m.1 75))]) (a' := [(65, (m81.2 65)), (66, (m81.2 66)), (67, (m81.2 67)), (68, (m81.2 68))]) [10, 11] [] rfl ⟨rfl, rfl, rfl, rfl, rfl, rfl, rfl, rfl, rfl, rfl, rfl, rfl, rfl, rfl, rfl, rfl, rfl, rfl, rfl, rfl, rfl, rfl, rfl, rfl, rfl, rfl, rfl, rfl, rfl, rfl, rfl, trivial⟩ ⟨rfl, rfl, rfl, rfl, rfl, rfl, rfl, rfl, trivial⟩ rfl rfl (by decide) (by decide) ?_
                obtain ⟨g182a, g182b⟩ := g182
                have g186 : 0 ≤ m179.1 10 ∧ m179.1 10 ≤ 8 := hT180.1 10
                have g187 : (-1) ≤ m179.1 11 ∧ m179.1 11 ≤ 4000 := hT180.1 11
                by_cases hf188 : (m179.1 10) = 0
                · skip
                  replace h183 : (m164.1 10) = 0 := h183 hf188
                  replace h184 : x181 = 64 ∨ x181 = ((m.2 87) ((m81.1 73) - 1)) ∨ x181 = (m81.1 69) := h184
                  clear c185
                  have hAgC : agr (m.2 65) (m81.2 65) (m.1 28) := by first | exact agr_r _ _ | exact hAgC | exact agr_t hAgC hAg (by omega)
                  have u189 : (m.1 28) ≤ (m81.1 28) := by omega
                  have u190 : (m81.1 69) ≤ 64 := by omega
                  clear g168 g169 h183
                  refine T_sto 131 [(3, .int (i32 x181)), (2, .int (i32 ((m81.1 73) - 1))), (0, .ref 189), (1, .int (i32 v80))] rfl (fun _ => rfl) ?_
                  have hAr : ar 407 ≤ 1 + lh (m.2 79) (m.2 80) (m81.1 73) := by rw [show ar 407 = 3 from rfl]; omega
                  have hCk : CNk 407 0 := by refine ⟨?_, ?_, ?_, ?_⟩ <;> omega
                  have hEX := hXC.1
                  refine T_ld 132 (.ref 189) rfl (fun _ => rfl) ?_
                  refine T_ld 135 (.int (i32 407)) rfl (fun _ => rfl) ?_
                  refine T_ld 136 (.int (i32 x181)) rfl (fun _ => rfl) ?_
                  refine T_ld 137 (.int (i32 0)) rfl (fun _ => rfl) ?_
                  refine T_ld 138 (.long (i64 0)) rfl (fun _ => rfl) ?_
                  refine T_call 141 248 [.ref 189, .int (i32 407), .int (i32 x181), .int (i32 0), .long (i64 0)] [] rfl (fun _ => rfl) rfl (c_node w (mO m [(7, (m.1 7)), (8, (m.1 8)), (9, (m.1 9)), (10, (m179.1 10)), (11, (m179.1 11)), (12, (m.1 12)), (28, (m81.1 28)), (69, (m81.1 69)), (70, (m81.1 70)), (71, (m81.1 71)), (72, (m81.1 72)), (73, (m81.1 73)), (74, (m81.1 74)), (75, (m.1 75))] [(65, (m81.2 65)), (66, (m81.2 66)), (67, (m81.2 67)), (68, (m81.2 68))]) c N D (by omega) (Ty_mO hT rfl rfl ⟨f7, f8, f9, (hT180.1 10), (hT180.1 11), f12, (q84.1 28), (q84.1 69), (q84.1 70), (q84.1 71), (q84.1 72), (q84.1 73), (q84.1 74), f75, trivial⟩ ⟨(q84.2.1 65), (q84.2.1 66), (q84.2.1 67), (q84.2.1 68), trivial⟩) 407 x181 0 0 B (1 + lh (m.2 79) (m.2 80) (m81.1 73)) ⟨by decide, by decide⟩ (r32 (by omega) (by omega)) ⟨by decide, by decide⟩ ⟨by decide, by decide⟩ (fun _ => ⟨(show 0 ≤ (407 : Int) ∧ (407 : Int) ≤ 408 by first | omega | decide), (show 0 ≤ x181 ∧ x181 ≤ 64 by first | omega | decide), (show 0 ≤ (0 : Int) ∧ (0 : Int) ≤ 191 by first | omega | decide), (show CNk (407 : Int) (0 : Int) by first | exact hCk | (refine ⟨?_, ?_, ?_, ?_⟩ <;> omega)), (show ar (407 : Int) ≤ (1 + lh (m.2 79) (m.2 80) (m81.1 73)) by first | exact hAr | omega), (show EX (m81.2 65) (m81.2 67) B (m81.1 28) (1 + lh (m.2 79) (m.2 80) (m81.1 73)) by first | exact hEX | assumption)⟩)) (fun rr191 k192 => ?_)
                  obtain ⟨m193, hT194, h195, c196, rfl⟩ := k192
                  refine ⟨_, _, rfl, ?_⟩
                  refine T_nf2 (st' := []) (l' := [(7, (m.1 7)), (8, (m.1 8)), (9, (m.1 9)), (10, (m193.1 10)), (11, (m193.1 11)), (12, (m.1 12)), (28, (m193.1 28)), (69, (m81.1 69)), (70, (m81.1 70)), (71, (m81.1 71)), (72, (m81.1 72)), (73, (m81.1 73)), (74, (m81.1 74)), (75, (m.1 75))]) (a' := [(65, (m193.2 65)), (66, (m193.2 66)), (67, (m193.2 67)), (68, (m193.2 68))]) [10, 11, 28] [65, 66, 67, 68] rfl ⟨rfl, rfl, rfl, rfl, rfl, rfl, rfl, rfl, rfl, rfl, rfl, rfl, rfl, rfl, rfl, rfl, rfl, rfl, rfl, rfl, rfl, rfl, rfl, rfl, rfl, rfl, rfl, rfl, rfl, rfl, rfl, rfl, trivial⟩ ⟨rfl, rfl, rfl, rfl, rfl, rfl, rfl, rfl, trivial⟩ rfl rfl (by decide) (by decide) ?_
                  have g197 : 0 ≤ m193.1 10 ∧ m193.1 10 ≤ 8 := hT194.1 10
                  have g198 : (-1) ≤ m193.1 11 ∧ m193.1 11 ≤ 4000 := hT194.1 11
                  have g199 : 0 ≤ m193.1 28 ∧ m193.1 28 ≤ 800 := hT194.1 28
                  by_cases hf200 : (m193.1 10) = 0
                  · skip
                    replace h195 : (m179.1 10) = 0 := h195 hf200
                    obtain ⟨c201, c202, c203⟩ := c196 hf200
                    replace c201 : (m193.1 28) = (m81.1 28) + 1 := c201
                    replace c202 : EX (m193.2 65) (m193.2 67) B (m193.1 28) ((1 + lh (m.2 79) (m.2 80) (m81.1 73)) + 1 - ar (407 : Int)) := c202
                    have hEX := c202
                    replace c203 : agr (m81.2 65) (m193.2 65) (m81.1 28) := c203
                    have hAg := c203
                    clear c196
                    have hAgC : agr (m.2 65) (m193.2 65) (m.1 28) := by first | exact agr_r _ _ | exact hAgC | exact agr_t hAgC hAg (by omega)
                    have u204 : (m.1 28) ≤ (m193.1 28) := by omega
                    have u205 : (m81.1 69) ≤ 64 := by omega
                    clear q84_28 c94 c96 c98 u171 g186 g187 u189 h195 c201 c203
                    have hXC1 := XC_1 hXC (by omega) (by omega) hEX (by rw [show ar 407 = 3 from rfl]; omega)
                    refine T_ld 142 (.ref 189) rfl (fun _ => rfl) ?_
                    refine T_ld 143 (.int (i32 x181)) rfl (fun _ => rfl) ?_
                    refine T_gf 147 (.ref 248) rfl rfl rfl rfl rfl rfl ?_
                    refine T_ld 148 (.int (i32 ((m81.1 73) - 1))) rfl (fun _ => rfl) ?_
                    refine T_iald 149 86 (m.2 86) rfl rfl rfl (by omega) (show ((m81.1 73) - 1) < (60 : Int) by omega) rfl ?_
                    have e206 : 0 ≤ m.2 86 ((m81.1 73) - 1) ∧ m.2 86 ((m81.1 73) - 1) ≤ 4000 := hT.2.1 86 ((m81.1 73) - 1)
                    refine T_call 152 250 [.ref 189, .int (i32 x181), .int (i32 ((m.2 86) ((m81.1 73) - 1)))] [] rfl (fun _ => rfl) rfl (c_unit w (mO m [(7, (m.1 7)), (8, (m.1 8)), (9, (m.1 9)), (10, (m193.1 10)), (11, (m193.1 11)), (12, (m.1 12)), (28, (m193.1 28)), (69, (m81.1 69)), (70, (m81.1 70)), (71, (m81.1 71)), (72, (m81.1 72)), (73, (m81.1 73)), (74, (m81.1 74)), (75, (m.1 75))] [(65, (m193.2 65)), (66, (m193.2 66)), (67, (m193.2 67)), (68, (m193.2 68))]) c N D (by omega) (Ty_mO hT rfl rfl ⟨f7, f8, f9, (hT194.1 10), (hT194.1 11), f12, (hT194.1 28), (q84.1 69), (q84.1 70), (q84.1 71), (q84.1 72), (q84.1 73), (q84.1 74), f75, trivial⟩ ⟨(hT194.2.1 65), (hT194.2.1 66), (hT194.2.1 67), (hT194.2.1 68), trivial⟩) x181 ((m.2 86) ((m81.1 73) - 1)) (r32 (by omega) (by omega)) (r32 (by omega) (by omega)) (show 0 ≤ x181 ∧ x181 ≤ 1024 by omega) (show 0 ≤ ((m.2 86) ((m81.1 73) - 1)) ∧ ((m.2 86) ((m81.1 73) - 1)) ≤ 4000 by omega)) (fun rr207 k208 => ?_)
                    obtain ⟨m209, hT210, h211, rfl⟩ := k208
                    refine ⟨_, _, rfl, ?_⟩
                    refine T_nf2 (st' := []) (l' := [(7, (m.1 7)), (8, (m.1 8)), (9, (m.1 9)), (10, (m193.1 10)), (11, (m193.1 11)), (12, (m.1 12)), (28, (m193.1 28)), (69, (m209.1 69)), (70, (m209.1 70)), (71, (m209.1 71)), (72, (m209.1 72)), (73, (m81.1 73)), (74, (m81.1 74)), (75, (m.1 75))]) (a' := [(65, (m193.2 65)), (66, (m193.2 66)), (67, (m193.2 67)), (68, (m193.2 68))]) [69, 70, 71, 72] [] rfl ⟨rfl, rfl, rfl, rfl, rfl, rfl, rfl, rfl, rfl, rfl, rfl, rfl, rfl, rfl, rfl, rfl, rfl, rfl, rfl, rfl, rfl, rfl, rfl, rfl, rfl, rfl, rfl, rfl, rfl, rfl, rfl, rfl, rfl, rfl, rfl, trivial⟩ ⟨rfl, rfl, rfl, rfl, rfl, rfl, rfl, rfl, trivial⟩ rfl rfl (by decide) (by decide) ?_
                    have g212 : 0 ≤ m209.1 69 ∧ m209.1 69 ≤ 1024 := hT210.1 69
                    have g213 : 0 ≤ m209.1 70 ∧ m209.1 70 ≤ 4000 := hT210.1 70
                    have g214 : 0 ≤ m209.1 71 ∧ m209.1 71 ≤ 1 := hT210.1 71
                    have g215 : (-9223372036854775808) ≤ m209.1 72 ∧ m209.1 72 ≤ 9223372036854775807 := hT210.1 72
                    replace h211 : (m209.1 69) = x181 := h211
                    have hAgC : agr (m.2 65) (m193.2 65) (m.1 28) := by first | exact agr_r _ _ | exact hAgC | exact agr_t hAgC hAg (by omega)
                    have u216 : (m.1 28) ≤ (m193.1 28) := by omega
                    have u217 : (m209.1 69) ≤ 64 := by omega
                    clear q84_69 q84_70 q84_71 q84_72 c95 u172 h184 u190 u205
                    refine T_ld 153 (.ref 189) rfl (fun _ => rfl) ?_
                    refine T_ld 154 (.ref 189) rfl (fun _ => rfl) ?_
                    refine T_gf1 157 (.int (i32 (m81.1 73))) rfl rfl rfl rfl ?_
                    refine T_ld 158 (.int (i32 1)) rfl (fun _ => rfl) ?_
                    refine T_isub 159 rfl rfl ?_
                    refine T_pf (l' := [(7, (m.1 7)), (8, (m.1 8)), (9, (m.1 9)), (10, (m193.1 10)), (11, (m193.1 11)), (12, (m.1 12)), (28, (m193.1 28)), (69, (m209.1 69)), (70, (m209.1 70)), (71, (m209.1 71)), (72, (m209.1 72)), (73, (m81.1 73) - 1), (74, (m81.1 74)), (75, (m.1 75))]) 162 ((m81.1 73) - 1) rfl rfl rfl rfl rfl rfl ?_
                    have g218 : 0 ≤ (m81.1 73) - 1 ∧ (m81.1 73) - 1 ≤ 60 := ⟨by omega, by omega⟩
                    refine T_ld 163 (.ref 189) rfl (fun _ => rfl) ?_
                    refine T_ld 164 (.ref 189) rfl (fun _ => rfl) ?_
                    refine T_gf1 167 (.int (i32 (m81.1 74))) rfl rfl rfl rfl ?_
                    refine T_ld 168 (.int (i32 1)) rfl (fun _ => rfl) ?_
                    refine T_isub 169 rfl rfl ?_
                    refine T_pf (l' := [(7, (m.1 7)), (8, (m.1 8)), (9, (m.1 9)), (10, (m193.1 10)), (11, (m193.1 11)), (12, (m.1 12)), (28, (m193.1 28)), (69, (m209.1 69)), (70, (m209.1 70)), (71, (m209.1 71)), (72, (m209.1 72)), (73, (m81.1 73) - 1), (74, (m81.1 74) - 1), (75, (m.1 75))]) 172 ((m81.1 74) - 1) rfl rfl rfl rfl rfl rfl ?_
                    have g219 : 0 ≤ (m81.1 74) - 1 ∧ (m81.1 74) - 1 ≤ 24 := ⟨by omega, by omega⟩
                    have hXC := hXC1
                    refine T_gf 176 (.int (i32 ((m81.1 73) - 1))) rfl rfl rfl rfl rfl rfl ?_
                    refine T_if 190 179 rfl rfl rfl (r32 (by omega) (by omega)) (fun (h220 : (m81.1 73) - 1 ≤ 0) => ?_) (fun (h220 : ¬ ((m81.1 73) - 1 ≤ 0)) => ?_)
                    · skip
                      refine T_ld 191 (.int (i32 0)) rfl (fun _ => rfl) ?_
                      refine T_sto 192 [(1, .int (i32 0)), (3, .int (i32 x181)), (2, .int (i32 ((m81.1 73) - 1))), (0, .ref 189)] rfl (fun _ => rfl) ?_
                      refine T_goto 33 rfl (fun _ => rfl) ?_
                      refine Tm_lv (a := [(0, .ref 189), (1, .int (i32 0))]) rfl rfl ⟨rfl, rfl, trivial⟩ ?_
                      exact ih92 0 (mO m [(7, (m.1 7)), (8, (m.1 8)), (9, (m.1 9)), (10, (m193.1 10)), (11, (m193.1 11)), (12, (m.1 12)), (28, (m193.1 28)), (69, (m209.1 69)), (70, (m209.1 70)), (71, (m209.1 71)), (72, (m209.1 72)), (73, (m81.1 73) - 1), (74, (m81.1 74) - 1), (75, (m.1 75))] [(65, (m193.2 65)), (66, (m193.2 66)), (67, (m193.2 67)), (68, (m193.2 68))]) ⟨by decide, by decide⟩ (Ty_mO hT rfl rfl ⟨f7, f8, f9, (hT194.1 10), (hT194.1 11), f12, (hT194.1 28), (hT210.1 69), (hT210.1 70), (hT210.1 71), (hT210.1 72), g218, g219, f75, trivial⟩ ⟨(hT194.2.1 65), (hT194.2.1 66), (hT194.2.1 67), (hT194.2.1 68), trivial⟩) (show 0 ≤ (0 : Int) by omega) (show (0 : Int) ≤ 1 by omega) (show (0 : Int) = 0 ∨ (0 : Int) = 1 by omega) (show (0 : Int) = 1 → 1 ≤ ((m81.1 73) - 1) by omega) (show ((m81.1 73) - 1) + 1 ≤ (m.1 73) by omega) (show (m193.1 10) = 0 ∨ (0 : Int) = 0 by omega) (fun _ => ⟨(show XC (m193.2 65) (m193.2 67) (m.2 76) (m.2 78) (m.2 79) (m.2 80) B (m193.1 28) ((m81.1 73) - 1) ((m81.1 74) - 1) by exact hXC), (show (m209.1 69) ≤ 64 by omega), (show (m.1 28) ≤ (m193.1 28) by omega), (show (0 : Int) = 0 → ((m81.1 73) - 1) = 0 by omega), (show agr (m.2 65) (m193.2 65) (m.1 28) by exact hAgC)⟩) (show ((m81.1 73) - 1) < (n : Int) by omega)
                    · skip
                      refine T_gf 183 (.int (i32 (m193.1 10))) rfl rfl rfl rfl rfl rfl ?_
                      refine T_if 190 186 rfl rfl rfl (r32 (by omega) (by omega)) (fun (h221 : (m193.1 10) ≠ 0) => by exfalso; omega) (fun (h221 : ¬ ((m193.1 10) ≠ 0)) => ?_)
                      refine T_ld 187 (.int (i32 1)) rfl (fun _ => rfl) ?_
                      refine T_goto 191 rfl (fun _ => rfl) ?_
                      refine T_sto 192 [(1, .int (i32 1)), (3, .int (i32 x181)), (2, .int (i32 ((m81.1 73) - 1))), (0, .ref 189)] rfl (fun _ => rfl) ?_
                      refine T_goto 33 rfl (fun _ => rfl) ?_
                      refine Tm_lv (a := [(0, .ref 189), (1, .int (i32 1))]) rfl rfl ⟨rfl, rfl, trivial⟩ ?_
                      exact ih92 1 (mO m [(7, (m.1 7)), (8, (m.1 8)), (9, (m.1 9)), (10, (m193.1 10)), (11, (m193.1 11)), (12, (m.1 12)), (28, (m193.1 28)), (69, (m209.1 69)), (70, (m209.1 70)), (71, (m209.1 71)), (72, (m209.1 72)), (73, (m81.1 73) - 1), (74, (m81.1 74) - 1), (75, (m.1 75))] [(65, (m193.2 65)), (66, (m193.2 66)), (67, (m193.2 67)), (68, (m193.2 68))]) ⟨by decide, by decide⟩ (Ty_mO hT rfl rfl ⟨f7, f8, f9, (hT194.1 10), (hT194.1 11), f12, (hT194.1 28), (hT210.1 69), (hT210.1 70), (hT210.1 71), (hT210.1 72), g218, g219, f75, trivial⟩ ⟨(hT194.2.1 65), (hT194.2.1 66), (hT194.2.1 67), (hT194.2.1 68), trivial⟩) (show 0 ≤ (1 : Int) by omega) (show (1 : Int) ≤ 1 by omega) (show (1 : Int) = 0 ∨ (1 : Int) = 1 by omega) (show (1 : Int) = 1 → 1 ≤ ((m81.1 73) - 1) by omega) (show ((m81.1 73) - 1) + 1 ≤ (m.1 73) by omega) (show (m193.1 10) = 0 ∨ (1 : Int) = 0 by omega) (fun _ => ⟨(show XC (m193.2 65) (m193.2 67) (m.2 76) (m.2 78) (m.2 79) (m.2 80) B (m193.1 28) ((m81.1 73) - 1) ((m81.1 74) - 1) by exact hXC), (show (m209.1 69) ≤ 64 by omega), (show (m.1 28) ≤ (m193.1 28) by omega), (show (1 : Int) = 0 → ((m81.1 73) - 1) = 0 by omega), (show agr (m.2 65) (m193.2 65) (m.1 28) by exact hAgC)⟩) (show ((m81.1 73) - 1) < (n : Int) by omega)
                  · skip
                    clear c196
                    clear h195
                    have hf222 : 1 ≤ (m193.1 10) := by omega
                    clear q84_28 c94 c96 c98 u171 g186 g187 u189
                    refine T_ld 142 (.ref 189) rfl (fun _ => rfl) ?_
                    refine T_ld 143 (.int (i32 x181)) rfl (fun _ => rfl) ?_
                    refine T_gf 147 (.ref 248) rfl rfl rfl rfl rfl rfl ?_
                    refine T_ld 148 (.int (i32 ((m81.1 73) - 1))) rfl (fun _ => rfl) ?_
                    refine T_iald 149 86 (m.2 86) rfl rfl rfl (by omega) (show ((m81.1 73) - 1) < (60 : Int) by omega) rfl ?_
                    have e223 : 0 ≤ m.2 86 ((m81.1 73) - 1) ∧ m.2 86 ((m81.1 73) - 1) ≤ 4000 := hT.2.1 86 ((m81.1 73) - 1)
                    refine T_call 152 250 [.ref 189, .int (i32 x181), .int (i32 ((m.2 86) ((m81.1 73) - 1)))] [] rfl (fun _ => rfl) rfl (c_unit w (mO m [(7, (m.1 7)), (8, (m.1 8)), (9, (m.1 9)), (10, (m193.1 10)), (11, (m193.1 11)), (12, (m.1 12)), (28, (m193.1 28)), (69, (m81.1 69)), (70, (m81.1 70)), (71, (m81.1 71)), (72, (m81.1 72)), (73, (m81.1 73)), (74, (m81.1 74)), (75, (m.1 75))] [(65, (m193.2 65)), (66, (m193.2 66)), (67, (m193.2 67)), (68, (m193.2 68))]) c N D (by omega) (Ty_mO hT rfl rfl ⟨f7, f8, f9, (hT194.1 10), (hT194.1 11), f12, (hT194.1 28), (q84.1 69), (q84.1 70), (q84.1 71), (q84.1 72), (q84.1 73), (q84.1 74), f75, trivial⟩ ⟨(hT194.2.1 65), (hT194.2.1 66), (hT194.2.1 67), (hT194.2.1 68), trivial⟩) x181 ((m.2 86) ((m81.1 73) - 1)) (r32 (by omega) (by omega)) (r32 (by omega) (by omega)) (show 0 ≤ x181 ∧ x181 ≤ 1024 by omega) (show 0 ≤ ((m.2 86) ((m81.1 73) - 1)) ∧ ((m.2 86) ((m81.1 73) - 1)) ≤ 4000 by omega)) (fun rr224 k225 => ?_)
                    obtain ⟨m226, hT227, h228, rfl⟩ := k225
                    refine ⟨_, _, rfl, ?_⟩
                    refine T_nf2 (st' := []) (l' := [(7, (m.1 7)), (8, (m.1 8)), (9, (m.1 9)), (10, (m193.1 10)), (11, (m193.1 11)), (12, (m.1 12)), (28, (m193.1 28)), (69, (m226.1 69)), (70, (m226.1 70)), (71, (m226.1 71)), (72, (m226.1 72)), (73, (m81.1 73)), (74, (m81.1 74)), (75, (m.1 75))]) (a' := [(65, (m193.2 65)), (66, (m193.2 66)), (67, (m193.2 67)), (68, (m193.2 68))]) [69, 70, 71, 72] [] rfl ⟨rfl, rfl, rfl, rfl, rfl, rfl, rfl, rfl, rfl, rfl, rfl, rfl, rfl, rfl, rfl, rfl, rfl, rfl, rfl, rfl, rfl, rfl, rfl, rfl, rfl, rfl, rfl, rfl, rfl, rfl, rfl, rfl, rfl, rfl, rfl, trivial⟩ ⟨rfl, rfl, rfl, rfl, rfl, rfl, rfl, rfl, trivial⟩ rfl rfl (by decide) (by decide) ?_
                    have g229 : 0 ≤ m226.1 69 ∧ m226.1 69 ≤ 1024 := hT227.1 69
                    have g230 : 0 ≤ m226.1 70 ∧ m226.1 70 ≤ 4000 := hT227.1 70
                    have g231 : 0 ≤ m226.1 71 ∧ m226.1 71 ≤ 1 := hT227.1 71
                    have g232 : (-9223372036854775808) ≤ m226.1 72 ∧ m226.1 72 ≤ 9223372036854775807 := hT227.1 72
                    replace h228 : (m226.1 69) = x181 := h228
                    clear q84_69 q84_70 q84_71 q84_72 c95 u172 h184 u190
                    refine T_ld 153 (.ref 189) rfl (fun _ => rfl) ?_
                    refine T_ld 154 (.ref 189) rfl (fun _ => rfl) ?_
                    refine T_gf1 157 (.int (i32 (m81.1 73))) rfl rfl rfl rfl ?_
                    refine T_ld 158 (.int (i32 1)) rfl (fun _ => rfl) ?_
                    refine T_isub 159 rfl rfl ?_
                    refine T_pf (l' := [(7, (m.1 7)), (8, (m.1 8)), (9, (m.1 9)), (10, (m193.1 10)), (11, (m193.1 11)), (12, (m.1 12)), (28, (m193.1 28)), (69, (m226.1 69)), (70, (m226.1 70)), (71, (m226.1 71)), (72, (m226.1 72)), (73, (m81.1 73) - 1), (74, (m81.1 74)), (75, (m.1 75))]) 162 ((m81.1 73) - 1) rfl rfl rfl rfl rfl rfl ?_
                    have g233 : 0 ≤ (m81.1 73) - 1 ∧ (m81.1 73) - 1 ≤ 60 := ⟨by omega, by omega⟩
                    refine T_ld 163 (.ref 189) rfl (fun _ => rfl) ?_
                    refine T_ld 164 (.ref 189) rfl (fun _ => rfl) ?_
                    refine T_gf1 167 (.int (i32 (m81.1 74))) rfl rfl rfl rfl ?_
                    refine T_ld 168 (.int (i32 1)) rfl (fun _ => rfl) ?_
                    refine T_isub 169 rfl rfl ?_
                    refine T_pf (l' := [(7, (m.1 7)), (8, (m.1 8)), (9, (m.1 9)), (10, (m193.1 10)), (11, (m193.1 11)), (12, (m.1 12)), (28, (m193.1 28)), (69, (m226.1 69)), (70, (m226.1 70)), (71, (m226.1 71)), (72, (m226.1 72)), (73, (m81.1 73) - 1), (74, (m81.1 74) - 1), (75, (m.1 75))]) 172 ((m81.1 74) - 1) rfl rfl rfl rfl rfl rfl ?_
                    have g234 : 0 ≤ (m81.1 74) - 1 ∧ (m81.1 74) - 1 ≤ 24 := ⟨by omega, by omega⟩
                    refine T_gf 176 (.int (i32 ((m81.1 73) - 1))) rfl rfl rfl rfl rfl rfl ?_
                    refine T_if 190 179 rfl rfl rfl (r32 (by omega) (by omega)) (fun (h235 : (m81.1 73) - 1 ≤ 0) => ?_) (fun (h235 : ¬ ((m81.1 73) - 1 ≤ 0)) => ?_)
                    · skip
                      refine T_ld 191 (.int (i32 0)) rfl (fun _ => rfl) ?_
                      refine T_sto 192 [(1, .int (i32 0)), (3, .int (i32 x181)), (2, .int (i32 ((m81.1 73) - 1))), (0, .ref 189)] rfl (fun _ => rfl) ?_
                      refine T_goto 33 rfl (fun _ => rfl) ?_
                      refine Tm_lv (a := [(0, .ref 189), (1, .int (i32 0))]) rfl rfl ⟨rfl, rfl, trivial⟩ ?_
                      exact ih92 0 (mO m [(7, (m.1 7)), (8, (m.1 8)), (9, (m.1 9)), (10, (m193.1 10)), (11, (m193.1 11)), (12, (m.1 12)), (28, (m193.1 28)), (69, (m226.1 69)), (70, (m226.1 70)), (71, (m226.1 71)), (72, (m226.1 72)), (73, (m81.1 73) - 1), (74, (m81.1 74) - 1), (75, (m.1 75))] [(65, (m193.2 65)), (66, (m193.2 66)), (67, (m193.2 67)), (68, (m193.2 68))]) ⟨by decide, by decide⟩ (Ty_mO hT rfl rfl ⟨f7, f8, f9, (hT194.1 10), (hT194.1 11), f12, (hT194.1 28), (hT227.1 69), (hT227.1 70), (hT227.1 71), (hT227.1 72), g233, g234, f75, trivial⟩ ⟨(hT194.2.1 65), (hT194.2.1 66), (hT194.2.1 67), (hT194.2.1 68), trivial⟩) (show 0 ≤ (0 : Int) by omega) (show (0 : Int) ≤ 1 by omega) (show (0 : Int) = 0 ∨ (0 : Int) = 1 by omega) (show (0 : Int) = 1 → 1 ≤ ((m81.1 73) - 1) by omega) (show ((m81.1 73) - 1) + 1 ≤ (m.1 73) by omega) (show (m193.1 10) = 0 ∨ (0 : Int) = 0 by omega) (fun (h : (m193.1 10) = 0) => absurd h (by omega)) (show ((m81.1 73) - 1) < (n : Int) by omega)
                    · skip
                      refine T_gf 183 (.int (i32 (m193.1 10))) rfl rfl rfl rfl rfl rfl ?_
                      refine T_if 190 186 rfl rfl rfl (r32 (by omega) (by omega)) (fun (h236 : (m193.1 10) ≠ 0) => ?_) (fun (h236 : ¬ ((m193.1 10) ≠ 0)) => by exfalso; omega)
                      refine T_ld 191 (.int (i32 0)) rfl (fun _ => rfl) ?_
                      refine T_sto 192 [(1, .int (i32 0)), (3, .int (i32 x181)), (2, .int (i32 ((m81.1 73) - 1))), (0, .ref 189)] rfl (fun _ => rfl) ?_
                      refine T_goto 33 rfl (fun _ => rfl) ?_
                      refine Tm_lv (a := [(0, .ref 189), (1, .int (i32 0))]) rfl rfl ⟨rfl, rfl, trivial⟩ ?_
                      exact ih92 0 (mO m [(7, (m.1 7)), (8, (m.1 8)), (9, (m.1 9)), (10, (m193.1 10)), (11, (m193.1 11)), (12, (m.1 12)), (28, (m193.1 28)), (69, (m226.1 69)), (70, (m226.1 70)), (71, (m226.1 71)), (72, (m226.1 72)), (73, (m81.1 73) - 1), (74, (m81.1 74) - 1), (75, (m.1 75))] [(65, (m193.2 65)), (66, (m193.2 66)), (67, (m193.2 67)), (68, (m193.2 68))]) ⟨by decide, by decide⟩ (Ty_mO hT rfl rfl ⟨f7, f8, f9, (hT194.1 10), (hT194.1 11), f12, (hT194.1 28), (hT227.1 69), (hT227.1 70), (hT227.1 71), (hT227.1 72), g233, g234, f75, trivial⟩ ⟨(hT194.2.1 65), (hT194.2.1 66), (hT194.2.1 67), (hT194.2.1 68), trivial⟩) (show 0 ≤ (0 : Int) by omega) (show (0 : Int) ≤ 1 by omega) (show (0 : Int) = 0 ∨ (0 : Int) = 1 by omega) (show (0 : Int) = 1 → 1 ≤ ((m81.1 73) - 1) by omega) (show ((m81.1 73) - 1) + 1 ≤ (m.1 73) by omega) (show (m193.1 10) = 0 ∨ (0 : Int) = 0 by omega) (fun (h : (m193.1 10) = 0) => absurd h (by omega)) (show ((m81.1 73) - 1) < (n : Int) by omega)
                · skip
                  clear c185
                  clear h183
                  replace h184 : x181 = 64 ∨ x181 = ((m.2 87) ((m81.1 73) - 1)) ∨ x181 = (m81.1 69) := h184
                  have hf237 : 1 ≤ (m179.1 10) := by omega
                  clear g168 g169
                  refine T_sto 131 [(3, .int (i32 x181)), (2, .int (i32 ((m81.1 73) - 1))), (0, .ref 189), (1, .int (i32 v80))] rfl (fun _ => rfl) ?_
                  refine T_ld 132 (.ref 189) rfl (fun _ => rfl) ?_
                  refine T_ld 135 (.int (i32 407)) rfl (fun _ => rfl) ?_
                  refine T_ld 136 (.int (i32 x181)) rfl (fun _ => rfl) ?_
                  refine T_ld 137 (.int (i32 0)) rfl (fun _ => rfl) ?_
                  refine T_ld 138 (.long (i64 0)) rfl (fun _ => rfl) ?_
                  refine T_call 141 248 [.ref 189, .int (i32 407), .int (i32 x181), .int (i32 0), .long (i64 0)] [] rfl (fun _ => rfl) rfl (c_node w (mO m [(7, (m.1 7)), (8, (m.1 8)), (9, (m.1 9)), (10, (m179.1 10)), (11, (m179.1 11)), (12, (m.1 12)), (28, (m81.1 28)), (69, (m81.1 69)), (70, (m81.1 70)), (71, (m81.1 71)), (72, (m81.1 72)), (73, (m81.1 73)), (74, (m81.1 74)), (75, (m.1 75))] [(65, (m81.2 65)), (66, (m81.2 66)), (67, (m81.2 67)), (68, (m81.2 68))]) c N D (by omega) (Ty_mO hT rfl rfl ⟨f7, f8, f9, (hT180.1 10), (hT180.1 11), f12, (q84.1 28), (q84.1 69), (q84.1 70), (q84.1 71), (q84.1 72), (q84.1 73), (q84.1 74), f75, trivial⟩ ⟨(q84.2.1 65), (q84.2.1 66), (q84.2.1 67), (q84.2.1 68), trivial⟩) 407 x181 0 0 B (1 + lh (m.2 79) (m.2 80) (m81.1 73)) ⟨by decide, by decide⟩ (r32 (by omega) (by omega)) ⟨by decide, by decide⟩ ⟨by decide, by decide⟩ (fun (h : (m179.1 10) = 0) => absurd h (by omega))) (fun rr238 k239 => ?_)
                  obtain ⟨m240, hT241, h242, c243, rfl⟩ := k239
                  refine ⟨_, _, rfl, ?_⟩
                  refine T_nf2 (st' := []) (l' := [(7, (m.1 7)), (8, (m.1 8)), (9, (m.1 9)), (10, (m240.1 10)), (11, (m240.1 11)), (12, (m.1 12)), (28, (m240.1 28)), (69, (m81.1 69)), (70, (m81.1 70)), (71, (m81.1 71)), (72, (m81.1 72)), (73, (m81.1 73)), (74, (m81.1 74)), (75, (m.1 75))]) (a' := [(65, (m240.2 65)), (66, (m240.2 66)), (67, (m240.2 67)), (68, (m240.2 68))]) [10, 11, 28] [65, 66, 67, 68] rfl ⟨rfl, rfl, rfl, rfl, rfl, rfl, rfl, rfl, rfl, rfl, rfl, rfl, rfl, rfl, rfl, rfl, rfl, rfl, rfl, rfl, rfl, rfl, rfl, rfl, rfl, rfl, rfl, rfl, rfl, rfl, rfl, rfl, trivial⟩ ⟨rfl, rfl, rfl, rfl, rfl, rfl, rfl, rfl, trivial⟩ rfl rfl (by decide) (by decide) ?_
                  have g244 : 0 ≤ m240.1 10 ∧ m240.1 10 ≤ 8 := hT241.1 10
                  have g245 : (-1) ≤ m240.1 11 ∧ m240.1 11 ≤ 4000 := hT241.1 11
                  have g246 : 0 ≤ m240.1 28 ∧ m240.1 28 ≤ 800 := hT241.1 28
                  replace h242 : (m240.1 10) = 0 → (m179.1 10) = 0 := h242
                  have hf247 : 1 ≤ (m240.1 10) := by omega
                  clear c243
                  clear h242
                  clear q84_28 c94 c96 c98 u171 g186 g187 hf237
                  refine T_ld 142 (.ref 189) rfl (fun _ => rfl) ?_
                  refine T_ld 143 (.int (i32 x181)) rfl (fun _ => rfl) ?_
                  refine T_gf 147 (.ref 248) rfl rfl rfl rfl rfl rfl ?_
                  refine T_ld 148 (.int (i32 ((m81.1 73) - 1))) rfl (fun _ => rfl) ?_
                  refine T_iald 149 86 (m.2 86) rfl rfl rfl (by omega) (show ((m81.1 73) - 1) < (60 : Int) by omega) rfl ?_
                  have e248 : 0 ≤ m.2 86 ((m81.1 73) - 1) ∧ m.2 86 ((m81.1 73) - 1) ≤ 4000 := hT.2.1 86 ((m81.1 73) - 1)
                  refine T_call 152 250 [.ref 189, .int (i32 x181), .int (i32 ((m.2 86) ((m81.1 73) - 1)))] [] rfl (fun _ => rfl) rfl (c_unit w (mO m [(7, (m.1 7)), (8, (m.1 8)), (9, (m.1 9)), (10, (m240.1 10)), (11, (m240.1 11)), (12, (m.1 12)), (28, (m240.1 28)), (69, (m81.1 69)), (70, (m81.1 70)), (71, (m81.1 71)), (72, (m81.1 72)), (73, (m81.1 73)), (74, (m81.1 74)), (75, (m.1 75))] [(65, (m240.2 65)), (66, (m240.2 66)), (67, (m240.2 67)), (68, (m240.2 68))]) c N D (by omega) (Ty_mO hT rfl rfl ⟨f7, f8, f9, (hT241.1 10), (hT241.1 11), f12, (hT241.1 28), (q84.1 69), (q84.1 70), (q84.1 71), (q84.1 72), (q84.1 73), (q84.1 74), f75, trivial⟩ ⟨(hT241.2.1 65), (hT241.2.1 66), (hT241.2.1 67), (hT241.2.1 68), trivial⟩) x181 ((m.2 86) ((m81.1 73) - 1)) (r32 (by omega) (by omega)) (r32 (by omega) (by omega)) (show 0 ≤ x181 ∧ x181 ≤ 1024 by omega) (show 0 ≤ ((m.2 86) ((m81.1 73) - 1)) ∧ ((m.2 86) ((m81.1 73) - 1)) ≤ 4000 by omega)) (fun rr249 k250 => ?_)
                  obtain ⟨m251, hT252, h253, rfl⟩ := k250
                  refine ⟨_, _, rfl, ?_⟩
                  refine T_nf2 (st' := []) (l' := [(7, (m.1 7)), (8, (m.1 8)), (9, (m.1 9)), (10, (m240.1 10)), (11, (m240.1 11)), (12, (m.1 12)), (28, (m240.1 28)), (69, (m251.1 69)), (70, (m251.1 70)), (71, (m251.1 71)), (72, (m251.1 72)), (73, (m81.1 73)), (74, (m81.1 74)), (75, (m.1 75))]) (a' := [(65, (m240.2 65)), (66, (m240.2 66)), (67, (m240.2 67)), (68, (m240.2 68))]) [69, 70, 71, 72] [] rfl ⟨rfl, rfl, rfl, rfl, rfl, rfl, rfl, rfl, rfl, rfl, rfl, rfl, rfl, rfl, rfl, rfl, rfl, rfl, rfl, rfl, rfl, rfl, rfl, rfl, rfl, rfl, rfl, rfl, rfl, rfl, rfl, rfl, rfl, rfl, rfl, trivial⟩ ⟨rfl, rfl, rfl, rfl, rfl, rfl, rfl, rfl, trivial⟩ rfl rfl (by decide) (by decide) ?_
                  have g254 : 0 ≤ m251.1 69 ∧ m251.1 69 ≤ 1024 := hT252.1 69
                  have g255 : 0 ≤ m251.1 70 ∧ m251.1 70 ≤ 4000 := hT252.1 70
                  have g256 : 0 ≤ m251.1 71 ∧ m251.1 71 ≤ 1 := hT252.1 71
                  have g257 : (-9223372036854775808) ≤ m251.1 72 ∧ m251.1 72 ≤ 9223372036854775807 := hT252.1 72
                  replace h253 : (m251.1 69) = x181 := h253
                  clear q84_69 q84_70 q84_71 q84_72 c95 u172 h184
                  refine T_ld 153 (.ref 189) rfl (fun _ => rfl) ?_
                  refine T_ld 154 (.ref 189) rfl (fun _ => rfl) ?_
                  refine T_gf1 157 (.int (i32 (m81.1 73))) rfl rfl rfl rfl ?_
                  refine T_ld 158 (.int (i32 1)) rfl (fun _ => rfl) ?_
                  refine T_isub 159 rfl rfl ?_
                  refine T_pf (l' := [(7, (m.1 7)), (8, (m.1 8)), (9, (m.1 9)), (10, (m240.1 10)), (11, (m240.1 11)), (12, (m.1 12)), (28, (m240.1 28)), (69, (m251.1 69)), (70, (m251.1 70)), (71, (m251.1 71)), (72, (m251.1 72)), (73, (m81.1 73) - 1), (74, (m81.1 74)), (75, (m.1 75))]) 162 ((m81.1 73) - 1) rfl rfl rfl rfl rfl rfl ?_
                  have g258 : 0 ≤ (m81.1 73) - 1 ∧ (m81.1 73) - 1 ≤ 60 := ⟨by omega, by omega⟩
                  refine T_ld 163 (.ref 189) rfl (fun _ => rfl) ?_
                  refine T_ld 164 (.ref 189) rfl (fun _ => rfl) ?_
                  refine T_gf1 167 (.int (i32 (m81.1 74))) rfl rfl rfl rfl ?_
                  refine T_ld 168 (.int (i32 1)) rfl (fun _ => rfl) ?_
                  refine T_isub 169 rfl rfl ?_
                  refine T_pf (l' := [(7, (m.1 7)), (8, (m.1 8)), (9, (m.1 9)), (10, (m240.1 10)), (11, (m240.1 11)), (12, (m.1 12)), (28, (m240.1 28)), (69, (m251.1 69)), (70, (m251.1 70)), (71, (m251.1 71)), (72, (m251.1 72)), (73, (m81.1 73) - 1), (74, (m81.1 74) - 1), (75, (m.1 75))]) 172 ((m81.1 74) - 1) rfl rfl rfl rfl rfl rfl ?_
                  have g259 : 0 ≤ (m81.1 74) - 1 ∧ (m81.1 74) - 1 ≤ 24 := ⟨by omega, by omega⟩
                  refine T_gf 176 (.int (i32 ((m81.1 73) - 1))) rfl rfl rfl rfl rfl rfl ?_
                  refine T_if 190 179 rfl rfl rfl (r32 (by omega) (by omega)) (fun (h260 : (m81.1 73) - 1 ≤ 0) => ?_) (fun (h260 : ¬ ((m81.1 73) - 1 ≤ 0)) => ?_)
                  · skip
                    refine T_ld 191 (.int (i32 0)) rfl (fun _ => rfl) ?_
                    refine T_sto 192 [(1, .int (i32 0)), (3, .int (i32 x181)), (2, .int (i32 ((m81.1 73) - 1))), (0, .ref 189)] rfl (fun _ => rfl) ?_
                    refine T_goto 33 rfl (fun _ => rfl) ?_
                    refine Tm_lv (a := [(0, .ref 189), (1, .int (i32 0))]) rfl rfl ⟨rfl, rfl, trivial⟩ ?_
                    exact ih92 0 (mO m [(7, (m.1 7)), (8, (m.1 8)), (9, (m.1 9)), (10, (m240.1 10)), (11, (m240.1 11)), (12, (m.1 12)), (28, (m240.1 28)), (69, (m251.1 69)), (70, (m251.1 70)), (71, (m251.1 71)), (72, (m251.1 72)), (73, (m81.1 73) - 1), (74, (m81.1 74) - 1), (75, (m.1 75))] [(65, (m240.2 65)), (66, (m240.2 66)), (67, (m240.2 67)), (68, (m240.2 68))]) ⟨by decide, by decide⟩ (Ty_mO hT rfl rfl ⟨f7, f8, f9, (hT241.1 10), (hT241.1 11), f12, (hT241.1 28), (hT252.1 69), (hT252.1 70), (hT252.1 71), (hT252.1 72), g258, g259, f75, trivial⟩ ⟨(hT241.2.1 65), (hT241.2.1 66), (hT241.2.1 67), (hT241.2.1 68), trivial⟩) (show 0 ≤ (0 : Int) by omega) (show (0 : Int) ≤ 1 by omega) (show (0 : Int) = 0 ∨ (0 : Int) = 1 by omega) (show (0 : Int) = 1 → 1 ≤ ((m81.1 73) - 1) by omega) (show ((m81.1 73) - 1) + 1 ≤ (m.1 73) by omega) (show (m240.1 10) = 0 ∨ (0 : Int) = 0 by omega) (fun (h : (m240.1 10) = 0) => absurd h (by omega)) (show ((m81.1 73) - 1) < (n : Int) by omega)
                  · skip
                    refine T_gf 183 (.int (i32 (m240.1 10))) rfl rfl rfl rfl rfl rfl ?_
                    refine T_if 190 186 rfl rfl rfl (r32 (by omega) (by omega)) (fun (h261 : (m240.1 10) ≠ 0) => ?_) (fun (h261 : ¬ ((m240.1 10) ≠ 0)) => by exfalso; omega)
                    refine T_ld 191 (.int (i32 0)) rfl (fun _ => rfl) ?_
                    refine T_sto 192 [(1, .int (i32 0)), (3, .int (i32 x181)), (2, .int (i32 ((m81.1 73) - 1))), (0, .ref 189)] rfl (fun _ => rfl) ?_
                    refine T_goto 33 rfl (fun _ => rfl) ?_
                    refine Tm_lv (a := [(0, .ref 189), (1, .int (i32 0))]) rfl rfl ⟨rfl, rfl, trivial⟩ ?_
                    exact ih92 0 (mO m [(7, (m.1 7)), (8, (m.1 8)), (9, (m.1 9)), (10, (m240.1 10)), (11, (m240.1 11)), (12, (m.1 12)), (28, (m240.1 28)), (69, (m251.1 69)), (70, (m251.1 70)), (71, (m251.1 71)), (72, (m251.1 72)), (73, (m81.1 73) - 1), (74, (m81.1 74) - 1), (75, (m.1 75))] [(65, (m240.2 65)), (66, (m240.2 66)), (67, (m240.2 67)), (68, (m240.2 68))]) ⟨by decide, by decide⟩ (Ty_mO hT rfl rfl ⟨f7, f8, f9, (hT241.1 10), (hT241.1 11), f12, (hT241.1 28), (hT252.1 69), (hT252.1 70), (hT252.1 71), (hT252.1 72), g258, g259, f75, trivial⟩ ⟨(hT241.2.1 65), (hT241.2.1 66), (hT241.2.1 67), (hT241.2.1 68), trivial⟩) (show 0 ≤ (0 : Int) by omega) (show (0 : Int) ≤ 1 by omega) (show (0 : Int) = 0 ∨ (0 : Int) = 1 by omega) (show (0 : Int) = 1 → 1 ≤ ((m81.1 73) - 1) by omega) (show ((m81.1 73) - 1) + 1 ≤ (m.1 73) by omega) (show (m240.1 10) = 0 ∨ (0 : Int) = 0 by omega) (fun (h : (m240.1 10) = 0) => absurd h (by omega)) (show ((m81.1 73) - 1) < (n : Int) by omega)
              · skip
                clear c167
                clear h166
                have hf262 : 1 ≤ (m164.1 10) := by omega
                clear q84_10 q84_11 ic90
                refine T_ld 87 (.ref 189) rfl (fun _ => rfl) ?_
                refine T_gf 91 (.ref 249) rfl rfl rfl rfl rfl rfl ?_
                refine T_ld 92 (.int (i32 ((m81.1 73) - 1))) rfl (fun _ => rfl) ?_
                refine T_iald 93 87 (m.2 87) rfl rfl rfl (by omega) (show ((m81.1 73) - 1) < (60 : Int) by omega) rfl ?_
                have e263 : 0 ≤ m.2 87 ((m81.1 73) - 1) ∧ m.2 87 ((m81.1 73) - 1) ≤ 64 := hT.2.1 87 ((m81.1 73) - 1)
                refine T_gf 97 (.ref 252) rfl rfl rfl rfl rfl rfl ?_
                refine T_ld 98 (.int (i32 ((m81.1 73) - 1))) rfl (fun _ => rfl) ?_
                refine T_bald 99 90 (m.2 90) rfl rfl rfl (by omega) (show ((m81.1 73) - 1) < (60 : Int) by omega) rfl ?_
                have e264 : 0 ≤ m.2 90 ((m81.1 73) - 1) ∧ m.2 90 ((m81.1 73) - 1) ≤ 1 := hT.2.1 90 ((m81.1 73) - 1)
                refine T_gf 103 (.ref 254) rfl rfl rfl rfl rfl rfl ?_
                refine T_ld 104 (.int (i32 ((m81.1 73) - 1))) rfl (fun _ => rfl) ?_
                refine T_lald 105 92 (m.2 92) rfl rfl rfl (by omega) (show ((m81.1 73) - 1) < (60 : Int) by omega) rfl ?_
                have e265 : (-9223372036854775808) ≤ m.2 92 ((m81.1 73) - 1) ∧ m.2 92 ((m81.1 73) - 1) ≤ 9223372036854775807 := hT.2.1 92 ((m81.1 73) - 1)
                refine T_gf 109 (.ref 250) rfl rfl rfl rfl rfl rfl ?_
                refine T_ld 110 (.int (i32 ((m81.1 73) - 1))) rfl (fun _ => rfl) ?_
                refine T_iald 111 88 (m.2 88) rfl rfl rfl (by omega) (show ((m81.1 73) - 1) < (60 : Int) by omega) rfl ?_
                have e266 : 0 ≤ m.2 88 ((m81.1 73) - 1) ∧ m.2 88 ((m81.1 73) - 1) ≤ 4000 := hT.2.1 88 ((m81.1 73) - 1)
                refine T_gf 115 (.int (i32 (m81.1 69))) rfl rfl rfl rfl rfl rfl ?_
                refine T_gf 119 (.int (i32 (m81.1 71))) rfl rfl rfl rfl rfl rfl ?_
                refine T_gf 123 (.long (i64 (m81.1 72))) rfl rfl rfl rfl rfl rfl ?_
                refine T_gf 127 (.int (i32 (m81.1 70))) rfl rfl rfl rfl rfl rfl ?_
                refine T_call 130 261 [.ref 189, .int (i32 ((m.2 87) ((m81.1 73) - 1))), .int (i32 ((m.2 90) ((m81.1 73) - 1))), .long (i64 ((m.2 92) ((m81.1 73) - 1))), .int (i32 ((m.2 88) ((m81.1 73) - 1))), .int (i32 (m81.1 69)), .int (i32 (m81.1 71)), .long (i64 (m81.1 72)), .int (i32 (m81.1 70))] [] rfl (fun _ => rfl) rfl (c_common w (mO m [(7, (m.1 7)), (8, (m.1 8)), (9, (m.1 9)), (10, (m164.1 10)), (11, (m164.1 11)), (12, (m.1 12)), (28, (m81.1 28)), (69, (m81.1 69)), (70, (m81.1 70)), (71, (m81.1 71)), (72, (m81.1 72)), (73, (m81.1 73)), (74, (m81.1 74)), (75, (m.1 75))] [(65, (m81.2 65)), (66, (m81.2 66)), (67, (m81.2 67)), (68, (m81.2 68))]) c N D (by omega) (Ty_mO hT rfl rfl ⟨f7, f8, f9, (hT165.1 10), (hT165.1 11), f12, (q84.1 28), (q84.1 69), (q84.1 70), (q84.1 71), (q84.1 72), (q84.1 73), (q84.1 74), f75, trivial⟩ ⟨(q84.2.1 65), (q84.2.1 66), (q84.2.1 67), (q84.2.1 68), trivial⟩) ((m.2 87) ((m81.1 73) - 1)) ((m.2 90) ((m81.1 73) - 1)) ((m.2 92) ((m81.1 73) - 1)) ((m.2 88) ((m81.1 73) - 1)) (m81.1 69) (m81.1 71) (m81.1 72) (m81.1 70) (r32 (by omega) (by omega)) (r32 (by omega) (by omega)) (r64 (by omega) (by omega)) (r32 (by omega) (by omega)) (r32 (by omega) (by omega)) (r32 (by omega) (by omega)) (r64 (by omega) (by omega)) (r32 (by omega) (by omega)) (show 0 ≤ ((m.2 88) ((m81.1 73) - 1)) ∧ ((m.2 88) ((m81.1 73) - 1)) ≤ 4000 by omega) (show 0 ≤ (m81.1 70) ∧ (m81.1 70) ≤ 4000 by omega) (show 0 ≤ ((m.2 87) ((m81.1 73) - 1)) ∧ ((m.2 87) ((m81.1 73) - 1)) ≤ 1024 by omega) (show 0 ≤ (m81.1 69) ∧ (m81.1 69) ≤ 1024 by omega) (fun (h : (m164.1 10) = 0) => absurd h (by omega))) (fun rr267 k268 => ?_)
                obtain ⟨m269, x271, hT270, g272, h273, h274, c275, rfl⟩ := k268
                refine ⟨_, _, rfl, ?_⟩
                refine T_nf2 (st' := [.int (i32 x271)]) (l' := [(7, (m.1 7)), (8, (m.1 8)), (9, (m.1 9)), (10, (m269.1 10)), (11, (m269.1 11)), (12, (m.1 12)), (28, (m81.1 28)), (69, (m81.1 69)), (70, (m81.1 70)), (71, (m81.1 71)), (72, (m81.1 72)), (73, (m81.1 73)), (74, (m81.1 74)), (75, (m.1 75))]) (a' := [(65, (m81.2 65)), (66, (m81.2 66)), (67, (m81.2 67)), (68, (m81.2 68))]) [10, 11] [] rfl ⟨rfl, rfl, rfl, rfl, rfl, rfl, rfl, rfl, rfl, rfl, rfl, rfl, rfl, rfl, rfl, rfl, rfl, rfl, rfl, rfl, rfl, rfl, rfl, rfl, rfl, rfl, rfl, rfl, rfl, rfl, rfl, trivial⟩ ⟨rfl, rfl, rfl, rfl, rfl, rfl, rfl, rfl, trivial⟩ rfl rfl (by decide) (by decide) ?_
                obtain ⟨g272a, g272b⟩ := g272
                have g276 : 0 ≤ m269.1 10 ∧ m269.1 10 ≤ 8 := hT270.1 10
                have g277 : (-1) ≤ m269.1 11 ∧ m269.1 11 ≤ 4000 := hT270.1 11
                replace h273 : (m269.1 10) = 0 → (m164.1 10) = 0 := h273
                replace h274 : x271 = 64 ∨ x271 = ((m.2 87) ((m81.1 73) - 1)) ∨ x271 = (m81.1 69) := h274
                have hf278 : 1 ≤ (m269.1 10) := by omega
                clear c275
                clear h273
                clear g168 g169 hf262
                refine T_sto 131 [(3, .int (i32 x271)), (2, .int (i32 ((m81.1 73) - 1))), (0, .ref 189), (1, .int (i32 v80))] rfl (fun _ => rfl) ?_
                refine T_ld 132 (.ref 189) rfl (fun _ => rfl) ?_
                refine T_ld 135 (.int (i32 407)) rfl (fun _ => rfl) ?_
                refine T_ld 136 (.int (i32 x271)) rfl (fun _ => rfl) ?_
                refine T_ld 137 (.int (i32 0)) rfl (fun _ => rfl) ?_
                refine T_ld 138 (.long (i64 0)) rfl (fun _ => rfl) ?_
                refine T_call 141 248 [.ref 189, .int (i32 407), .int (i32 x271), .int (i32 0), .long (i64 0)] [] rfl (fun _ => rfl) rfl (c_node w (mO m [(7, (m.1 7)), (8, (m.1 8)), (9, (m.1 9)), (10, (m269.1 10)), (11, (m269.1 11)), (12, (m.1 12)), (28, (m81.1 28)), (69, (m81.1 69)), (70, (m81.1 70)), (71, (m81.1 71)), (72, (m81.1 72)), (73, (m81.1 73)), (74, (m81.1 74)), (75, (m.1 75))] [(65, (m81.2 65)), (66, (m81.2 66)), (67, (m81.2 67)), (68, (m81.2 68))]) c N D (by omega) (Ty_mO hT rfl rfl ⟨f7, f8, f9, (hT270.1 10), (hT270.1 11), f12, (q84.1 28), (q84.1 69), (q84.1 70), (q84.1 71), (q84.1 72), (q84.1 73), (q84.1 74), f75, trivial⟩ ⟨(q84.2.1 65), (q84.2.1 66), (q84.2.1 67), (q84.2.1 68), trivial⟩) 407 x271 0 0 B (1 + lh (m.2 79) (m.2 80) (m81.1 73)) ⟨by decide, by decide⟩ (r32 (by omega) (by omega)) ⟨by decide, by decide⟩ ⟨by decide, by decide⟩ (fun (h : (m269.1 10) = 0) => absurd h (by omega))) (fun rr279 k280 => ?_)
                obtain ⟨m281, hT282, h283, c284, rfl⟩ := k280
                refine ⟨_, _, rfl, ?_⟩
                refine T_nf2 (st' := []) (l' := [(7, (m.1 7)), (8, (m.1 8)), (9, (m.1 9)), (10, (m281.1 10)), (11, (m281.1 11)), (12, (m.1 12)), (28, (m281.1 28)), (69, (m81.1 69)), (70, (m81.1 70)), (71, (m81.1 71)), (72, (m81.1 72)), (73, (m81.1 73)), (74, (m81.1 74)), (75, (m.1 75))]) (a' := [(65, (m281.2 65)), (66, (m281.2 66)), (67, (m281.2 67)), (68, (m281.2 68))]) [10, 11, 28] [65, 66, 67, 68] rfl ⟨rfl, rfl, rfl, rfl, rfl, rfl, rfl, rfl, rfl, rfl, rfl, rfl, rfl, rfl, rfl, rfl, rfl, rfl, rfl, rfl, rfl, rfl, rfl, rfl, rfl, rfl, rfl, rfl, rfl, rfl, rfl, rfl, trivial⟩ ⟨rfl, rfl, rfl, rfl, rfl, rfl, rfl, rfl, trivial⟩ rfl rfl (by decide) (by decide) ?_
                have g285 : 0 ≤ m281.1 10 ∧ m281.1 10 ≤ 8 := hT282.1 10
                have g286 : (-1) ≤ m281.1 11 ∧ m281.1 11 ≤ 4000 := hT282.1 11
                have g287 : 0 ≤ m281.1 28 ∧ m281.1 28 ≤ 800 := hT282.1 28
                replace h283 : (m281.1 10) = 0 → (m269.1 10) = 0 := h283
                have hf288 : 1 ≤ (m281.1 10) := by omega
                clear c284
                clear h283
                clear q84_28 c94 c96 c98 g276 g277 hf278
                refine T_ld 142 (.ref 189) rfl (fun _ => rfl) ?_
                refine T_ld 143 (.int (i32 x271)) rfl (fun _ => rfl) ?_
                refine T_gf 147 (.ref 248) rfl rfl rfl rfl rfl rfl ?_
                refine T_ld 148 (.int (i32 ((m81.1 73) - 1))) rfl (fun _ => rfl) ?_
                refine T_iald 149 86 (m.2 86) rfl rfl rfl (by omega) (show ((m81.1 73) - 1) < (60 : Int) by omega) rfl ?_
                have e289 : 0 ≤ m.2 86 ((m81.1 73) - 1) ∧ m.2 86 ((m81.1 73) - 1) ≤ 4000 := hT.2.1 86 ((m81.1 73) - 1)
                refine T_call 152 250 [.ref 189, .int (i32 x271), .int (i32 ((m.2 86) ((m81.1 73) - 1)))] [] rfl (fun _ => rfl) rfl (c_unit w (mO m [(7, (m.1 7)), (8, (m.1 8)), (9, (m.1 9)), (10, (m281.1 10)), (11, (m281.1 11)), (12, (m.1 12)), (28, (m281.1 28)), (69, (m81.1 69)), (70, (m81.1 70)), (71, (m81.1 71)), (72, (m81.1 72)), (73, (m81.1 73)), (74, (m81.1 74)), (75, (m.1 75))] [(65, (m281.2 65)), (66, (m281.2 66)), (67, (m281.2 67)), (68, (m281.2 68))]) c N D (by omega) (Ty_mO hT rfl rfl ⟨f7, f8, f9, (hT282.1 10), (hT282.1 11), f12, (hT282.1 28), (q84.1 69), (q84.1 70), (q84.1 71), (q84.1 72), (q84.1 73), (q84.1 74), f75, trivial⟩ ⟨(hT282.2.1 65), (hT282.2.1 66), (hT282.2.1 67), (hT282.2.1 68), trivial⟩) x271 ((m.2 86) ((m81.1 73) - 1)) (r32 (by omega) (by omega)) (r32 (by omega) (by omega)) (show 0 ≤ x271 ∧ x271 ≤ 1024 by omega) (show 0 ≤ ((m.2 86) ((m81.1 73) - 1)) ∧ ((m.2 86) ((m81.1 73) - 1)) ≤ 4000 by omega)) (fun rr290 k291 => ?_)
                obtain ⟨m292, hT293, h294, rfl⟩ := k291
                refine ⟨_, _, rfl, ?_⟩
                refine T_nf2 (st' := []) (l' := [(7, (m.1 7)), (8, (m.1 8)), (9, (m.1 9)), (10, (m281.1 10)), (11, (m281.1 11)), (12, (m.1 12)), (28, (m281.1 28)), (69, (m292.1 69)), (70, (m292.1 70)), (71, (m292.1 71)), (72, (m292.1 72)), (73, (m81.1 73)), (74, (m81.1 74)), (75, (m.1 75))]) (a' := [(65, (m281.2 65)), (66, (m281.2 66)), (67, (m281.2 67)), (68, (m281.2 68))]) [69, 70, 71, 72] [] rfl ⟨rfl, rfl, rfl, rfl, rfl, rfl, rfl, rfl, rfl, rfl, rfl, rfl, rfl, rfl, rfl, rfl, rfl, rfl, rfl, rfl, rfl, rfl, rfl, rfl, rfl, rfl, rfl, rfl, rfl, rfl, rfl, rfl, rfl, rfl, rfl, trivial⟩ ⟨rfl, rfl, rfl, rfl, rfl, rfl, rfl, rfl, trivial⟩ rfl rfl (by decide) (by decide) ?_
                have g295 : 0 ≤ m292.1 69 ∧ m292.1 69 ≤ 1024 := hT293.1 69
                have g296 : 0 ≤ m292.1 70 ∧ m292.1 70 ≤ 4000 := hT293.1 70
                have g297 : 0 ≤ m292.1 71 ∧ m292.1 71 ≤ 1 := hT293.1 71
                have g298 : (-9223372036854775808) ≤ m292.1 72 ∧ m292.1 72 ≤ 9223372036854775807 := hT293.1 72
                replace h294 : (m292.1 69) = x271 := h294
                clear q84_69 q84_70 q84_71 q84_72 c95 h274
                refine T_ld 153 (.ref 189) rfl (fun _ => rfl) ?_
                refine T_ld 154 (.ref 189) rfl (fun _ => rfl) ?_
                refine T_gf1 157 (.int (i32 (m81.1 73))) rfl rfl rfl rfl ?_
                refine T_ld 158 (.int (i32 1)) rfl (fun _ => rfl) ?_
                refine T_isub 159 rfl rfl ?_
                refine T_pf (l' := [(7, (m.1 7)), (8, (m.1 8)), (9, (m.1 9)), (10, (m281.1 10)), (11, (m281.1 11)), (12, (m.1 12)), (28, (m281.1 28)), (69, (m292.1 69)), (70, (m292.1 70)), (71, (m292.1 71)), (72, (m292.1 72)), (73, (m81.1 73) - 1), (74, (m81.1 74)), (75, (m.1 75))]) 162 ((m81.1 73) - 1) rfl rfl rfl rfl rfl rfl ?_
                have g299 : 0 ≤ (m81.1 73) - 1 ∧ (m81.1 73) - 1 ≤ 60 := ⟨by omega, by omega⟩
                refine T_ld 163 (.ref 189) rfl (fun _ => rfl) ?_
                refine T_ld 164 (.ref 189) rfl (fun _ => rfl) ?_
                refine T_gf1 167 (.int (i32 (m81.1 74))) rfl rfl rfl rfl ?_
                refine T_ld 168 (.int (i32 1)) rfl (fun _ => rfl) ?_
                refine T_isub 169 rfl rfl ?_
                refine T_pf (l' := [(7, (m.1 7)), (8, (m.1 8)), (9, (m.1 9)), (10, (m281.1 10)), (11, (m281.1 11)), (12, (m.1 12)), (28, (m281.1 28)), (69, (m292.1 69)), (70, (m292.1 70)), (71, (m292.1 71)), (72, (m292.1 72)), (73, (m81.1 73) - 1), (74, (m81.1 74) - 1), (75, (m.1 75))]) 172 ((m81.1 74) - 1) rfl rfl rfl rfl rfl rfl ?_
                have g300 : 0 ≤ (m81.1 74) - 1 ∧ (m81.1 74) - 1 ≤ 24 := ⟨by omega, by omega⟩
                refine T_gf 176 (.int (i32 ((m81.1 73) - 1))) rfl rfl rfl rfl rfl rfl ?_
                refine T_if 190 179 rfl rfl rfl (r32 (by omega) (by omega)) (fun (h301 : (m81.1 73) - 1 ≤ 0) => ?_) (fun (h301 : ¬ ((m81.1 73) - 1 ≤ 0)) => ?_)
                · skip
                  refine T_ld 191 (.int (i32 0)) rfl (fun _ => rfl) ?_
                  refine T_sto 192 [(1, .int (i32 0)), (3, .int (i32 x271)), (2, .int (i32 ((m81.1 73) - 1))), (0, .ref 189)] rfl (fun _ => rfl) ?_
                  refine T_goto 33 rfl (fun _ => rfl) ?_
                  refine Tm_lv (a := [(0, .ref 189), (1, .int (i32 0))]) rfl rfl ⟨rfl, rfl, trivial⟩ ?_
                  exact ih92 0 (mO m [(7, (m.1 7)), (8, (m.1 8)), (9, (m.1 9)), (10, (m281.1 10)), (11, (m281.1 11)), (12, (m.1 12)), (28, (m281.1 28)), (69, (m292.1 69)), (70, (m292.1 70)), (71, (m292.1 71)), (72, (m292.1 72)), (73, (m81.1 73) - 1), (74, (m81.1 74) - 1), (75, (m.1 75))] [(65, (m281.2 65)), (66, (m281.2 66)), (67, (m281.2 67)), (68, (m281.2 68))]) ⟨by decide, by decide⟩ (Ty_mO hT rfl rfl ⟨f7, f8, f9, (hT282.1 10), (hT282.1 11), f12, (hT282.1 28), (hT293.1 69), (hT293.1 70), (hT293.1 71), (hT293.1 72), g299, g300, f75, trivial⟩ ⟨(hT282.2.1 65), (hT282.2.1 66), (hT282.2.1 67), (hT282.2.1 68), trivial⟩) (show 0 ≤ (0 : Int) by omega) (show (0 : Int) ≤ 1 by omega) (show (0 : Int) = 0 ∨ (0 : Int) = 1 by omega) (show (0 : Int) = 1 → 1 ≤ ((m81.1 73) - 1) by omega) (show ((m81.1 73) - 1) + 1 ≤ (m.1 73) by omega) (show (m281.1 10) = 0 ∨ (0 : Int) = 0 by omega) (fun (h : (m281.1 10) = 0) => absurd h (by omega)) (show ((m81.1 73) - 1) < (n : Int) by omega)
                · skip
                  refine T_gf 183 (.int (i32 (m281.1 10))) rfl rfl rfl rfl rfl rfl ?_
                  refine T_if 190 186 rfl rfl rfl (r32 (by omega) (by omega)) (fun (h302 : (m281.1 10) ≠ 0) => ?_) (fun (h302 : ¬ ((m281.1 10) ≠ 0)) => by exfalso; omega)
                  refine T_ld 191 (.int (i32 0)) rfl (fun _ => rfl) ?_
                  refine T_sto 192 [(1, .int (i32 0)), (3, .int (i32 x271)), (2, .int (i32 ((m81.1 73) - 1))), (0, .ref 189)] rfl (fun _ => rfl) ?_
                  refine T_goto 33 rfl (fun _ => rfl) ?_
                  refine Tm_lv (a := [(0, .ref 189), (1, .int (i32 0))]) rfl rfl ⟨rfl, rfl, trivial⟩ ?_
                  exact ih92 0 (mO m [(7, (m.1 7)), (8, (m.1 8)), (9, (m.1 9)), (10, (m281.1 10)), (11, (m281.1 11)), (12, (m.1 12)), (28, (m281.1 28)), (69, (m292.1 69)), (70, (m292.1 70)), (71, (m292.1 71)), (72, (m292.1 72)), (73, (m81.1 73) - 1), (74, (m81.1 74) - 1), (75, (m.1 75))] [(65, (m281.2 65)), (66, (m281.2 66)), (67, (m281.2 67)), (68, (m281.2 68))]) ⟨by decide, by decide⟩ (Ty_mO hT rfl rfl ⟨f7, f8, f9, (hT282.1 10), (hT282.1 11), f12, (hT282.1 28), (hT293.1 69), (hT293.1 70), (hT293.1 71), (hT293.1 72), g299, g300, f75, trivial⟩ ⟨(hT282.2.1 65), (hT282.2.1 66), (hT282.2.1 67), (hT282.2.1 68), trivial⟩) (show 0 ≤ (0 : Int) by omega) (show (0 : Int) ≤ 1 by omega) (show (0 : Int) = 0 ∨ (0 : Int) = 1 by omega) (show (0 : Int) = 1 → 1 ≤ ((m81.1 73) - 1) by omega) (show ((m81.1 73) - 1) + 1 ≤ (m.1 73) by omega) (show (m281.1 10) = 0 ∨ (0 : Int) = 0 by omega) (fun (h : (m281.1 10) = 0) => absurd h (by omega)) (show ((m81.1 73) - 1) < (n : Int) by omega)
        · skip
          clear c91
          have hf303 : 1 ≤ (m81.1 10) := by omega
          refine T_ld 34 (.int (i32 v80)) rfl (fun _ => rfl) ?_
          refine T_if 195 37 rfl rfl rfl (r32 (by omega) (by omega)) (fun (h304 : v80 = 0) => ?_) (fun (h304 : ¬ (v80 = 0)) => by exfalso; omega)
          refine T_gf 199 (.int (i32 (m81.1 73))) rfl rfl rfl rfl rfl rfl ?_
          refine T_if 208 202 rfl rfl rfl (r32 (by omega) (by omega)) (fun (h305 : (m81.1 73) ≠ 0) => ?_) (fun (h305 : ¬ ((m81.1 73) ≠ 0)) => ?_)
          · skip
            refine T_gf 212 (.ref 239) rfl rfl rfl rfl rfl rfl ?_
            refine T_gf 216 (.int (i32 (m81.1 73))) rfl rfl rfl rfl rfl rfl ?_
            refine T_ld 217 (.int (i32 1)) rfl (fun _ => rfl) ?_
            refine T_isub 218 rfl rfl ?_
            refine T_iald 219 77 (m.2 77) rfl rfl rfl (by omega) (show ((m81.1 73) - 1) < (60 : Int) by omega) rfl ?_
            have e306 : 0 ≤ m.2 77 ((m81.1 73) - 1) ∧ m.2 77 ((m81.1 73) - 1) ≤ 4000 := hT.2.1 77 ((m81.1 73) - 1)
            refine T_sto 220 [(2, .int (i32 ((m.2 77) ((m81.1 73) - 1)))), (0, .ref 189), (1, .int (i32 v80))] rfl (fun _ => rfl) ?_
            refine T_ld 221 (.ref 189) rfl (fun _ => rfl) ?_
            refine T_ld 223 (.int (i32 41)) rfl (fun _ => rfl) ?_
            refine T_call 226 232 [.ref 189, .int (i32 41)] [] rfl (fun _ => rfl) rfl (c_need w (mO m [(7, (m.1 7)), (8, (m.1 8)), (9, (m.1 9)), (10, (m81.1 10)), (11, (m81.1 11)), (12, (m.1 12)), (28, (m81.1 28)), (69, (m81.1 69)), (70, (m81.1 70)), (71, (m81.1 71)), (72, (m81.1 72)), (73, (m81.1 73)), (74, (m81.1 74)), (75, (m.1 75))] [(65, (m81.2 65)), (66, (m81.2 66)), (67, (m81.2 67)), (68, (m81.2 68))]) c N D (by omega) (Ty_mO hT rfl rfl ⟨f7, f8, f9, (q84.1 10), (q84.1 11), f12, (q84.1 28), (q84.1 69), (q84.1 70), (q84.1 71), (q84.1 72), (q84.1 73), (q84.1 74), f75, trivial⟩ ⟨(q84.2.1 65), (q84.2.1 66), (q84.2.1 67), (q84.2.1 68), trivial⟩) 41 ⟨by decide, by decide⟩ (show 1 ≤ (41 : Int) by omega) (show LxP (m.1 7) (m.1 8) (m.1 9) (m.1 6) (m81.1 10) by first | exact hLx | (intro h9; exfalso; omega) | (intro h9; have h8 := hLx (by omega); omega))) (fun rr307 k308 => ?_)
            obtain ⟨y309, y311, y313, y315, y317, y319, g310, g312, g314, g316, g318, g320, h321, h322, h323, h324, rfl⟩ := k308
            refine ⟨_, _, rfl, ?_⟩
            refine T_nf2 (st' := []) (l' := [(7, y309), (8, y311), (9, y313), (10, y315), (11, y317), (12, y319), (28, (m81.1 28)), (69, (m81.1 69)), (70, (m81.1 70)), (71, (m81.1 71)), (72, (m81.1 72)), (73, (m81.1 73)), (74, (m81.1 74)), (75, (m.1 75))]) (a' := [(65, (m81.2 65)), (66, (m81.2 66)), (67, (m81.2 67)), (68, (m81.2 68))]) [7, 8, 9, 10, 11, 12] [] rfl ⟨rfl, rfl, rfl, rfl, rfl, rfl, rfl, rfl, rfl, rfl, rfl, rfl, rfl, rfl, rfl, rfl, rfl, rfl, rfl, rfl, rfl, rfl, rfl, rfl, rfl, rfl, rfl, rfl, trivial⟩ ⟨rfl, rfl, rfl, rfl, rfl, rfl, rfl, rfl, trivial⟩ rfl rfl (by decide) (by decide) ?_
            replace h321 : LxP y309 y311 y313 (m.1 6) y315 := h321
            replace h322 : y315 = 0 → (m81.1 10) = 0 ∧ (m.1 7) = (41 : Int) := h322
            replace h323 : (m.1 8) ≤ y311 := h323
            replace h324 : y315 = 0 → (m.1 8) + (m.1 9) ≤ y311 := h324
            have hf325 : 1 ≤ y315 := by omega
            clear h322
            clear h324
            have hLx := h321
            clear q84_10 q84_11 ic90 hf303
            refine T_ld 227 (.ref 189) rfl (fun _ => rfl) ?_
            refine T_ld 228 (.ref 189) rfl (fun _ => rfl) ?_
            refine T_gf1 231 (.int (i32 (m81.1 73))) rfl rfl rfl rfl ?_
            refine T_ld 232 (.int (i32 1)) rfl (fun _ => rfl) ?_
            refine T_isub 233 rfl rfl ?_
            refine T_pf (l' := [(7, y309), (8, y311), (9, y313), (10, y315), (11, y317), (12, y319), (28, (m81.1 28)), (69, (m81.1 69)), (70, (m81.1 70)), (71, (m81.1 71)), (72, (m81.1 72)), (73, (m81.1 73) - 1), (74, (m81.1 74)), (75, (m.1 75))]) 236 ((m81.1 73) - 1) rfl rfl rfl rfl rfl rfl ?_
            have g326 : 0 ≤ (m81.1 73) - 1 ∧ (m81.1 73) - 1 ≤ 60 := ⟨by omega, by omega⟩
            refine T_ld 237 (.ref 189) rfl (fun _ => rfl) ?_
            refine T_ld 238 (.int (i32 ((m.2 77) ((m81.1 73) - 1)))) rfl (fun _ => rfl) ?_
            refine T_pf (l' := [(7, y309), (8, y311), (9, y313), (10, y315), (11, y317), (12, y319), (28, (m81.1 28)), (69, (m81.1 69)), (70, (m.2 77) ((m81.1 73) - 1)), (71, (m81.1 71)), (72, (m81.1 72)), (73, (m81.1 73) - 1), (74, (m81.1 74)), (75, (m.1 75))]) 241 ((m.2 77) ((m81.1 73) - 1)) rfl rfl rfl rfl rfl rfl ?_
            have g327 : 0 ≤ (m.2 77) ((m81.1 73) - 1) ∧ (m.2 77) ((m81.1 73) - 1) ≤ 4000 := ⟨by omega, by omega⟩
            refine T_ld 242 (.ref 189) rfl (fun _ => rfl) ?_
            refine T_ld 243 (.int (i32 1)) rfl (fun _ => rfl) ?_
            refine T_pf (l' := [(7, y309), (8, y311), (9, y313), (10, y315), (11, y317), (12, y319), (28, (m81.1 28)), (69, (m81.1 69)), (70, (m.2 77) ((m81.1 73) - 1)), (71, (m81.1 71)), (72, (m81.1 72)), (73, (m81.1 73) - 1), (74, (m81.1 74)), (75, 1)]) 246 1 rfl rfl rfl rfl rfl rfl ?_
            refine T_ret rfl (fun _ => rfl) ?_
            exact ⟨(mO m [(7, y309), (8, y311), (9, y313), (10, y315), (11, y317), (12, y319), (28, (m81.1 28)), (69, (m81.1 69)), (70, (m.2 77) ((m81.1 73) - 1)), (71, (m81.1 71)), (72, (m81.1 72)), (73, (m81.1 73) - 1), (74, (m81.1 74)), (75, 1)] [(65, (m81.2 65)), (66, (m81.2 66)), (67, (m81.2 67)), (68, (m81.2 68))]), (Ty_mO hT rfl rfl ⟨g310, g312, g314, g316, g318, g320, (q84.1 28), (q84.1 69), g327, (q84.1 71), (q84.1 72), g326, (q84.1 74), ⟨(by omega : (0 : Int) ≤ 1), (by omega : (1 : Int) ≤ 3)⟩, trivial⟩ ⟨(q84.2.1 65), (q84.2.1 66), (q84.2.1 67), (q84.2.1 68), trivial⟩), (show y315 = 0 → (m.1 10) = 0 by omega), (show LxP y309 y311 y313 (m.1 6) y315 by first | (first | exact hLx | exact (fun _ => hLx (by omega)) | (intro h9; exfalso; omega)) | (exfalso; omega)), (fun (h : y315 = 0) => absurd h (by omega)), rfl⟩
          · skip
            refine T_ld 203 (.ref 189) rfl (fun _ => rfl) ?_
            refine T_ld 204 (.int (i32 3)) rfl (fun _ => rfl) ?_
            refine T_pf (l' := [(7, (m.1 7)), (8, (m.1 8)), (9, (m.1 9)), (10, (m81.1 10)), (11, (m81.1 11)), (12, (m.1 12)), (28, (m81.1 28)), (69, (m81.1 69)), (70, (m81.1 70)), (71, (m81.1 71)), (72, (m81.1 72)), (73, (m81.1 73)), (74, (m81.1 74)), (75, 3)]) 207 3 rfl rfl rfl rfl rfl rfl ?_
            refine T_ret rfl (fun _ => rfl) ?_
            exact ⟨(mO m [(7, (m.1 7)), (8, (m.1 8)), (9, (m.1 9)), (10, (m81.1 10)), (11, (m81.1 11)), (12, (m.1 12)), (28, (m81.1 28)), (69, (m81.1 69)), (70, (m81.1 70)), (71, (m81.1 71)), (72, (m81.1 72)), (73, (m81.1 73)), (74, (m81.1 74)), (75, 3)] [(65, (m81.2 65)), (66, (m81.2 66)), (67, (m81.2 67)), (68, (m81.2 68))]), (Ty_mO hT rfl rfl ⟨f7, f8, f9, (q84.1 10), (q84.1 11), f12, (q84.1 28), (q84.1 69), (q84.1 70), (q84.1 71), (q84.1 72), (q84.1 73), (q84.1 74), ⟨(by omega : (0 : Int) ≤ 3), (by omega : (3 : Int) ≤ 3)⟩, trivial⟩ ⟨(q84.2.1 65), (q84.2.1 66), (q84.2.1 67), (q84.2.1 68), trivial⟩), (show (m81.1 10) = 0 → (m.1 10) = 0 by omega), (show LxP (m.1 7) (m.1 8) (m.1 9) (m.1 6) (m81.1 10) by first | (first | exact hLx | exact (fun _ => hLx (by omega)) | (intro h9; exfalso; omega)) | (exfalso; omega)), (fun (h : (m81.1 10) = 0) => absurd h (by omega)), rfl⟩
    refine Tm_lv (a := [(0, .ref 189), (1, .int (i32 1))]) rfl rfl ⟨rfl, rfl, trivial⟩ ?_
    exact L33_82 ((((m.1 73) - 1) : Int) + 1).toNat 1 (mO m [(7, (m.1 7)), (8, (m.1 8)), (9, (m.1 9)), (10, (m.1 10)), (11, (m.1 11)), (12, (m.1 12)), (28, (m.1 28)), (69, (m.1 69)), (70, (m.1 70)), (71, (m.1 71)), (72, (m.1 72)), (73, (m.1 73) - 1), (74, (m.1 74) - 1), (75, (m.1 75))] [(65, (m.2 65)), (66, (m.2 66)), (67, (m.2 67)), (68, (m.2 68))]) ⟨by decide, by decide⟩ (Ty_mO hT rfl rfl ⟨f7, f8, f9, f10, f11, f12, f28, f69, f70, f71, f72, g4, g5, f75, trivial⟩ ⟨(hT.2.1 65), (hT.2.1 66), (hT.2.1 67), (hT.2.1 68), trivial⟩) (show 0 ≤ (1 : Int) by omega) (show (1 : Int) ≤ 1 by omega) (show (1 : Int) = 0 ∨ (1 : Int) = 1 by omega) (show (1 : Int) = 1 → 1 ≤ ((m.1 73) - 1) by omega) (show ((m.1 73) - 1) + 1 ≤ (m.1 73) by omega) (show (m.1 10) = 0 ∨ (1 : Int) = 0 by omega) (fun _ => ⟨(show XC (m.2 65) (m.2 67) (m.2 76) (m.2 78) (m.2 79) (m.2 80) B (m.1 28) ((m.1 73) - 1) ((m.1 74) - 1) by exact hXC), (show (m.1 69) ≤ 64 by omega), (show (m.1 28) ≤ (m.1 28) by omega), (show (1 : Int) = 0 → ((m.1 73) - 1) = 0 by omega), (show agr (m.2 65) (m.2 65) (m.1 28) by exact hAgC)⟩) (show ((m.1 73) - 1) < ((((((m.1 73) - 1) : Int) + 1).toNat : Nat) : Int) by omega)
