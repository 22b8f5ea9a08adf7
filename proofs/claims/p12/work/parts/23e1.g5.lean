def Q_level (m : mR) (c : Nat → Option am_C) (N : Nat) (x : Int) : ag_Re af_T → Prop := fun R => ∃ (r : Int), ((-1) ≤ r ∧ r ≤ 8) ∧ (0 ≤ r → 4 ≤ x ∧ x ≤ 124) ∧ R = (.inl (some (.int (i32 r))), (mhp (mO m [] []) c, N), 0, 0)
set_option maxHeartbeats 8000000 in
theorem c_level (w : wX) (m : mR) (c : Nat → Option am_C) (N D : Nat) (hD : 1 ≤ D) (hT : Ty m) (x : Int) (qx : R32 x) : TC w D 259 [.int (i32 x)] (mhp m c, N) (Q_level m c N x) := by
  obtain ⟨D, rfl⟩ : ∃ k, D = k + 1 := ⟨D - 1, by omega⟩
  obtain ⟨qxa, qxb⟩ := id qx
  refine Tc_of rfl ?_
  show TT w D pm_259 (0, [(0, .int (i32 x))], [], (mhp m c, N), 0, 0) (Q_level m c N x)
  rw [show (mhp m c, N) = (mhp (mO m [] []) c, N) from rfl]
  refine T_ld 1 (.int (i32 x)) rfl (fun _ => rfl) ?_
  have T144_1 : (x = 4 ∨ x = 5 ∨ x = 6 ∨ x = 7 ∨ x = 60 ∨ x = 62) → TT w D pm_259 (144, [(0, .int (i32 x))], [], (mhp (mO m [] []) c, N), 0, 0) (Q_level m c N x) := by
    intro ht2
    refine T_ld 145 (.int (i32 2)) rfl (fun _ => rfl) ?_
    refine T_ret rfl (fun _ => rfl) ?_
    exact ⟨2, ⟨by omega, by omega⟩, (show 0 ≤ (2 : Int) → 4 ≤ x ∧ x ≤ 124 by omega), rfl⟩
  have T152_3 : (x = 11 ∨ x = 12) → TT w D pm_259 (152, [(0, .int (i32 x))], [], (mhp (mO m [] []) c, N), 0, 0) (Q_level m c N x) := by
    intro ht4
    refine T_ld 154 (.int (i32 6)) rfl (fun _ => rfl) ?_
    refine T_ret rfl (fun _ => rfl) ?_
    exact ⟨6, ⟨by omega, by omega⟩, (show 0 ≤ (6 : Int) → 4 ≤ x ∧ x ≤ 124 by omega), rfl⟩
  have T155_5 : (x = 43 ∨ x = 45) → TT w D pm_259 (155, [(0, .int (i32 x))], [], (mhp (mO m [] []) c, N), 0, 0) (Q_level m c N x) := by
    intro ht6
    refine T_ld 157 (.int (i32 7)) rfl (fun _ => rfl) ?_
    refine T_ret rfl (fun _ => rfl) ?_
    exact ⟨7, ⟨by omega, by omega⟩, (show 0 ≤ (7 : Int) → 4 ≤ x ∧ x ≤ 124 by omega), rfl⟩
  by_cases h7 : x = 4
  · skip
    refine T_cast 4 h7 ?_
    refine T_pop 144 rfl (fun _ => rfl) ?_
    exact T144_1 (by omega)
  by_cases h8 : x = 5
  · skip
    refine T_cast 5 h8 ?_
    refine T_pop 144 rfl (fun _ => rfl) ?_
    exact T144_1 (by omega)
  by_cases h9 : x = 6
  · skip
    refine T_cast 6 h9 ?_
    refine T_pop 144 rfl (fun _ => rfl) ?_
    exact T144_1 (by omega)
  by_cases h10 : x = 7
  · skip
    refine T_cast 7 h10 ?_
    refine T_pop 144 rfl (fun _ => rfl) ?_
    exact T144_1 (by omega)
  by_cases h11 : x = 8
  · skip
    refine T_cast 8 h11 ?_
    refine T_pop 158 rfl (fun _ => rfl) ?_
    refine T_ld 160 (.int (i32 8)) rfl (fun _ => rfl) ?_
    refine T_ret rfl (fun _ => rfl) ?_
    exact ⟨8, ⟨by omega, by omega⟩, (show 0 ≤ (8 : Int) → 4 ≤ x ∧ x ≤ 124 by omega), rfl⟩
  by_cases h12 : x = 9
  · skip
    refine T_cast 9 h12 ?_
    refine T_pop 142 rfl (fun _ => rfl) ?_
    refine T_ld 143 (.int (i32 1)) rfl (fun _ => rfl) ?_
    refine T_ret rfl (fun _ => rfl) ?_
    exact ⟨1, ⟨by omega, by omega⟩, (show 0 ≤ (1 : Int) → 4 ≤ x ∧ x ≤ 124 by omega), rfl⟩
  by_cases h13 : x = 10
  · skip
    refine T_cast 10 h13 ?_
    refine T_pop 140 rfl (fun _ => rfl) ?_
    refine T_ld 141 (.int (i32 0)) rfl (fun _ => rfl) ?_
    refine T_ret rfl (fun _ => rfl) ?_
    exact ⟨0, ⟨by omega, by omega⟩, (show 0 ≤ (0 : Int) → 4 ≤ x ∧ x ≤ 124 by omega), rfl⟩
  by_cases h14 : x = 11
  · skip
    refine T_cast 11 h14 ?_
    refine T_pop 152 rfl (fun _ => rfl) ?_
    exact T152_3 (by omega)
  by_cases h15 : x = 12
  · skip
    refine T_cast 12 h15 ?_
    refine T_pop 152 rfl (fun _ => rfl) ?_
    exact T152_3 (by omega)
  by_cases h16 : x = 38
  · skip
    refine T_cast 38 h16 ?_
    refine T_pop 150 rfl (fun _ => rfl) ?_
    refine T_ld 151 (.int (i32 5)) rfl (fun _ => rfl) ?_
    refine T_ret rfl (fun _ => rfl) ?_
    exact ⟨5, ⟨by omega, by omega⟩, (show 0 ≤ (5 : Int) → 4 ≤ x ∧ x ≤ 124 by omega), rfl⟩
  by_cases h17 : x = 43
  · skip
    refine T_cast 43 h17 ?_
    refine T_pop 155 rfl (fun _ => rfl) ?_
    exact T155_5 (by omega)
  by_cases h18 : x = 45
  · skip
    refine T_cast 45 h18 ?_
    refine T_pop 155 rfl (fun _ => rfl) ?_
    exact T155_5 (by omega)
  by_cases h19 : x = 60
  · skip
    refine T_cast 60 h19 ?_
    refine T_pop 144 rfl (fun _ => rfl) ?_
    exact T144_1 (by omega)
  by_cases h20 : x = 62
  · skip
    refine T_cast 62 h20 ?_
    refine T_pop 144 rfl (fun _ => rfl) ?_
    exact T144_1 (by omega)
  by_cases h21 : x = 94
  · skip
    refine T_cast 94 h21 ?_
    refine T_pop 148 rfl (fun _ => rfl) ?_
    refine T_ld 149 (.int (i32 4)) rfl (fun _ => rfl) ?_
    refine T_ret rfl (fun _ => rfl) ?_
    exact ⟨4, ⟨by omega, by omega⟩, (show 0 ≤ (4 : Int) → 4 ≤ x ∧ x ≤ 124 by omega), rfl⟩
  by_cases h22 : x = 124
  · skip
    refine T_cast 124 h22 ?_
    refine T_pop 146 rfl (fun _ => rfl) ?_
    refine T_ld 147 (.int (i32 3)) rfl (fun _ => rfl) ?_
    refine T_ret rfl (fun _ => rfl) ?_
    exact ⟨3, ⟨by omega, by omega⟩, (show 0 ≤ (3 : Int) → 4 ≤ x ∧ x ≤ 124 by omega), rfl⟩
  refine T_lkd 161 rfl rfl (r32 (by omega) (by omega)) (by simp [Op.lookupswitch.offset, show ¬ ((4 : Int) = x) by omega, show ¬ ((5 : Int) = x) by omega, show ¬ ((6 : Int) = x) by omega, show ¬ ((7 : Int) = x) by omega, show ¬ ((8 : Int) = x) by omega, show ¬ ((9 : Int) = x) by omega, show ¬ ((10 : Int) = x) by omega, show ¬ ((11 : Int) = x) by omega, show ¬ ((12 : Int) = x) by omega, show ¬ ((38 : Int) = x) by omega, show ¬ ((43 : Int) = x) by omega, show ¬ ((45 : Int) = x) by omega, show ¬ ((60 : Int) = x) by omega, show ¬ ((62 : Int) = x) by omega, show ¬ ((94 : Int) = x) by omega, show ¬ ((124 : Int) = x) by omega]) ?_
  refine T_ld 162 (.int (i32 (-1))) rfl (fun _ => rfl) ?_
  refine T_ret rfl (fun _ => rfl) ?_
  exact ⟨(-1), ⟨by omega, by omega⟩, (show 0 ≤ (-1 : Int) → 4 ≤ x ∧ x ≤ 124 by omega), rfl⟩
def Q_join (m : mR) (c : Nat → Option am_C) (N : Nat) (jj : Int) (B : Int) : ag_Re af_T → Prop := fun R => ∃ (M : mR), Ty M ∧ ((M.1 10) = 0 → (m.1 10) = 0) ∧ ((M.1 69) ≤ (m.1 69) + 64) ∧ (M.1 10 = 0 → ((M.1 69) ≤ 64) ∧ ((M.1 28) = (m.1 28) + 1) ∧ (XS (M.2 65) (M.2 67) (m.2 76) (m.2 78) (m.2 79) (M.2 80) B (M.1 28) (m.1 73) (m.1 74) 1) ∧ (agr (m.2 65) (M.2 65) (m.1 28)) ∧ ((M.2 80) = upI (m.2 80) jj (-1))) ∧ R = (.inl (none), (mhp (mO m [(10, (M.1 10)), (11, (M.1 11)), (28, (M.1 28)), (69, (M.1 69)), (70, (M.1 70)), (71, (M.1 71)), (72, (M.1 72))] [(65, (M.2 65)), (66, (M.2 66)), (67, (M.2 67)), (68, (M.2 68)), (80, (M.2 80))]) c, N), 0, 0)
set_option maxHeartbeats 8000000 in
theorem c_join (w : wX) (m : mR) (c : Nat → Option am_C) (N D : Nat) (hD : 4 ≤ D) (hT : Ty m) (jj : Int) (B : Int) (qjj : R32 jj) (p0 : 0 ≤ jj ∧ jj ≤ 539) (p1 : (m.1 69) ≤ 900) (hC : m.1 10 = 0 → (XS (m.2 65) (m.2 67) (m.2 76) (m.2 78) (m.2 79) (m.2 80) B (m.1 28) (m.1 73) (m.1 74) 1) ∧ ((m.1 69) ≤ 64) ∧ (1 ≤ (m.1 73)) ∧ (9 * ((m.1 73) - 1) ≤ jj ∧ jj < 9 * (m.1 73)) ∧ (0 ≤ (m.2 80) jj)) : TC w D 260 [.ref 189, .int (i32 jj)] (mhp m c, N) (Q_join m c N jj B) := by
  obtain ⟨D, rfl⟩ : ∃ k, D = k + 1 := ⟨D - 1, by omega⟩
  obtain ⟨qjja, qjjb⟩ := id qjj
  have f10 : 0 ≤ m.1 10 ∧ m.1 10 ≤ 8 := hT.1 10
  have f11 : (-1) ≤ m.1 11 ∧ m.1 11 ≤ 4000 := hT.1 11
  have f28 : 0 ≤ m.1 28 ∧ m.1 28 ≤ 800 := hT.1 28
  have f69 : 0 ≤ m.1 69 ∧ m.1 69 ≤ 1024 := hT.1 69
  have f70 : 0 ≤ m.1 70 ∧ m.1 70 ≤ 4000 := hT.1 70
  have f71 : 0 ≤ m.1 71 ∧ m.1 71 ≤ 1 := hT.1 71
  have f72 : (-9223372036854775808) ≤ m.1 72 ∧ m.1 72 ≤ 9223372036854775807 := hT.1 72
  have f74 : 0 ≤ m.1 74 ∧ m.1 74 ≤ 24 := hT.1 74
  have f73 : 0 ≤ m.1 73 ∧ m.1 73 ≤ 60 := hT.1 73
  refine Tc_of rfl ?_
  show TT w D pm_260 (0, [(0, .ref 189), (1, .int (i32 jj))], [], (mhp m c, N), 0, 0) (Q_join m c N jj B)
  rw [show (mhp m c, N) = (mhp (mO m [(10, (m.1 10)), (11, (m.1 11)), (28, (m.1 28)), (69, (m.1 69)), (70, (m.1 70)), (71, (m.1 71)), (72, (m.1 72))] [(65, (m.2 65)), (66, (m.2 66)), (67, (m.2 67)), (68, (m.2 68)), (80, (m.2 80))]) c, N) from congrArg (fun M => (mhp M c, N)) (mO_pad m [10, 11, 28, 69, 70, 71, 72] [65, 66, 67, 68, 80])]
  by_cases hf0 : m.1 10 = 0
  · skip
    obtain ⟨hXS, c1, c2, c3, c4⟩ := hC hf0
    have hEX := hXS.1.1
    have hl1 := lh_ws (st := (m.2 79)) (ws := (m.2 80)) (hi := (m.1 73)) (i := jj) (by omega) (by omega) (by omega) (by omega)
    have hl0 : 0 ≤ lh (m.2 79) (upI (m.2 80) jj (-1)) (m.1 73) := lh_0 (hT.2.1 79) _ _
    have ha2 := ar_2 (s := (m.2 80) jj) (by have := hT.2.1 80 jj; have e : (m.2 80) jj ≤ 330 := this.2; omega)
    refine T_gf 4 (.ref 243) rfl rfl rfl rfl rfl rfl ?_
    refine T_ld 5 (.int (i32 jj)) rfl (fun _ => rfl) ?_
    refine T_iald 6 81 (m.2 81) rfl rfl rfl (by omega) (show jj < (540 : Int) by omega) rfl ?_
    have e5 : 0 ≤ m.2 81 jj ∧ m.2 81 jj ≤ 64 := hT.2.1 81 jj
    refine T_sto 7 [(2, .int (i32 ((m.2 81) jj))), (0, .ref 189), (1, .int (i32 jj))] rfl (fun _ => rfl) ?_
    refine T_gf 11 (.ref 244) rfl rfl rfl rfl rfl rfl ?_
    refine T_ld 12 (.int (i32 jj)) rfl (fun _ => rfl) ?_
    refine T_iald 13 82 (m.2 82) rfl rfl rfl (by omega) (show jj < (540 : Int) by omega) rfl ?_
    have e6 : 0 ≤ m.2 82 jj ∧ m.2 82 jj ≤ 4000 := hT.2.1 82 jj
    refine T_sto 14 [(3, .int (i32 ((m.2 82) jj))), (2, .int (i32 ((m.2 81) jj))), (0, .ref 189), (1, .int (i32 jj))] rfl (fun _ => rfl) ?_
    refine T_gf 18 (.ref 242) rfl rfl rfl rfl rfl rfl ?_
    refine T_ld 19 (.int (i32 jj)) rfl (fun _ => rfl) ?_
    refine T_iald 20 80 (m.2 80) rfl rfl rfl (by omega) (show jj < (540 : Int) by omega) rfl ?_
    have e7 : (-1) ≤ (m.2 80) jj ∧ (m.2 80) jj ≤ 330 := (hT.2.1 80) jj
    refine T_sto 22 [(4, .int (i32 ((m.2 80) jj))), (3, .int (i32 ((m.2 82) jj))), (2, .int (i32 ((m.2 81) jj))), (0, .ref 189), (1, .int (i32 jj))] rfl (fun _ => rfl) ?_
    refine T_gf 26 (.int (i32 (m.1 69))) rfl rfl rfl rfl rfl rfl ?_
    refine T_sto 28 [(5, .int (i32 (m.1 69))), (4, .int (i32 ((m.2 80) jj))), (3, .int (i32 ((m.2 82) jj))), (2, .int (i32 ((m.2 81) jj))), (0, .ref 189), (1, .int (i32 jj))] rfl (fun _ => rfl) ?_
    have J261_10 : ∀ (v8 : Int) (m9 : mR), (R32 v8) → (Ty m9) → (0 ≤ v8 ∧ v8 ≤ (m.1 69) + 64) → ((m9.1 10) = 0 → (v8 ≤ 64)) → TT w D pm_260 (261, [(0, .ref 189), (1, .int (i32 jj)), (2, .int (i32 v8)), (3, .int (i32 ((m.2 82) jj))), (4, .int (i32 ((m.2 80) jj))), (5, .int (i32 (m.1 69)))], [], (mhp (mO m [(10, (m9.1 10)), (11, (m9.1 11)), (28, (m.1 28)), (69, (m.1 69)), (70, (m.1 70)), (71, (m.1 71)), (72, (m.1 72))] [(65, (m.2 65)), (66, (m.2 66)), (67, (m.2 67)), (68, (m.2 68)), (80, (m.2 80))]) c, N), 0, 0) (Q_join m c N jj B) := by
      intro v8 m9 q11 q12 ic13 c14
      obtain ⟨q11a, q11b⟩ := id q11
      have q12_10 : 0 ≤ m9.1 10 ∧ m9.1 10 ≤ 8 := q12.1 10
      have q12_11 : (-1) ≤ m9.1 11 ∧ m9.1 11 ≤ 4000 := q12.1 11
      by_cases hf15 : (m9.1 10) = 0
      · skip
        have c16 := c14 hf15
        clear c14
        refine T_gf 265 (.ref 242) rfl rfl rfl rfl rfl rfl ?_
        refine T_ld 266 (.int (i32 jj)) rfl (fun _ => rfl) ?_
        refine T_ld 267 (.int (i32 (-1))) rfl (fun _ => rfl) ?_
        have G17 : ∀ j, (-1) ≤ (upI (m.2 80) jj (-1)) j ∧ (upI (m.2 80) jj (-1)) j ≤ 330 := upI_rg (hT.2.1 80) ⟨by omega, by omega⟩
        refine T_iast (a' := [(65, (m.2 65)), (66, (m.2 66)), (67, (m.2 67)), (68, (m.2 68)), (80, upI (m.2 80) jj (-1))]) 268 80 (m.2 80) rfl rfl rfl (by omega) (show jj < (540 : Int) by omega) rfl rfl ?_
        have hAr : ar ((m.2 80) jj) ≤ 1 + lh (m.2 79) (m.2 80) (m.1 73) := by omega
        have hCk : CNk ((m.2 80) jj) (m.1 69) := by refine ⟨?_, ?_, ?_, ?_⟩ <;> omega
        refine T_ld 269 (.ref 189) rfl (fun _ => rfl) ?_
        refine T_ld 271 (.int (i32 ((m.2 80) jj))) rfl (fun _ => rfl) ?_
        refine T_ld 272 (.int (i32 v8)) rfl (fun _ => rfl) ?_
        refine T_ld 274 (.int (i32 (m.1 69))) rfl (fun _ => rfl) ?_
        refine T_ld 275 (.long (i64 0)) rfl (fun _ => rfl) ?_
        refine T_call 278 248 [.ref 189, .int (i32 ((m.2 80) jj)), .int (i32 v8), .int (i32 (m.1 69)), .long (i64 0)] [] rfl (fun _ => rfl) rfl (c_node w (mO m [(10, (m9.1 10)), (11, (m9.1 11)), (28, (m.1 28)), (69, (m.1 69)), (70, (m.1 70)), (71, (m.1 71)), (72, (m.1 72))] [(65, (m.2 65)), (66, (m.2 66)), (67, (m.2 67)), (68, (m.2 68)), (80, upI (m.2 80) jj (-1))]) c N D (by omega) (Ty_mO hT rfl rfl ⟨(q12.1 10), (q12.1 11), f28, f69, f70, f71, f72, trivial⟩ ⟨(hT.2.1 65), (hT.2.1 66), (hT.2.1 67), (hT.2.1 68), G17, trivial⟩) ((m.2 80) jj) v8 (m.1 69) 0 B (1 + lh (m.2 79) (m.2 80) (m.1 73)) (r32 (by omega) (by omega)) (r32 (by omega) (by omega)) (r32 (by omega) (by omega)) ⟨by decide, by decide⟩ (fun _ => ⟨(show 0 ≤ ((m.2 80) jj) ∧ ((m.2 80) jj) ≤ 408 by first | omega | decide), (show 0 ≤ v8 ∧ v8 ≤ 64 by first | omega | decide), (show 0 ≤ (m.1 69) ∧ (m.1 69) ≤ 191 by first | omega | decide), (show CNk ((m.2 80) jj) (m.1 69) by first | exact hCk | (refine ⟨?_, ?_, ?_, ?_⟩ <;> omega)), (show ar ((m.2 80) jj) ≤ (1 + lh (m.2 79) (m.2 80) (m.1 73)) by first | exact hAr | omega), (show EX (m.2 65) (m.2 67) B (m.1 28) (1 + lh (m.2 79) (m.2 80) (m.1 73)) by first | exact hEX | assumption)⟩)) (fun rr18 k19 => ?_)
        obtain ⟨m20, hT21, h22, c23, rfl⟩ := k19
        refine ⟨_, _, rfl, ?_⟩
        refine T_nf2 (st' := []) (l' := [(10, (m20.1 10)), (11, (m20.1 11)), (28, (m20.1 28)), (69, (m.1 69)), (70, (m.1 70)), (71, (m.1 71)), (72, (m.1 72))]) (a' := [(65, (m20.2 65)), (66, (m20.2 66)), (67, (m20.2 67)), (68, (m20.2 68)), (80, upI (m.2 80) jj (-1))]) [10, 11, 28] [65, 66, 67, 68] rfl ⟨rfl, rfl, rfl, rfl, rfl, rfl, rfl, rfl, rfl, rfl, rfl, rfl, rfl, rfl, trivial⟩ ⟨rfl, rfl, rfl, rfl, rfl, rfl, rfl, rfl, rfl, rfl, trivial⟩ rfl rfl (by decide) (by decide) ?_
        have g24 : 0 ≤ m20.1 10 ∧ m20.1 10 ≤ 8 := hT21.1 10
        have g25 : (-1) ≤ m20.1 11 ∧ m20.1 11 ≤ 4000 := hT21.1 11
        have g26 : 0 ≤ m20.1 28 ∧ m20.1 28 ≤ 800 := hT21.1 28
        by_cases hf27 : (m20.1 10) = 0
        · skip
          replace h22 : (m9.1 10) = 0 := h22 hf27
          obtain ⟨c28, c29, c30⟩ := c23 hf27
          replace c28 : (m20.1 28) = (m.1 28) + 1 := c28
          replace c29 : EX (m20.2 65) (m20.2 67) B (m20.1 28) ((1 + lh (m.2 79) (m.2 80) (m.1 73)) + 1 - ar ((m.2 80) jj)) := c29
          have hEX := c29
          replace c30 : agr (m.2 65) (m20.2 65) (m.1 28) := c30
          have hAg := c30
          clear c23
          clear q12_10 q12_11 h22
          have hXE : XS (m20.2 65) (m20.2 67) (m.2 76) (m.2 78) (m.2 79) (upI (m.2 80) jj (-1)) B (m20.1 28) (m.1 73) (m.1 74) 1 := XS_of (XS_ws (x := -1) (U' := 1) hXS (by omega) (by omega) (by omega) (by rw [if_neg (by omega)]; have := cn1_0 (m.2 80) jj; omega)) hEX (by omega)
          refine T_ld 279 (.ref 189) rfl (fun _ => rfl) ?_
          refine T_ld 280 (.int (i32 v8)) rfl (fun _ => rfl) ?_
          refine T_ld 281 (.int (i32 ((m.2 82) jj))) rfl (fun _ => rfl) ?_
          refine T_call 284 250 [.ref 189, .int (i32 v8), .int (i32 ((m.2 82) jj))] [] rfl (fun _ => rfl) rfl (c_unit w (mO m [(10, (m20.1 10)), (11, (m20.1 11)), (28, (m20.1 28)), (69, (m.1 69)), (70, (m.1 70)), (71, (m.1 71)), (72, (m.1 72))] [(65, (m20.2 65)), (66, (m20.2 66)), (67, (m20.2 67)), (68, (m20.2 68)), (80, upI (m.2 80) jj (-1))]) c N D (by omega) (Ty_mO hT rfl rfl ⟨(hT21.1 10), (hT21.1 11), (hT21.1 28), f69, f70, f71, f72, trivial⟩ ⟨(hT21.2.1 65), (hT21.2.1 66), (hT21.2.1 67), (hT21.2.1 68), G17, trivial⟩) v8 ((m.2 82) jj) (r32 (by omega) (by omega)) (r32 (by omega) (by omega)) (show 0 ≤ v8 ∧ v8 ≤ 1024 by omega) (show 0 ≤ ((m.2 82) jj) ∧ ((m.2 82) jj) ≤ 4000 by omega)) (fun rr31 k32 => ?_)
          obtain ⟨m33, hT34, h35, rfl⟩ := k32
          refine ⟨_, _, rfl, ?_⟩
          refine T_nf2 (st' := []) (l' := [(10, (m20.1 10)), (11, (m20.1 11)), (28, (m20.1 28)), (69, (m33.1 69)), (70, (m33.1 70)), (71, (m33.1 71)), (72, (m33.1 72))]) (a' := [(65, (m20.2 65)), (66, (m20.2 66)), (67, (m20.2 67)), (68, (m20.2 68)), (80, upI (m.2 80) jj (-1))]) [69, 70, 71, 72] [] rfl ⟨rfl, rfl, rfl, rfl, rfl, rfl, rfl, rfl, rfl, rfl, rfl, rfl, rfl, rfl, rfl, rfl, rfl, trivial⟩ ⟨rfl, rfl, rfl, rfl, rfl, rfl, rfl, rfl, rfl, rfl, trivial⟩ rfl rfl (by decide) (by decide) ?_
          have g36 : 0 ≤ m33.1 69 ∧ m33.1 69 ≤ 1024 := hT34.1 69
          have g37 : 0 ≤ m33.1 70 ∧ m33.1 70 ≤ 4000 := hT34.1 70
          have g38 : 0 ≤ m33.1 71 ∧ m33.1 71 ≤ 1 := hT34.1 71
          have g39 : (-9223372036854775808) ≤ m33.1 72 ∧ m33.1 72 ≤ 9223372036854775807 := hT34.1 72
          replace h35 : (m33.1 69) = v8 := h35
          refine T_ret rfl (fun _ => rfl) ?_
          exact ⟨(mO m [(10, (m20.1 10)), (11, (m20.1 11)), (28, (m20.1 28)), (69, (m33.1 69)), (70, (m33.1 70)), (71, (m33.1 71)), (72, (m33.1 72))] [(65, (m20.2 65)), (66, (m20.2 66)), (67, (m20.2 67)), (68, (m20.2 68)), (80, upI (m.2 80) jj (-1))]), (Ty_mO hT rfl rfl ⟨(hT21.1 10), (hT21.1 11), (hT21.1 28), (hT34.1 69), (hT34.1 70), (hT34.1 71), (hT34.1 72), trivial⟩ ⟨(hT21.2.1 65), (hT21.2.1 66), (hT21.2.1 67), (hT21.2.1 68), G17, trivial⟩), (show (m20.1 10) = 0 → (m.1 10) = 0 by omega), (show (m33.1 69) ≤ (m.1 69) + 64 by omega), (fun _ => ⟨(show (m33.1 69) ≤ 64 by omega), (show (m20.1 28) = (m.1 28) + 1 by omega), (show XS (m20.2 65) (m20.2 67) (m.2 76) (m.2 78) (m.2 79) (upI (m.2 80) jj (-1)) B (m20.1 28) (m.1 73) (m.1 74) 1 by first | (exact hXE) | (exfalso; omega)), (show agr (m.2 65) (m20.2 65) (m.1 28) by first | (exact hAg) | (exfalso; omega)), (show (upI (m.2 80) jj (-1)) = upI (m.2 80) jj (-1) by rfl)⟩), rfl⟩
        · skip
          clear c23
          clear h22
          have hf40 : 1 ≤ (m20.1 10) := by omega
          clear q12_10 q12_11
          refine T_ld 279 (.ref 189) rfl (fun _ => rfl) ?_
          refine T_ld 280 (.int (i32 v8)) rfl (fun _ => rfl) ?_
          refine T_ld 281 (.int (i32 ((m.2 82) jj))) rfl (fun _ => rfl) ?_
          refine T_call 284 250 [.ref 189, .int (i32 v8), .int (i32 ((m.2 82) jj))] [] rfl (fun _ => rfl) rfl (c_unit w (mO m [(10, (m20.1 10)), (11, (m20.1 11)), (28, (m20.1 28)), (69, (m.1 69)), (70, (m.1 70)), (71, (m.1 71)), (72, (m.1 72))] [(65, (m20.2 65)), (66, (m20.2 66)), (67, (m20.2 67)), (68, (m20.2 68)), (80, upI (m.2 80) jj (-1))]) c N D (by omega) (Ty_mO hT rfl rfl ⟨(hT21.1 10), (hT21.1 11), (hT21.1 28), f69, f70, f71, f72, trivial⟩ ⟨(hT21.2.1 65), (hT21.2.1 66), (hT21.2.1 67), (hT21.2.1 68), G17, trivial⟩) v8 ((m.2 82) jj) (r32 (by omega) (by omega)) (r32 (by omega) (by omega)) (show 0 ≤ v8 ∧ v8 ≤ 1024 by omega) (show 0 ≤ ((m.2 82) jj) ∧ ((m.2 82) jj) ≤ 4000 by omega)) (fun rr41 k42 => ?_)
          obtain ⟨m43, hT44, h45, rfl⟩ := k42
          refine ⟨_, _, rfl, ?_⟩
          refine T_nf2 (st' := []) (l' := [(10, (m20.1 10)), (11, (m20.1 11)), (28, (m20.1 28)), (69, (m43.1 69)), (70, (m43.1 70)), (71, (m43.1 71)), (72, (m43.1 72))]) (a' := [(65, (m20.2 65)), (66, (m20.2 66)), (67, (m20.2 67)), (68, (m20.2 68)), (80, upI (m.2 80) jj (-1))]) [69, 70, 71, 72] [] rfl ⟨rfl, rfl, rfl, rfl, rfl, rfl, rfl, rfl, rfl, rfl, rfl, rfl, rfl, rfl, rfl, rfl, rfl, trivial⟩ ⟨rfl, rfl, rfl, rfl, rfl, rfl, rfl, rfl, rfl, rfl, trivial⟩ rfl rfl (by decide) (by decide) ?_
          have g46 : 0 ≤ m43.1 69 ∧ m43.1 69 ≤ 1024 := hT44.1 69
          have g47 : 0 ≤ m43.1 70 ∧ m43.1 70 ≤ 4000 := hT44.1 70
          have g48 : 0 ≤ m43.1 71 ∧ m43.1 71 ≤ 1 := hT44.1 71
          have g49 : (-9223372036854775808) ≤ m43.1 72 ∧ m43.1 72 ≤ 9223372036854775807 := hT44.1 72
          replace h45 : (m43.1 69) = v8 := h45
          refine T_ret rfl (fun _ => rfl) ?_
          exact ⟨(mO m [(10, (m20.1 10)), (11, (m20.1 11)), (28, (m20.1 28)), (69, (m43.1 69)), (70, (m43.1 70)), (71, (m43.1 71)), (72, (m43.1 72))] [(65, (m20.2 65)), (66, (m20.2 66)), (67, (m20.2 67)), (68, (m20.2 68)), (80, upI (m.2 80) jj (-1))]), (Ty_mO hT rfl rfl ⟨(hT21.1 10), (hT21.1 11), (hT21.1 28), (hT44.1 69), (hT44.1 70), (hT44.1 71), (hT44.1 72), trivial⟩ ⟨(hT21.2.1 65), (hT21.2.1 66), (hT21.2.1 67), (hT21.2.1 68), G17, trivial⟩), (show (m20.1 10) = 0 → (m.1 10) = 0 by omega), (show (m43.1 69) ≤ (m.1 69) + 64 by omega), (fun (h : (m20.1 10) = 0) => absurd h (by omega)), rfl⟩
      · skip
        clear c14
        have hf50 : 1 ≤ (m9.1 10) := by omega
        refine T_gf 265 (.ref 242) rfl rfl rfl rfl rfl rfl ?_
        refine T_ld 266 (.int (i32 jj)) rfl (fun _ => rfl) ?_
        refine T_ld 267 (.int (i32 (-1))) rfl (fun _ => rfl) ?_
        have G51 : ∀ j, (-1) ≤ (upI (m.2 80) jj (-1)) j ∧ (upI (m.2 80) jj (-1)) j ≤ 330 := upI_rg (hT.2.1 80) ⟨by omega, by omega⟩
        refine T_iast (a' := [(65, (m.2 65)), (66, (m.2 66)), (67, (m.2 67)), (68, (m.2 68)), (80, upI (m.2 80) jj (-1))]) 268 80 (m.2 80) rfl rfl rfl (by omega) (show jj < (540 : Int) by omega) rfl rfl ?_
        refine T_ld 269 (.ref 189) rfl (fun _ => rfl) ?_
        refine T_ld 271 (.int (i32 ((m.2 80) jj))) rfl (fun _ => rfl) ?_
        refine T_ld 272 (.int (i32 v8)) rfl (fun _ => rfl) ?_
        refine T_ld 274 (.int (i32 (m.1 69))) rfl (fun _ => rfl) ?_
        refine T_ld 275 (.long (i64 0)) rfl (fun _ => rfl) ?_
        refine T_call 278 248 [.ref 189, .int (i32 ((m.2 80) jj)), .int (i32 v8), .int (i32 (m.1 69)), .long (i64 0)] [] rfl (fun _ => rfl) rfl (c_node w (mO m [(10, (m9.1 10)), (11, (m9.1 11)), (28, (m.1 28)), (69, (m.1 69)), (70, (m.1 70)), (71, (m.1 71)), (72, (m.1 72))] [(65, (m.2 65)), (66, (m.2 66)), (67, (m.2 67)), (68, (m.2 68)), (80, upI (m.2 80) jj (-1))]) c N D (by omega) (Ty_mO hT rfl rfl ⟨(q12.1 10), (q12.1 11), f28, f69, f70, f71, f72, trivial⟩ ⟨(hT.2.1 65), (hT.2.1 66), (hT.2.1 67), (hT.2.1 68), G51, trivial⟩) ((m.2 80) jj) v8 (m.1 69) 0 B (1 + lh (m.2 79) (m.2 80) (m.1 73)) (r32 (by omega) (by omega)) (r32 (by omega) (by omega)) (r32 (by omega) (by omega)) ⟨by decide, by decide⟩ (fun (h : (m9.1 10) = 0) => absurd h (by omega))) (fun rr52 k53 => ?_)
        obtain ⟨m54, hT55, h56, c57, rfl⟩ := k53
        refine ⟨_, _, rfl, ?_⟩
        refine T_nf2 (st' := []) (l' := [(10, (m54.1 10)), (11, (m54.1 11)), (28, (m54.1 28)), (69, (m.1 69)), (70, (m.1 70)), (71, (m.1 71)), (72, (m.1 72))]) (a' := [(65, (m54.2 65)), (66, (m54.2 66)), (67, (m54.2 67)), (68, (m54.2 68)), (80, upI (m.2 80) jj (-1))]) [10, 11, 28] [65, 66, 67, 68] rfl ⟨rfl, rfl, rfl, rfl, rfl, rfl, rfl, rfl, rfl, rfl, rfl, rfl, rfl, rfl, trivial⟩ ⟨rfl, rfl, rfl, rfl, rfl, rfl, rfl, rfl, rfl, rfl, trivial⟩ rfl rfl (by decide) (by decide) ?_
        have g58 : 0 ≤ m54.1 10 ∧ m54.1 10 ≤ 8 := hT55.1 10
        have g59 : (-1) ≤ m54.1 11 ∧ m54.1 11 ≤ 4000 := hT55.1 11
        have g60 : 0 ≤ m54.1 28 ∧ m54.1 28 ≤ 800 := hT55.1 28
        replace h56 : (m54.1 10) = 0 → (m9.1 10) = 0 := h56
        have hf61 : 1 ≤ (m54.1 10) := by omega
        clear c57
        clear h56
        clear q12_10 q12_11 hf50
        refine T_ld 279 (.ref 189) rfl (fun _ => rfl) ?_
        refine T_ld 280 (.int (i32 v8)) rfl (fun _ => rfl) ?_
        refine T_ld 281 (.int (i32 ((m.2 82) jj))) rfl (fun _ => rfl) ?_
        refine T_call 284 250 [.ref 189, .int (i32 v8), .int (i32 ((m.2 82) jj))] [] rfl (fun _ => rfl) rfl (c_unit w (mO m [(10, (m54.1 10)), (11, (m54.1 11)), (28, (m54.1 28)), (69, (m.1 69)), (70, (m.1 70)), (71, (m.1 71)), (72, (m.1 72))] [(65, (m54.2 65)), (66, (m54.2 66)), (67, (m54.2 67)), (68, (m54.2 68)), (80, upI (m.2 80) jj (-1))]) c N D (by omega) (Ty_mO hT rfl rfl ⟨(hT55.1 10), (hT55.1 11), (hT55.1 28), f69, f70, f71, f72, trivial⟩ ⟨(hT55.2.1 65), (hT55.2.1 66), (hT55.2.1 67), (hT55.2.1 68), G51, trivial⟩) v8 ((m.2 82) jj) (r32 (by omega) (by omega)) (r32 (by omega) (by omega)) (show 0 ≤ v8 ∧ v8 ≤ 1024 by omega) (show 0 ≤ ((m.2 82) jj) ∧ ((m.2 82) jj) ≤ 4000 by omega)) (fun rr62 k63 => ?_)
        obtain ⟨m64, hT65, h66, rfl⟩ := k63
        refine ⟨_, _, rfl, ?_⟩
        refine T_nf2 (st' := []) (l' := [(10, (m54.1 10)), (11, (m54.1 11)), (28, (m54.1 28)), (69, (m64.1 69)), (70, (m64.1 70)), (71, (m64.1 71)), (72, (m64.1 72))]) (a' := [(65, (m54.2 65)), (66, (m54.2 66)), (67, (m54.2 67)), (68, (m54.2 68)), (80, upI (m.2 80) jj (-1))]) [69, 70, 71, 72] [] rfl ⟨rfl, rfl, rfl, rfl, rfl, rfl, rfl, rfl, rfl, rfl, rfl, rfl, rfl, rfl, rfl, rfl, rfl, trivial⟩ ⟨rfl, rfl, rfl, rfl, rfl, rfl, rfl, rfl, rfl, rfl, trivial⟩ rfl rfl (by decide) (by decide) ?_
        have g67 : 0 ≤ m64.1 69 ∧ m64.1 69 ≤ 1024 := hT65.1 69
        have g68 : 0 ≤ m64.1 70 ∧ m64.1 70 ≤ 4000 := hT65.1 70
        have g69 : 0 ≤ m64.1 71 ∧ m64.1 71 ≤ 1 := hT65.1 71
        have g70 : (-9223372036854775808) ≤ m64.1 72 ∧ m64.1 72 ≤ 9223372036854775807 := hT65.1 72
        replace h66 : (m64.1 69) = v8 := h66
        refine T_ret rfl (fun _ => rfl) ?_
        exact ⟨(mO m [(10, (m54.1 10)), (11, (m54.1 11)), (28, (m54.1 28)), (69, (m64.1 69)), (70, (m64.1 70)), (71, (m64.1 71)), (72, (m64.1 72))] [(65, (m54.2 65)), (66, (m54.2 66)), (67, (m54.2 67)), (68, (m54.2 68)), (80, upI (m.2 80) jj (-1))]), (Ty_mO hT rfl rfl ⟨(hT55.1 10), (hT55.1 11), (hT55.1 28), (hT65.1 69), (hT65.1 70), (hT65.1 71), (hT65.1 72), trivial⟩ ⟨(hT55.2.1 65), (hT55.2.1 66), (hT55.2.1 67), (hT55.2.1 68), G51, trivial⟩), (show (m54.1 10) = 0 → (m.1 10) = 0 by omega), (show (m64.1 69) ≤ (m.1 69) + 64 by omega), (fun (h : (m54.1 10) = 0) => absurd h (by omega)), rfl⟩
    refine T_gf 32 (.ref 242) rfl rfl rfl rfl rfl rfl ?_
    refine T_ld 33 (.int (i32 jj)) rfl (fun _ => rfl) ?_
    refine T_iald 34 80 (m.2 80) rfl rfl rfl (by omega) (show jj < (540 : Int) by omega) rfl ?_
    have e71 : (-1) ≤ (m.2 80) jj ∧ (m.2 80) jj ≤ 330 := (hT.2.1 80) jj
    refine T_call 37 259 [.int (i32 ((m.2 80) jj))] [] rfl (fun _ => rfl) rfl (c_level w (mO m [(10, (m.1 10)), (11, (m.1 11)), (28, (m.1 28)), (69, (m.1 69)), (70, (m.1 70)), (71, (m.1 71)), (72, (m.1 72))] [(65, (m.2 65)), (66, (m.2 66)), (67, (m.2 67)), (68, (m.2 68)), (80, (m.2 80))]) c N D (by omega) (Ty_mO hT rfl rfl ⟨f10, f11, f28, f69, f70, f71, f72, trivial⟩ ⟨(hT.2.1 65), (hT.2.1 66), (hT.2.1 67), (hT.2.1 68), (hT.2.1 80), trivial⟩) ((m.2 80) jj) (r32 (by omega) (by omega))) (fun rr72 k73 => ?_)
    obtain ⟨x74, g75, h76, rfl⟩ := k73
    refine ⟨_, _, rfl, ?_⟩
    refine T_nf2 (st' := [.int (i32 x74)]) (l' := [(10, (m.1 10)), (11, (m.1 11)), (28, (m.1 28)), (69, (m.1 69)), (70, (m.1 70)), (71, (m.1 71)), (72, (m.1 72))]) (a' := [(65, (m.2 65)), (66, (m.2 66)), (67, (m.2 67)), (68, (m.2 68)), (80, (m.2 80))]) [] [] rfl ⟨rfl, rfl, rfl, rfl, rfl, rfl, rfl, rfl, rfl, rfl, rfl, rfl, rfl, rfl, trivial⟩ ⟨rfl, rfl, rfl, rfl, rfl, rfl, rfl, rfl, rfl, rfl, trivial⟩ rfl rfl (by decide) (by decide) ?_
    obtain ⟨g75a, g75b⟩ := g75
    replace h76 : 0 ≤ x74 → 4 ≤ ((m.2 80) jj) ∧ ((m.2 80) jj) ≤ 124 := h76
    have T88_77 : (x74 = 0 ∨ x74 = 1) → TT w D pm_260 (88, [(5, .int (i32 (m.1 69))), (4, .int (i32 ((m.2 80) jj))), (3, .int (i32 ((m.2 82) jj))), (2, .int (i32 ((m.2 81) jj))), (0, .ref 189), (1, .int (i32 jj))], [], (mhp (mO m [(10, (m.1 10)), (11, (m.1 11)), (28, (m.1 28)), (69, (m.1 69)), (70, (m.1 70)), (71, (m.1 71)), (72, (m.1 72))] [(65, (m.2 65)), (66, (m.2 66)), (67, (m.2 67)), (68, (m.2 68)), (80, (m.2 80))]) c, N), 0, 0) (Q_join m c N jj B) := by
      intro ht78
      refine T_ld 89 (.ref 189) rfl (fun _ => rfl) ?_
      refine T_ld 90 (.int (i32 ((m.2 81) jj))) rfl (fun _ => rfl) ?_
      refine T_gf 94 (.ref 245) rfl rfl rfl rfl rfl rfl ?_
      refine T_ld 95 (.int (i32 jj)) rfl (fun _ => rfl) ?_
      refine T_bald 96 83 (m.2 83) rfl rfl rfl (by omega) (show jj < (540 : Int) by omega) rfl ?_
      have e79 : 0 ≤ m.2 83 jj ∧ m.2 83 jj ≤ 1 := hT.2.1 83 jj
      refine T_gf 100 (.ref 246) rfl rfl rfl rfl rfl rfl ?_
      refine T_ld 101 (.int (i32 jj)) rfl (fun _ => rfl) ?_
      refine T_lald 102 84 (m.2 84) rfl rfl rfl (by omega) (show jj < (540 : Int) by omega) rfl ?_
      have e80 : (-9223372036854775808) ≤ m.2 84 jj ∧ m.2 84 jj ≤ 9223372036854775807 := hT.2.1 84 jj
      refine T_ld 103 (.int (i32 ((m.2 82) jj))) rfl (fun _ => rfl) ?_
      refine T_call 106 258 [.ref 189, .int (i32 ((m.2 81) jj)), .int (i32 ((m.2 83) jj)), .long (i64 ((m.2 84) jj)), .int (i32 ((m.2 82) jj))] [] rfl (fun _ => rfl) rfl (c_wantBit w (mO m [(10, (m.1 10)), (11, (m.1 11)), (28, (m.1 28)), (69, (m.1 69)), (70, (m.1 70)), (71, (m.1 71)), (72, (m.1 72))] [(65, (m.2 65)), (66, (m.2 66)), (67, (m.2 67)), (68, (m.2 68)), (80, (m.2 80))]) c N D (by omega) (Ty_mO hT rfl rfl ⟨f10, f11, f28, f69, f70, f71, f72, trivial⟩ ⟨(hT.2.1 65), (hT.2.1 66), (hT.2.1 67), (hT.2.1 68), (hT.2.1 80), trivial⟩) ((m.2 81) jj) ((m.2 83) jj) ((m.2 84) jj) ((m.2 82) jj) (r32 (by omega) (by omega)) (r32 (by omega) (by omega)) (r64 (by omega) (by omega)) (r32 (by omega) (by omega)) (show 0 ≤ ((m.2 82) jj) ∧ ((m.2 82) jj) ≤ 4000 by omega) (fun _ => trivial)) (fun rr81 k82 => ?_)
      obtain ⟨m83, hT84, h85, c86, rfl⟩ := k82
      refine ⟨_, _, rfl, ?_⟩
      refine T_nf2 (st' := []) (l' := [(10, (m83.1 10)), (11, (m83.1 11)), (28, (m.1 28)), (69, (m.1 69)), (70, (m.1 70)), (71, (m.1 71)), (72, (m.1 72))]) (a' := [(65, (m.2 65)), (66, (m.2 66)), (67, (m.2 67)), (68, (m.2 68)), (80, (m.2 80))]) [10, 11] [] rfl ⟨rfl, rfl, rfl, rfl, rfl, rfl, rfl, rfl, rfl, rfl, rfl, rfl, rfl, rfl, trivial⟩ ⟨rfl, rfl, rfl, rfl, rfl, rfl, rfl, rfl, rfl, rfl, trivial⟩ rfl rfl (by decide) (by decide) ?_
      have g87 : 0 ≤ m83.1 10 ∧ m83.1 10 ≤ 8 := hT84.1 10
      have g88 : (-1) ≤ m83.1 11 ∧ m83.1 11 ≤ 4000 := hT84.1 11
      by_cases hf89 : (m83.1 10) = 0
      · skip
        replace h85 : (m.1 10) = 0 := h85 hf89
        clear c86
        clear g75a g75b h76
        refine T_ld 107 (.ref 189) rfl (fun _ => rfl) ?_
        refine T_gf 111 (.int (i32 (m.1 69))) rfl rfl rfl rfl rfl rfl ?_
        refine T_gf 115 (.int (i32 (m.1 71))) rfl rfl rfl rfl rfl rfl ?_
        refine T_gf 119 (.long (i64 (m.1 72))) rfl rfl rfl rfl rfl rfl ?_
        refine T_gf 123 (.int (i32 (m.1 70))) rfl rfl rfl rfl rfl rfl ?_
        refine T_call 126 258 [.ref 189, .int (i32 (m.1 69)), .int (i32 (m.1 71)), .long (i64 (m.1 72)), .int (i32 (m.1 70))] [] rfl (fun _ => rfl) rfl (c_wantBit w (mO m [(10, (m83.1 10)), (11, (m83.1 11)), (28, (m.1 28)), (69, (m.1 69)), (70, (m.1 70)), (71, (m.1 71)), (72, (m.1 72))] [(65, (m.2 65)), (66, (m.2 66)), (67, (m.2 67)), (68, (m.2 68)), (80, (m.2 80))]) c N D (by omega) (Ty_mO hT rfl rfl ⟨(hT84.1 10), (hT84.1 11), f28, f69, f70, f71, f72, trivial⟩ ⟨(hT.2.1 65), (hT.2.1 66), (hT.2.1 67), (hT.2.1 68), (hT.2.1 80), trivial⟩) (m.1 69) (m.1 71) (m.1 72) (m.1 70) (r32 (by omega) (by omega)) (r32 (by omega) (by omega)) (r64 (by omega) (by omega)) (r32 (by omega) (by omega)) (show 0 ≤ (m.1 70) ∧ (m.1 70) ≤ 4000 by omega) (fun _ => trivial)) (fun rr90 k91 => ?_)
        obtain ⟨m92, hT93, h94, c95, rfl⟩ := k91
        refine ⟨_, _, rfl, ?_⟩
        refine T_nf2 (st' := []) (l' := [(10, (m92.1 10)), (11, (m92.1 11)), (28, (m.1 28)), (69, (m.1 69)), (70, (m.1 70)), (71, (m.1 71)), (72, (m.1 72))]) (a' := [(65, (m.2 65)), (66, (m.2 66)), (67, (m.2 67)), (68, (m.2 68)), (80, (m.2 80))]) [10, 11] [] rfl ⟨rfl, rfl, rfl, rfl, rfl, rfl, rfl, rfl, rfl, rfl, rfl, rfl, rfl, rfl, trivial⟩ ⟨rfl, rfl, rfl, rfl, rfl, rfl, rfl, rfl, rfl, rfl, trivial⟩ rfl rfl (by decide) (by decide) ?_
        have g96 : 0 ≤ m92.1 10 ∧ m92.1 10 ≤ 8 := hT93.1 10
        have g97 : (-1) ≤ m92.1 11 ∧ m92.1 11 ≤ 4000 := hT93.1 11
        by_cases hf98 : (m92.1 10) = 0
        · skip
          replace h94 : (m83.1 10) = 0 := h94 hf98
          clear c95
          clear g87 g88 h94
          refine T_ld 127 (.int (i32 1)) rfl (fun _ => rfl) ?_
          refine T_sto 128 [(2, .int (i32 1)), (5, .int (i32 (m.1 69))), (4, .int (i32 ((m.2 80) jj))), (3, .int (i32 ((m.2 82) jj))), (0, .ref 189), (1, .int (i32 jj))] rfl (fun _ => rfl) ?_
          refine T_goto 261 rfl (fun _ => rfl) ?_
          refine Tm_lv (a := [(0, .ref 189), (1, .int (i32 jj)), (2, .int (i32 1)), (3, .int (i32 ((m.2 82) jj))), (4, .int (i32 ((m.2 80) jj))), (5, .int (i32 (m.1 69)))]) rfl rfl ⟨rfl, rfl, rfl, rfl, rfl, rfl, trivial⟩ ?_
          exact J261_10 1 (mO m [(10, (m92.1 10)), (11, (m92.1 11)), (28, (m.1 28)), (69, (m.1 69)), (70, (m.1 70)), (71, (m.1 71)), (72, (m.1 72))] [(65, (m.2 65)), (66, (m.2 66)), (67, (m.2 67)), (68, (m.2 68)), (80, (m.2 80))]) ⟨by decide, by decide⟩ (Ty_mO hT rfl rfl ⟨(hT93.1 10), (hT93.1 11), f28, f69, f70, f71, f72, trivial⟩ ⟨(hT.2.1 65), (hT.2.1 66), (hT.2.1 67), (hT.2.1 68), (hT.2.1 80), trivial⟩) (show 0 ≤ (1 : Int) ∧ (1 : Int) ≤ (m.1 69) + 64 by omega) (fun _ => (show (1 : Int) ≤ 64 by omega))
        · skip
          clear c95
          clear h94
          have hf99 : 1 ≤ (m92.1 10) := by omega
          clear g87 g88
          refine T_ld 127 (.int (i32 1)) rfl (fun _ => rfl) ?_
          refine T_sto 128 [(2, .int (i32 1)), (5, .int (i32 (m.1 69))), (4, .int (i32 ((m.2 80) jj))), (3, .int (i32 ((m.2 82) jj))), (0, .ref 189), (1, .int (i32 jj))] rfl (fun _ => rfl) ?_
          refine T_goto 261 rfl (fun _ => rfl) ?_
          refine Tm_lv (a := [(0, .ref 189), (1, .int (i32 jj)), (2, .int (i32 1)), (3, .int (i32 ((m.2 82) jj))), (4, .int (i32 ((m.2 80) jj))), (5, .int (i32 (m.1 69)))]) rfl rfl ⟨rfl, rfl, rfl, rfl, rfl, rfl, trivial⟩ ?_
          exact J261_10 1 (mO m [(10, (m92.1 10)), (11, (m92.1 11)), (28, (m.1 28)), (69, (m.1 69)), (70, (m.1 70)), (71, (m.1 71)), (72, (m.1 72))] [(65, (m.2 65)), (66, (m.2 66)), (67, (m.2 67)), (68, (m.2 68)), (80, (m.2 80))]) ⟨by decide, by decide⟩ (Ty_mO hT rfl rfl ⟨(hT93.1 10), (hT93.1 11), f28, f69, f70, f71, f72, trivial⟩ ⟨(hT.2.1 65), (hT.2.1 66), (hT.2.1 67), (hT.2.1 68), (hT.2.1 80), trivial⟩) (show 0 ≤ (1 : Int) ∧ (1 : Int) ≤ (m.1 69) + 64 by omega) (fun (h : (m92.1 10) = 0) => absurd h (by omega))
      · skip
        clear c86
        clear h85
        have hf100 : 1 ≤ (m83.1 10) := by omega
        clear g75a g75b h76
        refine T_ld 107 (.ref 189) rfl (fun _ => rfl) ?_
        refine T_gf 111 (.int (i32 (m.1 69))) rfl rfl rfl rfl rfl rfl ?_
        refine T_gf 115 (.int (i32 (m.1 71))) rfl rfl rfl rfl rfl rfl ?_
        refine T_gf 119 (.long (i64 (m.1 72))) rfl rfl rfl rfl rfl rfl ?_
        refine T_gf 123 (.int (i32 (m.1 70))) rfl rfl rfl rfl rfl rfl ?_
        refine T_call 126 258 [.ref 189, .int (i32 (m.1 69)), .int (i32 (m.1 71)), .long (i64 (m.1 72)), .int (i32 (m.1 70))] [] rfl (fun _ => rfl) rfl (c_wantBit w (mO m [(10, (m83.1 10)), (11, (m83.1 11)), (28, (m.1 28)), (69, (m.1 69)), (70, (m.1 70)), (71, (m.1 71)), (72, (m.1 72))] [(65, (m.2 65)), (66, (m.2 66)), (67, (m.2 67)), (68, (m.2 68)), (80, (m.2 80))]) c N D (by omega) (Ty_mO hT rfl rfl ⟨(hT84.1 10), (hT84.1 11), f28, f69, f70, f71, f72, trivial⟩ ⟨(hT.2.1 65), (hT.2.1 66), (hT.2.1 67), (hT.2.1 68), (hT.2.1 80), trivial⟩) (m.1 69) (m.1 71) (m.1 72) (m.1 70) (r32 (by omega) (by omega)) (r32 (by omega) (by omega)) (r64 (by omega) (by omega)) (r32 (by omega) (by omega)) (show 0 ≤ (m.1 70) ∧ (m.1 70) ≤ 4000 by omega) (fun (h : (m83.1 10) = 0) => absurd h (by omega))) (fun rr101 k102 => ?_)
        obtain ⟨m103, hT104, h105, c106, rfl⟩ := k102
        refine ⟨_, _, rfl, ?_⟩
        refine T_nf2 (st' := []) (l' := [(10, (m103.1 10)), (11, (m103.1 11)), (28, (m.1 28)), (69, (m.1 69)), (70, (m.1 70)), (71, (m.1 71)), (72, (m.1 72))]) (a' := [(65, (m.2 65)), (66, (m.2 66)), (67, (m.2 67)), (68, (m.2 68)), (80, (m.2 80))]) [10, 11] [] rfl ⟨rfl, rfl, rfl, rfl, rfl, rfl, rfl, rfl, rfl, rfl, rfl, rfl, rfl, rfl, trivial⟩ ⟨rfl, rfl, rfl, rfl, rfl, rfl, rfl, rfl, rfl, rfl, trivial⟩ rfl rfl (by decide) (by decide) ?_
        have g107 : 0 ≤ m103.1 10 ∧ m103.1 10 ≤ 8 := hT104.1 10
        have g108 : (-1) ≤ m103.1 11 ∧ m103.1 11 ≤ 4000 := hT104.1 11
        replace h105 : (m103.1 10) = 0 → (m83.1 10) = 0 := h105
        have hf109 : 1 ≤ (m103.1 10) := by omega
        clear c106
        clear h105
        clear g87 g88 hf100
        refine T_ld 127 (.int (i32 1)) rfl (fun _ => rfl) ?_
        refine T_sto 128 [(2, .int (i32 1)), (5, .int (i32 (m.1 69))), (4, .int (i32 ((m.2 80) jj))), (3, .int (i32 ((m.2 82) jj))), (0, .ref 189), (1, .int (i32 jj))] rfl (fun _ => rfl) ?_
        refine T_goto 261 rfl (fun _ => rfl) ?_
        refine Tm_lv (a := [(0, .ref 189), (1, .int (i32 jj)), (2, .int (i32 1)), (3, .int (i32 ((m.2 82) jj))), (4, .int (i32 ((m.2 80) jj))), (5, .int (i32 (m.1 69)))]) rfl rfl ⟨rfl, rfl, rfl, rfl, rfl, rfl, trivial⟩ ?_
        exact J261_10 1 (mO m [(10, (m103.1 10)), (11, (m103.1 11)), (28, (m.1 28)), (69, (m.1 69)), (70, (m.1 70)), (71, (m.1 71)), (72, (m.1 72))] [(65, (m.2 65)), (66, (m.2 66)), (67, (m.2 67)), (68, (m.2 68)), (80, (m.2 80))]) ⟨by decide, by decide⟩ (Ty_mO hT rfl rfl ⟨(hT104.1 10), (hT104.1 11), f28, f69, f70, f71, f72, trivial⟩ ⟨(hT.2.1 65), (hT.2.1 66), (hT.2.1 67), (hT.2.1 68), (hT.2.1 80), trivial⟩) (show 0 ≤ (1 : Int) ∧ (1 : Int) ≤ (m.1 69) + 64 by omega) (fun (h : (m103.1 10) = 0) => absurd h (by omega))
    have T207_110 : TT w D pm_260 (207, [(5, .int (i32 (m.1 69))), (4, .int (i32 ((m.2 80) jj))), (3, .int (i32 ((m.2 82) jj))), (2, .int (i32 ((m.2 81) jj))), (0, .ref 189), (1, .int (i32 jj))], [], (mhp (mO m [(10, (m.1 10)), (11, (m.1 11)), (28, (m.1 28)), (69, (m.1 69)), (70, (m.1 70)), (71, (m.1 71)), (72, (m.1 72))] [(65, (m.2 65)), (66, (m.2 66)), (67, (m.2 67)), (68, (m.2 68)), (80, (m.2 80))]) c, N), 0, 0) (Q_join m c N jj B) := by
      refine T_ld 208 (.ref 189) rfl (fun _ => rfl) ?_
      refine T_ld 209 (.int (i32 ((m.2 81) jj))) rfl (fun _ => rfl) ?_
      refine T_gf 213 (.ref 245) rfl rfl rfl rfl rfl rfl ?_
      refine T_ld 214 (.int (i32 jj)) rfl (fun _ => rfl) ?_
      refine T_bald 215 83 (m.2 83) rfl rfl rfl (by omega) (show jj < (540 : Int) by omega) rfl ?_
      have e112 : 0 ≤ m.2 83 jj ∧ m.2 83 jj ≤ 1 := hT.2.1 83 jj
      refine T_gf 219 (.ref 246) rfl rfl rfl rfl rfl rfl ?_
      refine T_ld 220 (.int (i32 jj)) rfl (fun _ => rfl) ?_
      refine T_lald 221 84 (m.2 84) rfl rfl rfl (by omega) (show jj < (540 : Int) by omega) rfl ?_
      have e113 : (-9223372036854775808) ≤ m.2 84 jj ∧ m.2 84 jj ≤ 9223372036854775807 := hT.2.1 84 jj
      refine T_ld 222 (.int (i32 ((m.2 82) jj))) rfl (fun _ => rfl) ?_
      refine T_gf 226 (.int (i32 (m.1 69))) rfl rfl rfl rfl rfl rfl ?_
      refine T_gf 230 (.int (i32 (m.1 71))) rfl rfl rfl rfl rfl rfl ?_
      refine T_gf 234 (.long (i64 (m.1 72))) rfl rfl rfl rfl rfl rfl ?_
      refine T_gf 238 (.int (i32 (m.1 70))) rfl rfl rfl rfl rfl rfl ?_
      refine T_call 241 261 [.ref 189, .int (i32 ((m.2 81) jj)), .int (i32 ((m.2 83) jj)), .long (i64 ((m.2 84) jj)), .int (i32 ((m.2 82) jj)), .int (i32 (m.1 69)), .int (i32 (m.1 71)), .long (i64 (m.1 72)), .int (i32 (m.1 70))] [] rfl (fun _ => rfl) rfl (c_common w (mO m [(10, (m.1 10)), (11, (m.1 11)), (28, (m.1 28)), (69, (m.1 69)), (70, (m.1 70)), (71, (m.1 71)), (72, (m.1 72))] [(65, (m.2 65)), (66, (m.2 66)), (67, (m.2 67)), (68, (m.2 68)), (80, (m.2 80))]) c N D (by omega) (Ty_mO hT rfl rfl ⟨f10, f11, f28, f69, f70, f71, f72, trivial⟩ ⟨(hT.2.1 65), (hT.2.1 66), (hT.2.1 67), (hT.2.1 68), (hT.2.1 80), trivial⟩) ((m.2 81) jj) ((m.2 83) jj) ((m.2 84) jj) ((m.2 82) jj) (m.1 69) (m.1 71) (m.1 72) (m.1 70) (r32 (by omega) (by omega)) (r32 (by omega) (by omega)) (r64 (by omega) (by omega)) (r32 (by omega) (by omega)) (r32 (by omega) (by omega)) (r32 (by omega) (by omega)) (r64 (by omega) (by omega)) (r32 (by omega) (by omega)) (show 0 ≤ ((m.2 82) jj) ∧ ((m.2 82) jj) ≤ 4000 by omega) (show 0 ≤ (m.1 70) ∧ (m.1 70) ≤ 4000 by omega) (show 0 ≤ ((m.2 81) jj) ∧ ((m.2 81) jj) ≤ 1024 by omega) (show 0 ≤ (m.1 69) ∧ (m.1 69) ≤ 1024 by omega) (fun _ => trivial)) (fun rr114 k115 => ?_)
      obtain ⟨m116, x118, hT117, g119, h120, h121, c122, rfl⟩ := k115
      refine ⟨_, _, rfl, ?_⟩
      refine T_nf2 (st' := [.int (i32 x118)]) (l' := [(10, (m116.1 10)), (11, (m116.1 11)), (28, (m.1 28)), (69, (m.1 69)), (70, (m.1 70)), (71, (m.1 71)), (72, (m.1 72))]) (a' := [(65, (m.2 65)), (66, (m.2 66)), (67, (m.2 67)), (68, (m.2 68)), (80, (m.2 80))]) [10, 11] [] rfl ⟨rfl, rfl, rfl, rfl, rfl, rfl, rfl, rfl, rfl, rfl, rfl, rfl, rfl, rfl, trivial⟩ ⟨rfl, rfl, rfl, rfl, rfl, rfl, rfl, rfl, rfl, rfl, trivial⟩ rfl rfl (by decide) (by decide) ?_
      obtain ⟨g119a, g119b⟩ := g119
      have g123 : 0 ≤ m116.1 10 ∧ m116.1 10 ≤ 8 := hT117.1 10
      have g124 : (-1) ≤ m116.1 11 ∧ m116.1 11 ≤ 4000 := hT117.1 11
      by_cases hf125 : (m116.1 10) = 0
      · skip
        replace h120 : (m.1 10) = 0 := h120 hf125
        replace h121 : x118 = 64 ∨ x118 = ((m.2 81) jj) ∨ x118 = (m.1 69) := h121
        clear c122
        clear g75a g75b h76
        refine T_sto 242 [(2, .int (i32 x118)), (5, .int (i32 (m.1 69))), (4, .int (i32 ((m.2 80) jj))), (3, .int (i32 ((m.2 82) jj))), (0, .ref 189), (1, .int (i32 jj))] rfl (fun _ => rfl) ?_
        refine T_gf 246 (.ref 242) rfl rfl rfl rfl rfl rfl ?_
        refine T_ld 247 (.int (i32 jj)) rfl (fun _ => rfl) ?_
        refine T_iald 248 80 (m.2 80) rfl rfl rfl (by omega) (show jj < (540 : Int) by omega) rfl ?_
        have e126 : (-1) ≤ (m.2 80) jj ∧ (m.2 80) jj ≤ 330 := (hT.2.1 80) jj
        refine T_call 251 259 [.int (i32 ((m.2 80) jj))] [] rfl (fun _ => rfl) rfl (c_level w (mO m [(10, (m116.1 10)), (11, (m116.1 11)), (28, (m.1 28)), (69, (m.1 69)), (70, (m.1 70)), (71, (m.1 71)), (72, (m.1 72))] [(65, (m.2 65)), (66, (m.2 66)), (67, (m.2 67)), (68, (m.2 68)), (80, (m.2 80))]) c N D (by omega) (Ty_mO hT rfl rfl ⟨(hT117.1 10), (hT117.1 11), f28, f69, f70, f71, f72, trivial⟩ ⟨(hT.2.1 65), (hT.2.1 66), (hT.2.1 67), (hT.2.1 68), (hT.2.1 80), trivial⟩) ((m.2 80) jj) (r32 (by omega) (by omega))) (fun rr127 k128 => ?_)
        obtain ⟨x129, g130, h131, rfl⟩ := k128
        refine ⟨_, _, rfl, ?_⟩
        refine T_nf2 (st' := [.int (i32 x129)]) (l' := [(10, (m116.1 10)), (11, (m116.1 11)), (28, (m.1 28)), (69, (m.1 69)), (70, (m.1 70)), (71, (m.1 71)), (72, (m.1 72))]) (a' := [(65, (m.2 65)), (66, (m.2 66)), (67, (m.2 67)), (68, (m.2 68)), (80, (m.2 80))]) [] [] rfl ⟨rfl, rfl, rfl, rfl, rfl, rfl, rfl, rfl, rfl, rfl, rfl, rfl, rfl, rfl, trivial⟩ ⟨rfl, rfl, rfl, rfl, rfl, rfl, rfl, rfl, rfl, rfl, trivial⟩ rfl rfl (by decide) (by decide) ?_
        obtain ⟨g130a, g130b⟩ := g130
        replace h131 : 0 ≤ x129 → 4 ≤ ((m.2 80) jj) ∧ ((m.2 80) jj) ≤ 124 := h131
        refine T_ld 252 (.int (i32 2)) rfl (fun _ => rfl) ?_
        refine T_icmp 259 255 rfl rfl rfl (r32 (by omega) (by omega)) ⟨by decide, by decide⟩ (fun (h132 : x129 ≠ 2) => ?_) (fun (h132 : ¬ (x129 ≠ 2)) => ?_)
        · skip
          refine T_ld 260 (.int (i32 x118)) rfl (fun _ => rfl) ?_
          refine T_sto 261 [(2, .int (i32 x118)), (5, .int (i32 (m.1 69))), (4, .int (i32 ((m.2 80) jj))), (3, .int (i32 ((m.2 82) jj))), (0, .ref 189), (1, .int (i32 jj))] rfl (fun _ => rfl) ?_
          refine Tm_lv (a := [(0, .ref 189), (1, .int (i32 jj)), (2, .int (i32 x118)), (3, .int (i32 ((m.2 82) jj))), (4, .int (i32 ((m.2 80) jj))), (5, .int (i32 (m.1 69)))]) rfl rfl ⟨rfl, rfl, rfl, rfl, rfl, rfl, trivial⟩ ?_
          exact J261_10 x118 (mO m [(10, (m116.1 10)), (11, (m116.1 11)), (28, (m.1 28)), (69, (m.1 69)), (70, (m.1 70)), (71, (m.1 71)), (72, (m.1 72))] [(65, (m.2 65)), (66, (m.2 66)), (67, (m.2 67)), (68, (m.2 68)), (80, (m.2 80))]) (r32 (by omega) (by omega)) (Ty_mO hT rfl rfl ⟨(hT117.1 10), (hT117.1 11), f28, f69, f70, f71, f72, trivial⟩ ⟨(hT.2.1 65), (hT.2.1 66), (hT.2.1 67), (hT.2.1 68), (hT.2.1 80), trivial⟩) (show 0 ≤ x118 ∧ x118 ≤ (m.1 69) + 64 by omega) (fun _ => (show x118 ≤ 64 by omega))
        · skip
          refine T_ld 256 (.int (i32 1)) rfl (fun _ => rfl) ?_
          refine T_goto 260 rfl (fun _ => rfl) ?_
          refine T_sto 261 [(2, .int (i32 1)), (5, .int (i32 (m.1 69))), (4, .int (i32 ((m.2 80) jj))), (3, .int (i32 ((m.2 82) jj))), (0, .ref 189), (1, .int (i32 jj))] rfl (fun _ => rfl) ?_
          refine Tm_lv (a := [(0, .ref 189), (1, .int (i32 jj)), (2, .int (i32 1)), (3, .int (i32 ((m.2 82) jj))), (4, .int (i32 ((m.2 80) jj))), (5, .int (i32 (m.1 69)))]) rfl rfl ⟨rfl, rfl, rfl, rfl, rfl, rfl, trivial⟩ ?_
          exact J261_10 1 (mO m [(10, (m116.1 10)), (11, (m116.1 11)), (28, (m.1 28)), (69, (m.1 69)), (70, (m.1 70)), (71, (m.1 71)), (72, (m.1 72))] [(65, (m.2 65)), (66, (m.2 66)), (67, (m.2 67)), (68, (m.2 68)), (80, (m.2 80))]) ⟨by decide, by decide⟩ (Ty_mO hT rfl rfl ⟨(hT117.1 10), (hT117.1 11), f28, f69, f70, f71, f72, trivial⟩ ⟨(hT.2.1 65), (hT.2.1 66), (hT.2.1 67), (hT.2.1 68), (hT.2.1 80), trivial⟩) (show 0 ≤ (1 : Int) ∧ (1 : Int) ≤ (m.1 69) + 64 by omega) (fun _ => (show (1 : Int) ≤ 64 by omega))
      · skip
        clear c122
        clear h120
        replace h121 : x118 = 64 ∨ x118 = ((m.2 81) jj) ∨ x118 = (m.1 69) := h121
        have hf133 : 1 ≤ (m116.1 10) := by omega
        clear g75a g75b h76
        refine T_sto 242 [(2, .int (i32 x118)), (5, .int (i32 (m.1 69))), (4, .int (i32 ((m.2 80) jj))), (3, .int (i32 ((m.2 82) jj))), (0, .ref 189), (1, .int (i32 jj))] rfl (fun _ => rfl) ?_
        refine T_gf 246 (.ref 242) rfl rfl rfl rfl rfl rfl ?_
        refine T_ld 247 (.int (i32 jj)) rfl (fun _ => rfl) ?_
        refine T_iald 248 80 (m.2 80) rfl rfl rfl (by omega) (show jj < (540 : Int) by omega) rfl ?_
        have e134 : (-1) ≤ (m.2 80) jj ∧ (m.2 80) jj ≤ 330 := (hT.2.1 80) jj
        refine T_call 251 259 [.int (i32 ((m.2 80) jj))] [] rfl (fun _ => rfl) rfl (c_level w (mO m [(10, (m116.1 10)), (11, (m116.1 11)), (28, (m.1 28)), (69, (m.1 69)), (70, (m.1 70)), (71, (m.1 71)), (72, (m.1 72))] [(65, (m.2 65)), (66, (m.2 66)), (67, (m.2 67)), (68, (m.2 68)), (80, (m.2 80))]) c N D (by omega) (Ty_mO hT rfl rfl ⟨(hT117.1 10), (hT117.1 11), f28, f69, f70, f71, f72, trivial⟩ ⟨(hT.2.1 65), (hT.2.1 66), (hT.2.1 67), (hT.2.1 68), (hT.2.1 80), trivial⟩) ((m.2 80) jj) (r32 (by omega) (by omega))) (fun rr135 k136 => ?_)
        obtain ⟨x137, g138, h139, rfl⟩ := k136
        refine ⟨_, _, rfl, ?_⟩
        refine T_nf2 (st' := [.int (i32 x137)]) (l' := [(10, (m116.1 10)), (11, (m116.1 11)), (28, (m.1 28)), (69, (m.1 69)), (70, (m.1 70)), (71, (m.1 71)), (72, (m.1 72))]) (a' := [(65, (m.2 65)), (66, (m.2 66)), (67, (m.2 67)), (68, (m.2 68)), (80, (m.2 80))]) [] [] rfl ⟨rfl, rfl, rfl, rfl, rfl, rfl, rfl, rfl, rfl, rfl, rfl, rfl, rfl, rfl, trivial⟩ ⟨rfl, rfl, rfl, rfl, rfl, rfl, rfl, rfl, rfl, rfl, trivial⟩ rfl rfl (by decide) (by decide) ?_
        obtain ⟨g138a, g138b⟩ := g138
        replace h139 : 0 ≤ x137 → 4 ≤ ((m.2 80) jj) ∧ ((m.2 80) jj) ≤ 124 := h139
        refine T_ld 252 (.int (i32 2)) rfl (fun _ => rfl) ?_
        refine T_icmp 259 255 rfl rfl rfl (r32 (by omega) (by omega)) ⟨by decide, by decide⟩ (fun (h140 : x137 ≠ 2) => ?_) (fun (h140 : ¬ (x137 ≠ 2)) => ?_)
        · skip
          refine T_ld 260 (.int (i32 x118)) rfl (fun _ => rfl) ?_
          refine T_sto 261 [(2, .int (i32 x118)), (5, .int (i32 (m.1 69))), (4, .int (i32 ((m.2 80) jj))), (3, .int (i32 ((m.2 82) jj))), (0, .ref 189), (1, .int (i32 jj))] rfl (fun _ => rfl) ?_
          refine Tm_lv (a := [(0, .ref 189), (1, .int (i32 jj)), (2, .int (i32 x118)), (3, .int (i32 ((m.2 82) jj))), (4, .int (i32 ((m.2 80) jj))), (5, .int (i32 (m.1 69)))]) rfl rfl ⟨rfl, rfl, rfl, rfl, rfl, rfl, trivial⟩ ?_
          exact J261_10 x118 (mO m [(10, (m116.1 10)), (11, (m116.1 11)), (28, (m.1 28)), (69, (m.1 69)), (70, (m.1 70)), (71, (m.1 71)), (72, (m.1 72))] [(65, (m.2 65)), (66, (m.2 66)), (67, (m.2 67)), (68, (m.2 68)), (80, (m.2 80))]) (r32 (by omega) (by omega)) (Ty_mO hT rfl rfl ⟨(hT117.1 10), (hT117.1 11), f28, f69, f70, f71, f72, trivial⟩ ⟨(hT.2.1 65), (hT.2.1 66), (hT.2.1 67), (hT.2.1 68), (hT.2.1 80), trivial⟩) (show 0 ≤ x118 ∧ x118 ≤ (m.1 69) + 64 by omega) (fun (h : (m116.1 10) = 0) => absurd h (by omega))
        · skip
          refine T_ld 256 (.int (i32 1)) rfl (fun _ => rfl) ?_
          refine T_goto 260 rfl (fun _ => rfl) ?_
          refine T_sto 261 [(2, .int (i32 1)), (5, .int (i32 (m.1 69))), (4, .int (i32 ((m.2 80) jj))), (3, .int (i32 ((m.2 82) jj))), (0, .ref 189), (1, .int (i32 jj))] rfl (fun _ => rfl) ?_
          refine Tm_lv (a := [(0, .ref 189), (1, .int (i32 jj)), (2, .int (i32 1)), (3, .int (i32 ((m.2 82) jj))), (4, .int (i32 ((m.2 80) jj))), (5, .int (i32 (m.1 69)))]) rfl rfl ⟨rfl, rfl, rfl, rfl, rfl, rfl, trivial⟩ ?_
          exact J261_10 1 (mO m [(10, (m116.1 10)), (11, (m116.1 11)), (28, (m.1 28)), (69, (m.1 69)), (70, (m.1 70)), (71, (m.1 71)), (72, (m.1 72))] [(65, (m.2 65)), (66, (m.2 66)), (67, (m.2 67)), (68, (m.2 68)), (80, (m.2 80))]) ⟨by decide, by decide⟩ (Ty_mO hT rfl rfl ⟨(hT117.1 10), (hT117.1 11), f28, f69, f70, f71, f72, trivial⟩ ⟨(hT.2.1 65), (hT.2.1 66), (hT.2.1 67), (hT.2.1 68), (hT.2.1 80), trivial⟩) (show 0 ≤ (1 : Int) ∧ (1 : Int) ≤ (m.1 69) + 64 by omega) (fun (h : (m116.1 10) = 0) => absurd h (by omega))
    by_cases h141 : x74 = 0
    · skip
      refine T_cast 0 h141 ?_
      refine T_pop 88 rfl (fun _ => rfl) ?_
      exact T88_77 (by omega)
    by_cases h142 : x74 = 1
    · skip
      refine T_cast 1 h142 ?_
      refine T_pop 88 rfl (fun _ => rfl) ?_
      exact T88_77 (by omega)
    by_cases h143 : x74 = 6
    · skip
      refine T_cast 6 h143 ?_
      refine T_pop 131 rfl (fun _ => rfl) ?_
      refine T_goto 261 rfl (fun _ => rfl) ?_
      refine Tm_lv (a := [(0, .ref 189), (1, .int (i32 jj)), (2, .int (i32 ((m.2 81) jj))), (3, .int (i32 ((m.2 82) jj))), (4, .int (i32 ((m.2 80) jj))), (5, .int (i32 (m.1 69)))]) rfl rfl ⟨rfl, rfl, rfl, rfl, rfl, rfl, trivial⟩ ?_
      exact J261_10 ((m.2 81) jj) (mO m [(10, (m.1 10)), (11, (m.1 11)), (28, (m.1 28)), (69, (m.1 69)), (70, (m.1 70)), (71, (m.1 71)), (72, (m.1 72))] [(65, (m.2 65)), (66, (m.2 66)), (67, (m.2 67)), (68, (m.2 68)), (80, (m.2 80))]) (r32 (by omega) (by omega)) (Ty_mO hT rfl rfl ⟨f10, f11, f28, f69, f70, f71, f72, trivial⟩ ⟨(hT.2.1 65), (hT.2.1 66), (hT.2.1 67), (hT.2.1 68), (hT.2.1 80), trivial⟩) (show 0 ≤ ((m.2 81) jj) ∧ ((m.2 81) jj) ≤ (m.1 69) + 64 by omega) (fun _ => (show ((m.2 81) jj) ≤ 64 by omega))
    by_cases h144 : x74 = 8
    · skip
      refine T_cast 8 h144 ?_
      refine T_pop 134 rfl (fun _ => rfl) ?_
      refine T_ld 135 (.ref 189) rfl (fun _ => rfl) ?_
      refine T_gf 139 (.ref 245) rfl rfl rfl rfl rfl rfl ?_
      refine T_ld 140 (.int (i32 jj)) rfl (fun _ => rfl) ?_
      refine T_bald 141 83 (m.2 83) rfl rfl rfl (by omega) (show jj < (540 : Int) by omega) rfl ?_
      have e145 : 0 ≤ m.2 83 jj ∧ m.2 83 jj ≤ 1 := hT.2.1 83 jj
      refine T_if 148 144 rfl rfl rfl (r32 (by omega) (by omega)) (fun (h146 : (m.2 83) jj ≠ 0) => ?_) (fun (h146 : ¬ ((m.2 83) jj ≠ 0)) => ?_)
      · skip
        refine T_ld 149 (.int (i32 0)) rfl (fun _ => rfl) ?_
        refine T_ld 150 (.int (i32 ((m.2 82) jj))) rfl (fun _ => rfl) ?_
        refine T_call 153 256 [.ref 189, .int (i32 0), .int (i32 ((m.2 82) jj))] [] rfl (fun _ => rfl) rfl (c_want w (mO m [(10, (m.1 10)), (11, (m.1 11)), (28, (m.1 28)), (69, (m.1 69)), (70, (m.1 70)), (71, (m.1 71)), (72, (m.1 72))] [(65, (m.2 65)), (66, (m.2 66)), (67, (m.2 67)), (68, (m.2 68)), (80, (m.2 80))]) c N D (by omega) (Ty_mO hT rfl rfl ⟨f10, f11, f28, f69, f70, f71, f72, trivial⟩ ⟨(hT.2.1 65), (hT.2.1 66), (hT.2.1 67), (hT.2.1 68), (hT.2.1 80), trivial⟩) 0 ((m.2 82) jj) ⟨by decide, by decide⟩ (r32 (by omega) (by omega)) (show 0 ≤ ((m.2 82) jj) ∧ ((m.2 82) jj) ≤ 4000 by omega) (fun _ => trivial)) (fun rr147 k148 => ?_)
        obtain ⟨m149, hT150, h151, c152, rfl⟩ := k148
        refine ⟨_, _, rfl, ?_⟩
        refine T_nf2 (st' := []) (l' := [(10, (m149.1 10)), (11, (m149.1 11)), (28, (m.1 28)), (69, (m.1 69)), (70, (m.1 70)), (71, (m.1 71)), (72, (m.1 72))]) (a' := [(65, (m.2 65)), (66, (m.2 66)), (67, (m.2 67)), (68, (m.2 68)), (80, (m.2 80))]) [10, 11] [] rfl ⟨rfl, rfl, rfl, rfl, rfl, rfl, rfl, rfl, rfl, rfl, rfl, rfl, rfl, rfl, trivial⟩ ⟨rfl, rfl, rfl, rfl, rfl, rfl, rfl, rfl, rfl, rfl, trivial⟩ rfl rfl (by decide) (by decide) ?_
        have g153 : 0 ≤ m149.1 10 ∧ m149.1 10 ≤ 8 := hT150.1 10
        have g154 : (-1) ≤ m149.1 11 ∧ m149.1 11 ≤ 4000 := hT150.1 11
        by_cases hf155 : (m149.1 10) = 0
        · skip
          replace h151 : (m.1 10) = 0 := h151 hf155
          have c156 := c152 hf155
          replace c156 : (0 : Int) ≠ 0 := c156
          clear c152
          clear g75a g75b h76
          refine T_ld 154 (.ref 189) rfl (fun _ => rfl) ?_
          refine T_gf 158 (.int (i32 (m.1 71))) rfl rfl rfl rfl rfl rfl ?_
          refine T_if 165 161 rfl rfl rfl (r32 (by omega) (by omega)) (fun (h157 : (m.1 71) ≠ 0) => ?_) (fun (h157 : ¬ ((m.1 71) ≠ 0)) => ?_)
          · skip
            refine T_ld 166 (.int (i32 0)) rfl (fun _ => rfl) ?_
            refine T_gf 170 (.int (i32 (m.1 70))) rfl rfl rfl rfl rfl rfl ?_
            refine T_call 173 256 [.ref 189, .int (i32 0), .int (i32 (m.1 70))] [] rfl (fun _ => rfl) rfl (c_want w (mO m [(10, (m149.1 10)), (11, (m149.1 11)), (28, (m.1 28)), (69, (m.1 69)), (70, (m.1 70)), (71, (m.1 71)), (72, (m.1 72))] [(65, (m.2 65)), (66, (m.2 66)), (67, (m.2 67)), (68, (m.2 68)), (80, (m.2 80))]) c N D (by omega) (Ty_mO hT rfl rfl ⟨(hT150.1 10), (hT150.1 11), f28, f69, f70, f71, f72, trivial⟩ ⟨(hT.2.1 65), (hT.2.1 66), (hT.2.1 67), (hT.2.1 68), (hT.2.1 80), trivial⟩) 0 (m.1 70) ⟨by decide, by decide⟩ (r32 (by omega) (by omega)) (show 0 ≤ (m.1 70) ∧ (m.1 70) ≤ 4000 by omega) (fun _ => trivial)) (fun rr158 k159 => ?_)
            obtain ⟨m160, hT161, h162, c163, rfl⟩ := k159
            refine ⟨_, _, rfl, ?_⟩
            refine T_nf2 (st' := []) (l' := [(10, (m160.1 10)), (11, (m160.1 11)), (28, (m.1 28)), (69, (m.1 69)), (70, (m.1 70)), (71, (m.1 71)), (72, (m.1 72))]) (a' := [(65, (m.2 65)), (66, (m.2 66)), (67, (m.2 67)), (68, (m.2 68)), (80, (m.2 80))]) [10, 11] [] rfl ⟨rfl, rfl, rfl, rfl, rfl, rfl, rfl, rfl, rfl, rfl, rfl, rfl, rfl, rfl, trivial⟩ ⟨rfl, rfl, rfl, rfl, rfl, rfl, rfl, rfl, rfl, rfl, trivial⟩ rfl rfl (by decide) (by decide) ?_
            have g164 : 0 ≤ m160.1 10 ∧ m160.1 10 ≤ 8 := hT161.1 10
            have g165 : (-1) ≤ m160.1 11 ∧ m160.1 11 ≤ 4000 := hT161.1 11
            by_cases hf166 : (m160.1 10) = 0
            · skip
              replace h162 : (m149.1 10) = 0 := h162 hf166
              have c167 := c163 hf166
              replace c167 : (0 : Int) ≠ 0 := c167
              clear c163
              clear g153 g154 h162
              refine T_ld 174 (.ref 189) rfl (fun _ => rfl) ?_
              refine T_ld 175 (.int (i32 ((m.2 81) jj))) rfl (fun _ => rfl) ?_
              refine T_gf 179 (.int (i32 (m.1 69))) rfl rfl rfl rfl rfl rfl ?_
              refine T_iadd 180 rfl rfl ?_
              refine T_ld 182 (.int (i32 64)) rfl (fun _ => rfl) ?_
              refine T_icmp 189 185 rfl rfl rfl (r32 (by omega) (by omega)) ⟨by decide, by decide⟩ (fun (h168 : (64 : Int) < ((m.2 81) jj) + (m.1 69)) => ?_) (fun (h168 : ¬ ((64 : Int) < ((m.2 81) jj) + (m.1 69))) => ?_)
              · skip
                refine T_ld 190 (.int (i32 0)) rfl (fun _ => rfl) ?_
                refine T_gf 194 (.int (i32 (m.1 70))) rfl rfl rfl rfl rfl rfl ?_
                refine T_call 197 256 [.ref 189, .int (i32 0), .int (i32 (m.1 70))] [] rfl (fun _ => rfl) rfl (c_want w (mO m [(10, (m160.1 10)), (11, (m160.1 11)), (28, (m.1 28)), (69, (m.1 69)), (70, (m.1 70)), (71, (m.1 71)), (72, (m.1 72))] [(65, (m.2 65)), (66, (m.2 66)), (67, (m.2 67)), (68, (m.2 68)), (80, (m.2 80))]) c N D (by omega) (Ty_mO hT rfl rfl ⟨(hT161.1 10), (hT161.1 11), f28, f69, f70, f71, f72, trivial⟩ ⟨(hT.2.1 65), (hT.2.1 66), (hT.2.1 67), (hT.2.1 68), (hT.2.1 80), trivial⟩) 0 (m.1 70) ⟨by decide, by decide⟩ (r32 (by omega) (by omega)) (show 0 ≤ (m.1 70) ∧ (m.1 70) ≤ 4000 by omega) (fun _ => trivial)) (fun rr169 k170 => ?_)
                obtain ⟨m171, hT172, h173, c174, rfl⟩ := k170
                refine ⟨_, _, rfl, ?_⟩
                refine T_nf2 (st' := []) (l' := [(10, (m171.1 10)), (11, (m171.1 11)), (28, (m.1 28)), (69, (m.1 69)), (70, (m.1 70)), (71, (m.1 71)), (72, (m.1 72))]) (a' := [(65, (m.2 65)), (66, (m.2 66)), (67, (m.2 67)), (68, (m.2 68)), (80, (m.2 80))]) [10, 11] [] rfl ⟨rfl, rfl, rfl, rfl, rfl, rfl, rfl, rfl, rfl, rfl, rfl, rfl, rfl, rfl, trivial⟩ ⟨rfl, rfl, rfl, rfl, rfl, rfl, rfl, rfl, rfl, rfl, trivial⟩ rfl rfl (by decide) (by decide) ?_
                have g175 : 0 ≤ m171.1 10 ∧ m171.1 10 ≤ 8 := hT172.1 10
                have g176 : (-1) ≤ m171.1 11 ∧ m171.1 11 ≤ 4000 := hT172.1 11
                by_cases hf177 : (m171.1 10) = 0
                · skip
                  replace h173 : (m160.1 10) = 0 := h173 hf177
                  have c178 := c174 hf177
                  replace c178 : (0 : Int) ≠ 0 := c178
                  clear c174
                  clear g164 g165 h173
                  refine T_ld 198 (.int (i32 ((m.2 81) jj))) rfl (fun _ => rfl) ?_
                  refine T_gf 202 (.int (i32 (m.1 69))) rfl rfl rfl rfl rfl rfl ?_
                  refine T_iadd 203 rfl rfl ?_
                  refine T_sto 204 [(2, .int (i32 (((m.2 81) jj) + (m.1 69)))), (5, .int (i32 (m.1 69))), (4, .int (i32 ((m.2 80) jj))), (3, .int (i32 ((m.2 82) jj))), (0, .ref 189), (1, .int (i32 jj))] rfl (fun _ => rfl) ?_
                  refine T_goto 261 rfl (fun _ => rfl) ?_
                  refine Tm_lv (a := [(0, .ref 189), (1, .int (i32 jj)), (2, .int (i32 (((m.2 81) jj) + (m.1 69)))), (3, .int (i32 ((m.2 82) jj))), (4, .int (i32 ((m.2 80) jj))), (5, .int (i32 (m.1 69)))]) rfl rfl ⟨rfl, rfl, rfl, rfl, rfl, rfl, trivial⟩ ?_
                  exact J261_10 (((m.2 81) jj) + (m.1 69)) (mO m [(10, (m171.1 10)), (11, (m171.1 11)), (28, (m.1 28)), (69, (m.1 69)), (70, (m.1 70)), (71, (m.1 71)), (72, (m.1 72))] [(65, (m.2 65)), (66, (m.2 66)), (67, (m.2 67)), (68, (m.2 68)), (80, (m.2 80))]) (r32 (by omega) (by omega)) (Ty_mO hT rfl rfl ⟨(hT172.1 10), (hT172.1 11), f28, f69, f70, f71, f72, trivial⟩ ⟨(hT.2.1 65), (hT.2.1 66), (hT.2.1 67), (hT.2.1 68), (hT.2.1 80), trivial⟩) (show 0 ≤ (((m.2 81) jj) + (m.1 69)) ∧ (((m.2 81) jj) + (m.1 69)) ≤ (m.1 69) + 64 by omega) (fun _ => (show (((m.2 81) jj) + (m.1 69)) ≤ 64 by omega))
                · skip
                  clear c174
                  clear h173
                  have hf179 : 1 ≤ (m171.1 10) := by omega
                  clear g164 g165
                  refine T_ld 198 (.int (i32 ((m.2 81) jj))) rfl (fun _ => rfl) ?_
                  refine T_gf 202 (.int (i32 (m.1 69))) rfl rfl rfl rfl rfl rfl ?_
                  refine T_iadd 203 rfl rfl ?_
                  refine T_sto 204 [(2, .int (i32 (((m.2 81) jj) + (m.1 69)))), (5, .int (i32 (m.1 69))), (4, .int (i32 ((m.2 80) jj))), (3, .int (i32 ((m.2 82) jj))), (0, .ref 189), (1, .int (i32 jj))] rfl (fun _ => rfl) ?_
                  refine T_goto 261 rfl (fun _ => rfl) ?_
                  refine Tm_lv (a := [(0, .ref 189), (1, .int (i32 jj)), (2, .int (i32 (((m.2 81) jj) + (m.1 69)))), (3, .int (i32 ((m.2 82) jj))), (4, .int (i32 ((m.2 80) jj))), (5, .int (i32 (m.1 69)))]) rfl rfl ⟨rfl, rfl, rfl, rfl, rfl, rfl, trivial⟩ ?_
                  exact J261_10 (((m.2 81) jj) + (m.1 69)) (mO m [(10, (m171.1 10)), (11, (m171.1 11)), (28, (m.1 28)), (69, (m.1 69)), (70, (m.1 70)), (71, (m.1 71)), (72, (m.1 72))] [(65, (m.2 65)), (66, (m.2 66)), (67, (m.2 67)), (68, (m.2 68)), (80, (m.2 80))]) (r32 (by omega) (by omega)) (Ty_mO hT rfl rfl ⟨(hT172.1 10), (hT172.1 11), f28, f69, f70, f71, f72, trivial⟩ ⟨(hT.2.1 65), (hT.2.1 66), (hT.2.1 67), (hT.2.1 68), (hT.2.1 80), trivial⟩) (show 0 ≤ (((m.2 81) jj) + (m.1 69)) ∧ (((m.2 81) jj) + (m.1 69)) ≤ (m.1 69) + 64 by omega) (fun (h : (m171.1 10) = 0) => absurd h (by omega))
              · skip
                refine T_ld 186 (.int (i32 1)) rfl (fun _ => rfl) ?_
                refine T_goto 190 rfl (fun _ => rfl) ?_
                refine T_gf 194 (.int (i32 (m.1 70))) rfl rfl rfl rfl rfl rfl ?_
                refine T_call 197 256 [.ref 189, .int (i32 1), .int (i32 (m.1 70))] [] rfl (fun _ => rfl) rfl (c_want w (mO m [(10, (m160.1 10)), (11, (m160.1 11)), (28, (m.1 28)), (69, (m.1 69)), (70, (m.1 70)), (71, (m.1 71)), (72, (m.1 72))] [(65, (m.2 65)), (66, (m.2 66)), (67, (m.2 67)), (68, (m.2 68)), (80, (m.2 80))]) c N D (by omega) (Ty_mO hT rfl rfl ⟨(hT161.1 10), (hT161.1 11), f28, f69, f70, f71, f72, trivial⟩ ⟨(hT.2.1 65), (hT.2.1 66), (hT.2.1 67), (hT.2.1 68), (hT.2.1 80), trivial⟩) 1 (m.1 70) ⟨by decide, by decide⟩ (r32 (by omega) (by omega)) (show 0 ≤ (m.1 70) ∧ (m.1 70) ≤ 4000 by omega) (fun _ => trivial)) (fun rr180 k181 => ?_)
                obtain ⟨m182, hT183, h184, c185, rfl⟩ := k181
                refine ⟨_, _, rfl, ?_⟩
                refine T_nf2 (st' := []) (l' := [(10, (m182.1 10)), (11, (m182.1 11)), (28, (m.1 28)), (69, (m.1 69)), (70, (m.1 70)), (71, (m.1 71)), (72, (m.1 72))]) (a' := [(65, (m.2 65)), (66, (m.2 66)), (67, (m.2 67)), (68, (m.2 68)), (80, (m.2 80))]) [10, 11] [] rfl ⟨rfl, rfl, rfl, rfl, rfl, rfl, rfl, rfl, rfl, rfl, rfl, rfl, rfl, rfl, trivial⟩ ⟨rfl, rfl, rfl, rfl, rfl, rfl, rfl, rfl, rfl, rfl, trivial⟩ rfl rfl (by decide) (by decide) ?_
                have g186 : 0 ≤ m182.1 10 ∧ m182.1 10 ≤ 8 := hT183.1 10
                have g187 : (-1) ≤ m182.1 11 ∧ m182.1 11 ≤ 4000 := hT183.1 11
                by_cases hf188 : (m182.1 10) = 0
                · skip
                  replace h184 : (m160.1 10) = 0 := h184 hf188
                  have c189 := c185 hf188
                  replace c189 : (1 : Int) ≠ 0 := c189
                  clear c185
                  clear g164 g165 h184
                  refine T_ld 198 (.int (i32 ((m.2 81) jj))) rfl (fun _ => rfl) ?_
                  refine T_gf 202 (.int (i32 (m.1 69))) rfl rfl rfl rfl rfl rfl ?_
                  refine T_iadd 203 rfl rfl ?_
                  refine T_sto 204 [(2, .int (i32 (((m.2 81) jj) + (m.1 69)))), (5, .int (i32 (m.1 69))), (4, .int (i32 ((m.2 80) jj))), (3, .int (i32 ((m.2 82) jj))), (0, .ref 189), (1, .int (i32 jj))] rfl (fun _ => rfl) ?_
                  refine T_goto 261 rfl (fun _ => rfl) ?_
                  refine Tm_lv (a := [(0, .ref 189), (1, .int (i32 jj)), (2, .int (i32 (((m.2 81) jj) + (m.1 69)))), (3, .int (i32 ((m.2 82) jj))), (4, .int (i32 ((m.2 80) jj))), (5, .int (i32 (m.1 69)))]) rfl rfl ⟨rfl, rfl, rfl, rfl, rfl, rfl, trivial⟩ ?_
                  exact J261_10 (((m.2 81) jj) + (m.1 69)) (mO m [(10, (m182.1 10)), (11, (m182.1 11)), (28, (m.1 28)), (69, (m.1 69)), (70, (m.1 70)), (71, (m.1 71)), (72, (m.1 72))] [(65, (m.2 65)), (66, (m.2 66)), (67, (m.2 67)), (68, (m.2 68)), (80, (m.2 80))]) (r32 (by omega) (by omega)) (Ty_mO hT rfl rfl ⟨(hT183.1 10), (hT183.1 11), f28, f69, f70, f71, f72, trivial⟩ ⟨(hT.2.1 65), (hT.2.1 66), (hT.2.1 67), (hT.2.1 68), (hT.2.1 80), trivial⟩) (show 0 ≤ (((m.2 81) jj) + (m.1 69)) ∧ (((m.2 81) jj) + (m.1 69)) ≤ (m.1 69) + 64 by omega) (fun _ => (show (((m.2 81) jj) + (m.1 69)) ≤ 64 by omega))
                · skip
                  clear c185
                  clear h184
                  have hf190 : 1 ≤ (m182.1 10) := by omega
                  clear g164 g165
                  refine T_ld 198 (.int (i32 ((m.2 81) jj))) rfl (fun _ => rfl) ?_
                  refine T_gf 202 (.int (i32 (m.1 69))) rfl rfl rfl rfl rfl rfl ?_
                  refine T_iadd 203 rfl rfl ?_
                  refine T_sto 204 [(2, .int (i32 (((m.2 81) jj) + (m.1 69)))), (5, .int (i32 (m.1 69))), (4, .int (i32 ((m.2 80) jj))), (3, .int (i32 ((m.2 82) jj))), (0, .ref 189), (1, .int (i32 jj))] rfl (fun _ => rfl) ?_
                  refine T_goto 261 rfl (fun _ => rfl) ?_
                  refine Tm_lv (a := [(0, .ref 189), (1, .int (i32 jj)), (2, .int (i32 (((m.2 81) jj) + (m.1 69)))), (3, .int (i32 ((m.2 82) jj))), (4, .int (i32 ((m.2 80) jj))), (5, .int (i32 (m.1 69)))]) rfl rfl ⟨rfl, rfl, rfl, rfl, rfl, rfl, trivial⟩ ?_
                  exact J261_10 (((m.2 81) jj) + (m.1 69)) (mO m [(10, (m182.1 10)), (11, (m182.1 11)), (28, (m.1 28)), (69, (m.1 69)), (70, (m.1 70)), (71, (m.1 71)), (72, (m.1 72))] [(65, (m.2 65)), (66, (m.2 66)), (67, (m.2 67)), (68, (m.2 68)), (80, (m.2 80))]) (r32 (by omega) (by omega)) (Ty_mO hT rfl rfl ⟨(hT183.1 10), (hT183.1 11), f28, f69, f70, f71, f72, trivial⟩ ⟨(hT.2.1 65), (hT.2.1 66), (hT.2.1 67), (hT.2.1 68), (hT.2.1 80), trivial⟩) (show 0 ≤ (((m.2 81) jj) + (m.1 69)) ∧ (((m.2 81) jj) + (m.1 69)) ≤ (m.1 69) + 64 by omega) (fun (h : (m182.1 10) = 0) => absurd h (by omega))
            · skip
              clear c163
              clear h162
              have hf191 : 1 ≤ (m160.1 10) := by omega
              clear g153 g154
              refine T_ld 174 (.ref 189) rfl (fun _ => rfl) ?_
              refine T_ld 175 (.int (i32 ((m.2 81) jj))) rfl (fun _ => rfl) ?_
              refine T_gf 179 (.int (i32 (m.1 69))) rfl rfl rfl rfl rfl rfl ?_
              refine T_iadd 180 rfl rfl ?_
              refine T_ld 182 (.int (i32 64)) rfl (fun _ => rfl) ?_
              refine T_icmp 189 185 rfl rfl rfl (r32 (by omega) (by omega)) ⟨by decide, by decide⟩ (fun (h192 : (64 : Int) < ((m.2 81) jj) + (m.1 69)) => ?_) (fun (h192 : ¬ ((64 : Int) < ((m.2 81) jj) + (m.1 69))) => ?_)
              · skip
                refine T_ld 190 (.int (i32 0)) rfl (fun _ => rfl) ?_
                refine T_gf 194 (.int (i32 (m.1 70))) rfl rfl rfl rfl rfl rfl ?_
                refine T_call 197 256 [.ref 189, .int (i32 0), .int (i32 (m.1 70))] [] rfl (fun _ => rfl) rfl (c_want w (mO m [(10, (m160.1 10)), (11, (m160.1 11)), (28, (m.1 28)), (69, (m.1 69)), (70, (m.1 70)), (71, (m.1 71)), (72, (m.1 72))] [(65, (m.2 65)), (66, (m.2 66)), (67, (m.2 67)), (68, (m.2 68)), (80, (m.2 80))]) c N D (by omega) (Ty_mO hT rfl rfl ⟨(hT161.1 10), (hT161.1 11), f28, f69, f70, f71, f72, trivial⟩ ⟨(hT.2.1 65), (hT.2.1 66), (hT.2.1 67), (hT.2.1 68), (hT.2.1 80), trivial⟩) 0 (m.1 70) ⟨by decide, by decide⟩ (r32 (by omega) (by omega)) (show 0 ≤ (m.1 70) ∧ (m.1 70) ≤ 4000 by omega) (fun (h : (m160.1 10) = 0) => absurd h (by omega))) (fun rr193 k194 => ?_)
                obtain ⟨m195, hT196, h197, c198, rfl⟩ := k194
                refine ⟨_, _, rfl, ?_⟩
                refine T_nf2 (st' := []) (l' := [(10, (m195.1 10)), (11, (m195.1 11)), (28, (m.1 28)), (69, (m.1 69)), (70, (m.1 70)), (71, (m.1 71)), (72, (m.1 72))]) (a' := [(65, (m.2 65)), (66, (m.2 66)), (67, (m.2 67)), (68, (m.2 68)), (80, (m.2 80))]) [10, 11] [] rfl ⟨rfl, rfl, rfl, rfl, rfl, rfl, rfl, rfl, rfl, rfl, rfl, rfl, rfl, rfl, trivial⟩ ⟨rfl, rfl, rfl, rfl, rfl, rfl, rfl, rfl, rfl, rfl, trivial⟩ rfl rfl (by decide) (by decide) ?_
                have g199 : 0 ≤ m195.1 10 ∧ m195.1 10 ≤ 8 := hT196.1 10
                have g200 : (-1) ≤ m195.1 11 ∧ m195.1 11 ≤ 4000 := hT196.1 11
                replace h197 : (m195.1 10) = 0 → (m160.1 10) = 0 := h197
                have hf201 : 1 ≤ (m195.1 10) := by omega
                clear c198
                clear h197
                clear g164 g165 hf191
                refine T_ld 198 (.int (i32 ((m.2 81) jj))) rfl (fun _ => rfl) ?_
                refine T_gf 202 (.int (i32 (m.1 69))) rfl rfl rfl rfl rfl rfl ?_
                refine T_iadd 203 rfl rfl ?_
                refine T_sto 204 [(2, .int (i32 (((m.2 81) jj) + (m.1 69)))), (5, .int (i32 (m.1 69))), (4, .int (i32 ((m.2 80) jj))), (3, .int (i32 ((m.2 82) jj))), (0, .ref 189), (1, .int (i32 jj))] rfl (fun _ => rfl) ?_
                refine T_goto 261 rfl (fun _ => rfl) ?_
                refine Tm_lv (a := [(0, .ref 189), (1, .int (i32 jj)), (2, .int (i32 (((m.2 81) jj) + (m.1 69)))), (3, .int (i32 ((m.2 82) jj))), (4, .int (i32 ((m.2 80) jj))), (5, .int (i32 (m.1 69)))]) rfl rfl ⟨rfl, rfl, rfl, rfl, rfl, rfl, trivial⟩ ?_
                exact J261_10 (((m.2 81) jj) + (m.1 69)) (mO m [(10, (m195.1 10)), (11, (m195.1 11)), (28, (m.1 28)), (69, (m.1 69)), (70, (m.1 70)), (71, (m.1 71)), (72, (m.1 72))] [(65, (m.2 65)), (66, (m.2 66)), (67, (m.2 67)), (68, (m.2 68)), (80, (m.2 80))]) (r32 (by omega) (by omega)) (Ty_mO hT rfl rfl ⟨(hT196.1 10), (hT196.1 11), f28, f69, f70, f71, f72, trivial⟩ ⟨(hT.2.1 65), (hT.2.1 66), (hT.2.1 67), (hT.2.1 68), (hT.2.1 80), trivial⟩) (show 0 ≤ (((m.2 81) jj) + (m.1 69)) ∧ (((m.2 81) jj) + (m.1 69)) ≤ (m.1 69) + 64 by omega) (fun (h : (m195.1 10) = 0) => absurd h (by omega))
              · skip
                refine T_ld 186 (.int (i32 1)) rfl (fun _ => rfl) ?_
                refine T_goto 190 rfl (fun _ => rfl) ?_
                refine T_gf 194 (.int (i32 (m.1 70))) rfl rfl rfl rfl rfl rfl ?_
                refine T_call 197 256 [.ref 189, .int (i32 1), .int (i32 (m.1 70))] [] rfl (fun _ => rfl) rfl (c_want w (mO m [(10, (m160.1 10)), (11, (m160.1 11)), (28, (m.1 28)), (69, (m.1 69)), (70, (m.1 70)), (71, (m.1 71)), (72, (m.1 72))] [(65, (m.2 65)), (66, (m.2 66)), (67, (m.2 67)), (68, (m.2 68)), (80, (m.2 80))]) c N D (by omega) (Ty_mO hT rfl rfl ⟨(hT161.1 10), (hT161.1 11), f28, f69, f70, f71, f72, trivial⟩ ⟨(hT.2.1 65), (hT.2.1 66), (hT.2.1 67), (hT.2.1 68), (hT.2.1 80), trivial⟩) 1 (m.1 70) ⟨by decide, by decide⟩ (r32 (by omega) (by omega)) (show 0 ≤ (m.1 70) ∧ (m.1 70) ≤ 4000 by omega) (fun (h : (m160.1 10) = 0) => absurd h (by omega))) (fun rr202 k203 => ?_)
                obtain ⟨m204, hT205, h206, c207, rfl⟩ := k203
                refine ⟨_, _, rfl, ?_⟩
                refine T_nf2 (st' := []) (l' := [(10, (m204.1 10)), (11, (m204.1 11)), (28, (m.1 28)), (69, (m.1 69)), (70, (m.1 70)), (71, (m.1 71)), (72, (m.1 72))]) (a' := [(65, (m.2 65)), (66, (m.2 66)), (67, (m.2 67)), (68, (m.2 68)), (80, (m.2 80))]) [10, 11] [] rfl ⟨rfl, rfl, rfl, rfl, rfl, rfl, rfl, rfl, rfl, rfl, rfl, rfl, rfl, rfl, trivial⟩ ⟨rfl, rfl, rfl, rfl, rfl, rfl, rfl, rfl, rfl, rfl, trivial⟩ rfl rfl (by decide) (by decide) ?_
                have g208 : 0 ≤ m204.1 10 ∧ m204.1 10 ≤ 8 := hT205.1 10
                have g209 : (-1) ≤ m204.1 11 ∧ m204.1 11 ≤ 4000 := hT205.1 11
                replace h206 : (m204.1 10) = 0 → (m160.1 10) = 0 := h206
                have hf210 : 1 ≤ (m204.1 10) := by omega
                clear c207
                clear h206
                clear g164 g165 hf191
                refine T_ld 198 (.int (i32 ((m.2 81) jj))) rfl (fun _ => rfl) ?_
                refine T_gf 202 (.int (i32 (m.1 69))) rfl rfl rfl rfl rfl rfl ?_
                refine T_iadd 203 rfl rfl ?_
                refine T_sto 204 [(2, .int (i32 (((m.2 81) jj) + (m.1 69)))), (5, .int (i32 (m.1 69))), (4, .int (i32 ((m.2 80) jj))), (3, .int (i32 ((m.2 82) jj))), (0, .ref 189), (1, .int (i32 jj))] rfl (fun _ => rfl) ?_
                refine T_goto 261 rfl (fun _ => rfl) ?_
                refine Tm_lv (a := [(0, .ref 189), (1, .int (i32 jj)), (2, .int (i32 (((m.2 81) jj) + (m.1 69)))), (3, .int (i32 ((m.2 82) jj))), (4, .int (i32 ((m.2 80) jj))), (5, .int (i32 (m.1 69)))]) rfl rfl ⟨rfl, rfl, rfl, rfl, rfl, rfl, trivial⟩ ?_
                exact J261_10 (((m.2 81) jj) + (m.1 69)) (mO m [(10, (m204.1 10)), (11, (m204.1 11)), (28, (m.1 28)), (69, (m.1 69)), (70, (m.1 70)), (71, (m.1 71)), (72, (m.1 72))] [(65, (m.2 65)), (66, (m.2 66)), (67, (m.2 67)), (68, (m.2 68)), (80, (m.2 80))]) (r32 (by omega) (by omega)) (Ty_mO hT rfl rfl ⟨(hT205.1 10), (hT205.1 11), f28, f69, f70, f71, f72, trivial⟩ ⟨(hT.2.1 65), (hT.2.1 66), (hT.2.1 67), (hT.2.1 68), (hT.2.1 80), trivial⟩) (show 0 ≤ (((m.2 81) jj) + (m.1 69)) ∧ (((m.2 81) jj) + (m.1 69)) ≤ (m.1 69) + 64 by omega) (fun (h : (m204.1 10) = 0) => absurd h (by omega))
          · skip
            refine T_ld 162 (.int (i32 1)) rfl (fun _ => rfl) ?_
            refine T_goto 166 rfl (fun _ => rfl) ?_
            refine T_gf 170 (.int (i32 (m.1 70))) rfl rfl rfl rfl rfl rfl ?_
            refine T_call 173 256 [.ref 189, .int (i32 1), .int (i32 (m.1 70))] [] rfl (fun _ => rfl) rfl (c_want w (mO m [(10, (m149.1 10)), (11, (m149.1 11)), (28, (m.1 28)), (69, (m.1 69)), (70, (m.1 70)), (71, (m.1 71)), (72, (m.1 72))] [(65, (m.2 65)), (66, (m.2 66)), (67, (m.2 67)), (68, (m.2 68)), (80, (m.2 80))]) c N D (by omega) (Ty_mO hT rfl rfl ⟨(hT150.1 10), (hT150.1 11), f28, f69, f70, f71, f72, trivial⟩ ⟨(hT.2.1 65), (hT.2.1 66), (hT.2.1 67), (hT.2.1 68), (hT.2.1 80), trivial⟩) 1 (m.1 70) ⟨by decide, by decide⟩ (r32 (by omega) (by omega)) (show 0 ≤ (m.1 70) ∧ (m.1 70) ≤ 4000 by omega) (fun _ => trivial)) (fun rr211 k212 => ?_)
            obtain ⟨m213, hT214, h215, c216, rfl⟩ := k212
            refine ⟨_, _, rfl, ?_⟩
            refine T_nf2 (st' := []) (l' := [(10, (m213.1 10)), (11, (m213.1 11)), (28, (m.1 28)), (69, (m.1 69)), (70, (m.1 70)), (71, (m.1 71)), (72, (m.1 72))]) (a' := [(65, (m.2 65)), (66, (m.2 66)), (67, (m.2 67)), (68, (m.2 68)), (80, (m.2 80))]) [10, 11] [] rfl ⟨rfl, rfl, rfl, rfl, rfl, rfl, rfl, rfl, rfl, rfl, rfl, rfl, rfl, rfl, trivial⟩ ⟨rfl, rfl, rfl, rfl, rfl, rfl, rfl, rfl, rfl, rfl, trivial⟩ rfl rfl (by decide) (by decide) ?_
            have g217 : 0 ≤ m213.1 10 ∧ m213.1 10 ≤ 8 := hT214.1 10
            have g218 : (-1) ≤ m213.1 11 ∧ m213.1 11 ≤ 4000 := hT214.1 11
            by_cases hf219 : (m213.1 10) = 0
            · skip
              replace h215 : (m149.1 10) = 0 := h215 hf219
              have c220 := c216 hf219
              replace c220 : (1 : Int) ≠ 0 := c220
              clear c216
              clear g153 g154 h215
              refine T_ld 174 (.ref 189) rfl (fun _ => rfl) ?_
              refine T_ld 175 (.int (i32 ((m.2 81) jj))) rfl (fun _ => rfl) ?_
              refine T_gf 179 (.int (i32 (m.1 69))) rfl rfl rfl rfl rfl rfl ?_
              refine T_iadd 180 rfl rfl ?_
              refine T_ld 182 (.int (i32 64)) rfl (fun _ => rfl) ?_
              refine T_icmp 189 185 rfl rfl rfl (r32 (by omega) (by omega)) ⟨by decide, by decide⟩ (fun (h221 : (64 : Int) < ((m.2 81) jj) + (m.1 69)) => ?_) (fun (h221 : ¬ ((64 : Int) < ((m.2 81) jj) + (m.1 69))) => ?_)
              · skip
                refine T_ld 190 (.int (i32 0)) rfl (fun _ => rfl) ?_
                refine T_gf 194 (.int (i32 (m.1 70))) rfl rfl rfl rfl rfl rfl ?_
                refine T_call 197 256 [.ref 189, .int (i32 0), .int (i32 (m.1 70))] [] rfl (fun _ => rfl) rfl (c_want w (mO m [(10, (m213.1 10)), (11, (m213.1 11)), (28, (m.1 28)), (69, (m.1 69)), (70, (m.1 70)), (71, (m.1 71)), (72, (m.1 72))] [(65, (m.2 65)), (66, (m.2 66)), (67, (m.2 67)), (68, (m.2 68)), (80, (m.2 80))]) c N D (by omega) (Ty_mO hT rfl rfl ⟨(hT214.1 10), (hT214.1 11), f28, f69, f70, f71, f72, trivial⟩ ⟨(hT.2.1 65), (hT.2.1 66), (hT.2.1 67), (hT.2.1 68), (hT.2.1 80), trivial⟩) 0 (m.1 70) ⟨by decide, by decide⟩ (r32 (by omega) (by omega)) (show 0 ≤ (m.1 70) ∧ (m.1 70) ≤ 4000 by omega) (fun _ => trivial)) (fun rr222 k223 => ?_)
                obtain ⟨m224, hT225, h226, c227, rfl⟩ := k223
                refine ⟨_, _, rfl, ?_⟩
                refine T_nf2 (st' := []) (l' := [(10, (m224.1 10)), (11, (m224.1 11)), (28, (m.1 28)), (69, (m.1 69)), (70, (m.1 70)), (71, (m.1 71)), (72, (m.1 72))]) (a' := [(65, (m.2 65)), (66, (m.2 66)), (67, (m.2 67)), (68, (m.2 68)), (80, (m.2 80))]) [10, 11] [] rfl ⟨rfl, rfl, rfl, rfl, rfl, rfl, rfl, rfl, rfl, rfl, rfl, rfl, rfl, rfl, trivial⟩ ⟨rfl, rfl, rfl, rfl, rfl, rfl, rfl, rfl, rfl, rfl, trivial⟩ rfl rfl (by decide) (by decide) ?_
                have g228 : 0 ≤ m224.1 10 ∧ m224.1 10 ≤ 8 := hT225.1 10
                have g229 : (-1) ≤ m224.1 11 ∧ m224.1 11 ≤ 4000 := hT225.1 11
                by_cases hf230 : (m224.1 10) = 0
                · skip
                  replace h226 : (m213.1 10) = 0 := h226 hf230
                  have c231 := c227 hf230
                  replace c231 : (0 : Int) ≠ 0 := c231
                  clear c227
                  clear g217 g218 h226
                  refine T_ld 198 (.int (i32 ((m.2 81) jj))) rfl (fun _ => rfl) ?_
                  refine T_gf 202 (.int (i32 (m.1 69))) rfl rfl rfl rfl rfl rfl ?_
                  refine T_iadd 203 rfl rfl ?_
                  refine T_sto 204 [(2, .int (i32 (((m.2 81) jj) + (m.1 69)))), (5, .int (i32 (m.1 69))), (4, .int (i32 ((m.2 80) jj))), (3, .int (i32 ((m.2 82) jj))), (0, .ref 189), (1, .int (i32 jj))] rfl (fun _ => rfl) ?_
                  refine T_goto 261 rfl (fun _ => rfl) ?_
                  refine Tm_lv (a := [(0, .ref 189), (1, .int (i32 jj)), (2, .int (i32 (((m.2 81) jj) + (m.1 69)))), (3, .int (i32 ((m.2 82) jj))), (4, .int (i32 ((m.2 80) jj))), (5, .int (i32 (m.1 69)))]) rfl rfl ⟨rfl, rfl, rfl, rfl, rfl, rfl, trivial⟩ ?_
                  exact J261_10 (((m.2 81) jj) + (m.1 69)) (mO m [(10, (m224.1 10)), (11, (m224.1 11)), (28, (m.1 28)), (69, (m.1 69)), (70, (m.1 70)), (71, (m.1 71)), (72, (m.1 72))] [(65, (m.2 65)), (66, (m.2 66)), (67, (m.2 67)), (68, (m.2 68)), (80, (m.2 80))]) (r32 (by omega) (by omega)) (Ty_mO hT rfl rfl ⟨(hT225.1 10), (hT225.1 11), f28, f69, f70, f71, f72, trivial⟩ ⟨(hT.2.1 65), (hT.2.1 66), (hT.2.1 67), (hT.2.1 68), (hT.2.1 80), trivial⟩) (show 0 ≤ (((m.2 81) jj) + (m.1 69)) ∧ (((m.2 81) jj) + (m.1 69)) ≤ (m.1 69) + 64 by omega) (fun _ => (show (((m.2 81) jj) + (m.1 69)) ≤ 64 by omega))
                · skip
                  clear c227
                  clear h226
                  have hf232 : 1 ≤ (m224.1 10) := by omega
                  clear g217 g218
                  refine T_ld 198 (.int (i32 ((m.2 81) jj))) rfl (fun _ => rfl) ?_
                  refine T_gf 202 (.int (i32 (m.1 69))) rfl rfl rfl rfl rfl rfl ?_
                  refine T_iadd 203 rfl rfl ?_
                  refine T_sto 204 [(2, .int (i32 (((m.2 81) jj) + (m.1 69)))), (5, .int (i32 (m.1 69))), (4, .int (i32 ((m.2 80) jj))), (3, .int (i32 ((m.2 82) jj))), (0, .ref 189), (1, .int (i32 jj))] rfl (fun _ => rfl) ?_
                  refine T_goto 261 rfl (fun _ => rfl) ?_
                  refine Tm_lv (a := [(0, .ref 189), (1, .int (i32 jj)), (2, .int (i32 (((m.2 81) jj) + (m.1 69)))), (3, .int (i32 ((m.2 82) jj))), (4, .int (i32 ((m.2 80) jj))), (5, .int (i32 (m.1 69)))]) rfl rfl ⟨rfl, rfl, rfl, rfl, rfl, rfl, trivial⟩ ?_
                  exact J261_10 (((m.2 81) jj) + (m.1 69)) (mO m [(10, (m224.1 10)), (11, (m224.1 11)), (28, (m.1 28)), (69, (m.1 69)), (70, (m.1 70)), (71, (m.1 71)), (72, (m.1 72))] [(65, (m.2 65)), (66, (m.2 66)), (67, (m.2 67)), (68, (m.2 68)), (80, (m.2 80))]) (r32 (by omega) (by omega)) (Ty_mO hT rfl rfl ⟨(hT225.1 10), (hT225.1 11), f28, f69, f70, f71, f72, trivial⟩ ⟨(hT.2.1 65), (hT.2.1 66), (hT.2.1 67), (hT.2.1 68), (hT.2.1 80), trivial⟩) (show 0 ≤ (((m.2 81) jj) + (m.1 69)) ∧ (((m.2 81) jj) + (m.1 69)) ≤ (m.1 69) + 64 by omega) (fun (h : (m224.1 10) = 0) => absurd h (by omega))
              · skip
                refine T_ld 186 (.int (i32 1)) rfl (fun _ => rfl) ?_
                refine T_goto 190 rfl (fun _ => rfl) ?_
                refine T_gf 194 (.int (i32 (m.1 70))) rfl rfl rfl rfl rfl rfl ?_
                refine T_call 197 256 [.ref 189, .int (i32 1), .int (i32 (m.1 70))] [] rfl (fun _ => rfl) rfl (c_want w (mO m [(10, (m213.1 10)), (11, (m213.1 11)), (28, (m.1 28)), (69, (m.1 69)), (70, (m.1 70)), (71, (m.1 71)), (72, (m.1 72))] [(65, (m.2 65)), (66, (m.2 66)), (67, (m.2 67)), (68, (m.2 68)), (80, (m.2 80))]) c N D (by omega) (Ty_mO hT rfl rfl ⟨(hT214.1 10), (hT214.1 11), f28, f69, f70, f71, f72, trivial⟩ ⟨(hT.2.1 65), (hT.2.1 66), (hT.2.1 67), (hT.2.1 68), (hT.2.1 80), trivial⟩) 1 (m.1 70) ⟨by decide, by decide⟩ (r32 (by omega) (by omega)) (show 0 ≤ (m.1 70) ∧ (m.1 70) ≤ 4000 by omega) (fun _ => trivial)) (fun rr233 k234 => ?_)
                obtain ⟨m235, hT236, h237, c238, rfl⟩ := k234
                refine ⟨_, _, rfl, ?_⟩
                refine T_nf2 (st' := []) (l' := [(10, (m235.1 10)), (11, (m235.1 11)), (28, (m.1 28)), (69, (m.1 69)), (70, (m.1 70)), (71, (m.1 71)), (72, (m.1 72))]) (a' := [(65, (m.2 65)), (66, (m.2 66)), (67, (m.2 67)), (68, (m.2 68)), (80, (m.2 80))]) [10, 11] [] rfl ⟨rfl, rfl, rfl, rfl, rfl, rfl, rfl, rfl, rfl, rfl, rfl, rfl, rfl, rfl, trivial⟩ ⟨rfl, rfl, rfl, rfl, rfl, rfl, rfl, rfl, rfl, rfl, trivial⟩ rfl rfl (by decide) (by decide) ?_
                have g239 : 0 ≤ m235.1 10 ∧ m235.1 10 ≤ 8 := hT236.1 10
                have g240 : (-1) ≤ m235.1 11 ∧ m235.1 11 ≤ 4000 := hT236.1 11
                by_cases hf241 : (m235.1 10) = 0
                · skip
                  replace h237 : (m213.1 10) = 0 := h237 hf241
                  have c242 := c238 hf241
                  replace c242 : (1 : Int) ≠ 0 := c242
                  clear c238
                  clear g217 g218 h237
                  refine T_ld 198 (.int (i32 ((m.2 81) jj))) rfl (fun _ => rfl) ?_
                  refine T_gf 202 (.int (i32 (m.1 69))) rfl rfl rfl rfl rfl rfl ?_
                  refine T_iadd 203 rfl rfl ?_
                  refine T_sto 204 [(2, .int (i32 (((m.2 81) jj) + (m.1 69)))), (5, .int (i32 (m.1 69))), (4, .int (i32 ((m.2 80) jj))), (3, .int (i32 ((m.2 82) jj))), (0, .ref 189), (1, .int (i32 jj))] rfl (fun _ => rfl) ?_
                  refine T_goto 261 rfl (fun _ => rfl) ?_
                  refine Tm_lv (a := [(0, .ref 189), (1, .int (i32 jj)), (2, .int (i32 (((m.2 81) jj) + (m.1 69)))), (3, .int (i32 ((m.2 82) jj))), (4, .int (i32 ((m.2 80) jj))), (5, .int (i32 (m.1 69)))]) rfl rfl ⟨rfl, rfl, rfl, rfl, rfl, rfl, trivial⟩ ?_
                  exact J261_10 (((m.2 81) jj) + (m.1 69)) (mO m [(10, (m235.1 10)), (11, (m235.1 11)), (28, (m.1 28)), (69, (m.1 69)), (70, (m.1 70)), (71, (m.1 71)), (72, (m.1 72))] [(65, (m.2 65)), (66, (m.2 66)), (67, (m.2 67)), (68, (m.2 68)), (80, (m.2 80))]) (r32 (by omega) (by omega)) (Ty_mO hT rfl rfl ⟨(hT236.1 10), (hT236.1 11), f28, f69, f70, f71, f72, trivial⟩ ⟨(hT.2.1 65), (hT.2.1 66), (hT.2.1 67), (hT.2.1 68), (hT.2.1 80), trivial⟩) (show 0 ≤ (((m.2 81) jj) + (m.1 69)) ∧ (((m.2 81) jj) + (m.1 69)) ≤ (m.1 69) + 64 by omega) (fun _ => (show (((m.2 81) jj) + (m.1 69)) ≤ 64 by omega))
                · skip
                  clear c238
                  clear h237
                  have hf243 : 1 ≤ (m235.1 10) := by omega
                  clear g217 g218
                  refine T_ld 198 (.int (i32 ((m.2 81) jj))) rfl (fun _ => rfl) ?_
                  refine T_gf 202 (.int (i32 (m.1 69))) rfl rfl rfl rfl rfl rfl ?_
                  refine T_iadd 203 rfl rfl ?_
                  refine T_sto 204 [(2, .int (i32 (((m.2 81) jj) + (m.1 69)))), (5, .int (i32 (m.1 69))), (4, .int (i32 ((m.2 80) jj))), (3, .int (i32 ((m.2 82) jj))), (0, .ref 189), (1, .int (i32 jj))] rfl (fun _ => rfl) ?_
                  refine T_goto 261 rfl (fun _ => rfl) ?_
                  refine Tm_lv (a := [(0, .ref 189), (1, .int (i32 jj)), (2, .int (i32 (((m.2 81) jj) + (m.1 69)))), (3, .int (i32 ((m.2 82) jj))), (4, .int (i32 ((m.2 80) jj))), (5, .int (i32 (m.1 69)))]) rfl rfl ⟨rfl, rfl, rfl, rfl, rfl, rfl, trivial⟩ ?_
                  exact J261_10 (((m.2 81) jj) + (m.1 69)) (mO m [(10, (m235.1 10)), (11, (m235.1 11)), (28, (m.1 28)), (69, (m.1 69)), (70, (m.1 70)), (71, (m.1 71)), (72, (m.1 72))] [(65, (m.2 65)), (66, (m.2 66)), (67, (m.2 67)), (68, (m.2 68)), (80, (m.2 80))]) (r32 (by omega) (by omega)) (Ty_mO hT rfl rfl ⟨(hT236.1 10), (hT236.1 11), f28, f69, f70, f71, f72, trivial⟩ ⟨(hT.2.1 65), (hT.2.1 66), (hT.2.1 67), (hT.2.1 68), (hT.2.1 80), trivial⟩) (show 0 ≤ (((m.2 81) jj) + (m.1 69)) ∧ (((m.2 81) jj) + (m.1 69)) ≤ (m.1 69) + 64 by omega) (fun (h : (m235.1 10) = 0) => absurd h (by omega))
            · skip
              clear c216
              clear h215
              have hf244 : 1 ≤ (m213.1 10) := by omega
              clear g153 g154
              refine T_ld 174 (.ref 189) rfl (fun _ => rfl) ?_
              refine T_ld 175 (.int (i32 ((m.2 81) jj))) rfl (fun _ => rfl) ?_
              refine T_gf 179 (.int (i32 (m.1 69))) rfl rfl rfl rfl rfl rfl ?_
              refine T_iadd 180 rfl rfl ?_
              refine T_ld 182 (.int (i32 64)) rfl (fun _ => rfl) ?_
              refine T_icmp 189 185 rfl rfl rfl (r32 (by omega) (by omega)) ⟨by decide, by decide⟩ (fun (h245 : (64 : Int) < ((m.2 81) jj) + (m.1 69)) => ?_) (fun (h245 : ¬ ((64 : Int) < ((m.2 81) jj) + (m.1 69))) => ?_)
              · skip
                refine T_ld 190 (.int (i32 0)) rfl (fun _ => rfl) ?_
                refine T_gf 194 (.int (i32 (m.1 70))) rfl rfl rfl rfl rfl rfl ?_
                refine T_call 197 256 [.ref 189, .int (i32 0), .int (i32 (m.1 70))] [] rfl (fun _ => rfl) rfl (c_want w (mO m [(10, (m213.1 10)), (11, (m213.1 11)), (28, (m.1 28)), (69, (m.1 69)), (70, (m.1 70)), (71, (m.1 71)), (72, (m.1 72))] [(65, (m.2 65)), (66, (m.2 66)), (67, (m.2 67)), (68, (m.2 68)), (80, (m.2 80))]) c N D (by omega) (Ty_mO hT rfl rfl ⟨(hT214.1 10), (hT214.1 11), f28, f69, f70, f71, f72, trivial⟩ ⟨(hT.2.1 65), (hT.2.1 66), (hT.2.1 67), (hT.2.1 68), (hT.2.1 80), trivial⟩) 0 (m.1 70) ⟨by decide, by decide⟩ (r32 (by omega) (by omega)) (show 0 ≤ (m.1 70) ∧ (m.1 70) ≤ 4000 by omega) (fun (h : (m213.1 10) = 0) => absurd h (by omega))) (fun rr246 k247 => ?_)
                obtain ⟨m248, hT249, h250, c251, rfl⟩ := k247
                refine ⟨_, _, rfl, ?_⟩
                refine T_nf2 (st' := []) (l' := [(10, (m248.1 10)), (11, (m248.1 11)), (28, (m.1 28)), (69, (m.1 69)), (70, (m.1 70)), (71, (m.1 71)), (72, (m.1 72))]) (a' := [(65, (m.2 65)), (66, (m.2 66)), (67, (m.2 67)), (68, (m.2 68)), (80, (m.2 80))]) [10, 11] [] rfl ⟨rfl, rfl, rfl, rfl, rfl, rfl, rfl, rfl, rfl, rfl, rfl, rfl, rfl, rfl, trivial⟩ ⟨rfl, rfl, rfl, rfl, rfl, rfl, rfl, rfl, rfl, rfl, trivial⟩ rfl rfl (by decide) (by decide) ?_
                have g252 : 0 ≤ m248.1 10 ∧ m248.1 10 ≤ 8 := hT249.1 10
                have g253 : (-1) ≤ m248.1 11 ∧ m248.1 11 ≤ 4000 := hT249.1 11
                replace h250 : (m248.1 10) = 0 → (m213.1 10) = 0 := h250
                have hf254 : 1 ≤ (m248.1 10) := by omega
                clear c251
                clear h250
                clear g217 g218 hf244
                refine T_ld 198 (.int (i32 ((m.2 81) jj))) rfl (fun _ => rfl) ?_
                refine T_gf 202 (.int (i32 (m.1 69))) rfl rfl rfl rfl rfl rfl ?_
                refine T_iadd 203 rfl rfl ?_
                refine T_sto 204 [(2, .int (i32 (((m.2 81) jj) + (m.1 69)))), (5, .int (i32 (m.1 69))), (4, .int (i32 ((m.2 80) jj))), (3, .int (i32 ((m.2 82) jj))), (0, .ref 189), (1, .int (i32 jj))] rfl (fun _ => rfl) ?_
                refine T_goto 261 rfl (fun _ => rfl) ?_
                refine Tm_lv (a := [(0, .ref 189), (1, .int (i32 jj)), (2, .int (i32 (((m.2 81) jj) + (m.1 69)))), (3, .int (i32 ((m.2 82) jj))), (4, .int (i32 ((m.2 80) jj))), (5, .int (i32 (m.1 69)))]) rfl rfl ⟨rfl, rfl, rfl, rfl, rfl, rfl, trivial⟩ ?_
                exact J261_10 (((m.2 81) jj) + (m.1 69)) (mO m [(10, (m248.1 10)), (11, (m248.1 11)), (28, (m.1 28)), (69, (m.1 69)), (70, (m.1 70)), (71, (m.1 71)), (72, (m.1 72))] [(65, (m.2 65)), (66, (m.2 66)), (67, (m.2 67)), (68, (m.2 68)), (80, (m.2 80))]) (r32 (by omega) (by omega)) (Ty_mO hT rfl rfl ⟨(hT249.1 10), (hT249.1 11), f28, f69, f70, f71, f72, trivial⟩ ⟨(hT.2.1 65), (hT.2.1 66), (hT.2.1 67), (hT.2.1 68), (hT.2.1 80), trivial⟩) (show 0 ≤ (((m.2 81) jj) + (m.1 69)) ∧ (((m.2 81) jj) + (m.1 69)) ≤ (m.1 69) + 64 by omega) (fun (h : (m248.1 10) = 0) => absurd h (by omega))
              · skip
                refine T_ld 186 (.int (i32 1)) rfl (fun _ => rfl) ?_
                refine T_goto 190 rfl (fun _ => rfl) ?_
                refine T_gf 194 (.int (i32 (m.1 70))) rfl rfl rfl rfl rfl rfl ?_
                refine T_call 197 256 [.ref 189, .int (i32 1), .int (i32 (m.1 70))] [] rfl (fun _ => rfl) rfl (c_want w (mO m [(10, (m213.1 10)), (11, (m213.1 11)), (28, (m.1 28)), (69, (m.1 69)), (70, (m.1 70)), (71, (m.1 71)), (72, (m.1 72))] [(65, (m.2 65)), (66, (m.2 66)), (67, (m.2 67)), (68, (m.2 68)), (80, (m.2 80))]) c N D (by omega) (Ty_mO hT rfl rfl ⟨(hT214.1 10), (hT214.1 11), f28, f69, f70, f71, f72, trivial⟩ ⟨(hT.2.1 65), (hT.2.1 66), (hT.2.1 67), (hT.2.1 68), (hT.2.1 80), trivial⟩) 1 (m.1 70) ⟨by decide, by decide⟩ (r32 (by omega) (by omega)) (show 0 ≤ (m.1 70) ∧ (m.1 70) ≤ 4000 by omega) (fun (h : (m213.1 10) = 0) => absurd h (by omega))) (fun rr255 k256 => ?_)
                obtain ⟨m257, hT258, h259, c260, rfl⟩ := k256
                refine ⟨_, _, rfl, ?_⟩
                refine T_nf2 (st' := []) (l' := [(10, (m257.1 10)), (11, (m257.1 11)), (28, (m.1 28)), (69, (m.1 69)), (70, (m.1 70)), (71, (m.1 71)), (72, (m.1 72))]) (a' := [(65, (m.2 65)), (66, (m.2 66)), (67, (m.2 67)), (68, (m.2 68)), (80, (m.2 80))]) [10, 11] [] rfl ⟨rfl, rfl, rfl, rfl, rfl, rfl, rfl, rfl, rfl, rfl, rfl, rfl, rfl, rfl, trivial⟩ ⟨rfl, rfl, rfl, rfl, rfl, rfl, rfl, rfl, rfl, rfl, trivial⟩ rfl rfl (by decide) (by decide) ?_
                have g261 : 0 ≤ m257.1 10 ∧ m257.1 10 ≤ 8 := hT258.1 10
                have g262 : (-1) ≤ m257.1 11 ∧ m257.1 11 ≤ 4000 := hT258.1 11
                replace h259 : (m257.1 10) = 0 → (m213.1 10) = 0 := h259
                have hf263 : 1 ≤ (m257.1 10) := by omega
                clear c260
                clear h259
                clear g217 g218 hf244
                refine T_ld 198 (.int (i32 ((m.2 81) jj))) rfl (fun _ => rfl) ?_
                refine T_gf 202 (.int (i32 (m.1 69))) rfl rfl rfl rfl rfl rfl ?_
                refine T_iadd 203 rfl rfl ?_
                refine T_sto 204 [(2, .int (i32 (((m.2 81) jj) + (m.1 69)))), (5, .int (i32 (m.1 69))), (4, .int (i32 ((m.2 80) jj))), (3, .int (i32 ((m.2 82) jj))), (0, .ref 189), (1, .int (i32 jj))] rfl (fun _ => rfl) ?_
                refine T_goto 261 rfl (fun _ => rfl) ?_
                refine Tm_lv (a := [(0, .ref 189), (1, .int (i32 jj)), (2, .int (i32 (((m.2 81) jj) + (m.1 69)))), (3, .int (i32 ((m.2 82) jj))), (4, .int (i32 ((m.2 80) jj))), (5, .int (i32 (m.1 69)))]) rfl rfl ⟨rfl, rfl, rfl, rfl, rfl, rfl, trivial⟩ ?_
                exact J261_10 (((m.2 81) jj) + (m.1 69)) (mO m [(10, (m257.1 10)), (11, (m257.1 11)), (28, (m.1 28)), (69, (m.1 69)), (70, (m.1 70)), (71, (m.1 71)), (72, (m.1 72))] [(65, (m.2 65)), (66, (m.2 66)), (67, (m.2 67)), (68, (m.2 68)), (80, (m.2 80))]) (r32 (by omega) (by omega)) (Ty_mO hT rfl rfl ⟨(hT258.1 10), (hT258.1 11), f28, f69, f70, f71, f72, trivial⟩ ⟨(hT.2.1 65), (hT.2.1 66), (hT.2.1 67), (hT.2.1 68), (hT.2.1 80), trivial⟩) (show 0 ≤ (((m.2 81) jj) + (m.1 69)) ∧ (((m.2 81) jj) + (m.1 69)) ≤ (m.1 69) + 64 by omega) (fun (h : (m257.1 10) = 0) => absurd h (by omega))
        · skip
          clear c152
          clear h151
          have hf264 : 1 ≤ (m149.1 10) := by omega
          clear g75a g75b h76
          refine T_ld 154 (.ref 189) rfl (fun _ => rfl) ?_
          refine T_gf 158 (.int (i32 (m.1 71))) rfl rfl rfl rfl rfl rfl ?_
          refine T_if 165 161 rfl rfl rfl (r32 (by omega) (by omega)) (fun (h265 : (m.1 71) ≠ 0) => ?_) (fun (h265 : ¬ ((m.1 71) ≠ 0)) => ?_)
          · skip
            refine T_ld 166 (.int (i32 0)) rfl (fun _ => rfl) ?_
            refine T_gf 170 (.int (i32 (m.1 70))) rfl rfl rfl rfl rfl rfl ?_
            refine T_call 173 256 [.ref 189, .int (i32 0), .int (i32 (m.1 70))] [] rfl (fun _ => rfl) rfl (c_want w (mO m [(10, (m149.1 10)), (11, (m149.1 11)), (28, (m.1 28)), (69, (m.1 69)), (70, (m.1 70)), (71, (m.1 71)), (72, (m.1 72))] [(65, (m.2 65)), (66, (m.2 66)), (67, (m.2 67)), (68, (m.2 68)), (80, (m.2 80))]) c N D (by omega) (Ty_mO hT rfl rfl ⟨(hT150.1 10), (hT150.1 11), f28, f69, f70, f71, f72, trivial⟩ ⟨(hT.2.1 65), (hT.2.1 66), (hT.2.1 67), (hT.2.1 68), (hT.2.1 80), trivial⟩) 0 (m.1 70) ⟨by decide, by decide⟩ (r32 (by omega) (by omega)) (show 0 ≤ (m.1 70) ∧ (m.1 70) ≤ 4000 by omega) (fun (h : (m149.1 10) = 0) => absurd h (by omega))) (fun rr266 k267 => ?_)
            obtain ⟨m268, hT269, h270, c271, rfl⟩ := k267
            refine ⟨_, _, rfl, ?_⟩
            refine T_nf2 (st' := []) (l' := [(10, (m268.1 10)), (11, (m268.1 11)), (28, (m.1 28)), (69, (m.1 69)), (70, (m.1 70)), (71, (m.1 71)), (72, (m.1 72))]) (a' := [(65, (m.2 65)), (66, (m.2 66)), (67, (m.2 67)), (68, (m.2 68)), (80, (m.2 80))]) [10, 11] [] rfl ⟨rfl, rfl, rfl, rfl, rfl, rfl, rfl, rfl, rfl, rfl, rfl, rfl, rfl, rfl, trivial⟩ ⟨rfl, rfl, rfl, rfl, rfl, rfl, rfl, rfl, rfl, rfl, trivial⟩ rfl rfl (by decide) (by decide) ?_
            have g272 : 0 ≤ m268.1 10 ∧ m268.1 10 ≤ 8 := hT269.1 10
            have g273 : (-1) ≤ m268.1 11 ∧ m268.1 11 ≤ 4000 := hT269.1 11
            replace h270 : (m268.1 10) = 0 → (m149.1 10) = 0 := h270
            have hf274 : 1 ≤ (m268.1 10) := by omega
            clear c271
            clear h270
            clear g153 g154 hf264
            refine T_ld 174 (.ref 189) rfl (fun _ => rfl) ?_
            refine T_ld 175 (.int (i32 ((m.2 81) jj))) rfl (fun _ => rfl) ?_
            refine T_gf 179 (.int (i32 (m.1 69))) rfl rfl rfl rfl rfl rfl ?_
            refine T_iadd 180 rfl rfl ?_
            refine T_ld 182 (.int (i32 64)) rfl (fun _ => rfl) ?_
            refine T_icmp 189 185 rfl rfl rfl (r32 (by omega) (by omega)) ⟨by decide, by decide⟩ (fun (h275 : (64 : Int) < ((m.2 81) jj) + (m.1 69)) => ?_) (fun (h275 : ¬ ((64 : Int) < ((m.2 81) jj) + (m.1 69))) => ?_)
            · skip
              refine T_ld 190 (.int (i32 0)) rfl (fun _ => rfl) ?_
              refine T_gf 194 (.int (i32 (m.1 70))) rfl rfl rfl rfl rfl rfl ?_
              refine T_call 197 256 [.ref 189, .int (i32 0), .int (i32 (m.1 70))] [] rfl (fun _ => rfl) rfl (c_want w (mO m [(10, (m268.1 10)), (11, (m268.1 11)), (28, (m.1 28)), (69, (m.1 69)), (70, (m.1 70)), (71, (m.1 71)), (72, (m.1 72))] [(65, (m.2 65)), (66, (m.2 66)), (67, (m.2 67)), (68, (m.2 68)), (80, (m.2 80))]) c N D (by omega) (Ty_mO hT rfl rfl ⟨(hT269.1 10), (hT269.1 11), f28, f69, f70, f71, f72, trivial⟩ ⟨(hT.2.1 65), (hT.2.1 66), (hT.2.1 67), (hT.2.1 68), (hT.2.1 80), trivial⟩) 0 (m.1 70) ⟨by decide, by decide⟩ (r32 (by omega) (by omega)) (show 0 ≤ (m.1 70) ∧ (m.1 70) ≤ 4000 by omega) (fun (h : (m268.1 10) = 0) => absurd h (by omega))) (fun rr276 k277 => ?_)
              obtain ⟨m278, hT279, h280, c281, rfl⟩ := k277
              refine ⟨_, _, rfl, ?_⟩
              refine T_nf2 (st' := []) (l' := [(10, (m278.1 10)), (11, (m278.1 11)), (28, (m.1 28)), (69, (m.1 69)), (70, (m.1 70)), (71, (m.1 71)), (72, (m.1 72))]) (a' := [(65, (m.2 65)), (66, (m.2 66)), (67, (m.2 67)), (68, (m.2 68)), (80, (m.2 80))]) [10, 11] [] rfl ⟨rfl, rfl, rfl, rfl, rfl, rfl, rfl, rfl, rfl, rfl, rfl, rfl, rfl, rfl, trivial⟩ ⟨rfl, rfl, rfl, rfl, rfl, rfl, rfl, rfl, rfl, rfl, trivial⟩ rfl rfl (by decide) (by decide) ?_
              have g282 : 0 ≤ m278.1 10 ∧ m278.1 10 ≤ 8 := hT279.1 10
              have g283 : (-1) ≤ m278.1 11 ∧ m278.1 11 ≤ 4000 := hT279.1 11
              replace h280 : (m278.1 10) = 0 → (m268.1 10) = 0 := h280
              have hf284 : 1 ≤ (m278.1 10) := by omega
              clear c281
              clear h280
              clear g272 g273 hf274
              refine T_ld 198 (.int (i32 ((m.2 81) jj))) rfl (fun _ => rfl) ?_
              refine T_gf 202 (.int (i32 (m.1 69))) rfl rfl rfl rfl rfl rfl ?_
              refine T_iadd 203 rfl rfl ?_
              refine T_sto 204 [(2, .int (i32 (((m.2 81) jj) + (m.1 69)))), (5, .int (i32 (m.1 69))), (4, .int (i32 ((m.2 80) jj))), (3, .int (i32 ((m.2 82) jj))), (0, .ref 189), (1, .int (i32 jj))] rfl (fun _ => rfl) ?_
              refine T_goto 261 rfl (fun _ => rfl) ?_
              refine Tm_lv (a := [(0, .ref 189), (1, .int (i32 jj)), (2, .int (i32 (((m.2 81) jj) + (m.1 69)))), (3, .int (i32 ((m.2 82) jj))), (4, .int (i32 ((m.2 80) jj))), (5, .int (i32 (m.1 69)))]) rfl rfl ⟨rfl, rfl, rfl, rfl, rfl, rfl, trivial⟩ ?_
              exact J261_10 (((m.2 81) jj) + (m.1 69)) (mO m [(10, (m278.1 10)), (11, (m278.1 11)), (28, (m.1 28)), (69, (m.1 69)), (70, (m.1 70)), (71, (m.1 71)), (72, (m.1 72))] [(65, (m.2 65)), (66, (m.2 66)), (67, (m.2 67)), (68, (m.2 68)), (80, (m.2 80))]) (r32 (by omega) (by omega)) (Ty_mO hT rfl rfl ⟨(hT279.1 10), (hT279.1 11), f28, f69, f70, f71, f72, trivial⟩ ⟨(hT.2.1 65), (hT.2.1 66), (hT.2.1 67), (hT.2.1 68), (hT.2.1 80), trivial⟩) (show 0 ≤ (((m.2 81) jj) + (m.1 69)) ∧ (((m.2 81) jj) + (m.1 69)) ≤ (m.1 69) + 64 by omega) (fun (h : (m278.1 10) = 0) => absurd h (by omega))
            · skip
              refine T_ld 186 (.int (i32 1)) rfl (fun _ => rfl) ?_
              refine T_goto 190 rfl (fun _ => rfl) ?_
              refine T_gf 194 (.int (i32 (m.1 70))) rfl rfl rfl rfl rfl rfl ?_
              refine T_call 197 256 [.ref 189, .int (i32 1), .int (i32 (m.1 70))] [] rfl (fun _ => rfl) rfl (c_want w (mO m [(10, (m268.1 10)), (11, (m268.1 11)), (28, (m.1 28)), (69, (m.1 69)), (70, (m.1 70)), (71, (m.1 71)), (72, (m.1 72))] [(65, (m.2 65)), (66, (m.2 66)), (67, (m.2 67)), (68, (m.2 68)), (80, (m.2 80))]) c N D (by omega) (Ty_mO hT rfl rfl ⟨(hT269.1 10), (hT269.1 11), f28, f69, f70, f71, f72, trivial⟩ ⟨(hT.2.1 65), (hT.2.1 66), (hT.2.1 67), (hT.2.1 68), (hT.2.1 80), trivial⟩) 1 (m.1 70) ⟨by decide, by decide⟩ (r32 (by omega) (by omega)) (show 0 ≤ (m.1 70) ∧ (m.1 70) ≤ 4000 by omega) (fun (h : (m268.1 10) = 0) => absurd h (by omega))) (fun rr285 k286 => ?_)
              obtain ⟨m287, hT288, h289, c290, rfl⟩ := k286
              refine ⟨_, _, rfl, ?_⟩
              refine T_nf2 (st' := []) (l' := [(10, (m287.1 10)), (11, (m287.1 11)), (28, (m.1 28)), (69, (m.1 69)), (70, (m.1 70)), (71, (m.1 71)), (72, (m.1 72))]) (a' := [(65, (m.2 65)), (66, (m.2 66)), (67, (m.2 67)), (68, (m.2 68)), (80, (m.2 80))]) [10, 11] [] rfl ⟨rfl, rfl, rfl, rfl, rfl, rfl, rfl, rfl, rfl, rfl, rfl, rfl, rfl, rfl, trivial⟩ ⟨rfl, rfl, rfl, rfl, rfl, rfl, rfl, rfl, rfl, rfl, trivial⟩ rfl rfl (by decide) (by decide) ?_
              have g291 : 0 ≤ m287.1 10 ∧ m287.1 10 ≤ 8 := hT288.1 10
              have g292 : (-1) ≤ m287.1 11 ∧ m287.1 11 ≤ 4000 := hT288.1 11
              replace h289 : (m287.1 10) = 0 → (m268.1 10) = 0 := h289
              have hf293 : 1 ≤ (m287.1 10) := by omega
              clear c290
              clear h289
              clear g272 g273 hf274
              refine T_ld 198 (.int (i32 ((m.2 81) jj))) rfl (fun _ => rfl) ?_
              refine T_gf 202 (.int (i32 (m.1 69))) rfl rfl rfl rfl rfl rfl ?_
              refine T_iadd 203 rfl rfl ?_
              refine T_sto 204 [(2, .int (i32 (((m.2 81) jj) + (m.1 69)))), (5, .int (i32 (m.1 69))), (4, .int (i32 ((m.2 80) jj))), (3, .int (i32 ((m.2 82) jj))), (0, .ref 189), (1, .int (i32 jj))] rfl (fun _ => rfl) ?_
              refine T_goto 261 rfl (fun _ => rfl) ?_
              refine Tm_lv (a := [(0, .ref 189), (1, .int (i32 jj)), (2, .int (i32 (((m.2 81) jj) + (m.1 69)))), (3, .int (i32 ((m.2 82) jj))), (4, .int (i32 ((m.2 80) jj))), (5, .int (i32 (m.1 69)))]) rfl rfl ⟨rfl, rfl, rfl, rfl, rfl, rfl, trivial⟩ ?_
              exact J261_10 (((m.2 81) jj) + (m.1 69)) (mO m [(10, (m287.1 10)), (11, (m287.1 11)), (28, (m.1 28)), (69, (m.1 69)), (70, (m.1 70)), (71, (m.1 71)), (72, (m.1 72))] [(65, (m.2 65)), (66, (m.2 66)), (67, (m.2 67)), (68, (m.2 68)), (80, (m.2 80))]) (r32 (by omega) (by omega)) (Ty_mO hT rfl rfl ⟨(hT288.1 10), (hT288.1 11), f28, f69, f70, f71, f72, trivial⟩ ⟨(hT.2.1 65), (hT.2.1 66), (hT.2.1 67), (hT.2.1 68), (hT.2.1 80), trivial⟩) (show 0 ≤ (((m.2 81) jj) + (m.1 69)) ∧ (((m.2 81) jj) + (m.1 69)) ≤ (m.1 69) + 64 by omega) (fun (h : (m287.1 10) = 0) => absurd h (by omega))
          · skip
            refine T_ld 162 (.int (i32 1)) rfl (fun _ => rfl) ?_
            refine T_goto 166 rfl (fun _ => rfl) ?_
            refine T_gf 170 (.int (i32 (m.1 70))) rfl rfl rfl rfl rfl rfl ?_
            refine T_call 173 256 [.ref 189, .int (i32 1), .int (i32 (m.1 70))] [] rfl (fun _ => rfl) rfl (c_want w (mO m [(10, (m149.1 10)), (11, (m149.1 11)), (28, (m.1 28)), (69, (m.1 69)), (70, (m.1 70)), (71, (m.1 71)), (72, (m.1 72))] [(65, (m.2 65)), (66, (m.2 66)), (67, (m.2 67)), (68, (m.2 68)), (80, (m.2 80))]) c N D (by omega) (Ty_mO hT rfl rfl ⟨(hT150.1 10), (hT150.1 11), f28, f69, f70, f71, f72, trivial⟩ ⟨(hT.2.1 65), (hT.2.1 66), (hT.2.1 67), (hT.2.1 68), (hT.2.1 80), trivial⟩) 1 (m.1 70) ⟨by decide, by decide⟩ (r32 (by omega) (by omega)) (show 0 ≤ (m.1 70) ∧ (m.1 70) ≤ 4000 by omega) (fun (h : (m149.1 10) = 0) => absurd h (by omega))) (fun rr294 k295 => ?_)
            obtain ⟨m296, hT297, h298, c299, rfl⟩ := k295
            refine ⟨_, _, rfl, ?_⟩
            refine T_nf2 (st' := []) (l' := [(10, (m296.1 10)), (11, (m296.1 11)), (28, (m.1 28)), (69, (m.1 69)), (70, (m.1 70)), (71, (m.1 71)), (72, (m.1 72))]) (a' := [(65, (m.2 65)), (66, (m.2 66)), (67, (m.2 67)), (68, (m.2 68)), (80, (m.2 80))]) [10, 11] [] rfl ⟨rfl, rfl, rfl, rfl, rfl, rfl, rfl, rfl, rfl, rfl, rfl, rfl, rfl, rfl, trivial⟩ ⟨rfl, rfl, rfl, rfl, rfl, rfl, rfl, rfl, rfl, rfl, trivial⟩ rfl rfl (by decide) (by decide) ?_
            have g300 : 0 ≤ m296.1 10 ∧ m296.1 10 ≤ 8 := hT297.1 10
            have g301 : (-1) ≤ m296.1 11 ∧ m296.1 11 ≤ 4000 := hT297.1 11
            replace h298 : (m296.1 10) = 0 → (m149.1 10) = 0 := h298
            have hf302 : 1 ≤ (m296.1 10) := by omega
            clear c299
            clear h298
            clear g153 g154 hf264
            refine T_ld 174 (.ref 189) rfl (fun _ => rfl) ?_
            refine T_ld 175 (.int (i32 ((m.2 81) jj))) rfl (fun _ => rfl) ?_
            refine T_gf 179 (.int (i32 (m.1 69))) rfl rfl rfl rfl rfl rfl ?_
            refine T_iadd 180 rfl rfl ?_
            refine T_ld 182 (.int (i32 64)) rfl (fun _ => rfl) ?_
            refine T_icmp 189 185 rfl rfl rfl (r32 (by omega) (by omega)) ⟨by decide, by decide⟩ (fun (h303 : (64 : Int) < ((m.2 81) jj) + (m.1 69)) => ?_) (fun (h303 : ¬ ((64 : Int) < ((m.2 81) jj) + (m.1 69))) => ?_)
            · skip
              refine T_ld 190 (.int (i32 0)) rfl (fun _ => rfl) ?_
              refine T_gf 194 (.int (i32 (m.1 70))) rfl rfl rfl rfl rfl rfl ?_
              refine T_call 197 256 [.ref 189, .int (i32 0), .int (i32 (m.1 70))] [] rfl (fun _ => rfl) rfl (c_want w (mO m [(10, (m296.1 10)), (11, (m296.1 11)), (28, (m.1 28)), (69, (m.1 69)), (70, (m.1 70)), (71, (m.1 71)), (72, (m.1 72))] [(65, (m.2 65)), (66, (m.2 66)), (67, (m.2 67)), (68, (m.2 68)), (80, (m.2 80))]) c N D (by omega) (Ty_mO hT rfl rfl ⟨(hT297.1 10), (hT297.1 11), f28, f69, f70, f71, f72, trivial⟩ ⟨(hT.2.1 65), (hT.2.1 66), (hT.2.1 67), (hT.2.1 68), (hT.2.1 80), trivial⟩) 0 (m.1 70) ⟨by decide, by decide⟩ (r32 (by omega) (by omega)) (show 0 ≤ (m.1 70) ∧ (m.1 70) ≤ 4000 by omega) (fun (h : (m296.1 10) = 0) => absurd h (by omega))) (fun rr304 k305 => ?_)
              obtain ⟨m306, hT307, h308, c309, rfl⟩ := k305
              refine ⟨_, _, rfl, ?_⟩
              refine T_nf2 (st' := []) (l' := [(10, (m306.1 10)), (11, (m306.1 11)), (28, (m.1 28)), (69, (m.1 69)), (70, (m.1 70)), (71, (m.1 71)), (72, (m.1 72))]) (a' := [(65, (m.2 65)), (66, (m.2 66)), (67, (m.2 67)), (68, (m.2 68)), (80, (m.2 80))]) [10, 11] [] rfl ⟨rfl, rfl, rfl, rfl, rfl, rfl, rfl, rfl, rfl, rfl, rfl, rfl, rfl, rfl, trivial⟩ ⟨rfl, rfl, rfl, rfl, rfl, rfl, rfl, rfl, rfl, rfl, trivial⟩ rfl rfl (by decide) (by decide) ?_
              have g310 : 0 ≤ m306.1 10 ∧ m306.1 10 ≤ 8 := hT307.1 10
              have g311 : (-1) ≤ m306.1 11 ∧ m306.1 11 ≤ 4000 := hT307.1 11
              replace h308 : (m306.1 10) = 0 → (m296.1 10) = 0 := h308
              have hf312 : 1 ≤ (m306.1 10) := by omega
              clear c309
              clear h308
              clear g300 g301 hf302
              refine T_ld 198 (.int (i32 ((m.2 81) jj))) rfl (fun _ => rfl) ?_
              refine T_gf 202 (.int (i32 (m.1 69))) rfl rfl rfl rfl rfl rfl ?_
              refine T_iadd 203 rfl rfl ?_
              refine T_sto 204 [(2, .int (i32 (((m.2 81) jj) + (m.1 69)))), (5, .int (i32 (m.1 69))), (4, .int (i32 ((m.2 80) jj))), (3, .int (i32 ((m.2 82) jj))), (0, .ref 189), (1, .int (i32 jj))] rfl (fun _ => rfl) ?_
              refine T_goto 261 rfl (fun _ => rfl) ?_
              refine Tm_lv (a := [(0, .ref 189), (1, .int (i32 jj)), (2, .int (i32 (((m.2 81) jj) + (m.1 69)))), (3, .int (i32 ((m.2 82) jj))), (4, .int (i32 ((m.2 80) jj))), (5, .int (i32 (m.1 69)))]) rfl rfl ⟨rfl, rfl, rfl, rfl, rfl, rfl, trivial⟩ ?_
              exact J261_10 (((m.2 81) jj) + (m.1 69)) (mO m [(10, (m306.1 10)), (11, (m306.1 11)), (28, (m.1 28)), (69, (m.1 69)), (70, (m.1 70)), (71, (m.1 71)), (72, (m.1 72))] [(65, (m.2 65)), (66, (m.2 66)), (67, (m.2 67)), (68, (m.2 68)), (80, (m.2 80))]) (r32 (by omega) (by omega)) (Ty_mO hT rfl rfl ⟨(hT307.1 10), (hT307.1 11), f28, f69, f70, f71, f72, trivial⟩ ⟨(hT.2.1 65), (hT.2.1 66), (hT.2.1 67), (hT.2.1 68), (hT.2.1 80), trivial⟩) (show 0 ≤ (((m.2 81) jj) + (m.1 69)) ∧ (((m.2 81) jj) + (m.1 69)) ≤ (m.1 69) + 64 by omega) (fun (h : (m306.1 10) = 0) => absurd h (by omega))
            · skip
              refine T_ld 186 (.int (i32 1)) rfl (fun _ => rfl) ?_
              refine T_goto 190 rfl (fun _ => rfl) ?_
              refine T_gf 194 (.int (i32 (m.1 70))) rfl rfl rfl rfl rfl rfl ?_
              refine T_call 197 256 [.ref 189, .int (i32 1), .int (i32 (m.1 70))] [] rfl (fun _ => rfl) rfl (c_want w (mO m [(10, (m296.1 10)), (11, (m296.1 11)), (28, (m.1 28)), (69, (m.1 69)), (70, (m.1 70)), (71, (m.1 71)), (72, (m.1 72))] [(65, (m.2 65)), (66, (m.2 66)), (67, (m.2 67)), (68, (m.2 68)), (80, (m.2 80))]) c N D (by omega) (Ty_mO hT rfl rfl ⟨(hT297.1 10), (hT297.1 11), f28, f69, f70, f71, f72, trivial⟩ ⟨(hT.2.1 65), (hT.2.1 66), (hT.2.1 67), (hT.2.1 68), (hT.2.1 80), trivial⟩) 1 (m.1 70) ⟨by decide, by decide⟩ (r32 (by omega) (by omega)) (show 0 ≤ (m.1 70) ∧ (m.1 70) ≤ 4000 by omega) (fun (h : (m296.1 10) = 0) => absurd h (by omega))) (fun rr313 k314 => ?_)
              obtain ⟨m315, hT316, h317, c318, rfl⟩ := k314
              refine ⟨_, _, rfl, ?_⟩
              refine T_nf2 (st' := []) (l' := [(10, (m315.1 10)), (11, (m315.1 11)), (28, (m.1 28)), (69, (m.1 69)), (70, (m.1 70)), (71, (m.1 71)), (72, (m.1 72))]) (a' := [(65, (m.2 65)), (66, (m.2 66)), (67, (m.2 67)), (68, (m.2 68)), (80, (m.2 80))]) [10, 11] [] rfl ⟨rfl, rfl, rfl, rfl, rfl, rfl, rfl, rfl, rfl, rfl, rfl, rfl, rfl, rfl, trivial⟩ ⟨rfl, rfl, rfl, rfl, rfl, rfl, rfl, rfl, rfl, rfl, trivial⟩ rfl rfl (by decide) (by decide) ?_
              have g319 : 0 ≤ m315.1 10 ∧ m315.1 10 ≤ 8 := hT316.1 10
              have g320 : (-1) ≤ m315.1 11 ∧ m315.1 11 ≤ 4000 := hT316.1 11
              replace h317 : (m315.1 10) = 0 → (m296.1 10) = 0 := h317
              have hf321 : 1 ≤ (m315.1 10) := by omega
              clear c318
              clear h317
              clear g300 g301 hf302
              refine T_ld 198 (.int (i32 ((m.2 81) jj))) rfl (fun _ => rfl) ?_
              refine T_gf 202 (.int (i32 (m.1 69))) rfl rfl rfl rfl rfl rfl ?_
              refine T_iadd 203 rfl rfl ?_
              refine T_sto 204 [(2, .int (i32 (((m.2 81) jj) + (m.1 69)))), (5, .int (i32 (m.1 69))), (4, .int (i32 ((m.2 80) jj))), (3, .int (i32 ((m.2 82) jj))), (0, .ref 189), (1, .int (i32 jj))] rfl (fun _ => rfl) ?_
              refine T_goto 261 rfl (fun _ => rfl) ?_
              refine Tm_lv (a := [(0, .ref 189), (1, .int (i32 jj)), (2, .int (i32 (((m.2 81) jj) + (m.1 69)))), (3, .int (i32 ((m.2 82) jj))), (4, .int (i32 ((m.2 80) jj))), (5, .int (i32 (m.1 69)))]) rfl rfl ⟨rfl, rfl, rfl, rfl, rfl, rfl, trivial⟩ ?_
              exact J261_10 (((m.2 81) jj) + (m.1 69)) (mO m [(10, (m315.1 10)), (11, (m315.1 11)), (28, (m.1 28)), (69, (m.1 69)), (70, (m.1 70)), (71, (m.1 71)), (72, (m.1 72))] [(65, (m.2 65)), (66, (m.2 66)), (67, (m.2 67)), (68, (m.2 68)), (80, (m.2 80))]) (r32 (by omega) (by omega)) (Ty_mO hT rfl rfl ⟨(hT316.1 10), (hT316.1 11), f28, f69, f70, f71, f72, trivial⟩ ⟨(hT.2.1 65), (hT.2.1 66), (hT.2.1 67), (hT.2.1 68), (hT.2.1 80), trivial⟩) (show 0 ≤ (((m.2 81) jj) + (m.1 69)) ∧ (((m.2 81) jj) + (m.1 69)) ≤ (m.1 69) + 64 by omega) (fun (h : (m315.1 10) = 0) => absurd h (by omega))
      · skip
        refine T_ld 145 (.int (i32 1)) rfl (fun _ => rfl) ?_
        refine T_goto 149 rfl (fun _ => rfl) ?_
        refine T_ld 150 (.int (i32 ((m.2 82) jj))) rfl (fun _ => rfl) ?_
        refine T_call 153 256 [.ref 189, .int (i32 1), .int (i32 ((m.2 82) jj))] [] rfl (fun _ => rfl) rfl (c_want w (mO m [(10, (m.1 10)), (11, (m.1 11)), (28, (m.1 28)), (69, (m.1 69)), (70, (m.1 70)), (71, (m.1 71)), (72, (m.1 72))] [(65, (m.2 65)), (66, (m.2 66)), (67, (m.2 67)), (68, (m.2 68)), (80, (m.2 80))]) c N D (by omega) (Ty_mO hT rfl rfl ⟨f10, f11, f28, f69, f70, f71, f72, trivial⟩ ⟨(hT.2.1 65), (hT.2.1 66), (hT.2.1 67), (hT.2.1 68), (hT.2.1 80), trivial⟩) 1 ((m.2 82) jj) ⟨by decide, by decide⟩ (r32 (by omega) (by omega)) (show 0 ≤ ((m.2 82) jj) ∧ ((m.2 82) jj) ≤ 4000 by omega) (fun _ => trivial)) (fun rr322 k323 => ?_)
        obtain ⟨m324, hT325, h326, c327, rfl⟩ := k323
        refine ⟨_, _, rfl, ?_⟩
        refine T_nf2 (st' := []) (l' := [(10, (m324.1 10)), (11, (m324.1 11)), (28, (m.1 28)), (69, (m.1 69)), (70, (m.1 70)), (71, (m.1 71)), (72, (m.1 72))]) (a' := [(65, (m.2 65)), (66, (m.2 66)), (67, (m.2 67)), (68, (m.2 68)), (80, (m.2 80))]) [10, 11] [] rfl ⟨rfl, rfl, rfl, rfl, rfl, rfl, rfl, rfl, rfl, rfl, rfl, rfl, rfl, rfl, trivial⟩ ⟨rfl, rfl, rfl, rfl, rfl, rfl, rfl, rfl, rfl, rfl, trivial⟩ rfl rfl (by decide) (by decide) ?_
        have g328 : 0 ≤ m324.1 10 ∧ m324.1 10 ≤ 8 := hT325.1 10
        have g329 : (-1) ≤ m324.1 11 ∧ m324.1 11 ≤ 4000 := hT325.1 11
        by_cases hf330 : (m324.1 10) = 0
        · skip
          replace h326 : (m.1 10) = 0 := h326 hf330
          have c331 := c327 hf330
          replace c331 : (1 : Int) ≠ 0 := c331
          clear c327
          clear g75a g75b h76
          refine T_ld 154 (.ref 189) rfl (fun _ => rfl) ?_
          refine T_gf 158 (.int (i32 (m.1 71))) rfl rfl rfl rfl rfl rfl ?_
          refine T_if 165 161 rfl rfl rfl (r32 (by omega) (by omega)) (fun (h332 : (m.1 71) ≠ 0) => ?_) (fun (h332 : ¬ ((m.1 71) ≠ 0)) => ?_)
          · skip
            refine T_ld 166 (.int (i32 0)) rfl (fun _ => rfl) ?_
            refine T_gf 170 (.int (i32 (m.1 70))) rfl rfl rfl rfl rfl rfl ?_
            refine T_call 173 256 [.ref 189, .int (i32 0), .int (i32 (m.1 70))] [] rfl (fun _ => rfl) rfl (c_want w (mO m [(10, (m324.1 10)), (11, (m324.1 11)), (28, (m.1 28)), (69, (m.1 69)), (70, (m.1 70)), (71, (m.1 71)), (72, (m.1 72))] [(65, (m.2 65)), (66, (m.2 66)), (67, (m.2 67)), (68, (m.2 68)), (80, (m.2 80))]) c N D (by omega) (Ty_mO hT rfl rfl ⟨(hT325.1 10), (hT325.1 11), f28, f69, f70, f71, f72, trivial⟩ ⟨(hT.2.1 65), (hT.2.1 66), (hT.2.1 67), (hT.2.1 68), (hT.2.1 80), trivial⟩) 0 (m.1 70) ⟨by decide, by decide⟩ (r32 (by omega) (by omega)) (show 0 ≤ (m.1 70) ∧ (m.1 70) ≤ 4000 by omega) (fun _ => trivial)) (fun rr333 k334 => ?_)
            obtain ⟨m335, hT336, h337, c338, rfl⟩ := k334
            refine ⟨_, _, rfl, ?_⟩
            refine T_nf2 (st' := []) (l' := [(10, (m335.1 10)), (11, (m335.1 11)), (28, (m.1 28)), (69, (m.1 69)), (70, (m.1 70)), (71, (m.1 71)), (72, (m.1 72))]) (a' := [(65, (m.2 65)), (66, (m.2 66)), (67, (m.2 67)), (68, (m.2 68)), (80, (m.2 80))]) [10, 11] [] rfl ⟨rfl, rfl, rfl, rfl, rfl, rfl, rfl, rfl, rfl, rfl, rfl, rfl, rfl, rfl, trivial⟩ ⟨rfl, rfl, rfl, rfl, rfl, rfl, rfl, rfl, rfl, rfl, trivial⟩ rfl rfl (by decide) (by decide) ?_
            have g339 : 0 ≤ m335.1 10 ∧ m335.1 10 ≤ 8 := hT336.1 10
            have g340 : (-1) ≤ m335.1 11 ∧ m335.1 11 ≤ 4000 := hT336.1 11
            by_cases hf341 : (m335.1 10) = 0
            · skip
              replace h337 : (m324.1 10) = 0 := h337 hf341
              have c342 := c338 hf341
              replace c342 : (0 : Int) ≠ 0 := c342
              clear c338
              clear g328 g329 h337
              refine T_ld 174 (.ref 189) rfl (fun _ => rfl) ?_
              refine T_ld 175 (.int (i32 ((m.2 81) jj))) rfl (fun _ => rfl) ?_
              refine T_gf 179 (.int (i32 (m.1 69))) rfl rfl rfl rfl rfl rfl ?_
              refine T_iadd 180 rfl rfl ?_
              refine T_ld 182 (.int (i32 64)) rfl (fun _ => rfl) ?_
              refine T_icmp 189 185 rfl rfl rfl (r32 (by omega) (by omega)) ⟨by decide, by decide⟩ (fun (h343 : (64 : Int) < ((m.2 81) jj) + (m.1 69)) => ?_) (fun (h343 : ¬ ((64 : Int) < ((m.2 81) jj) + (m.1 69))) => ?_)
              · skip
                refine T_ld 190 (.int (i32 0)) rfl (fun _ => rfl) ?_
                refine T_gf 194 (.int (i32 (m.1 70))) rfl rfl rfl rfl rfl rfl ?_
                refine T_call 197 256 [.ref 189, .int (i32 0), .int (i32 (m.1 70))] [] rfl (fun _ => rfl) rfl (c_want w (mO m [(10, (m335.1 10)), (11, (m335.1 11)), (28, (m.1 28)), (69, (m.1 69)), (70, (m.1 70)), (71, (m.1 71)), (72, (m.1 72))] [(65, (m.2 65)), (66, (m.2 66)), (67, (m.2 67)), (68, (m.2 68)), (80, (m.2 80))]) c N D (by omega) (Ty_mO hT rfl rfl ⟨(hT336.1 10), (hT336.1 11), f28, f69, f70, f71, f72, trivial⟩ ⟨(hT.2.1 65), (hT.2.1 66), (hT.2.1 67), (hT.2.1 68), (hT.2.1 80), trivial⟩) 0 (m.1 70) ⟨by decide, by decide⟩ (r32 (by omega) (by omega)) (show 0 ≤ (m.1 70) ∧ (m.1 70) ≤ 4000 by omega) (fun _ => trivial)) (fun rr344 k345 => ?_)
                obtain ⟨m346, hT347, h348, c349, rfl⟩ := k345
                refine ⟨_, _, rfl, ?_⟩
                refine T_nf2 (st' := []) (l' := [(10, (m346.1 10)), (11, (m346.1 11)), (28, (m.1 28)), (69, (m.1 69)), (70, (m.1 70)), (71, (m.1 71)), (72, (m.1 72))]) (a' := [(65, (m.2 65)), (66, (m.2 66)), (67, (m.2 67)), (68, (m.2 68)), (80, (m.2 80))]) [10, 11] [] rfl ⟨rfl, rfl, rfl, rfl, rfl, rfl, rfl, rfl, rfl, rfl, rfl, rfl, rfl, rfl, trivial⟩ ⟨rfl, rfl, rfl, rfl, rfl, rfl, rfl, rfl, rfl, rfl, trivial⟩ rfl rfl (by decide) (by decide) ?_
                have g350 : 0 ≤ m346.1 10 ∧ m346.1 10 ≤ 8 := hT347.1 10
                have g351 : (-1) ≤ m346.1 11 ∧ m346.1 11 ≤ 4000 := hT347.1 11
                by_cases hf352 : (m346.1 10) = 0
                · skip
                  replace h348 : (m335.1 10) = 0 := h348 hf352
                  have c353 := c349 hf352
                  replace c353 : (0 : Int) ≠ 0 := c353
                  clear c349
                  clear g339 g340 h348
                  refine T_ld 198 (.int (i32 ((m.2 81) jj))) rfl (fun _ => rfl) ?_
                  refine T_gf 202 (.int (i32 (m.1 69))) rfl rfl rfl rfl rfl rfl ?_
                  refine T_iadd 203 rfl rfl ?_
                  refine T_sto 204 [(2, .int (i32 (((m.2 81) jj) + (m.1 69)))), (5, .int (i32 (m.1 69))), (4, .int (i32 ((m.2 80) jj))), (3, .int (i32 ((m.2 82) jj))), (0, .ref 189), (1, .int (i32 jj))] rfl (fun _ => rfl) ?_
                  refine T_goto 261 rfl (fun _ => rfl) ?_
                  refine Tm_lv (a := [(0, .ref 189), (1, .int (i32 jj)), (2, .int (i32 (((m.2 81) jj) + (m.1 69)))), (3, .int (i32 ((m.2 82) jj))), (4, .int (i32 ((m.2 80) jj))), (5, .int (i32 (m.1 69)))]) rfl rfl ⟨rfl, rfl, rfl, rfl, rfl, rfl, trivial⟩ ?_
                  exact J261_10 (((m.2 81) jj) + (m.1 69)) (mO m [(10, (m346.1 10)), (11, (m346.1 11)), (28, (m.1 28)), (69, (m.1 69)), (70, (m.1 70)), (71, (m.1 71)), (72, (m.1 72))] [(65, (m.2 65)), (66, (m.2 66)), (67, (m.2 67)), (68, (m.2 68)), (80, (m.2 80))]) (r32 (by omega) (by omega)) (Ty_mO hT rfl rfl ⟨(hT347.1 10), (hT347.1 11), f28, f69, f70, f71, f72, trivial⟩ ⟨(hT.2.1 65), (hT.2.1 66), (hT.2.1 67), (hT.2.1 68), (hT.2.1 80), trivial⟩) (show 0 ≤ (((m.2 81) jj) + (m.1 69)) ∧ (((m.2 81) jj) + (m.1 69)) ≤ (m.1 69) + 64 by omega) (fun _ => (show (((m.2 81) jj) + (m.1 69)) ≤ 64 by omega))
                · skip
                  clear c349
                  clear h348
                  have hf354 : 1 ≤ (m346.1 10) := by omega
                  clear g339 g340
                  refine T_ld 198 (.int (i32 ((m.2 81) jj))) rfl (fun _ => rfl) ?_
                  refine T_gf 202 (.int (i32 (m.1 69))) rfl rfl rfl rfl rfl rfl ?_
                  refine T_iadd 203 rfl rfl ?_
                  refine T_sto 204 [(2, .int (i32 (((m.2 81) jj) + (m.1 69)))), (5, .int (i32 (m.1 69))), (4, .int (i32 ((m.2 80) jj))), (3, .int (i32 ((m.2 82) jj))), (0, .ref 189), (1, .int (i32 jj))] rfl (fun _ => rfl) ?_
                  refine T_goto 261 rfl (fun _ => rfl) ?_
                  refine Tm_lv (a := [(0, .ref 189), (1, .int (i32 jj)), (2, .int (i32 (((m.2 81) jj) + (m.1 69)))), (3, .int (i32 ((m.2 82) jj))), (4, .int (i32 ((m.2 80) jj))), (5, .int (i32 (m.1 69)))]) rfl rfl ⟨rfl, rfl, rfl, rfl, rfl, rfl, trivial⟩ ?_
                  exact J261_10 (((m.2 81) jj) + (m.1 69)) (mO m [(10, (m346.1 10)), (11, (m346.1 11)), (28, (m.1 28)), (69, (m.1 69)), (70, (m.1 70)), (71, (m.1 71)), (72, (m.1 72))] [(65, (m.2 65)), (66, (m.2 66)), (67, (m.2 67)), (68, (m.2 68)), (80, (m.2 80))]) (r32 (by omega) (by omega)) (Ty_mO hT rfl rfl ⟨(hT347.1 10), (hT347.1 11), f28, f69, f70, f71, f72, trivial⟩ ⟨(hT.2.1 65), (hT.2.1 66), (hT.2.1 67), (hT.2.1 68), (hT.2.1 80), trivial⟩) (show 0 ≤ (((m.2 81) jj) + (m.1 69)) ∧ (((m.2 81) jj) + (m.1 69)) ≤ (m.1 69) + 64 by omega) (fun (h : (m346.1 10) = 0) => absurd h (by omega))
              · skip
                refine T_ld 186 (.int (i32 1)) rfl (fun _ => rfl) ?_
                refine T_goto 190 rfl (fun _ => rfl) ?_
                refine T_gf 194 (.int (i32 (m.1 70))) rfl rfl rfl rfl rfl rfl ?_
                refine T_call 197 256 [.ref 189, .int (i32 1), .int (i32 (m.1 70))] [] rfl (fun _ => rfl) rfl (c_want w (mO m [(10, (m335.1 10)), (11, (m335.1 11)), (28, (m.1 28)), (69, (m.1 69)), (70, (m.1 70)), (71, (m.1 71)), (72, (m.1 72))] [(65, (m.2 65)), (66, (m.2 66)), (67, (m.2 67)), (68, (m.2 68)), (80, (m.2 80))]) c N D (by omega) (Ty_mO hT rfl rfl ⟨(hT336.1 10), (hT336.1 11), f28, f69, f70, f71, f72, trivial⟩ ⟨(hT.2.1 65), (hT.2.1 66), (hT.2.1 67), (hT.2.1 68), (hT.2.1 80), trivial⟩) 1 (m.1 70) ⟨by decide, by decide⟩ (r32 (by omega) (by omega)) (show 0 ≤ (m.1 70) ∧ (m.1 70) ≤ 4000 by omega) (fun _ => trivial)) (fun rr355 k356 => ?_)
                obtain ⟨m357, hT358, h359, c360, rfl⟩ := k356
                refine ⟨_, _, rfl, ?_⟩
                refine T_nf2 (st' := []) (l' := [(10, (m357.1 10)), (11, (m357.1 11)), (28, (m.1 28)), (69, (m.1 69)), (70, (m.1 70)), (71, (m.1 71)), (72, (m.1 72))]) (a' := [(65, (m.2 65)), (66, (m.2 66)), (67, (m.2 67)), (68, (m.2 68)), (80, (m.2 80))]) [10, 11] [] rfl ⟨rfl, rfl, rfl, rfl, rfl, rfl, rfl, rfl, rfl, rfl, rfl, rfl, rfl, rfl, trivial⟩ ⟨rfl, rfl, rfl, rfl, rfl, rfl, rfl, rfl, rfl, rfl, trivial⟩ rfl rfl (by decide) (by decide) ?_
                have g361 : 0 ≤ m357.1 10 ∧ m357.1 10 ≤ 8 := hT358.1 10
                have g362 : (-1) ≤ m357.1 11 ∧ m357.1 11 ≤ 4000 := hT358.1 11
                by_cases hf363 : (m357.1 10) = 0
                · skip
                  replace h359 : (m335.1 10) = 0 := h359 hf363
                  have c364 := c360 hf363
                  replace c364 : (1 : Int) ≠ 0 := c364
                  clear c360
                  clear g339 g340 h359
                  refine T_ld 198 (.int (i32 ((m.2 81) jj))) rfl (fun _ => rfl) ?_
                  refine T_gf 202 (.int (i32 (m.1 69))) rfl rfl rfl rfl rfl rfl ?_
                  refine T_iadd 203 rfl rfl ?_
                  refine T_sto 204 [(2, .int (i32 (((m.2 81) jj) + (m.1 69)))), (5, .int (i32 (m.1 69))), (4, .int (i32 ((m.2 80) jj))), (3, .int (i32 ((m.2 82) jj))), (0, .ref 189), (1, .int (i32 jj))] rfl (fun _ => rfl) ?_
                  refine T_goto 261 rfl (fun _ => rfl) ?_
                  refine Tm_lv (a := [(0, .ref 189), (1, .int (i32 jj)), (2, .int (i32 (((m.2 81) jj) + (m.1 69)))), (3, .int (i32 ((m.2 82) jj))), (4, .int (i32 ((m.2 80) jj))), (5, .int (i32 (m.1 69)))]) rfl rfl ⟨rfl, rfl, rfl, rfl, rfl, rfl, trivial⟩ ?_
                  exact J261_10 (((m.2 81) jj) + (m.1 69)) (mO m [(10, (m357.1 10)), (11, (m357.1 11)), (28, (m.1 28)), (69, (m.1 69)), (70, (m.1 70)), (71, (m.1 71)), (72, (m.1 72))] [(65, (m.2 65)), (66, (m.2 66)), (67, (m.2 67)), (68, (m.2 68)), (80, (m.2 80))]) (r32 (by omega) (by omega)) (Ty_mO hT rfl rfl ⟨(hT358.1 10), (hT358.1 11), f28, f69, f70, f71, f72, trivial⟩ ⟨(hT.2.1 65), (hT.2.1 66), (hT.2.1 67), (hT.2.1 68), (hT.2.1 80), trivial⟩) (show 0 ≤ (((m.2 81) jj) + (m.1 69)) ∧ (((m.2 81) jj) + (m.1 69)) ≤ (m.1 69) + 64 by omega) (fun _ => (show (((m.2 81) jj) + (m.1 69)) ≤ 64 by omega))
                · skip
                  clear c360
                  clear h359
                  have hf365 : 1 ≤ (m357.1 10) := by omega
                  clear g339 g340
                  refine T_ld 198 (.int (i32 ((m.2 81) jj))) rfl (fun _ => rfl) ?_
                  refine T_gf 202 (.int (i32 (m.1 69))) rfl rfl rfl rfl rfl rfl ?_
                  refine T_iadd 203 rfl rfl ?_
                  refine T_sto 204 [(2, .int (i32 (((m.2 81) jj) + (m.1 69)))), (5, .int (i32 (m.1 69))), (4, .int (i32 ((m.2 80) jj))), (3, .int (i32 ((m.2 82) jj))), (0, .ref 189), (1, .int (i32 jj))] rfl (fun _ => rfl) ?_
                  refine T_goto 261 rfl (fun _ => rfl) ?_
                  refine Tm_lv (a := [(0, .ref 189), (1, .int (i32 jj)), (2, .int (i32 (((m.2 81) jj) + (m.1 69)))), (3, .int (i32 ((m.2 82) jj))), (4, .int (i32 ((m.2 80) jj))), (5, .int (i32 (m.1 69)))]) rfl rfl ⟨rfl, rfl, rfl, rfl, rfl, rfl, trivial⟩ ?_
                  exact J261_10 (((m.2 81) jj) + (m.1 69)) (mO m [(10, (m357.1 10)), (11, (m357.1 11)), (28, (m.1 28)), (69, (m.1 69)), (70, (m.1 70)), (71, (m.1 71)), (72, (m.1 72))] [(65, (m.2 65)), (66, (m.2 66)), (67, (m.2 67)), (68, (m.2 68)), (80, (m.2 80))]) (r32 (by omega) (by omega)) (Ty_mO hT rfl rfl ⟨(hT358.1 10), (hT358.1 11), f28, f69, f70, f71, f72, trivial⟩ ⟨(hT.2.1 65), (hT.2.1 66), (hT.2.1 67), (hT.2.1 68), (hT.2.1 80), trivial⟩) (show 0 ≤ (((m.2 81) jj) + (m.1 69)) ∧ (((m.2 81) jj) + (m.1 69)) ≤ (m.1 69) + 64 by omega) (fun (h : (m357.1 10) = 0) => absurd h (by omega))
            · skip
              clear c338
              clear h337
              have hf366 : 1 ≤ (m335.1 10) := by omega
              clear g328 g329
              refine T_ld 174 (.ref 189) rfl (fun _ => rfl) ?_
              refine T_ld 175 (.int (i32 ((m.2 81) jj))) rfl (fun _ => rfl) ?_
              refine T_gf 179 (.int (i32 (m.1 69))) rfl rfl rfl rfl rfl rfl ?_
              refine T_iadd 180 rfl rfl ?_
              refine T_ld 182 (.int (i32 64)) rfl (fun _ => rfl) ?_
              refine T_icmp 189 185 rfl rfl rfl (r32 (by omega) (by omega)) ⟨by decide, by decide⟩ (fun (h367 : (64 : Int) < ((m.2 81) jj) + (m.1 69)) => ?_) (fun (h367 : ¬ ((64 : Int) < ((m.2 81) jj) + (m.1 69))) => ?_)
              · skip
                refine T_ld 190 (.int (i32 0)) rfl (fun _ => rfl) ?_
                refine T_gf 194 (.int (i32 (m.1 70))) rfl rfl rfl rfl rfl rfl ?_
                refine T_call 197 256 [.ref 189, .int (i32 0), .int (i32 (m.1 70))] [] rfl (fun _ => rfl) rfl (c_want w (mO m [(10, (m335.1 10)), (11, (m335.1 11)), (28, (m.1 28)), (69, (m.1 69)), (70, (m.1 70)), (71, (m.1 71)), (72, (m.1 72))] [(65, (m.2 65)), (66, (m.2 66)), (67, (m.2 67)), (68, (m.2 68)), (80, (m.2 80))]) c N D (by omega) (Ty_mO hT rfl rfl ⟨(hT336.1 10), (hT336.1 11), f28, f69, f70, f71, f72, trivial⟩ ⟨(hT.2.1 65), (hT.2.1 66), (hT.2.1 67), (hT.2.1 68), (hT.2.1 80), trivial⟩) 0 (m.1 70) ⟨by decide, by decide⟩ (r32 (by omega) (by omega)) (show 0 ≤ (m.1 70) ∧ (m.1 70) ≤ 4000 by omega) (fun (h : (m335.1 10) = 0) => absurd h (by omega))) (fun rr368 k369 => ?_)
                obtain ⟨m370, hT371, h372, c373, rfl⟩ := k369
                refine ⟨_, _, rfl, ?_⟩
                refine T_nf2 (st' := []) (l' := [(10, (m370.1 10)), (11, (m370.1 11)), (28, (m.1 28)), (69, (m.1 69)), (70, (m.1 70)), (71, (m.1 71)), (72, (m.1 72))]) (a' := [(65, (m.2 65)), (66, (m.2 66)), (67, (m.2 67)), (68, (m.2 68)), (80, (m.2 80))]) [10, 11] [] rfl ⟨rfl, rfl, rfl, rfl, rfl, rfl, rfl, rfl, rfl, rfl, rfl, rfl, rfl, rfl, trivial⟩ ⟨rfl, rfl, rfl, rfl, rfl, rfl, rfl, rfl, rfl, rfl, trivial⟩ rfl rfl (by decide) (by decide) ?_
                have g374 : 0 ≤ m370.1 10 ∧ m370.1 10 ≤ 8 := hT371.1 10
                have g375 : (-1) ≤ m370.1 11 ∧ m370.1 11 ≤ 4000 := hT371.1 11
                replace h372 : (m370.1 10) = 0 → (m335.1 10) = 0 := h372
                have hf376 : 1 ≤ (m370.1 10) := by omega
                clear c373
                clear h372
                clear g339 g340 hf366
                refine T_ld 198 (.int (i32 ((m.2 81) jj))) rfl (fun _ => rfl) ?_
                refine T_gf 202 (.int (i32 (m.1 69))) rfl rfl rfl rfl rfl rfl ?_
                refine T_iadd 203 rfl rfl ?_
                refine T_sto 204 [(2, .int (i32 (((m.2 81) jj) + (m.1 69)))), (5, .int (i32 (m.1 69))), (4, .int (i32 ((m.2 80) jj))), (3, .int (i32 ((m.2 82) jj))), (0, .ref 189), (1, .int (i32 jj))] rfl (fun _ => rfl) ?_
                refine T_goto 261 rfl (fun _ => rfl) ?_
                refine Tm_lv (a := [(0, .ref 189), (1, .int (i32 jj)), (2, .int (i32 (((m.2 81) jj) + (m.1 69)))), (3, .int (i32 ((m.2 82) jj))), (4, .int (i32 ((m.2 80) jj))), (5, .int (i32 (m.1 69)))]) rfl rfl ⟨rfl, rfl, rfl, rfl, rfl, rfl, trivial⟩ ?_
                exact J261_10 (((m.2 81) jj) + (m.1 69)) (mO m [(10, (m370.1 10)), (11, (m370.1 11)), (28, (m.1 28)), (69, (m.1 69)), (70, (m.1 70)), (71, (m.1 71)), (72, (m.1 72))] [(65, (m.2 65)), (66, (m.2 66)), (67, (m.2 67)), (68, (m.2 68)), (80, (m.2 80))]) (r32 (by omega) (by omega)) (Ty_mO hT rfl rfl ⟨(hT371.1 10), (hT371.1 11), f28, f69, f70, f71, f72, trivial⟩ ⟨(hT.2.1 65), (hT.2.1 66), (hT.2.1 67), (hT.2.1 68), (hT.2.1 80), trivial⟩) (show 0 ≤ (((m.2 81) jj) + (m.1 69)) ∧ (((m.2 81) jj) + (m.1 69)) ≤ (m.1 69) + 64 by omega) (fun (h : (m370.1 10) = 0) => absurd h (by omega))
              · skip
                refine T_ld 186 (.int (i32 1)) rfl (fun _ => rfl) ?_
                refine T_goto 190 rfl (fun _ => rfl) ?_
                refine T_gf 194 (.int (i32 (m.1 70))) rfl rfl rfl rfl rfl rfl ?_
                refine T_call 197 256 [.ref 189, .int (i32 1), .int (i32 (m.1 70))] [] rfl (fun _ => rfl) rfl (c_want w (mO m [(10, (m335.1 10)), (11, (m335.1 11)), (28, (m.1 28)), (69, (m.1 69)), (70, (m.1 70)), (71, (m.1 71)), (72, (m.1 72))] [(65, (m.2 65)), (66, (m.2 66)), (67, (m.2 67)), (68, (m.2 68)), (80, (m.2 80))]) c N D (by omega) (Ty_mO hT rfl rfl ⟨(hT336.1 10), (hT336.1 11), f28, f69, f70, f71, f72, trivial⟩ ⟨(hT.2.1 65), (hT.2.1 66), (hT.2.1 67), (hT.2.1 68), (hT.2.1 80), trivial⟩) 1 (m.1 70) ⟨by decide, by decide⟩ (r32 (by omega) (by omega)) (show 0 ≤ (m.1 70) ∧ (m.1 70) ≤ 4000 by omega) (fun (h : (m335.1 10) = 0) => absurd h (by omega))) (fun rr377 k378 => ?_)
                obtain ⟨m379, hT380, h381, c382, rfl⟩ := k378
                refine ⟨_, _, rfl, ?_⟩
                refine T_nf2 (st' := []) (l' := [(10, (m379.1 10)), (11, (m379.1 11)), (28, (m.1 28)), (69, (m.1 69)), (70, (m.1 70)), (71, (m.1 71)), (72, (m.1 72))]) (a' := [(65, (m.2 65)), (66, (m.2 66)), (67, (m.2 67)), (68, (m.2 68)), (80, (m.2 80))]) [10, 11] [] rfl ⟨rfl, rfl, rfl, rfl, rfl, rfl, rfl, rfl, rfl, rfl, rfl, rfl, rfl, rfl, trivial⟩ ⟨rfl, rfl, rfl, rfl, rfl, rfl, rfl, rfl, rfl, rfl, trivial⟩ rfl rfl (by decide) (by decide) ?_
                have g383 : 0 ≤ m379.1 10 ∧ m379.1 10 ≤ 8 := hT380.1 10
                have g384 : (-1) ≤ m379.1 11 ∧ m379.1 11 ≤ 4000 := hT380.1 11
                replace h381 : (m379.1 10) = 0 → (m335.1 10) = 0 := h381
                have hf385 : 1 ≤ (m379.1 10) := by omega
                clear c382
                clear h381
                clear g339 g340 hf366
                refine T_ld 198 (.int (i32 ((m.2 81) jj))) rfl (fun _ => rfl) ?_
                refine T_gf 202 (.int (i32 (m.1 69))) rfl rfl rfl rfl rfl rfl ?_
                refine T_iadd 203 rfl rfl ?_
                refine T_sto 204 [(2, .int (i32 (((m.2 81) jj) + (m.1 69)))), (5, .int (i32 (m.1 69))), (4, .int (i32 ((m.2 80) jj))), (3, .int (i32 ((m.2 82) jj))), (0, .ref 189), (1, .int (i32 jj))] rfl (fun _ => rfl) ?_
                refine T_goto 261 rfl (fun _ => rfl) ?_
                refine Tm_lv (a := [(0, .ref 189), (1, .int (i32 jj)), (2, .int (i32 (((m.2 81) jj) + (m.1 69)))), (3, .int (i32 ((m.2 82) jj))), (4, .int (i32 ((m.2 80) jj))), (5, .int (i32 (m.1 69)))]) rfl rfl ⟨rfl, rfl, rfl, rfl, rfl, rfl, trivial⟩ ?_
                exact J261_10 (((m.2 81) jj) + (m.1 69)) (mO m [(10, (m379.1 10)), (11, (m379.1 11)), (28, (m.1 28)), (69, (m.1 69)), (70, (m.1 70)), (71, (m.1 71)), (72, (m.1 72))] [(65, (m.2 65)), (66, (m.2 66)), (67, (m.2 67)), (68, (m.2 68)), (80, (m.2 80))]) (r32 (by omega) (by omega)) (Ty_mO hT rfl rfl ⟨(hT380.1 10), (hT380.1 11), f28, f69, f70, f71, f72, trivial⟩ ⟨(hT.2.1 65), (hT.2.1 66), (hT.2.1 67), (hT.2.1 68), (hT.2.1 80), trivial⟩) (show 0 ≤ (((m.2 81) jj) + (m.1 69)) ∧ (((m.2 81) jj) + (m.1 69)) ≤ (m.1 69) + 64 by omega) (fun (h : (m379.1 10) = 0) => absurd h (by omega))
          · skip
            refine T_ld 162 (.int (i32 1)) rfl (fun _ => rfl) ?_
            refine T_goto 166 rfl (fun _ => rfl) ?_
            refine T_gf 170 (.int (i32 (m.1 70))) rfl rfl rfl rfl rfl rfl ?_
            refine T_call 173 256 [.ref 189, .int (i32 1), .int (i32 (m.1 70))] [] rfl (fun _ => rfl) rfl (c_want w (mO m [(10, (m324.1 10)), (11, (m324.1 11)), (28, (m.1 28)), (69, (m.1 69)), (70, (m.1 70)), (71, (m.1 71)), (72, (m.1 72))] [(65, (m.2 65)), (66, (m.2 66)), (67, (m.2 67)), (68, (m.2 68)), (80, (m.2 80))]) c N D (by omega) (Ty_mO hT rfl rfl ⟨(hT325.1 10), (hT325.1 11), f28, f69, f70, f71, f72, trivial⟩ ⟨(hT.2.1 65), (hT.2.1 66), (hT.2.1 67), (hT.2.1 68), (hT.2.1 80), trivial⟩) 1 (m.1 70) ⟨by decide, by decide⟩ (r32 (by omega) (by omega)) (show 0 ≤ (m.1 70) ∧ (m.1 70) ≤ 4000 by omega) (fun _ => trivial)) (fun rr386 k387 => ?_)
            obtain ⟨m388, hT389, h390, c391, rfl⟩ := k387
            refine ⟨_, _, rfl, ?_⟩
            refine T_nf2 (st' := []) (l' := [(10, (m388.1 10)), (11, (m388.1 11)), (28, (m.1 28)), (69, (m.1 69)), (70, (m.1 70)), (71, (m.1 71)), (72, (m.1 72))]) (a' := [(65, (m.2 65)), (66, (m.2 66)), (67, (m.2 67)), (68, (m.2 68)), (80, (m.2 80))]) [10, 11] [] rfl ⟨rfl, rfl, rfl, rfl, rfl, rfl, rfl, rfl, rfl, rfl, rfl, rfl, rfl, rfl, trivial⟩ ⟨rfl, rfl, rfl, rfl, rfl, rfl, rfl, rfl, rfl, rfl, trivial⟩ rfl rfl (by decide) (by decide) ?_
            have g392 : 0 ≤ m388.1 10 ∧ m388.1 10 ≤ 8 := hT389.1 10
            have g393 : (-1) ≤ m388.1 11 ∧ m388.1 11 ≤ 4000 := hT389.1 11
            by_cases hf394 : (m388.1 10) = 0
            · skip
              replace h390 : (m324.1 10) = 0 := h390 hf394
              have c395 := c391 hf394
              replace c395 : (1 : Int) ≠ 0 := c395
              clear c391
              clear g328 g329 h390
              refine T_ld 174 (.ref 189) rfl (fun _ => rfl) ?_
              refine T_ld 175 (.int (i32 ((m.2 81) jj))) rfl (fun _ => rfl) ?_
              refine T_gf 179 (.int (i32 (m.1 69))) rfl rfl rfl rfl rfl rfl ?_
              refine T_iadd 180 rfl rfl ?_
              refine T_ld 182 (.int (i32 64)) rfl (fun _ => rfl) ?_
              refine T_icmp 189 185 rfl rfl rfl (r32 (by omega) (by omega)) ⟨by decide, by decide⟩ (fun (h396 : (64 : Int) < ((m.2 81) jj) + (m.1 69)) => ?_) (fun (h396 : ¬ ((64 : Int) < ((m.2 81) jj) + (m.1 69))) => ?_)
              · skip
                refine T_ld 190 (.int (i32 0)) rfl (fun _ => rfl) ?_
                refine T_gf 194 (.int (i32 (m.1 70))) rfl rfl rfl rfl rfl rfl ?_
                refine T_call 197 256 [.ref 189, .int (i32 0), .int (i32 (m.1 70))] [] rfl (fun _ => rfl) rfl (c_want w (mO m [(10, (m388.1 10)), (11, (m388.1 11)), (28, (m.1 28)), (69, (m.1 69)), (70, (m.1 70)), (71, (m.1 71)), (72, (m.1 72))] [(65, (m.2 65)), (66, (m.2 66)), (67, (m.2 67)), (68, (m.2 68)), (80, (m.2 80))]) c N D (by omega) (Ty_mO hT rfl rfl ⟨(hT389.1 10), (hT389.1 11), f28, f69, f70, f71, f72, trivial⟩ ⟨(hT.2.1 65), (hT.2.1 66), (hT.2.1 67), (hT.2.1 68), (hT.2.1 80), trivial⟩) 0 (m.1 70) ⟨by decide, by decide⟩ (r32 (by omega) (by omega)) (show 0 ≤ (m.1 70) ∧ (m.1 70) ≤ 4000 by omega) (fun _ => trivial)) (fun rr397 k398 => ?_)
                obtain ⟨m399, hT400, h401, c402, rfl⟩ := k398
                refine ⟨_, _, rfl, ?_⟩
                refine T_nf2 (st' := []) (l' := [(10, (m399.1 10)), (11, (m399.1 11)), (28, (m.1 28)), (69, (m.1 69)), (70, (m.1 70)), (71, (m.1 71)), (72, (m.1 72))]) (a' := [(65, (m.2 65)), (66, (m.2 66)), (67, (m.2 67)), (68, (m.2 68)), (80, (m.2 80))]) [10, 11] [] rfl ⟨rfl, rfl, rfl, rfl, rfl, rfl, rfl, rfl, rfl, rfl, rfl, rfl, rfl, rfl, trivial⟩ ⟨rfl, rfl, rfl, rfl, rfl, rfl, rfl, rfl, rfl, rfl, trivial⟩ rfl rfl (by decide) (by decide) ?_
                have g403 : 0 ≤ m399.1 10 ∧ m399.1 10 ≤ 8 := hT400.1 10
                have g404 : (-1) ≤ m399.1 11 ∧ m399.1 11 ≤ 4000 := hT400.1 11
                by_cases hf405 : (m399.1 10) = 0
                · skip
                  replace h401 : (m388.1 10) = 0 := h401 hf405
                  have c406 := c402 hf405
                  replace c406 : (0 : Int) ≠ 0 := c406
                  clear c402
                  clear g392 g393 h401
                  refine T_ld 198 (.int (i32 ((m.2 81) jj))) rfl (fun _ => rfl) ?_
                  refine T_gf 202 (.int (i32 (m.1 69))) rfl rfl rfl rfl rfl rfl ?_
                  refine T_iadd 203 rfl rfl ?_
                  refine T_sto 204 [(2, .int (i32 (((m.2 81) jj) + (m.1 69)))), (5, .int (i32 (m.1 69))), (4, .int (i32 ((m.2 80) jj))), (3, .int (i32 ((m.2 82) jj))), (0, .ref 189), (1, .int (i32 jj))] rfl (fun _ => rfl) ?_
                  refine T_goto 261 rfl (fun _ => rfl) ?_
                  refine Tm_lv (a := [(0, .ref 189), (1, .int (i32 jj)), (2, .int (i32 (((m.2 81) jj) + (m.1 69)))), (3, .int (i32 ((m.2 82) jj))), (4, .int (i32 ((m.2 80) jj))), (5, .int (i32 (m.1 69)))]) rfl rfl ⟨rfl, rfl, rfl, rfl, rfl, rfl, trivial⟩ ?_
                  exact J261_10 (((m.2 81) jj) + (m.1 69)) (mO m [(10, (m399.1 10)), (11, (m399.1 11)), (28, (m.1 28)), (69, (m.1 69)), (70, (m.1 70)), (71, (m.1 71)), (72, (m.1 72))] [(65, (m.2 65)), (66, (m.2 66)), (67, (m.2 67)), (68, (m.2 68)), (80, (m.2 80))]) (r32 (by omega) (by omega)) (Ty_mO hT rfl rfl ⟨(hT400.1 10), (hT400.1 11), f28, f69, f70, f71, f72, trivial⟩ ⟨(hT.2.1 65), (hT.2.1 66), (hT.2.1 67), (hT.2.1 68), (hT.2.1 80), trivial⟩) (show 0 ≤ (((m.2 81) jj) + (m.1 69)) ∧ (((m.2 81) jj) + (m.1 69)) ≤ (m.1 69) + 64 by omega) (fun _ => (show (((m.2 81) jj) + (m.1 69)) ≤ 64 by omega))
                · skip
                  clear c402
                  clear h401
                  have hf407 : 1 ≤ (m399.1 10) := by omega
                  clear g392 g393
                  refine T_ld 198 (.int (i32 ((m.2 81) jj))) rfl (fun _ => rfl) ?_
                  refine T_gf 202 (.int (i32 (m.1 69))) rfl rfl rfl rfl rfl rfl ?_
                  refine T_iadd 203 rfl rfl ?_
                  refine T_sto 204 [(2, .int (i32 (((m.2 81) jj) + (m.1 69)))), (5, .int (i32 (m.1 69))), (4, .int (i32 ((m.2 80) jj))), (3, .int (i32 ((m.2 82) jj))), (0, .ref 189), (1, .int (i32 jj))] rfl (fun _ => rfl) ?_
                  refine T_goto 261 rfl (fun _ => rfl) ?_
                  refine Tm_lv (a := [(0, .ref 189), (1, .int (i32 jj)), (2, .int (i32 (((m.2 81) jj) + (m.1 69)))), (3, .int (i32 ((m.2 82) jj))), (4, .int (i32 ((m.2 80) jj))), (5, .int (i32 (m.1 69)))]) rfl rfl ⟨rfl, rfl, rfl, rfl, rfl, rfl, trivial⟩ ?_
                  exact J261_10 (((m.2 81) jj) + (m.1 69)) (mO m [(10, (m399.1 10)), (11, (m399.1 11)), (28, (m.1 28)), (69, (m.1 69)), (70, (m.1 70)), (71, (m.1 71)), (72, (m.1 72))] [(65, (m.2 65)), (66, (m.2 66)), (67, (m.2 67)), (68, (m.2 68)), (80, (m.2 80))]) (r32 (by omega) (by omega)) (Ty_mO hT rfl rfl ⟨(hT400.1 10), (hT400.1 11), f28, f69, f70, f71, f72, trivial⟩ ⟨(hT.2.1 65), (hT.2.1 66), (hT.2.1 67), (hT.2.1 68), (hT.2.1 80), trivial⟩) (show 0 ≤ (((m.2 81) jj) + (m.1 69)) ∧ (((m.2 81) jj) + (m.1 69)) ≤ (m.1 69) + 64 by omega) (fun (h : (m399.1 10) = 0) => absurd h (by omega))
              · skip
                refine T_ld 186 (.int (i32 1)) rfl (fun _ => rfl) ?_
                refine T_goto 190 rfl (fun _ => rfl) ?_
                refine T_gf 194 (.int (i32 (m.1 70))) rfl rfl rfl rfl rfl rfl ?_
                refine T_call 197 256 [.ref 189, .int (i32 1), .int (i32 (m.1 70))] [] rfl (fun _ => rfl) rfl (c_want w (mO m [(10, (m388.1 10)), (11, (m388.1 11)), (28, (m.1 28)), (69, (m.1 69)), (70, (m.1 70)), (71, (m.1 71)), (72, (m.1 72))] [(65, (m.2 65)), (66, (m.2 66)), (67, (m.2 67)), (68, (m.2 68)), (80, (m.2 80))]) c N D (by omega) (Ty_mO hT rfl rfl ⟨(hT389.1 10), (hT389.1 11), f28, f69, f70, f71, f72, trivial⟩ ⟨(hT.2.1 65), (hT.2.1 66), (hT.2.1 67), (hT.2.1 68), (hT.2.1 80), trivial⟩) 1 (m.1 70) ⟨by decide, by decide⟩ (r32 (by omega) (by omega)) (show 0 ≤ (m.1 70) ∧ (m.1 70) ≤ 4000 by omega) (fun _ => trivial)) (fun rr408 k409 => ?_)
                obtain ⟨m410, hT411, h412, c413, rfl⟩ := k409
                refine ⟨_, _, rfl, ?_⟩
                refine T_nf2 (st' := []) (l' := [(10, (m410.1 10)), (11, (m410.1 11)), (28, (m.1 28)), (69, (m.1 69)), (70, (m.1 70)), (71, (m.1 71)), (72, (m.1 72))]) (a' := [(65, (m.2 65)), (66, (m.2 66)), (67, (m.2 67)), (68, (m.2 68)), (80, (m.2 80))]) [10, 11] [] rfl ⟨rfl, rfl, rfl, rfl, rfl, rfl, rfl, rfl, rfl, rfl, rfl, rfl, rfl, rfl, trivial⟩ ⟨rfl, rfl, rfl, rfl, rfl, rfl, rfl, rfl, rfl, rfl, trivial⟩ rfl rfl (by decide) (by decide) ?_
                have g414 : 0 ≤ m410.1 10 ∧ m410.1 10 ≤ 8 := hT411.1 10
                have g415 : (-1) ≤ m410.1 11 ∧ m410.1 11 ≤ 4000 := hT411.1 11
                by_cases hf416 : (m410.1 10) = 0
                · skip
                  replace h412 : (m388.1 10) = 0 := h412 hf416
                  have c417 := c413 hf416
                  replace c417 : (1 : Int) ≠ 0 := c417
                  clear c413
                  clear g392 g393 h412
                  refine T_ld 198 (.int (i32 ((m.2 81) jj))) rfl (fun _ => rfl) ?_
                  refine T_gf 202 (.int (i32 (m.1 69))) rfl rfl rfl rfl rfl rfl ?_
                  refine T_iadd 203 rfl rfl ?_
                  refine T_sto 204 [(2, .int (i32 (((m.2 81) jj) + (m.1 69)))), (5, .int (i32 (m.1 69))), (4, .int (i32 ((m.2 80) jj))), (3, .int (i32 ((m.2 82) jj))), (0, .ref 189), (1, .int (i32 jj))] rfl (fun _ => rfl) ?_
                  refine T_goto 261 rfl (fun _ => rfl) ?_
                  refine Tm_lv (a := [(0, .ref 189), (1, .int (i32 jj)), (2, .int (i32 (((m.2 81) jj) + (m.1 69)))), (3, .int (i32 ((m.2 82) jj))), (4, .int (i32 ((m.2 80) jj))), (5, .int (i32 (m.1 69)))]) rfl rfl ⟨rfl, rfl, rfl, rfl, rfl, rfl, trivial⟩ ?_
                  exact J261_10 (((m.2 81) jj) + (m.1 69)) (mO m [(10, (m410.1 10)), (11, (m410.1 11)), (28, (m.1 28)), (69, (m.1 69)), (70, (m.1 70)), (71, (m.1 71)), (72, (m.1 72))] [(65, (m.2 65)), (66, (m.2 66)), (67, (m.2 67)), (68, (m.2 68)), (80, (m.2 80))]) (r32 (by omega) (by omega)) (Ty_mO hT rfl rfl ⟨(hT411.1 10), (hT411.1 11), f28, f69, f70, f71, f72, trivial⟩ ⟨(hT.2.1 65), (hT.2.1 66), (hT.2.1 67), (hT.2.1 68), (hT.2.1 80), trivial⟩) (show 0 ≤ (((m.2 81) jj) + (m.1 69)) ∧ (((m.2 81) jj) + (m.1 69)) ≤ (m.1 69) + 64 by omega) (fun _ => (show (((m.2 81) jj) + (m.1 69)) ≤ 64 by omega))
                · skip
                  clear c413
                  clear h412
                  have hf418 : 1 ≤ (m410.1 10) := by omega
                  clear g392 g393
                  refine T_ld 198 (.int (i32 ((m.2 81) jj))) rfl (fun _ => rfl) ?_
                  refine T_gf 202 (.int (i32 (m.1 69))) rfl rfl rfl rfl rfl rfl ?_
                  refine T_iadd 203 rfl rfl ?_
                  refine T_sto 204 [(2, .int (i32 (((m.2 81) jj) + (m.1 69)))), (5, .int (i32 (m.1 69))), (4, .int (i32 ((m.2 80) jj))), (3, .int (i32 ((m.2 82) jj))), (0, .ref 189), (1, .int (i32 jj))] rfl (fun _ => rfl) ?_
                  refine T_goto 261 rfl (fun _ => rfl) ?_
                  refine Tm_lv (a := [(0, .ref 189), (1, .int (i32 jj)), (2, .int (i32 (((m.2 81) jj) + (m.1 69)))), (3, .int (i32 ((m.2 82) jj))), (4, .int (i32 ((m.2 80) jj))), (5, .int (i32 (m.1 69)))]) rfl rfl ⟨rfl, rfl, rfl, rfl, rfl, rfl, trivial⟩ ?_
                  exact J261_10 (((m.2 81) jj) + (m.1 69)) (mO m [(10, (m410.1 10)), (11, (m410.1 11)), (28, (m.1 28)), (69, (m.1 69)), (70, (m.1 70)), (71, (m.1 71)), (72, (m.1 72))] [(65, (m.2 65)), (66, (m.2 66)), (67, (m.2 67)), (68, (m.2 68)), (80, (m.2 80))]) (r32 (by omega) (by omega)) (Ty_mO hT rfl rfl ⟨(hT411.1 10), (hT411.1 11), f28, f69, f70, f71, f72, trivial⟩ ⟨(hT.2.1 65), (hT.2.1 66), (hT.2.1 67), (hT.2.1 68), (hT.2.1 80), trivial⟩) (show 0 ≤ (((m.2 81) jj) + (m.1 69)) ∧ (((m.2 81) jj) + (m.1 69)) ≤ (m.1 69) + 64 by omega) (fun (h : (m410.1 10) = 0) => absurd h (by omega))
            · skip
              clear c391
              clear h390
              have hf419 : 1 ≤ (m388.1 10) := by omega
              clear g328 g329
              refine T_ld 174 (.ref 189) rfl (fun _ => rfl) ?_
              refine T_ld 175 (.int (i32 ((m.2 81) jj))) rfl (fun _ => rfl) ?_
              refine T_gf 179 (.int (i32 (m.1 69))) rfl rfl rfl rfl rfl rfl ?_
              refine T_iadd 180 rfl rfl ?_
              refine T_ld 182 (.int (i32 64)) rfl (fun _ => rfl) ?_
              refine T_icmp 189 185 rfl rfl rfl (r32 (by omega) (by omega)) ⟨by decide, by decide⟩ (fun (h420 : (64 : Int) < ((m.2 81) jj) + (m.1 69)) => ?_) (fun (h420 : ¬ ((64 : Int) < ((m.2 81) jj) + (m.1 69))) => ?_)
              · skip
                refine T_ld 190 (.int (i32 0)) rfl (fun _ => rfl) ?_
                refine T_gf 194 (.int (i32 (m.1 70))) rfl rfl rfl rfl rfl rfl ?_
                refine T_call 197 256 [.ref 189, .int (i32 0), .int (i32 (m.1 70))] [] rfl (fun _ => rfl) rfl (c_want w (mO m [(10, (m388.1 10)), (11, (m388.1 11)), (28, (m.1 28)), (69, (m.1 69)), (70, (m.1 70)), (71, (m.1 71)), (72, (m.1 72))] [(65, (m.2 65)), (66, (m.2 66)), (67, (m.2 67)), (68, (m.2 68)), (80, (m.2 80))]) c N D (by omega) (Ty_mO hT rfl rfl ⟨(hT389.1 10), (hT389.1 11), f28, f69, f70, f71, f72, trivial⟩ ⟨(hT.2.1 65), (hT.2.1 66), (hT.2.1 67), (hT.2.1 68), (hT.2.1 80), trivial⟩) 0 (m.1 70) ⟨by decide, by decide⟩ (r32 (by omega) (by omega)) (show 0 ≤ (m.1 70) ∧ (m.1 70) ≤ 4000 by omega) (fun (h : (m388.1 10) = 0) => absurd h (by omega))) (fun rr421 k422 => ?_)
                obtain ⟨m423, hT424, h425, c426, rfl⟩ := k422
                refine ⟨_, _, rfl, ?_⟩
                refine T_nf2 (st' := []) (l' := [(10, (m423.1 10)), (11, (m423.1 11)), (28, (m.1 28)), (69, (m.1 69)), (70, (m.1 70)), (71, (m.1 71)), (72, (m.1 72))]) (a' := [(65, (m.2 65)), (66, (m.2 66)), (67, (m.2 67)), (68, (m.2 68)), (80, (m.2 80))]) [10, 11] [] rfl ⟨rfl, rfl, rfl, rfl, rfl, rfl, rfl, rfl, rfl, rfl, rfl, rfl, rfl, rfl, trivial⟩ ⟨rfl, rfl, rfl, rfl, rfl, rfl, rfl, rfl, rfl, rfl, trivial⟩ rfl rfl (by decide) (by decide) ?_
                have g427 : 0 ≤ m423.1 10 ∧ m423.1 10 ≤ 8 := hT424.1 10
                have g428 : (-1) ≤ m423.1 11 ∧ m423.1 11 ≤ 4000 := hT424.1 11
                replace h425 : (m423.1 10) = 0 → (m388.1 10) = 0 := h425
                have hf429 : 1 ≤ (m423.1 10) := by omega
                clear c426
                clear h425
                clear g392 g393 hf419
                refine T_ld 198 (.int (i32 ((m.2 81) jj))) rfl (fun _ => rfl) ?_
                refine T_gf 202 (.int (i32 (m.1 69))) rfl rfl rfl rfl rfl rfl ?_
                refine T_iadd 203 rfl rfl ?_
                refine T_sto 204 [(2, .int (i32 (((m.2 81) jj) + (m.1 69)))), (5, .int (i32 (m.1 69))), (4, .int (i32 ((m.2 80) jj))), (3, .int (i32 ((m.2 82) jj))), (0, .ref 189), (1, .int (i32 jj))] rfl (fun _ => rfl) ?_
                refine T_goto 261 rfl (fun _ => rfl) ?_
                refine Tm_lv (a := [(0, .ref 189), (1, .int (i32 jj)), (2, .int (i32 (((m.2 81) jj) + (m.1 69)))), (3, .int (i32 ((m.2 82) jj))), (4, .int (i32 ((m.2 80) jj))), (5, .int (i32 (m.1 69)))]) rfl rfl ⟨rfl, rfl, rfl, rfl, rfl, rfl, trivial⟩ ?_
                exact J261_10 (((m.2 81) jj) + (m.1 69)) (mO m [(10, (m423.1 10)), (11, (m423.1 11)), (28, (m.1 28)), (69, (m.1 69)), (70, (m.1 70)), (71, (m.1 71)), (72, (m.1 72))] [(65, (m.2 65)), (66, (m.2 66)), (67, (m.2 67)), (68, (m.2 68)), (80, (m.2 80))]) (r32 (by omega) (by omega)) (Ty_mO hT rfl rfl ⟨(hT424.1 10), (hT424.1 11), f28, f69, f70, f71, f72, trivial⟩ ⟨(hT.2.1 65), (hT.2.1 66), (hT.2.1 67), (hT.2.1 68), (hT.2.1 80), trivial⟩) (show 0 ≤ (((m.2 81) jj) + (m.1 69)) ∧ (((m.2 81) jj) + (m.1 69)) ≤ (m.1 69) + 64 by omega) (fun (h : (m423.1 10) = 0) => absurd h (by omega))
              · skip
                refine T_ld 186 (.int (i32 1)) rfl (fun _ => rfl) ?_
                refine T_goto 190 rfl (fun _ => rfl) ?_
                refine T_gf 194 (.int (i32 (m.1 70))) rfl rfl rfl rfl rfl rfl ?_
                refine T_call 197 256 [.ref 189, .int (i32 1), .int (i32 (m.1 70))] [] rfl (fun _ => rfl) rfl (c_want w (mO m [(10, (m388.1 10)), (11, (m388.1 11)), (28, (m.1 28)), (69, (m.1 69)), (70, (m.1 70)), (71, (m.1 71)), (72, (m.1 72))] [(65, (m.2 65)), (66, (m.2 66)), (67, (m.2 67)), (68, (m.2 68)), (80, (m.2 80))]) c N D (by omega) (Ty_mO hT rfl rfl ⟨(hT389.1 10), (hT389.1 11), f28, f69, f70, f71, f72, trivial⟩ ⟨(hT.2.1 65), (hT.2.1 66), (hT.2.1 67), (hT.2.1 68), (hT.2.1 80), trivial⟩) 1 (m.1 70) ⟨by decide, by decide⟩ (r32 (by omega) (by omega)) (show 0 ≤ (m.1 70) ∧ (m.1 70) ≤ 4000 by omega) (fun (h : (m388.1 10) = 0) => absurd h (by omega))) (fun rr430 k431 => ?_)
                obtain ⟨m432, hT433, h434, c435, rfl⟩ := k431
                refine ⟨_, _, rfl, ?_⟩
                refine T_nf2 (st' := []) (l' := [(10, (m432.1 10)), (11, (m432.1 11)), (28, (m.1 28)), (69, (m.1 69)), (70, (m.1 70)), (71, (m.1 71)), (72, (m.1 72))]) (a' := [(65, (m.2 65)), (66, (m.2 66)), (67, (m.2 67)), (68, (m.2 68)), (80, (m.2 80))]) [10, 11] [] rfl ⟨rfl, rfl, rfl, rfl, rfl, rfl, rfl, rfl, rfl, rfl, rfl, rfl, rfl, rfl, trivial⟩ ⟨rfl, rfl, rfl, rfl, rfl, rfl, rfl, rfl, rfl, rfl, trivial⟩ rfl rfl (by decide) (by decide) ?_
                have g436 : 0 ≤ m432.1 10 ∧ m432.1 10 ≤ 8 := hT433.1 10
                have g437 : (-1) ≤ m432.1 11 ∧ m432.1 11 ≤ 4000 := hT433.1 11
                replace h434 : (m432.1 10) = 0 → (m388.1 10) = 0 := h434
                have hf438 : 1 ≤ (m432.1 10) := by omega
                clear c435
                clear h434
                clear g392 g393 hf419
                refine T_ld 198 (.int (i32 ((m.2 81) jj))) rfl (fun _ => rfl) ?_
                refine T_gf 202 (.int (i32 (m.1 69))) rfl rfl rfl rfl rfl rfl ?_
                refine T_iadd 203 rfl rfl ?_
                refine T_sto 204 [(2, .int (i32 (((m.2 81) jj) + (m.1 69)))), (5, .int (i32 (m.1 69))), (4, .int (i32 ((m.2 80) jj))), (3, .int (i32 ((m.2 82) jj))), (0, .ref 189), (1, .int (i32 jj))] rfl (fun _ => rfl) ?_
                refine T_goto 261 rfl (fun _ => rfl) ?_
                refine Tm_lv (a := [(0, .ref 189), (1, .int (i32 jj)), (2, .int (i32 (((m.2 81) jj) + (m.1 69)))), (3, .int (i32 ((m.2 82) jj))), (4, .int (i32 ((m.2 80) jj))), (5, .int (i32 (m.1 69)))]) rfl rfl ⟨rfl, rfl, rfl, rfl, rfl, rfl, trivial⟩ ?_
                exact J261_10 (((m.2 81) jj) + (m.1 69)) (mO m [(10, (m432.1 10)), (11, (m432.1 11)), (28, (m.1 28)), (69, (m.1 69)), (70, (m.1 70)), (71, (m.1 71)), (72, (m.1 72))] [(65, (m.2 65)), (66, (m.2 66)), (67, (m.2 67)), (68, (m.2 68)), (80, (m.2 80))]) (r32 (by omega) (by omega)) (Ty_mO hT rfl rfl ⟨(hT433.1 10), (hT433.1 11), f28, f69, f70, f71, f72, trivial⟩ ⟨(hT.2.1 65), (hT.2.1 66), (hT.2.1 67), (hT.2.1 68), (hT.2.1 80), trivial⟩) (show 0 ≤ (((m.2 81) jj) + (m.1 69)) ∧ (((m.2 81) jj) + (m.1 69)) ≤ (m.1 69) + 64 by omega) (fun (h : (m432.1 10) = 0) => absurd h (by omega))
        · skip
          clear c327
          clear h326
          have hf439 : 1 ≤ (m324.1 10) := by omega
          clear g75a g75b h76
          refine T_ld 154 (.ref 189) rfl (fun _ => rfl) ?_
          refine T_gf 158 (.int (i32 (m.1 71))) rfl rfl rfl rfl rfl rfl ?_
          refine T_if 165 161 rfl rfl rfl (r32 (by omega) (by omega)) (fun (h440 : (m.1 71) ≠ 0) => ?_) (fun (h440 : ¬ ((m.1 71) ≠ 0)) => ?_)
          · skip
            refine T_ld 166 (.int (i32 0)) rfl (fun _ => rfl) ?_
            refine T_gf 170 (.int (i32 (m.1 70))) rfl rfl rfl rfl rfl rfl ?_
            refine T_call 173 256 [.ref 189, .int (i32 0), .int (i32 (m.1 70))] [] rfl (fun _ => rfl) rfl (c_want w (mO m [(10, (m324.1 10)), (11, (m324.1 11)), (28, (m.1 28)), (69, (m.1 69)), (70, (m.1 70)), (71, (m.1 71)), (72, (m.1 72))] [(65, (m.2 65)), (66, (m.2 66)), (67, (m.2 67)), (68, (m.2 68)), (80, (m.2 80))]) c N D (by omega) (Ty_mO hT rfl rfl ⟨(hT325.1 10), (hT325.1 11), f28, f69, f70, f71, f72, trivial⟩ ⟨(hT.2.1 65), (hT.2.1 66), (hT.2.1 67), (hT.2.1 68), (hT.2.1 80), trivial⟩) 0 (m.1 70) ⟨by decide, by decide⟩ (r32 (by omega) (by omega)) (show 0 ≤ (m.1 70) ∧ (m.1 70) ≤ 4000 by omega) (fun (h : (m324.1 10) = 0) => absurd h (by omega))) (fun rr441 k442 => ?_)
            obtain ⟨m443, hT444, h445, c446, rfl⟩ := k442
            refine ⟨_, _, rfl, ?_⟩
            refine T_nf2 (st' := []) (l' := [(10, (m443.1 10)), (11, (m443.1 11)), (28, (m.1 28)), (69, (m.1 69)), (70, (m.1 70)), (71, (m.1 71)), (72, (m.1 72))]) (a' := [(65, (m.2 65)), (66, (m.2 66)), (67, (m.2 67)), (68, (m.2 68)), (80, (m.2 80))]) [10, 11] [] rfl ⟨rfl, rfl, rfl, rfl, rfl, rfl, rfl, rfl, rfl, rfl, rfl, rfl, rfl, rfl, trivial⟩ ⟨rfl, rfl, rfl, rfl, rfl, rfl, rfl, rfl, rfl, rfl, trivial⟩ rfl rfl (by decide) (by decide) ?_
            have g447 : 0 ≤ m443.1 10 ∧ m443.1 10 ≤ 8 := hT444.1 10
            have g448 : (-1) ≤ m443.1 11 ∧ m443.1 11 ≤ 4000 := hT444.1 11
            replace h445 : (m443.1 10) = 0 → (m324.1 10) = 0 := h445
            have hf449 : 1 ≤ (m443.1 10) := by omega
            clear c446
            clear h445
            clear g328 g329 hf439
            refine T_ld 174 (.ref 189) rfl (fun _ => rfl) ?_
            refine T_ld 175 (.int (i32 ((m.2 81) jj))) rfl (fun _ => rfl) ?_
            refine T_gf 179 (.int (i32 (m.1 69))) rfl rfl rfl rfl rfl rfl ?_
            refine T_iadd 180 rfl rfl ?_
            refine T_ld 182 (.int (i32 64)) rfl (fun _ => rfl) ?_
            refine T_icmp 189 185 rfl rfl rfl (r32 (by omega) (by omega)) ⟨by decide, by decide⟩ (fun (h450 : (64 : Int) < ((m.2 81) jj) + (m.1 69)) => ?_) (fun (h450 : ¬ ((64 : Int) < ((m.2 81) jj) + (m.1 69))) => ?_)
            · skip
              refine T_ld 190 (.int (i32 0)) rfl (fun _ => rfl) ?_
              refine T_gf 194 (.int (i32 (m.1 70))) rfl rfl rfl rfl rfl rfl ?_
              refine T_call 197 256 [.ref 189, .int (i32 0), .int (i32 (m.1 70))] [] rfl (fun _ => rfl) rfl (c_want w (mO m [(10, (m443.1 10)), (11, (m443.1 11)), (28, (m.1 28)), (69, (m.1 69)), (70, (m.1 70)), (71, (m.1 71)), (72, (m.1 72))] [(65, (m.2 65)), (66, (m.2 66)), (67, (m.2 67)), (68, (m.2 68)), (80, (m.2 80))]) c N D (by omega) (Ty_mO hT rfl rfl ⟨(hT444.1 10), (hT444.1 11), f28, f69, f70, f71, f72, trivial⟩ ⟨(hT.2.1 65), (hT.2.1 66), (hT.2.1 67), (hT.2.1 68), (hT.2.1 80), trivial⟩) 0 (m.1 70) ⟨by decide, by decide⟩ (r32 (by omega) (by omega)) (show 0 ≤ (m.1 70) ∧ (m.1 70) ≤ 4000 by omega) (fun (h : (m443.1 10) = 0) => absurd h (by omega))) (fun rr451 k452 => ?_)
              obtain ⟨m453, hT454, h455, c456, rfl⟩ := k452
              refine ⟨_, _, rfl, ?_⟩
              refine T_nf2 (st' := []) (l' := [(10, (m453.1 10)), (11, (m453.1 11)), (28, (m.1 28)), (69, (m.1 69)), (70, (m.1 70)), (71, (m.1 71)), (72, (m.1 72))]) (a' := [(65, (m.2 65)), (66, (m.2 66)), (67, (m.2 67)), (68, (m.2 68)), (80, (m.2 80))]) [10, 11] [] rfl ⟨rfl, rfl, rfl, rfl, rfl, rfl, rfl, rfl, rfl, rfl, rfl, rfl, rfl, rfl, trivial⟩ ⟨rfl, rfl, rfl, rfl, rfl, rfl, rfl, rfl, rfl, rfl, trivial⟩ rfl rfl (by decide) (by decide) ?_
              have g457 : 0 ≤ m453.1 10 ∧ m453.1 10 ≤ 8 := hT454.1 10
              have g458 : (-1) ≤ m453.1 11 ∧ m453.1 11 ≤ 4000 := hT454.1 11
              replace h455 : (m453.1 10) = 0 → (m443.1 10) = 0 := h455
              have hf459 : 1 ≤ (m453.1 10) := by omega
              clear c456
              clear h455
              clear g447 g448 hf449
              refine T_ld 198 (.int (i32 ((m.2 81) jj))) rfl (fun _ => rfl) ?_
              refine T_gf 202 (.int (i32 (m.1 69))) rfl rfl rfl rfl rfl rfl ?_
              refine T_iadd 203 rfl rfl ?_
              refine T_sto 204 [(2, .int (i32 (((m.2 81) jj) + (m.1 69)))), (5, .int (i32 (m.1 69))), (4, .int (i32 ((m.2 80) jj))), (3, .int (i32 ((m.2 82) jj))), (0, .ref 189), (1, .int (i32 jj))] rfl (fun _ => rfl) ?_
              refine T_goto 261 rfl (fun _ => rfl) ?_
              refine Tm_lv (a := [(0, .ref 189), (1, .int (i32 jj)), (2, .int (i32 (((m.2 81) jj) + (m.1 69)))), (3, .int (i32 ((m.2 82) jj))), (4, .int (i32 ((m.2 80) jj))), (5, .int (i32 (m.1 69)))]) rfl rfl ⟨rfl, rfl, rfl, rfl, rfl, rfl, trivial⟩ ?_
              exact J261_10 (((m.2 81) jj) + (m.1 69)) (mO m [(10, (m453.1 10)), (11, (m453.1 11)), (28, (m.1 28)), (69, (m.1 69)), (70, (m.1 70)), (71, (m.1 71)), (72, (m.1 72))] [(65, (m.2 65)), (66, (m.2 66)), (67, (m.2 67)), (68, (m.2 68)), (80, (m.2 80))]) (r32 (by omega) (by omega)) (Ty_mO hT rfl rfl ⟨(hT454.1 10), (hT454.1 11), f28, f69, f70, f71, f72, trivial⟩ ⟨(hT.2.1 65), (hT.2.1 66), (hT.2.1 67), (hT.2.1 68), (hT.2.1 80), trivial⟩) (show 0 ≤ (((m.2 81) jj) + (m.1 69)) ∧ (((m.2 81) jj) + (m.1 69)) ≤ (m.1 69) + 64 by omega) (fun (h : (m453.1 10) = 0) => absurd h (by omega))
            · skip
              refine T_ld 186 (.int (i32 1)) rfl (fun _ => rfl) ?_
              refine T_goto 190 rfl (fun _ => rfl) ?_
              refine T_gf 194 (.int (i32 (m.1 70))) rfl rfl rfl rfl rfl rfl ?_
              refine T_call 197 256 [.ref 189, .int (i32 1), .int (i32 (m.1 70))] [] rfl (fun _ => rfl) rfl (c_want w (mO m [(10, (m443.1 10)), (11, (m443.1 11)), (28, (m.1 28)), (69, (m.1 69)), (70, (m.1 70)), (71, (m.1 71)), (72, (m.1 72))] [(65, (m.2 65)), (66, (m.2 66)), (67, (m.2 67)), (68, (m.2 68)), (80, (m.2 80))]) c N D (by omega) (Ty_mO hT rfl rfl ⟨(hT444.1 10), (hT444.1 11), f28, f69, f70, f71, f72, trivial⟩ ⟨(hT.2.1 65), (hT.2.1 66), (hT.2.1 67), (hT.2.1 68), (hT.2.1 80), trivial⟩) 1 (m.1 70) ⟨by decide, by decide⟩ (r32 (by omega) (by omega)) (show 0 ≤ (m.1 70) ∧ (m.1 70) ≤ 4000 by omega) (fun (h : (m443.1 10) = 0) => absurd h (by omega))) (fun rr460 k461 => ?_)
              obtain ⟨m462, hT463, h464, c465, rfl⟩ := k461
              refine ⟨_, _, rfl, ?_⟩
              refine T_nf2 (st' := []) (l' := [(10, (m462.1 10)), (11, (m462.1 11)), (28, (m.1 28)), (69, (m.1 69)), (70, (m.1 70)), (71, (m.1 71)), (72, (m.1 72))]) (a' := [(65, (m.2 65)), (66, (m.2 66)), (67, (m.2 67)), (68, (m.2 68)), (80, (m.2 80))]) [10, 11] [] rfl ⟨rfl, rfl, rfl, rfl, rfl, rfl, rfl, rfl, rfl, rfl, rfl, rfl, rfl, rfl, trivial⟩ ⟨rfl, rfl, rfl, rfl, rfl, rfl, rfl, rfl, rfl, rfl, trivial⟩ rfl rfl (by decide) (by decide) ?_
              have g466 : 0 ≤ m462.1 10 ∧ m462.1 10 ≤ 8 := hT463.1 10
              have g467 : (-1) ≤ m462.1 11 ∧ m462.1 11 ≤ 4000 := hT463.1 11
              replace h464 : (m462.1 10) = 0 → (m443.1 10) = 0 := h464
              have hf468 : 1 ≤ (m462.1 10) := by omega
              clear c465
              clear h464
              clear g447 g448 hf449
              refine T_ld 198 (.int (i32 ((m.2 81) jj))) rfl (fun _ => rfl) ?_
              refine T_gf 202 (.int (i32 (m.1 69))) rfl rfl rfl rfl rfl rfl ?_
              refine T_iadd 203 rfl rfl ?_
              refine T_sto 204 [(2, .int (i32 (((m.2 81) jj) + (m.1 69)))), (5, .int (i32 (m.1 69))), (4, .int (i32 ((m.2 80) jj))), (3, .int (i32 ((m.2 82) jj))), (0, .ref 189), (1, .int (i32 jj))] rfl (fun _ => rfl) ?_
              refine T_goto 261 rfl (fun _ => rfl) ?_
              refine Tm_lv (a := [(0, .ref 189), (1, .int (i32 jj)), (2, .int (i32 (((m.2 81) jj) + (m.1 69)))), (3, .int (i32 ((m.2 82) jj))), (4, .int (i32 ((m.2 80) jj))), (5, .int (i32 (m.1 69)))]) rfl rfl ⟨rfl, rfl, rfl, rfl, rfl, rfl, trivial⟩ ?_
              exact J261_10 (((m.2 81) jj) + (m.1 69)) (mO m [(10, (m462.1 10)), (11, (m462.1 11)), (28, (m.1 28)), (69, (m.1 69)), (70, (m.1 70)), (71, (m.1 71)), (72, (m.1 72))] [(65, (m.2 65)), (66, (m.2 66)), (67, (m.2 67)), (68, (m.2 68)), (80, (m.2 80))]) (r32 (by omega) (by omega)) (Ty_mO hT rfl rfl ⟨(hT463.1 10), (hT463.1 11), f28, f69, f70, f71, f72, trivial⟩ ⟨(hT.2.1 65), (hT.2.1 66), (hT.2.1 67), (hT.2.1 68), (hT.2.1 80), trivial⟩) (show 0 ≤ (((m.2 81) jj) + (m.1 69)) ∧ (((m.2 81) jj) + (m.1 69)) ≤ (m.1 69) + 64 by omega) (fun (h : (m462.1 10) = 0) => absurd h (by omega))
          · skip
            refine T_ld 162 (.int (i32 1)) rfl (fun _ => rfl) ?_
            refine T_goto 166 rfl (fun _ => rfl) ?_
            refine T_gf 170 (.int (i32 (m.1 70))) rfl rfl rfl rfl rfl rfl ?_
            refine T_call 173 256 [.ref 189, .int (i32 1), .int (i32 (m.1 70))] [] rfl (fun _ => rfl) rfl (c_want w (mO m [(10, (m324.1 10)), (11, (m324.1 11)), (28, (m.1 28)), (69, (m.1 69)), (70, (m.1 70)), (71, (m.1 71)), (72, (m.1 72))] [(65, (m.2 65)), (66, (m.2 66)), (67, (m.2 67)), (68, (m.2 68)), (80, (m.2 80))]) c N D (by omega) (Ty_mO hT rfl rfl ⟨(hT325.1 10), (hT325.1 11), f28, f69, f70, f71, f72, trivial⟩ ⟨(hT.2.1 65), (hT.2.1 66), (hT.2.1 67), (hT.2.1 68), (hT.2.1 80), trivial⟩) 1 (m.1 70) ⟨by decide, by decide⟩ (r32 (by omega) (by omega)) (show 0 ≤ (m.1 70) ∧ (m.1 70) ≤ 4000 by omega) (fun (h : (m324.1 10) = 0) => absurd h (by omega))) (fun rr469 k470 => ?_)
            obtain ⟨m471, hT472, h473, c474, rfl⟩ := k470
            refine ⟨_, _, rfl, ?_⟩
            refine T_nf2 (st' := []) (l' := [(10, (m471.1 10)), (11, (m471.1 11)), (28, (m.1 28)), (69, (m.1 69)), (70, (m.1 70)), (71, (m.1 71)), (72, (m.1 72))]) (a' := [(65, (m.2 65)), (66, (m.2 66)), (67, (m.2 67)), (68, (m.2 68)), (80, (m.2 80))]) [10, 11] [] rfl ⟨rfl, rfl, rfl, rfl, rfl, rfl, rfl, rfl, rfl, rfl, rfl, rfl, rfl, rfl, trivial⟩ ⟨rfl, rfl, rfl, rfl, rfl, rfl, rfl, rfl, rfl, rfl, trivial⟩ rfl rfl (by decide) (by decide) ?_
            have g475 : 0 ≤ m471.1 10 ∧ m471.1 10 ≤ 8 := hT472.1 10
            have g476 : (-1) ≤ m471.1 11 ∧ m471.1 11 ≤ 4000 := hT472.1 11
            replace h473 : (m471.1 10) = 0 → (m324.1 10) = 0 := h473
            have hf477 : 1 ≤ (m471.1 10) := by omega
            clear c474
            clear h473
            clear g328 g329 hf439
            refine T_ld 174 (.ref 189) rfl (fun _ => rfl) ?_
            refine T_ld 175 (.int (i32 ((m.2 81) jj))) rfl (fun _ => rfl) ?_
            refine T_gf 179 (.int (i32 (m.1 69))) rfl rfl rfl rfl rfl rfl ?_
            refine T_iadd 180 rfl rfl ?_
            refine T_ld 182 (.int (i32 64)) rfl (fun _ => rfl) ?_
            refine T_icmp 189 185 rfl rfl rfl (r32 (by omega) (by omega)) ⟨by decide, by decide⟩ (fun (h478 : (64 : Int) < ((m.2 81) jj) + (m.1 69)) => ?_) (fun (h478 : ¬ ((64 : Int) < ((m.2 81) jj) + (m.1 69))) => ?_)
            · skip
              refine T_ld 190 (.int (i32 0)) rfl (fun _ => rfl) ?_
              refine T_gf 194 (.int (i32 (m.1 70))) rfl rfl rfl rfl rfl rfl ?_
              refine T_call 197 256 [.ref 189, .int (i32 0), .int (i32 (m.1 70))] [] rfl (fun _ => rfl) rfl (c_want w (mO m [(10, (m471.1 10)), (11, (m471.1 11)), (28, (m.1 28)), (69, (m.1 69)), (70, (m.1 70)), (71, (m.1 71)), (72, (m.1 72))] [(65, (m.2 65)), (66, (m.2 66)), (67, (m.2 67)), (68, (m.2 68)), (80, (m.2 80))]) c N D (by omega) (Ty_mO hT rfl rfl ⟨(hT472.1 10), (hT472.1 11), f28, f69, f70, f71, f72, trivial⟩ ⟨(hT.2.1 65), (hT.2.1 66), (hT.2.1 67), (hT.2.1 68), (hT.2.1 80), trivial⟩) 0 (m.1 70) ⟨by decide, by decide⟩ (r32 (by omega) (by omega)) (show 0 ≤ (m.1 70) ∧ (m.1 70) ≤ 4000 by omega) (fun (h : (m471.1 10) = 0) => absurd h (by omega))) (fun rr479 k480 => ?_)
              obtain ⟨m481, hT482, h483, c484, rfl⟩ := k480
              refine ⟨_, _, rfl, ?_⟩
              refine T_nf2 (st' := []) (l' := [(10, (m481.1 10)), (11, (m481.1 11)), (28, (m.1 28)), (69, (m.1 69)), (70, (m.1 70)), (71, (m.1 71)), (72, (m.1 72))]) (a' := [(65, (m.2 65)), (66, (m.2 66)), (67, (m.2 67)), (68, (m.2 68)), (80, (m.2 80))]) [10, 11] [] rfl ⟨rfl, rfl, rfl, rfl, rfl, rfl, rfl, rfl, rfl, rfl, rfl, rfl, rfl, rfl, trivial⟩ ⟨rfl, rfl, rfl, rfl, rfl, rfl, rfl, rfl, rfl, rfl, trivial⟩ rfl rfl (by decide) (by decide) ?_
              have g485 : 0 ≤ m481.1 10 ∧ m481.1 10 ≤ 8 := hT482.1 10
              have g486 : (-1) ≤ m481.1 11 ∧ m481.1 11 ≤ 4000 := hT482.1 11
              replace h483 : (m481.1 10) = 0 → (m471.1 10) = 0 := h483
              have hf487 : 1 ≤ (m481.1 10) := by omega
              clear c484
              clear h483
              clear g475 g476 hf477
              refine T_ld 198 (.int (i32 ((m.2 81) jj))) rfl (fun _ => rfl) ?_
              refine T_gf 202 (.int (i32 (m.1 69))) rfl rfl rfl rfl rfl rfl ?_
              refine T_iadd 203 rfl rfl ?_
              refine T_sto 204 [(2, .int (i32 (((m.2 81) jj) + (m.1 69)))), (5, .int (i32 (m.1 69))), (4, .int (i32 ((m.2 80) jj))), (3, .int (i32 ((m.2 82) jj))), (0, .ref 189), (1, .int (i32 jj))] rfl (fun _ => rfl) ?_
              refine T_goto 261 rfl (fun _ => rfl) ?_
              refine Tm_lv (a := [(0, .ref 189), (1, .int (i32 jj)), (2, .int (i32 (((m.2 81) jj) + (m.1 69)))), (3, .int (i32 ((m.2 82) jj))), (4, .int (i32 ((m.2 80) jj))), (5, .int (i32 (m.1 69)))]) rfl rfl ⟨rfl, rfl, rfl, rfl, rfl, rfl, trivial⟩ ?_
              exact J261_10 (((m.2 81) jj) + (m.1 69)) (mO m [(10, (m481.1 10)), (11, (m481.1 11)), (28, (m.1 28)), (69, (m.1 69)), (70, (m.1 70)), (71, (m.1 71)), (72, (m.1 72))] [(65, (m.2 65)), (66, (m.2 66)), (67, (m.2 67)), (68, (m.2 68)), (80, (m.2 80))]) (r32 (by omega) (by omega)) (Ty_mO hT rfl rfl ⟨(hT482.1 10), (hT482.1 11), f28, f69, f70, f71, f72, trivial⟩ ⟨(hT.2.1 65), (hT.2.1 66), (hT.2.1 67), (hT.2.1 68), (hT.2.1 80), trivial⟩) (show 0 ≤ (((m.2 81) jj) + (m.1 69)) ∧ (((m.2 81) jj) + (m.1 69)) ≤ (m.1 69) + 64 by omega) (fun (h : (m481.1 10) = 0) => absurd h (by omega))
            · skip
              refine T_ld 186 (.int (i32 1)) rfl (fun _ => rfl) ?_
              refine T_goto 190 rfl (fun _ => rfl) ?_
              refine T_gf 194 (.int (i32 (m.1 70))) rfl rfl rfl rfl rfl rfl ?_
              refine T_call 197 256 [.ref 189, .int (i32 1), .int (i32 (m.1 70))] [] rfl (fun _ => rfl) rfl (c_want w (mO m [(10, (m471.1 10)), (11, (m471.1 11)), (28, (m.1 28)), (69, (m.1 69)), (70, (m.1 70)), (71, (m.1 71)), (72, (m.1 72))] [(65, (m.2 65)), (66, (m.2 66)), (67, (m.2 67)), (68, (m.2 68)), (80, (m.2 80))]) c N D (by omega) (Ty_mO hT rfl rfl ⟨(hT472.1 10), (hT472.1 11), f28, f69, f70, f71, f72, trivial⟩ ⟨(hT.2.1 65), (hT.2.1 66), (hT.2.1 67), (hT.2.1 68), (hT.2.1 80), trivial⟩) 1 (m.1 70) ⟨by decide, by decide⟩ (r32 (by omega) (by omega)) (show 0 ≤ (m.1 70) ∧ (m.1 70) ≤ 4000 by omega) (fun (h : (m471.1 10) = 0) => absurd h (by omega))) (fun rr488 k489 => ?_)
              obtain ⟨m490, hT491, h492, c493, rfl⟩ := k489
              refine ⟨_, _, rfl, ?_⟩
              refine T_nf2 (st' := []) (l' := [(10, (m490.1 10)), (11, (m490.1 11)), (28, (m.1 28)), (69, (m.1 69)), (70, (m.1 70)), (71, (m.1 71)), (72, (m.1 72))]) (a' := [(65, (m.2 65)), (66, (m.2 66)), (67, (m.2 67)), (68, (m.2 68)), (80, (m.2 80))]) [10, 11] [] rfl ⟨rfl, rfl, rfl, rfl, rfl, rfl, rfl, rfl, rfl, rfl, rfl, rfl, rfl, rfl, trivial⟩ ⟨rfl, rfl, rfl, rfl, rfl, rfl, rfl, rfl, rfl, rfl, trivial⟩ rfl rfl (by decide) (by decide) ?_
              have g494 : 0 ≤ m490.1 10 ∧ m490.1 10 ≤ 8 := hT491.1 10
              have g495 : (-1) ≤ m490.1 11 ∧ m490.1 11 ≤ 4000 := hT491.1 11
              replace h492 : (m490.1 10) = 0 → (m471.1 10) = 0 := h492
              have hf496 : 1 ≤ (m490.1 10) := by omega
              clear c493
              clear h492
              clear g475 g476 hf477
              refine T_ld 198 (.int (i32 ((m.2 81) jj))) rfl (fun _ => rfl) ?_
              refine T_gf 202 (.int (i32 (m.1 69))) rfl rfl rfl rfl rfl rfl ?_
              refine T_iadd 203 rfl rfl ?_
              refine T_sto 204 [(2, .int (i32 (((m.2 81) jj) + (m.1 69)))), (5, .int (i32 (m.1 69))), (4, .int (i32 ((m.2 80) jj))), (3, .int (i32 ((m.2 82) jj))), (0, .ref 189), (1, .int (i32 jj))] rfl (fun _ => rfl) ?_
              refine T_goto 261 rfl (fun _ => rfl) ?_
              refine Tm_lv (a := [(0, .ref 189), (1, .int (i32 jj)), (2, .int (i32 (((m.2 81) jj) + (m.1 69)))), (3, .int (i32 ((m.2 82) jj))), (4, .int (i32 ((m.2 80) jj))), (5, .int (i32 (m.1 69)))]) rfl rfl ⟨rfl, rfl, rfl, rfl, rfl, rfl, trivial⟩ ?_
              exact J261_10 (((m.2 81) jj) + (m.1 69)) (mO m [(10, (m490.1 10)), (11, (m490.1 11)), (28, (m.1 28)), (69, (m.1 69)), (70, (m.1 70)), (71, (m.1 71)), (72, (m.1 72))] [(65, (m.2 65)), (66, (m.2 66)), (67, (m.2 67)), (68, (m.2 68)), (80, (m.2 80))]) (r32 (by omega) (by omega)) (Ty_mO hT rfl rfl ⟨(hT491.1 10), (hT491.1 11), f28, f69, f70, f71, f72, trivial⟩ ⟨(hT.2.1 65), (hT.2.1 66), (hT.2.1 67), (hT.2.1 68), (hT.2.1 80), trivial⟩) (show 0 ≤ (((m.2 81) jj) + (m.1 69)) ∧ (((m.2 81) jj) + (m.1 69)) ≤ (m.1 69) + 64 by omega) (fun (h : (m490.1 10) = 0) => absurd h (by omega))
    by_cases h497 : x74 = 2
    · skip
      refine T_cast 2 h497 ?_
      refine T_pop 207 rfl (fun _ => rfl) ?_
      exact T207_110
    by_cases h498 : x74 = 3
    · skip
      refine T_cast 3 h498 ?_
      refine T_pop 207 rfl (fun _ => rfl) ?_
      exact T207_110
    by_cases h499 : x74 = 4
    · skip
      refine T_cast 4 h499 ?_
      refine T_pop 207 rfl (fun _ => rfl) ?_
      exact T207_110
    by_cases h500 : x74 = 5
    · skip
      refine T_cast 5 h500 ?_
      refine T_pop 207 rfl (fun _ => rfl) ?_
      exact T207_110
    by_cases h501 : x74 = 7
    · skip
      refine T_cast 7 h501 ?_
      refine T_pop 207 rfl (fun _ => rfl) ?_
      exact T207_110
    refine T_tsd 207 rfl rfl (r32 (by omega) (by omega)) (by omega) ?_
    exact T207_110
  · skip
    clear hC
    refine T_gf 4 (.ref 243) rfl rfl rfl rfl rfl rfl ?_
    refine T_ld 5 (.int (i32 jj)) rfl (fun _ => rfl) ?_
    refine T_iald 6 81 (m.2 81) rfl rfl rfl (by omega) (show jj < (540 : Int) by omega) rfl ?_
    have e502 : 0 ≤ m.2 81 jj ∧ m.2 81 jj ≤ 64 := hT.2.1 81 jj
    refine T_sto 7 [(2, .int (i32 ((m.2 81) jj))), (0, .ref 189), (1, .int (i32 jj))] rfl (fun _ => rfl) ?_
    refine T_gf 11 (.ref 244) rfl rfl rfl rfl rfl rfl ?_
    refine T_ld 12 (.int (i32 jj)) rfl (fun _ => rfl) ?_
    refine T_iald 13 82 (m.2 82) rfl rfl rfl (by omega) (show jj < (540 : Int) by omega) rfl ?_
    have e503 : 0 ≤ m.2 82 jj ∧ m.2 82 jj ≤ 4000 := hT.2.1 82 jj
    refine T_sto 14 [(3, .int (i32 ((m.2 82) jj))), (2, .int (i32 ((m.2 81) jj))), (0, .ref 189), (1, .int (i32 jj))] rfl (fun _ => rfl) ?_
    refine T_gf 18 (.ref 242) rfl rfl rfl rfl rfl rfl ?_
    refine T_ld 19 (.int (i32 jj)) rfl (fun _ => rfl) ?_
    refine T_iald 20 80 (m.2 80) rfl rfl rfl (by omega) (show jj < (540 : Int) by omega) rfl ?_
    have e504 : (-1) ≤ (m.2 80) jj ∧ (m.2 80) jj ≤ 330 := (hT.2.1 80) jj
    refine T_sto 22 [(4, .int (i32 ((m.2 80) jj))), (3, .int (i32 ((m.2 82) jj))), (2, .int (i32 ((m.2 81) jj))), (0, .ref 189), (1, .int (i32 jj))] rfl (fun _ => rfl) ?_
    refine T_gf 26 (.int (i32 (m.1 69))) rfl rfl rfl rfl rfl rfl ?_
    refine T_sto 28 [(5, .int (i32 (m.1 69))), (4, .int (i32 ((m.2 80) jj))), (3, .int (i32 ((m.2 82) jj))), (2, .int (i32 ((m.2 81) jj))), (0, .ref 189), (1, .int (i32 jj))] rfl (fun _ => rfl) ?_
    refine T_gf 32 (.ref 242) rfl rfl rfl rfl rfl rfl ?_
    refine T_ld 33 (.int (i32 jj)) rfl (fun _ => rfl) ?_
    refine T_iald 34 80 (m.2 80) rfl rfl rfl (by omega) (show jj < (540 : Int) by omega) rfl ?_
    have e505 : (-1) ≤ (m.2 80) jj ∧ (m.2 80) jj ≤ 330 := (hT.2.1 80) jj
    refine T_call 37 259 [.int (i32 ((m.2 80) jj))] [] rfl (fun _ => rfl) rfl (c_level w (mO m [(10, (m.1 10)), (11, (m.1 11)), (28, (m.1 28)), (69, (m.1 69)), (70, (m.1 70)), (71, (m.1 71)), (72, (m.1 72))] [(65, (m.2 65)), (66, (m.2 66)), (67, (m.2 67)), (68, (m.2 68)), (80, (m.2 80))]) c N D (by omega) (Ty_mO hT rfl rfl ⟨f10, f11, f28, f69, f70, f71, f72, trivial⟩ ⟨(hT.2.1 65), (hT.2.1 66), (hT.2.1 67), (hT.2.1 68), (hT.2.1 80), trivial⟩) ((m.2 80) jj) (r32 (by omega) (by omega))) (fun rr506 k507 => ?_)
    obtain ⟨x508, g509, h510, rfl⟩ := k507
    refine ⟨_, _, rfl, ?_⟩
    refine T_nf2 (st' := [.int (i32 x508)]) (l' := [(10, (m.1 10)), (11, (m.1 11)), (28, (m.1 28)), (69, (m.1 69)), (70, (m.1 70)), (71, (m.1 71)), (72, (m.1 72))]) (a' := [(65, (m.2 65)), (66, (m.2 66)), (67, (m.2 67)), (68, (m.2 68)), (80, (m.2 80))]) [] [] rfl ⟨rfl, rfl, rfl, rfl, rfl, rfl, rfl, rfl, rfl, rfl, rfl, rfl, rfl, rfl, trivial⟩ ⟨rfl, rfl, rfl, rfl, rfl, rfl, rfl, rfl, rfl, rfl, trivial⟩ rfl rfl (by decide) (by decide) ?_
    obtain ⟨g509a, g509b⟩ := g509
    replace h510 : 0 ≤ x508 → 4 ≤ ((m.2 80) jj) ∧ ((m.2 80) jj) ≤ 124 := h510
    have T88_511 : (x508 = 0 ∨ x508 = 1) → TT w D pm_260 (88, [(5, .int (i32 (m.1 69))), (4, .int (i32 ((m.2 80) jj))), (3, .int (i32 ((m.2 82) jj))), (2, .int (i32 ((m.2 81) jj))), (0, .ref 189), (1, .int (i32 jj))], [], (mhp (mO m [(10, (m.1 10)), (11, (m.1 11)), (28, (m.1 28)), (69, (m.1 69)), (70, (m.1 70)), (71, (m.1 71)), (72, (m.1 72))] [(65, (m.2 65)), (66, (m.2 66)), (67, (m.2 67)), (68, (m.2 68)), (80, (m.2 80))]) c, N), 0, 0) (Q_join m c N jj B) := by
      intro ht512
      refine T_ld 89 (.ref 189) rfl (fun _ => rfl) ?_
      refine T_ld 90 (.int (i32 ((m.2 81) jj))) rfl (fun _ => rfl) ?_
      refine T_gf 94 (.ref 245) rfl rfl rfl rfl rfl rfl ?_
      refine T_ld 95 (.int (i32 jj)) rfl (fun _ => rfl) ?_
      refine T_bald 96 83 (m.2 83) rfl rfl rfl (by omega) (show jj < (540 : Int) by omega) rfl ?_
      have e513 : 0 ≤ m.2 83 jj ∧ m.2 83 jj ≤ 1 := hT.2.1 83 jj
      refine T_gf 100 (.ref 246) rfl rfl rfl rfl rfl rfl ?_
      refine T_ld 101 (.int (i32 jj)) rfl (fun _ => rfl) ?_
      refine T_lald 102 84 (m.2 84) rfl rfl rfl (by omega) (show jj < (540 : Int) by omega) rfl ?_
      have e514 : (-9223372036854775808) ≤ m.2 84 jj ∧ m.2 84 jj ≤ 9223372036854775807 := hT.2.1 84 jj
      refine T_ld 103 (.int (i32 ((m.2 82) jj))) rfl (fun _ => rfl) ?_
      refine T_call 106 258 [.ref 189, .int (i32 ((m.2 81) jj)), .int (i32 ((m.2 83) jj)), .long (i64 ((m.2 84) jj)), .int (i32 ((m.2 82) jj))] [] rfl (fun _ => rfl) rfl (c_wantBit w (mO m [(10, (m.1 10)), (11, (m.1 11)), (28, (m.1 28)), (69, (m.1 69)), (70, (m.1 70)), (71, (m.1 71)), (72, (m.1 72))] [(65, (m.2 65)), (66, (m.2 66)), (67, (m.2 67)), (68, (m.2 68)), (80, (m.2 80))]) c N D (by omega) (Ty_mO hT rfl rfl ⟨f10, f11, f28, f69, f70, f71, f72, trivial⟩ ⟨(hT.2.1 65), (hT.2.1 66), (hT.2.1 67), (hT.2.1 68), (hT.2.1 80), trivial⟩) ((m.2 81) jj) ((m.2 83) jj) ((m.2 84) jj) ((m.2 82) jj) (r32 (by omega) (by omega)) (r32 (by omega) (by omega)) (r64 (by omega) (by omega)) (r32 (by omega) (by omega)) (show 0 ≤ ((m.2 82) jj) ∧ ((m.2 82) jj) ≤ 4000 by omega) (fun (h : (m.1 10) = 0) => absurd h (by omega))) (fun rr515 k516 => ?_)
      obtain ⟨m517, hT518, h519, c520, rfl⟩ := k516
      refine ⟨_, _, rfl, ?_⟩
      refine T_nf2 (st' := []) (l' := [(10, (m517.1 10)), (11, (m517.1 11)), (28, (m.1 28)), (69, (m.1 69)), (70, (m.1 70)), (71, (m.1 71)), (72, (m.1 72))]) (a' := [(65, (m.2 65)), (66, (m.2 66)), (67, (m.2 67)), (68, (m.2 68)), (80, (m.2 80))]) [10, 11] [] rfl ⟨rfl, rfl, rfl, rfl, rfl, rfl, rfl, rfl, rfl, rfl, rfl, rfl, rfl, rfl, trivial⟩ ⟨rfl, rfl, rfl, rfl, rfl, rfl, rfl, rfl, rfl, rfl, trivial⟩ rfl rfl (by decide) (by decide) ?_
      have g521 : 0 ≤ m517.1 10 ∧ m517.1 10 ≤ 8 := hT518.1 10
      have g522 : (-1) ≤ m517.1 11 ∧ m517.1 11 ≤ 4000 := hT518.1 11
      replace h519 : (m517.1 10) = 0 → (m.1 10) = 0 := h519
      have hf523 : 1 ≤ (m517.1 10) := by omega
      clear c520
      clear h519
      clear g509a g509b h510
      refine T_ld 107 (.ref 189) rfl (fun _ => rfl) ?_
      refine T_gf 111 (.int (i32 (m.1 69))) rfl rfl rfl rfl rfl rfl ?_
      refine T_gf 115 (.int (i32 (m.1 71))) rfl rfl rfl rfl rfl rfl ?_
      refine T_gf 119 (.long (i64 (m.1 72))) rfl rfl rfl rfl rfl rfl ?_
      refine T_gf 123 (.int (i32 (m.1 70))) rfl rfl rfl rfl rfl rfl ?_
      refine T_call 126 258 [.ref 189, .int (i32 (m.1 69)), .int (i32 (m.1 71)), .long (i64 (m.1 72)), .int (i32 (m.1 70))] [] rfl (fun _ => rfl) rfl (c_wantBit w (mO m [(10, (m517.1 10)), (11, (m517.1 11)), (28, (m.1 28)), (69, (m.1 69)), (70, (m.1 70)), (71, (m.1 71)), (72, (m.1 72))] [(65, (m.2 65)), (66, (m.2 66)), (67, (m.2 67)), (68, (m.2 68)), (80, (m.2 80))]) c N D (by omega) (Ty_mO hT rfl rfl ⟨(hT518.1 10), (hT518.1 11), f28, f69, f70, f71, f72, trivial⟩ ⟨(hT.2.1 65), (hT.2.1 66), (hT.2.1 67), (hT.2.1 68), (hT.2.1 80), trivial⟩) (m.1 69) (m.1 71) (m.1 72) (m.1 70) (r32 (by omega) (by omega)) (r32 (by omega) (by omega)) (r64 (by omega) (by omega)) (r32 (by omega) (by omega)) (show 0 ≤ (m.1 70) ∧ (m.1 70) ≤ 4000 by omega) (fun (h : (m517.1 10) = 0) => absurd h (by omega))) (fun rr524 k525 => ?_)
      obtain ⟨m526, hT527, h528, c529, rfl⟩ := k525
      refine ⟨_, _, rfl, ?_⟩
      refine T_nf2 (st' := []) (l' := [(10, (m526.1 10)), (11, (m526.1 11)), (28, (m.1 28)), (69, (m.1 69)), (70, (m.1 70)), (71, (m.1 71)), (72, (m.1 72))]) (a' := [(65, (m.2 65)), (66, (m.2 66)), (67, (m.2 67)), (68, (m.2 68)), (80, (m.2 80))]) [10, 11] [] rfl ⟨rfl, rfl, rfl, rfl, rfl, rfl, rfl, rfl, rfl, rfl, rfl, rfl, rfl, rfl, trivial⟩ ⟨rfl, rfl, rfl, rfl, rfl, rfl, rfl, rfl, rfl, rfl, trivial⟩ rfl rfl (by decide) (by decide) ?_
      have g530 : 0 ≤ m526.1 10 ∧ m526.1 10 ≤ 8 := hT527.1 10
      have g531 : (-1) ≤ m526.1 11 ∧ m526.1 11 ≤ 4000 := hT527.1 11
      replace h528 : (m526.1 10) = 0 → (m517.1 10) = 0 := h528
      have hf532 : 1 ≤ (m526.1 10) := by omega
      clear c529
      clear h528
      clear g521 g522 hf523
      refine T_ld 127 (.int (i32 1)) rfl (fun _ => rfl) ?_
      refine T_sto 128 [(2, .int (i32 1)), (5, .int (i32 (m.1 69))), (4, .int (i32 ((m.2 80) jj))), (3, .int (i32 ((m.2 82) jj))), (0, .ref 189), (1, .int (i32 jj))] rfl (fun _ => rfl) ?_
      refine T_goto 261 rfl (fun _ => rfl) ?_
      refine T_gf 265 (.ref 242) rfl rfl rfl rfl rfl rfl ?_
      refine T_ld 266 (.int (i32 jj)) rfl (fun _ => rfl) ?_
      refine T_ld 267 (.int (i32 (-1))) rfl (fun _ => rfl) ?_
      have G533 : ∀ j, (-1) ≤ (upI (m.2 80) jj (-1)) j ∧ (upI (m.2 80) jj (-1)) j ≤ 330 := upI_rg (hT.2.1 80) ⟨by omega, by omega⟩
      refine T_iast (a' := [(65, (m.2 65)), (66, (m.2 66)), (67, (m.2 67)), (68, (m.2 68)), (80, upI (m.2 80) jj (-1))]) 268 80 (m.2 80) rfl rfl rfl (by omega) (show jj < (540 : Int) by omega) rfl rfl ?_
      refine T_ld 269 (.ref 189) rfl (fun _ => rfl) ?_
      refine T_ld 271 (.int (i32 ((m.2 80) jj))) rfl (fun _ => rfl) ?_
      refine T_ld 272 (.int (i32 1)) rfl (fun _ => rfl) ?_
      refine T_ld 274 (.int (i32 (m.1 69))) rfl (fun _ => rfl) ?_
      refine T_ld 275 (.long (i64 0)) rfl (fun _ => rfl) ?_
      refine T_call 278 248 [.ref 189, .int (i32 ((m.2 80) jj)), .int (i32 1), .int (i32 (m.1 69)), .long (i64 0)] [] rfl (fun _ => rfl) rfl (c_node w (mO m [(10, (m526.1 10)), (11, (m526.1 11)), (28, (m.1 28)), (69, (m.1 69)), (70, (m.1 70)), (71, (m.1 71)), (72, (m.1 72))] [(65, (m.2 65)), (66, (m.2 66)), (67, (m.2 67)), (68, (m.2 68)), (80, upI (m.2 80) jj (-1))]) c N D (by omega) (Ty_mO hT rfl rfl ⟨(hT527.1 10), (hT527.1 11), f28, f69, f70, f71, f72, trivial⟩ ⟨(hT.2.1 65), (hT.2.1 66), (hT.2.1 67), (hT.2.1 68), G533, trivial⟩) ((m.2 80) jj) 1 (m.1 69) 0 B (1 + lh (m.2 79) (m.2 80) (m.1 73)) (r32 (by omega) (by omega)) ⟨by decide, by decide⟩ (r32 (by omega) (by omega)) ⟨by decide, by decide⟩ (fun (h : (m526.1 10) = 0) => absurd h (by omega))) (fun rr534 k535 => ?_)
      obtain ⟨m536, hT537, h538, c539, rfl⟩ := k535
      refine ⟨_, _, rfl, ?_⟩
      refine T_nf2 (st' := []) (l' := [(10, (m536.1 10)), (11, (m536.1 11)), (28, (m536.1 28)), (69, (m.1 69)), (70, (m.1 70)), (71, (m.1 71)), (72, (m.1 72))]) (a' := [(65, (m536.2 65)), (66, (m536.2 66)), (67, (m536.2 67)), (68, (m536.2 68)), (80, upI (m.2 80) jj (-1))]) [10, 11, 28] [65, 66, 67, 68] rfl ⟨rfl, rfl, rfl, rfl, rfl, rfl, rfl, rfl, rfl, rfl, rfl, rfl, rfl, rfl, trivial⟩ ⟨rfl, rfl, rfl, rfl, rfl, rfl, rfl, rfl, rfl, rfl, trivial⟩ rfl rfl (by decide) (by decide) ?_
      have g540 : 0 ≤ m536.1 10 ∧ m536.1 10 ≤ 8 := hT537.1 10
      have g541 : (-1) ≤ m536.1 11 ∧ m536.1 11 ≤ 4000 := hT537.1 11
      have g542 : 0 ≤ m536.1 28 ∧ m536.1 28 ≤ 800 := hT537.1 28
      replace h538 : (m536.1 10) = 0 → (m526.1 10) = 0 := h538
      have hf543 : 1 ≤ (m536.1 10) := by omega
      clear c539
      clear h538
      clear g530 g531 hf532
      refine T_ld 279 (.ref 189) rfl (fun _ => rfl) ?_
      refine T_ld 280 (.int (i32 1)) rfl (fun _ => rfl) ?_
      refine T_ld 281 (.int (i32 ((m.2 82) jj))) rfl (fun _ => rfl) ?_
      refine T_call 284 250 [.ref 189, .int (i32 1), .int (i32 ((m.2 82) jj))] [] rfl (fun _ => rfl) rfl (c_unit w (mO m [(10, (m536.1 10)), (11, (m536.1 11)), (28, (m536.1 28)), (69, (m.1 69)), (70, (m.1 70)), (71, (m.1 71)), (72, (m.1 72))] [(65, (m536.2 65)), (66, (m536.2 66)), (67, (m536.2 67)), (68, (m536.2 68)), (80, upI (m.2 80) jj (-1))]) c N D (by omega) (Ty_mO hT rfl rfl ⟨(hT537.1 10), (hT537.1 11), (hT537.1 28), f69, f70, f71, f72, trivial⟩ ⟨(hT537.2.1 65), (hT537.2.1 66), (hT537.2.1 67), (hT537.2.1 68), G533, trivial⟩) 1 ((m.2 82) jj) ⟨by decide, by decide⟩ (r32 (by omega) (by omega)) (show 0 ≤ (1 : Int) ∧ (1 : Int) ≤ 1024 by omega) (show 0 ≤ ((m.2 82) jj) ∧ ((m.2 82) jj) ≤ 4000 by omega)) (fun rr544 k545 => ?_)
      obtain ⟨m546, hT547, h548, rfl⟩ := k545
      refine ⟨_, _, rfl, ?_⟩
      refine T_nf2 (st' := []) (l' := [(10, (m536.1 10)), (11, (m536.1 11)), (28, (m536.1 28)), (69, (m546.1 69)), (70, (m546.1 70)), (71, (m546.1 71)), (72, (m546.1 72))]) (a' := [(65, (m536.2 65)), (66, (m536.2 66)), (67, (m536.2 67)), (68, (m536.2 68)), (80, upI (m.2 80) jj (-1))]) [69, 70, 71, 72] [] rfl ⟨rfl, rfl, rfl, rfl, rfl, rfl, rfl, rfl, rfl, rfl, rfl, rfl, rfl, rfl, rfl, rfl, rfl, trivial⟩ ⟨rfl, rfl, rfl, rfl, rfl, rfl, rfl, rfl, rfl, rfl, trivial⟩ rfl rfl (by decide) (by decide) ?_
      have g549 : 0 ≤ m546.1 69 ∧ m546.1 69 ≤ 1024 := hT547.1 69
      have g550 : 0 ≤ m546.1 70 ∧ m546.1 70 ≤ 4000 := hT547.1 70
      have g551 : 0 ≤ m546.1 71 ∧ m546.1 71 ≤ 1 := hT547.1 71
      have g552 : (-9223372036854775808) ≤ m546.1 72 ∧ m546.1 72 ≤ 9223372036854775807 := hT547.1 72
      replace h548 : (m546.1 69) = (1 : Int) := h548
      refine T_ret rfl (fun _ => rfl) ?_
      exact ⟨(mO m [(10, (m536.1 10)), (11, (m536.1 11)), (28, (m536.1 28)), (69, (m546.1 69)), (70, (m546.1 70)), (71, (m546.1 71)), (72, (m546.1 72))] [(65, (m536.2 65)), (66, (m536.2 66)), (67, (m536.2 67)), (68, (m536.2 68)), (80, upI (m.2 80) jj (-1))]), (Ty_mO hT rfl rfl ⟨(hT537.1 10), (hT537.1 11), (hT537.1 28), (hT547.1 69), (hT547.1 70), (hT547.1 71), (hT547.1 72), trivial⟩ ⟨(hT537.2.1 65), (hT537.2.1 66), (hT537.2.1 67), (hT537.2.1 68), G533, trivial⟩), (show (m536.1 10) = 0 → (m.1 10) = 0 by omega), (show (m546.1 69) ≤ (m.1 69) + 64 by omega), (fun (h : (m536.1 10) = 0) => absurd h (by omega)), rfl⟩
    have T207_553 : TT w D pm_260 (207, [(5, .int (i32 (m.1 69))), (4, .int (i32 ((m.2 80) jj))), (3, .int (i32 ((m.2 82) jj))), (2, .int (i32 ((m.2 81) jj))), (0, .ref 189), (1, .int (i32 jj))], [], (mhp (mO m [(10, (m.1 10)), (11, (m.1 11)), (28, (m.1 28)), (69, (m.1 69)), (70, (m.1 70)), (71, (m.1 71)), (72, (m.1 72))] [(65, (m.2 65)), (66, (m.2 66)), (67, (m.2 67)), (68, (m.2 68)), (80, (m.2 80))]) c, N), 0, 0) (Q_join m c N jj B) := by
      refine T_ld 208 (.ref 189) rfl (fun _ => rfl) ?_
      refine T_ld 209 (.int (i32 ((m.2 81) jj))) rfl (fun _ => rfl) ?_
      refine T_gf 213 (.ref 245) rfl rfl rfl rfl rfl rfl ?_
      refine T_ld 214 (.int (i32 jj)) rfl (fun _ => rfl) ?_
      refine T_bald 215 83 (m.2 83) rfl rfl rfl (by omega) (show jj < (540 : Int) by omega) rfl ?_
      have e555 : 0 ≤ m.2 83 jj ∧ m.2 83 jj ≤ 1 := hT.2.1 83 jj
      refine T_gf 219 (.ref 246) rfl rfl rfl rfl rfl rfl ?_
      refine T_ld 220 (.int (i32 jj)) rfl (fun _ => rfl) ?_
      refine T_lald 221 84 (m.2 84) rfl rfl rfl (by omega) (show jj < (540 : Int) by omega) rfl ?_
      have e556 : (-9223372036854775808) ≤ m.2 84 jj ∧ m.2 84 jj ≤ 9223372036854775807 := hT.2.1 84 jj
      refine T_ld 222 (.int (i32 ((m.2 82) jj))) rfl (fun _ => rfl) ?_
      refine T_gf 226 (.int (i32 (m.1 69))) rfl rfl rfl rfl rfl rfl ?_
      refine T_gf 230 (.int (i32 (m.1 71))) rfl rfl rfl rfl rfl rfl ?_
      refine T_gf 234 (.long (i64 (m.1 72))) rfl rfl rfl rfl rfl rfl ?_
      refine T_gf 238 (.int (i32 (m.1 70))) rfl rfl rfl rfl rfl rfl ?_
      refine T_call 241 261 [.ref 189, .int (i32 ((m.2 81) jj)), .int (i32 ((m.2 83) jj)), .long (i64 ((m.2 84) jj)), .int (i32 ((m.2 82) jj)), .int (i32 (m.1 69)), .int (i32 (m.1 71)), .long (i64 (m.1 72)), .int (i32 (m.1 70))] [] rfl (fun _ => rfl) rfl (c_common w (mO m [(10, (m.1 10)), (11, (m.1 11)), (28, (m.1 28)), (69, (m.1 69)), (70, (m.1 70)), (71, (m.1 71)), (72, (m.1 72))] [(65, (m.2 65)), (66, (m.2 66)), (67, (m.2 67)), (68, (m.2 68)), (80, (m.2 80))]) c N D (by omega) (Ty_mO hT rfl rfl ⟨f10, f11, f28, f69, f70, f71, f72, trivial⟩ ⟨(hT.2.1 65), (hT.2.1 66), (hT.2.1 67), (hT.2.1 68), (hT.2.1 80), trivial⟩) ((m.2 81) jj) ((m.2 83) jj) ((m.2 84) jj) ((m.2 82) jj) (m.1 69) (m.1 71) (m.1 72) (m.1 70) (r32 (by omega) (by omega)) (r32 (by omega) (by omega)) (r64 (by omega) (by omega)) (r32 (by omega) (by omega)) (r32 (by omega) (by omega)) (r32 (by omega) (by omega)) (r64 (by omega) (by omega)) (r32 (by omega) (by omega)) (show 0 ≤ ((m.2 82) jj) ∧ ((m.2 82) jj) ≤ 4000 by omega) (show 0 ≤ (m.1 70) ∧ (m.1 70) ≤ 4000 by omega) (show 0 ≤ ((m.2 81) jj) ∧ ((m.2 81) jj) ≤ 1024 by omega) (show 0 ≤ (m.1 69) ∧ (m.1 69) ≤ 1024 by omega) (fun (h : (m.1 10) = 0) => absurd h (by omega))) (fun rr557 k558 => ?_)
      obtain ⟨m559, x561, hT560, g562, h563, h564, c565, rfl⟩ := k558
      refine ⟨_, _, rfl, ?_⟩
      refine T_nf2 (st' := [.int (i32 x561)]) (l' := [(10, (m559.1 10)), (11, (m559.1 11)), (28, (m.1 28)), (69, (m.1 69)), (70, (m.1 70)), (71, (m.1 71)), (72, (m.1 72))]) (a' := [(65, (m.2 65)), (66, (m.2 66)), (67, (m.2 67)), (68, (m.2 68)), (80, (m.2 80))]) [10, 11] [] rfl ⟨rfl, rfl, rfl, rfl, rfl, rfl, rfl, rfl, rfl, rfl, rfl, rfl, rfl, rfl, trivial⟩ ⟨rfl, rfl, rfl, rfl, rfl, rfl, rfl, rfl, rfl, rfl, trivial⟩ rfl rfl (by decide) (by decide) ?_
      obtain ⟨g562a, g562b⟩ := g562
      have g566 : 0 ≤ m559.1 10 ∧ m559.1 10 ≤ 8 := hT560.1 10
      have g567 : (-1) ≤ m559.1 11 ∧ m559.1 11 ≤ 4000 := hT560.1 11
      replace h563 : (m559.1 10) = 0 → (m.1 10) = 0 := h563
      replace h564 : x561 = 64 ∨ x561 = ((m.2 81) jj) ∨ x561 = (m.1 69) := h564
      have hf568 : 1 ≤ (m559.1 10) := by omega
      clear c565
      clear h563
      clear g509a g509b h510
      refine T_sto 242 [(2, .int (i32 x561)), (5, .int (i32 (m.1 69))), (4, .int (i32 ((m.2 80) jj))), (3, .int (i32 ((m.2 82) jj))), (0, .ref 189), (1, .int (i32 jj))] rfl (fun _ => rfl) ?_
      refine T_gf 246 (.ref 242) rfl rfl rfl rfl rfl rfl ?_
      refine T_ld 247 (.int (i32 jj)) rfl (fun _ => rfl) ?_
      refine T_iald 248 80 (m.2 80) rfl rfl rfl (by omega) (show jj < (540 : Int) by omega) rfl ?_
      have e569 : (-1) ≤ (m.2 80) jj ∧ (m.2 80) jj ≤ 330 := (hT.2.1 80) jj
      refine T_call 251 259 [.int (i32 ((m.2 80) jj))] [] rfl (fun _ => rfl) rfl (c_level w (mO m [(10, (m559.1 10)), (11, (m559.1 11)), (28, (m.1 28)), (69, (m.1 69)), (70, (m.1 70)), (71, (m.1 71)), (72, (m.1 72))] [(65, (m.2 65)), (66, (m.2 66)), (67, (m.2 67)), (68, (m.2 68)), (80, (m.2 80))]) c N D (by omega) (Ty_mO hT rfl rfl ⟨(hT560.1 10), (hT560.1 11), f28, f69, f70, f71, f72, trivial⟩ ⟨(hT.2.1 65), (hT.2.1 66), (hT.2.1 67), (hT.2.1 68), (hT.2.1 80), trivial⟩) ((m.2 80) jj) (r32 (by omega) (by omega))) (fun rr570 k571 => ?_)
      obtain ⟨x572, g573, h574, rfl⟩ := k571
      refine ⟨_, _, rfl, ?_⟩
      refine T_nf2 (st' := [.int (i32 x572)]) (l' := [(10, (m559.1 10)), (11, (m559.1 11)), (28, (m.1 28)), (69, (m.1 69)), (70, (m.1 70)), (71, (m.1 71)), (72, (m.1 72))]) (a' := [(65, (m.2 65)), (66, (m.2 66)), (67, (m.2 67)), (68, (m.2 68)), (80, (m.2 80))]) [] [] rfl ⟨rfl, rfl, rfl, rfl, rfl, rfl, rfl, rfl, rfl, rfl, rfl, rfl, rfl, rfl, trivial⟩ ⟨rfl, rfl, rfl, rfl, rfl, rfl, rfl, rfl, rfl, rfl, trivial⟩ rfl rfl (by decide) (by decide) ?_
      obtain ⟨g573a, g573b⟩ := g573
      replace h574 : 0 ≤ x572 → 4 ≤ ((m.2 80) jj) ∧ ((m.2 80) jj) ≤ 124 := h574
      refine T_ld 252 (.int (i32 2)) rfl (fun _ => rfl) ?_
      refine T_icmp 259 255 rfl rfl rfl (r32 (by omega) (by omega)) ⟨by decide, by decide⟩ (fun (h575 : x572 ≠ 2) => ?_) (fun (h575 : ¬ (x572 ≠ 2)) => ?_)
      · skip
        refine T_ld 260 (.int (i32 x561)) rfl (fun _ => rfl) ?_
        refine T_sto 261 [(2, .int (i32 x561)), (5, .int (i32 (m.1 69))), (4, .int (i32 ((m.2 80) jj))), (3, .int (i32 ((m.2 82) jj))), (0, .ref 189), (1, .int (i32 jj))] rfl (fun _ => rfl) ?_
        refine T_gf 265 (.ref 242) rfl rfl rfl rfl rfl rfl ?_
        refine T_ld 266 (.int (i32 jj)) rfl (fun _ => rfl) ?_
        refine T_ld 267 (.int (i32 (-1))) rfl (fun _ => rfl) ?_
        have G576 : ∀ j, (-1) ≤ (upI (m.2 80) jj (-1)) j ∧ (upI (m.2 80) jj (-1)) j ≤ 330 := upI_rg (hT.2.1 80) ⟨by omega, by omega⟩
        refine T_iast (a' := [(65, (m.2 65)), (66, (m.2 66)), (67, (m.2 67)), (68, (m.2 68)), (80, upI (m.2 80) jj (-1))]) 268 80 (m.2 80) rfl rfl rfl (by omega) (show jj < (540 : Int) by omega) rfl rfl ?_
        refine T_ld 269 (.ref 189) rfl (fun _ => rfl) ?_
        refine T_ld 271 (.int (i32 ((m.2 80) jj))) rfl (fun _ => rfl) ?_
        refine T_ld 272 (.int (i32 x561)) rfl (fun _ => rfl) ?_
        refine T_ld 274 (.int (i32 (m.1 69))) rfl (fun _ => rfl) ?_
        refine T_ld 275 (.long (i64 0)) rfl (fun _ => rfl) ?_
        refine T_call 278 248 [.ref 189, .int (i32 ((m.2 80) jj)), .int (i32 x561), .int (i32 (m.1 69)), .long (i64 0)] [] rfl (fun _ => rfl) rfl (c_node w (mO m [(10, (m559.1 10)), (11, (m559.1 11)), (28, (m.1 28)), (69, (m.1 69)), (70, (m.1 70)), (71, (m.1 71)), (72, (m.1 72))] [(65, (m.2 65)), (66, (m.2 66)), (67, (m.2 67)), (68, (m.2 68)), (80, upI (m.2 80) jj (-1))]) c N D (by omega) (Ty_mO hT rfl rfl ⟨(hT560.1 10), (hT560.1 11), f28, f69, f70, f71, f72, trivial⟩ ⟨(hT.2.1 65), (hT.2.1 66), (hT.2.1 67), (hT.2.1 68), G576, trivial⟩) ((m.2 80) jj) x561 (m.1 69) 0 B (1 + lh (m.2 79) (m.2 80) (m.1 73)) (r32 (by omega) (by omega)) (r32 (by omega) (by omega)) (r32 (by omega) (by omega)) ⟨by decide, by decide⟩ (fun (h : (m559.1 10) = 0) => absurd h (by omega))) (fun rr577 k578 => ?_)
        obtain ⟨m579, hT580, h581, c582, rfl⟩ := k578
        refine ⟨_, _, rfl, ?_⟩
        refine T_nf2 (st' := []) (l' := [(10, (m579.1 10)), (11, (m579.1 11)), (28, (m579.1 28)), (69, (m.1 69)), (70, (m.1 70)), (71, (m.1 71)), (72, (m.1 72))]) (a' := [(65, (m579.2 65)), (66, (m579.2 66)), (67, (m579.2 67)), (68, (m579.2 68)), (80, upI (m.2 80) jj (-1))]) [10, 11, 28] [65, 66, 67, 68] rfl ⟨rfl, rfl, rfl, rfl, rfl, rfl, rfl, rfl, rfl, rfl, rfl, rfl, rfl, rfl, trivial⟩ ⟨rfl, rfl, rfl, rfl, rfl, rfl, rfl, rfl, rfl, rfl, trivial⟩ rfl rfl (by decide) (by decide) ?_
        have g583 : 0 ≤ m579.1 10 ∧ m579.1 10 ≤ 8 := hT580.1 10
        have g584 : (-1) ≤ m579.1 11 ∧ m579.1 11 ≤ 4000 := hT580.1 11
        have g585 : 0 ≤ m579.1 28 ∧ m579.1 28 ≤ 800 := hT580.1 28
        replace h581 : (m579.1 10) = 0 → (m559.1 10) = 0 := h581
        have hf586 : 1 ≤ (m579.1 10) := by omega
        clear c582
        clear h581
        clear g566 g567 hf568 g573a g573b h574 h575
        refine T_ld 279 (.ref 189) rfl (fun _ => rfl) ?_
        refine T_ld 280 (.int (i32 x561)) rfl (fun _ => rfl) ?_
        refine T_ld 281 (.int (i32 ((m.2 82) jj))) rfl (fun _ => rfl) ?_
        refine T_call 284 250 [.ref 189, .int (i32 x561), .int (i32 ((m.2 82) jj))] [] rfl (fun _ => rfl) rfl (c_unit w (mO m [(10, (m579.1 10)), (11, (m579.1 11)), (28, (m579.1 28)), (69, (m.1 69)), (70, (m.1 70)), (71, (m.1 71)), (72, (m.1 72))] [(65, (m579.2 65)), (66, (m579.2 66)), (67, (m579.2 67)), (68, (m579.2 68)), (80, upI (m.2 80) jj (-1))]) c N D (by omega) (Ty_mO hT rfl rfl ⟨(hT580.1 10), (hT580.1 11), (hT580.1 28), f69, f70, f71, f72, trivial⟩ ⟨(hT580.2.1 65), (hT580.2.1 66), (hT580.2.1 67), (hT580.2.1 68), G576, trivial⟩) x561 ((m.2 82) jj) (r32 (by omega) (by omega)) (r32 (by omega) (by omega)) (show 0 ≤ x561 ∧ x561 ≤ 1024 by omega) (show 0 ≤ ((m.2 82) jj) ∧ ((m.2 82) jj) ≤ 4000 by omega)) (fun rr587 k588 => ?_)
        obtain ⟨m589, hT590, h591, rfl⟩ := k588
        refine ⟨_, _, rfl, ?_⟩
        refine T_nf2 (st' := []) (l' := [(10, (m579.1 10)), (11, (m579.1 11)), (28, (m579.1 28)), (69, (m589.1 69)), (70, (m589.1 70)), (71, (m589.1 71)), (72, (m589.1 72))]) (a' := [(65, (m579.2 65)), (66, (m579.2 66)), (67, (m579.2 67)), (68, (m579.2 68)), (80, upI (m.2 80) jj (-1))]) [69, 70, 71, 72] [] rfl ⟨rfl, rfl, rfl, rfl, rfl, rfl, rfl, rfl, rfl, rfl, rfl, rfl, rfl, rfl, rfl, rfl, rfl, trivial⟩ ⟨rfl, rfl, rfl, rfl, rfl, rfl, rfl, rfl, rfl, rfl, trivial⟩ rfl rfl (by decide) (by decide) ?_
        have g592 : 0 ≤ m589.1 69 ∧ m589.1 69 ≤ 1024 := hT590.1 69
        have g593 : 0 ≤ m589.1 70 ∧ m589.1 70 ≤ 4000 := hT590.1 70
        have g594 : 0 ≤ m589.1 71 ∧ m589.1 71 ≤ 1 := hT590.1 71
        have g595 : (-9223372036854775808) ≤ m589.1 72 ∧ m589.1 72 ≤ 9223372036854775807 := hT590.1 72
        replace h591 : (m589.1 69) = x561 := h591
        refine T_ret rfl (fun _ => rfl) ?_
        exact ⟨(mO m [(10, (m579.1 10)), (11, (m579.1 11)), (28, (m579.1 28)), (69, (m589.1 69)), (70, (m589.1 70)), (71, (m589.1 71)), (72, (m589.1 72))] [(65, (m579.2 65)), (66, (m579.2 66)), (67, (m579.2 67)), (68, (m579.2 68)), (80, upI (m.2 80) jj (-1))]), (Ty_mO hT rfl rfl ⟨(hT580.1 10), (hT580.1 11), (hT580.1 28), (hT590.1 69), (hT590.1 70), (hT590.1 71), (hT590.1 72), trivial⟩ ⟨(hT580.2.1 65), (hT580.2.1 66), (hT580.2.1 67), (hT580.2.1 68), G576, trivial⟩), (show (m579.1 10) = 0 → (m.1 10) = 0 by omega), (show (m589.1 69) ≤ (m.1 69) + 64 by omega), (fun (h : (m579.1 10) = 0) => absurd h (by omega)), rfl⟩
      · skip
        refine T_ld 256 (.int (i32 1)) rfl (fun _ => rfl) ?_
        refine T_goto 260 rfl (fun _ => rfl) ?_
        refine T_sto 261 [(2, .int (i32 1)), (5, .int (i32 (m.1 69))), (4, .int (i32 ((m.2 80) jj))), (3, .int (i32 ((m.2 82) jj))), (0, .ref 189), (1, .int (i32 jj))] rfl (fun _ => rfl) ?_
        refine T_gf 265 (.ref 242) rfl rfl rfl rfl rfl rfl ?_
        refine T_ld 266 (.int (i32 jj)) rfl (fun _ => rfl) ?_
        refine T_ld 267 (.int (i32 (-1))) rfl (fun _ => rfl) ?_
        have G596 : ∀ j, (-1) ≤ (upI (m.2 80) jj (-1)) j ∧ (upI (m.2 80) jj (-1)) j ≤ 330 := upI_rg (hT.2.1 80) ⟨by omega, by omega⟩
        refine T_iast (a' := [(65, (m.2 65)), (66, (m.2 66)), (67, (m.2 67)), (68, (m.2 68)), (80, upI (m.2 80) jj (-1))]) 268 80 (m.2 80) rfl rfl rfl (by omega) (show jj < (540 : Int) by omega) rfl rfl ?_
        refine T_ld 269 (.ref 189) rfl (fun _ => rfl) ?_
        refine T_ld 271 (.int (i32 ((m.2 80) jj))) rfl (fun _ => rfl) ?_
        refine T_ld 272 (.int (i32 1)) rfl (fun _ => rfl) ?_
        refine T_ld 274 (.int (i32 (m.1 69))) rfl (fun _ => rfl) ?_
        refine T_ld 275 (.long (i64 0)) rfl (fun _ => rfl) ?_
        refine T_call 278 248 [.ref 189, .int (i32 ((m.2 80) jj)), .int (i32 1), .int (i32 (m.1 69)), .long (i64 0)] [] rfl (fun _ => rfl) rfl (c_node w (mO m [(10, (m559.1 10)), (11, (m559.1 11)), (28, (m.1 28)), (69, (m.1 69)), (70, (m.1 70)), (71, (m.1 71)), (72, (m.1 72))] [(65, (m.2 65)), (66, (m.2 66)), (67, (m.2 67)), (68, (m.2 68)), (80, upI (m.2 80) jj (-1))]) c N D (by omega) (Ty_mO hT rfl rfl ⟨(hT560.1 10), (hT560.1 11), f28, f69, f70, f71, f72, trivial⟩ ⟨(hT.2.1 65), (hT.2.1 66), (hT.2.1 67), (hT.2.1 68), G596, trivial⟩) ((m.2 80) jj) 1 (m.1 69) 0 B (1 + lh (m.2 79) (m.2 80) (m.1 73)) (r32 (by omega) (by omega)) ⟨by decide, by decide⟩ (r32 (by omega) (by omega)) ⟨by decide, by decide⟩ (fun (h : (m559.1 10) = 0) => absurd h (by omega))) (fun rr597 k598 => ?_)
        obtain ⟨m599, hT600, h601, c602, rfl⟩ := k598
        refine ⟨_, _, rfl, ?_⟩
        refine T_nf2 (st' := []) (l' := [(10, (m599.1 10)), (11, (m599.1 11)), (28, (m599.1 28)), (69, (m.1 69)), (70, (m.1 70)), (71, (m.1 71)), (72, (m.1 72))]) (a' := [(65, (m599.2 65)), (66, (m599.2 66)), (67, (m599.2 67)), (68, (m599.2 68)), (80, upI (m.2 80) jj (-1))]) [10, 11, 28] [65, 66, 67, 68] rfl ⟨rfl, rfl, rfl, rfl, rfl, rfl, rfl, rfl, rfl, rfl, rfl, rfl, rfl, rfl, trivial⟩ ⟨rfl, rfl, rfl, rfl, rfl, rfl, rfl, rfl, rfl, rfl, trivial⟩ rfl rfl (by decide) (by decide) ?_
        have g603 : 0 ≤ m599.1 10 ∧ m599.1 10 ≤ 8 := hT600.1 10
        have g604 : (-1) ≤ m599.1 11 ∧ m599.1 11 ≤ 4000 := hT600.1 11
        have g605 : 0 ≤ m599.1 28 ∧ m599.1 28 ≤ 800 := hT600.1 28
        replace h601 : (m599.1 10) = 0 → (m559.1 10) = 0 := h601
        have hf606 : 1 ≤ (m599.1 10) := by omega
        clear c602
        clear h601
        clear g566 g567 g562a g562b hf568 h564 g573a g573b h574 h575
        refine T_ld 279 (.ref 189) rfl (fun _ => rfl) ?_
        refine T_ld 280 (.int (i32 1)) rfl (fun _ => rfl) ?_
        refine T_ld 281 (.int (i32 ((m.2 82) jj))) rfl (fun _ => rfl) ?_
        refine T_call 284 250 [.ref 189, .int (i32 1), .int (i32 ((m.2 82) jj))] [] rfl (fun _ => rfl) rfl (c_unit w (mO m [(10, (m599.1 10)), (11, (m599.1 11)), (28, (m599.1 28)), (69, (m.1 69)), (70, (m.1 70)), (71, (m.1 71)), (72, (m.1 72))] [(65, (m599.2 65)), (66, (m599.2 66)), (67, (m599.2 67)), (68, (m599.2 68)), (80, upI (m.2 80) jj (-1))]) c N D (by omega) (Ty_mO hT rfl rfl ⟨(hT600.1 10), (hT600.1 11), (hT600.1 28), f69, f70, f71, f72, trivial⟩ ⟨(hT600.2.1 65), (hT600.2.1 66), (hT600.2.1 67), (hT600.2.1 68), G596, trivial⟩) 1 ((m.2 82) jj) ⟨by decide, by decide⟩ (r32 (by omega) (by omega)) (show 0 ≤ (1 : Int) ∧ (1 : Int) ≤ 1024 by omega) (show 0 ≤ ((m.2 82) jj) ∧ ((m.2 82) jj) ≤ 4000 by omega)) (fun rr607 k608 => ?_)
        obtain ⟨m609, hT610, h611, rfl⟩ := k608
        refine ⟨_, _, rfl, ?_⟩
        refine T_nf2 (st' := []) (l' := [(10, (m599.1 10)), (11, (m599.1 11)), (28, (m599.1 28)), (69, (m609.1 69)), (70, (m609.1 70)), (71, (m609.1 71)), (72, (m609.1 72))]) (a' := [(65, (m599.2 65)), (66, (m599.2 66)), (67, (m599.2 67)), (68, (m599.2 68)), (80, upI (m.2 80) jj (-1))]) [69, 70, 71, 72] [] rfl ⟨rfl, rfl, rfl, rfl, rfl, rfl, rfl, rfl, rfl, rfl, rfl, rfl, rfl, rfl, rfl, rfl, rfl, trivial⟩ ⟨rfl, rfl, rfl, rfl, rfl, rfl, rfl, rfl, rfl, rfl, trivial⟩ rfl rfl (by decide) (by decide) ?_
        have g612 : 0 ≤ m609.1 69 ∧ m609.1 69 ≤ 1024 := hT610.1 69
        have g613 : 0 ≤ m609.1 70 ∧ m609.1 70 ≤ 4000 := hT610.1 70
        have g614 : 0 ≤ m609.1 71 ∧ m609.1 71 ≤ 1 := hT610.1 71
        have g615 : (-9223372036854775808) ≤ m609.1 72 ∧ m609.1 72 ≤ 9223372036854775807 := hT610.1 72
        replace h611 : (m609.1 69) = (1 : Int) := h611
        refine T_ret rfl (fun _ => rfl) ?_
        exact ⟨(mO m [(10, (m599.1 10)), (11, (m599.1 11)), (28, (m599.1 28)), (69, (m609.1 69)), (70, (m609.1 70)), (71, (m609.1 71)), (72, (m609.1 72))] [(65, (m599.2 65)), (66, (m599.2 66)), (67, (m599.2 67)), (68, (m599.2 68)), (80, upI (m.2 80) jj (-1))]), (Ty_mO hT rfl rfl ⟨(hT600.1 10), (hT600.1 11), (hT600.1 28), (hT610.1 69), (hT610.1 70), (hT610.1 71), (hT610.1 72), trivial⟩ ⟨(hT600.2.1 65), (hT600.2.1 66), (hT600.2.1 67), (hT600.2.1 68), G596, trivial⟩), (show (m599.1 10) = 0 → (m.1 10) = 0 by omega), (show (m609.1 69) ≤ (m.1 69) + 64 by omega), (fun (h : (m599.1 10) = 0) => absurd h (by omega)), rfl⟩
    by_cases h616 : x508 = 0
    · skip
      refine T_cast 0 h616 ?_
      refine T_pop 88 rfl (fun _ => rfl) ?_
      exact T88_511 (by omega)
    by_cases h617 : x508 = 1
    · skip
      refine T_cast 1 h617 ?_
      refine T_pop 88 rfl (fun _ => rfl) ?_
      exact T88_511 (by omega)
    by_cases h618 : x508 = 6
    · skip
      refine T_cast 6 h618 ?_
      refine T_pop 131 rfl (fun _ => rfl) ?_
      refine T_goto 261 rfl (fun _ => rfl) ?_
      refine T_gf 265 (.ref 242) rfl rfl rfl rfl rfl rfl ?_
      refine T_ld 266 (.int (i32 jj)) rfl (fun _ => rfl) ?_
      refine T_ld 267 (.int (i32 (-1))) rfl (fun _ => rfl) ?_
      have G619 : ∀ j, (-1) ≤ (upI (m.2 80) jj (-1)) j ∧ (upI (m.2 80) jj (-1)) j ≤ 330 := upI_rg (hT.2.1 80) ⟨by omega, by omega⟩
      refine T_iast (a' := [(65, (m.2 65)), (66, (m.2 66)), (67, (m.2 67)), (68, (m.2 68)), (80, upI (m.2 80) jj (-1))]) 268 80 (m.2 80) rfl rfl rfl (by omega) (show jj < (540 : Int) by omega) rfl rfl ?_
      refine T_ld 269 (.ref 189) rfl (fun _ => rfl) ?_
      refine T_ld 271 (.int (i32 ((m.2 80) jj))) rfl (fun _ => rfl) ?_
      refine T_ld 272 (.int (i32 ((m.2 81) jj))) rfl (fun _ => rfl) ?_
      refine T_ld 274 (.int (i32 (m.1 69))) rfl (fun _ => rfl) ?_
      refine T_ld 275 (.long (i64 0)) rfl (fun _ => rfl) ?_
      refine T_call 278 248 [.ref 189, .int (i32 ((m.2 80) jj)), .int (i32 ((m.2 81) jj)), .int (i32 (m.1 69)), .long (i64 0)] [] rfl (fun _ => rfl) rfl (c_node w (mO m [(10, (m.1 10)), (11, (m.1 11)), (28, (m.1 28)), (69, (m.1 69)), (70, (m.1 70)), (71, (m.1 71)), (72, (m.1 72))] [(65, (m.2 65)), (66, (m.2 66)), (67, (m.2 67)), (68, (m.2 68)), (80, upI (m.2 80) jj (-1))]) c N D (by omega) (Ty_mO hT rfl rfl ⟨f10, f11, f28, f69, f70, f71, f72, trivial⟩ ⟨(hT.2.1 65), (hT.2.1 66), (hT.2.1 67), (hT.2.1 68), G619, trivial⟩) ((m.2 80) jj) ((m.2 81) jj) (m.1 69) 0 B (1 + lh (m.2 79) (m.2 80) (m.1 73)) (r32 (by omega) (by omega)) (r32 (by omega) (by omega)) (r32 (by omega) (by omega)) ⟨by decide, by decide⟩ (fun (h : (m.1 10) = 0) => absurd h (by omega))) (fun rr620 k621 => ?_)
      obtain ⟨m622, hT623, h624, c625, rfl⟩ := k621
      refine ⟨_, _, rfl, ?_⟩
      refine T_nf2 (st' := []) (l' := [(10, (m622.1 10)), (11, (m622.1 11)), (28, (m622.1 28)), (69, (m.1 69)), (70, (m.1 70)), (71, (m.1 71)), (72, (m.1 72))]) (a' := [(65, (m622.2 65)), (66, (m622.2 66)), (67, (m622.2 67)), (68, (m622.2 68)), (80, upI (m.2 80) jj (-1))]) [10, 11, 28] [65, 66, 67, 68] rfl ⟨rfl, rfl, rfl, rfl, rfl, rfl, rfl, rfl, rfl, rfl, rfl, rfl, rfl, rfl, trivial⟩ ⟨rfl, rfl, rfl, rfl, rfl, rfl, rfl, rfl, rfl, rfl, trivial⟩ rfl rfl (by decide) (by decide) ?_
      have g626 : 0 ≤ m622.1 10 ∧ m622.1 10 ≤ 8 := hT623.1 10
      have g627 : (-1) ≤ m622.1 11 ∧ m622.1 11 ≤ 4000 := hT623.1 11
      have g628 : 0 ≤ m622.1 28 ∧ m622.1 28 ≤ 800 := hT623.1 28
      replace h624 : (m622.1 10) = 0 → (m.1 10) = 0 := h624
      have hf629 : 1 ≤ (m622.1 10) := by omega
      clear c625
      clear h624
      clear g509a g509b h510
      refine T_ld 279 (.ref 189) rfl (fun _ => rfl) ?_
      refine T_ld 280 (.int (i32 ((m.2 81) jj))) rfl (fun _ => rfl) ?_
      refine T_ld 281 (.int (i32 ((m.2 82) jj))) rfl (fun _ => rfl) ?_
      refine T_call 284 250 [.ref 189, .int (i32 ((m.2 81) jj)), .int (i32 ((m.2 82) jj))] [] rfl (fun _ => rfl) rfl (c_unit w (mO m [(10, (m622.1 10)), (11, (m622.1 11)), (28, (m622.1 28)), (69, (m.1 69)), (70, (m.1 70)), (71, (m.1 71)), (72, (m.1 72))] [(65, (m622.2 65)), (66, (m622.2 66)), (67, (m622.2 67)), (68, (m622.2 68)), (80, upI (m.2 80) jj (-1))]) c N D (by omega) (Ty_mO hT rfl rfl ⟨(hT623.1 10), (hT623.1 11), (hT623.1 28), f69, f70, f71, f72, trivial⟩ ⟨(hT623.2.1 65), (hT623.2.1 66), (hT623.2.1 67), (hT623.2.1 68), G619, trivial⟩) ((m.2 81) jj) ((m.2 82) jj) (r32 (by omega) (by omega)) (r32 (by omega) (by omega)) (show 0 ≤ ((m.2 81) jj) ∧ ((m.2 81) jj) ≤ 1024 by omega) (show 0 ≤ ((m.2 82) jj) ∧ ((m.2 82) jj) ≤ 4000 by omega)) (fun rr630 k631 => ?_)
      obtain ⟨m632, hT633, h634, rfl⟩ := k631
      refine ⟨_, _, rfl, ?_⟩
      refine T_nf2 (st' := []) (l' := [(10, (m622.1 10)), (11, (m622.1 11)), (28, (m622.1 28)), (69, (m632.1 69)), (70, (m632.1 70)), (71, (m632.1 71)), (72, (m632.1 72))]) (a' := [(65, (m622.2 65)), (66, (m622.2 66)), (67, (m622.2 67)), (68, (m622.2 68)), (80, upI (m.2 80) jj (-1))]) [69, 70, 71, 72] [] rfl ⟨rfl, rfl, rfl, rfl, rfl, rfl, rfl, rfl, rfl, rfl, rfl, rfl, rfl, rfl, rfl, rfl, rfl, trivial⟩ ⟨rfl, rfl, rfl, rfl, rfl, rfl, rfl, rfl, rfl, rfl, trivial⟩ rfl rfl (by decide) (by decide) ?_
      have g635 : 0 ≤ m632.1 69 ∧ m632.1 69 ≤ 1024 := hT633.1 69
      have g636 : 0 ≤ m632.1 70 ∧ m632.1 70 ≤ 4000 := hT633.1 70
      have g637 : 0 ≤ m632.1 71 ∧ m632.1 71 ≤ 1 := hT633.1 71
      have g638 : (-9223372036854775808) ≤ m632.1 72 ∧ m632.1 72 ≤ 9223372036854775807 := hT633.1 72
      replace h634 : (m632.1 69) = ((m.2 81) jj) := h634
      refine T_ret rfl (fun _ => rfl) ?_
      exact ⟨(mO m [(10, (m622.1 10)), (11, (m622.1 11)), (28, (m622.1 28)), (69, (m632.1 69)), (70, (m632.1 70)), (71, (m632.1 71)), (72, (m632.1 72))] [(65, (m622.2 65)), (66, (m622.2 66)), (67, (m622.2 67)), (68, (m622.2 68)), (80, upI (m.2 80) jj (-1))]), (Ty_mO hT rfl rfl ⟨(hT623.1 10), (hT623.1 11), (hT623.1 28), (hT633.1 69), (hT633.1 70), (hT633.1 71), (hT633.1 72), trivial⟩ ⟨(hT623.2.1 65), (hT623.2.1 66), (hT623.2.1 67), (hT623.2.1 68), G619, trivial⟩), (show (m622.1 10) = 0 → (m.1 10) = 0 by omega), (show (m632.1 69) ≤ (m.1 69) + 64 by omega), (fun (h : (m622.1 10) = 0) => absurd h (by omega)), rfl⟩
    by_cases h639 : x508 = 8
    · skip
      refine T_cast 8 h639 ?_
      refine T_pop 134 rfl (fun _ => rfl) ?_
      refine T_ld 135 (.ref 189) rfl (fun _ => rfl) ?_
      refine T_gf 139 (.ref 245) rfl rfl rfl rfl rfl rfl ?_
      refine T_ld 140 (.int (i32 jj)) rfl (fun _ => rfl) ?_
      refine T_bald 141 83 (m.2 83) rfl rfl rfl (by omega) (show jj < (540 : Int) by omega) rfl ?_
      have e640 : 0 ≤ m.2 83 jj ∧ m.2 83 jj ≤ 1 := hT.2.1 83 jj
      refine T_if 148 144 rfl rfl rfl (r32 (by omega) (by omega)) (fun (h641 : (m.2 83) jj ≠ 0) => ?_) (fun (h641 : ¬ ((m.2 83) jj ≠ 0)) => ?_)
      · skip
        refine T_ld 149 (.int (i32 0)) rfl (fun _ => rfl) ?_
        refine T_ld 150 (.int (i32 ((m.2 82) jj))) rfl (fun _ => rfl) ?_
        refine T_call 153 256 [.ref 189, .int (i32 0), .int (i32 ((m.2 82) jj))] [] rfl (fun _ => rfl) rfl (c_want w (mO m [(10, (m.1 10)), (11, (m.1 11)), (28, (m.1 28)), (69, (m.1 69)), (70, (m.1 70)), (71, (m.1 71)), (72, (m.1 72))] [(65, (m.2 65)), (66, (m.2 66)), (67, (m.2 67)), (68, (m.2 68)), (80, (m.2 80))]) c N D (by omega) (Ty_mO hT rfl rfl ⟨f10, f11, f28, f69, f70, f71, f72, trivial⟩ ⟨(hT.2.1 65), (hT.2.1 66), (hT.2.1 67), (hT.2.1 68), (hT.2.1 80), trivial⟩) 0 ((m.2 82) jj) ⟨by decide, by decide⟩ (r32 (by omega) (by omega)) (show 0 ≤ ((m.2 82) jj) ∧ ((m.2 82) jj) ≤ 4000 by omega) (fun (h : (m.1 10) = 0) => absurd h (by omega))) (fun rr642 k643 => ?_)
        obtain ⟨m644, hT645, h646, c647, rfl⟩ := k643
        refine ⟨_, _, rfl, ?_⟩
        refine T_nf2 (st' := []) (l' := [(10, (m644.1 10)), (11, (m644.1 11)), (28, (m.1 28)), (69, (m.1 69)), (70, (m.1 70)), (71, (m.1 71)), (72, (m.1 72))]) (a' := [(65, (m.2 65)), (66, (m.2 66)), (67, (m.2 67)), (68, (m.2 68)), (80, (m.2 80))]) [10, 11] [] rfl ⟨rfl, rfl, rfl, rfl, rfl, rfl, rfl, rfl, rfl, rfl, rfl, rfl, rfl, rfl, trivial⟩ ⟨rfl, rfl, rfl, rfl, rfl, rfl, rfl, rfl, rfl, rfl, trivial⟩ rfl rfl (by decide) (by decide) ?_
        have g648 : 0 ≤ m644.1 10 ∧ m644.1 10 ≤ 8 := hT645.1 10
        have g649 : (-1) ≤ m644.1 11 ∧ m644.1 11 ≤ 4000 := hT645.1 11
        replace h646 : (m644.1 10) = 0 → (m.1 10) = 0 := h646
        have hf650 : 1 ≤ (m644.1 10) := by omega
        clear c647
        clear h646
        clear g509a g509b h510
        refine T_ld 154 (.ref 189) rfl (fun _ => rfl) ?_
        refine T_gf 158 (.int (i32 (m.1 71))) rfl rfl rfl rfl rfl rfl ?_
        refine T_if 165 161 rfl rfl rfl (r32 (by omega) (by omega)) (fun (h651 : (m.1 71) ≠ 0) => ?_) (fun (h651 : ¬ ((m.1 71) ≠ 0)) => ?_)
        · skip
          refine T_ld 166 (.int (i32 0)) rfl (fun _ => rfl) ?_
          refine T_gf 170 (.int (i32 (m.1 70))) rfl rfl rfl rfl rfl rfl ?_
          refine T_call 173 256 [.ref 189, .int (i32 0), .int (i32 (m.1 70))] [] rfl (fun _ => rfl) rfl (c_want w (mO m [(10, (m644.1 10)), (11, (m644.1 11)), (28, (m.1 28)), (69, (m.1 69)), (70, (m.1 70)), (71, (m.1 71)), (72, (m.1 72))] [(65, (m.2 65)), (66, (m.2 66)), (67, (m.2 67)), (68, (m.2 68)), (80, (m.2 80))]) c N D (by omega) (Ty_mO hT rfl rfl ⟨(hT645.1 10), (hT645.1 11), f28, f69, f70, f71, f72, trivial⟩ ⟨(hT.2.1 65), (hT.2.1 66), (hT.2.1 67), (hT.2.1 68), (hT.2.1 80), trivial⟩) 0 (m.1 70) ⟨by decide, by decide⟩ (r32 (by omega) (by omega)) (show 0 ≤ (m.1 70) ∧ (m.1 70) ≤ 4000 by omega) (fun (h : (m644.1 10) = 0) => absurd h (by omega))) (fun rr652 k653 => ?_)
          obtain ⟨m654, hT655, h656, c657, rfl⟩ := k653
          refine ⟨_, _, rfl, ?_⟩
          refine T_nf2 (st' := []) (l' := [(10, (m654.1 10)), (11, (m654.1 11)), (28, (m.1 28)), (69, (m.1 69)), (70, (m.1 70)), (71, (m.1 71)), (72, (m.1 72))]) (a' := [(65, (m.2 65)), (66, (m.2 66)), (67, (m.2 67)), (68, (m.2 68)), (80, (m.2 80))]) [10, 11] [] rfl ⟨rfl, rfl, rfl, rfl, rfl, rfl, rfl, rfl, rfl, rfl, rfl, rfl, rfl, rfl, trivial⟩ ⟨rfl, rfl, rfl, rfl, rfl, rfl, rfl, rfl, rfl, rfl, trivial⟩ rfl rfl (by decide) (by decide) ?_
          have g658 : 0 ≤ m654.1 10 ∧ m654.1 10 ≤ 8 := hT655.1 10
          have g659 : (-1) ≤ m654.1 11 ∧ m654.1 11 ≤ 4000 := hT655.1 11
          replace h656 : (m654.1 10) = 0 → (m644.1 10) = 0 := h656
          have hf660 : 1 ≤ (m654.1 10) := by omega
          clear c657
          clear h656
          clear g648 g649 hf650
          refine T_ld 174 (.ref 189) rfl (fun _ => rfl) ?_
          refine T_ld 175 (.int (i32 ((m.2 81) jj))) rfl (fun _ => rfl) ?_
          refine T_gf 179 (.int (i32 (m.1 69))) rfl rfl rfl rfl rfl rfl ?_
          refine T_iadd 180 rfl rfl ?_
          refine T_ld 182 (.int (i32 64)) rfl (fun _ => rfl) ?_
          refine T_icmp 189 185 rfl rfl rfl (r32 (by omega) (by omega)) ⟨by decide, by decide⟩ (fun (h661 : (64 : Int) < ((m.2 81) jj) + (m.1 69)) => ?_) (fun (h661 : ¬ ((64 : Int) < ((m.2 81) jj) + (m.1 69))) => ?_)
          · skip
            refine T_ld 190 (.int (i32 0)) rfl (fun _ => rfl) ?_
            refine T_gf 194 (.int (i32 (m.1 70))) rfl rfl rfl rfl rfl rfl ?_
            refine T_call 197 256 [.ref 189, .int (i32 0), .int (i32 (m.1 70))] [] rfl (fun _ => rfl) rfl (c_want w (mO m [(10, (m654.1 10)), (11, (m654.1 11)), (28, (m.1 28)), (69, (m.1 69)), (70, (m.1 70)), (71, (m.1 71)), (72, (m.1 72))] [(65, (m.2 65)), (66, (m.2 66)), (67, (m.2 67)), (68, (m.2 68)), (80, (m.2 80))]) c N D (by omega) (Ty_mO hT rfl rfl ⟨(hT655.1 10), (hT655.1 11), f28, f69, f70, f71, f72, trivial⟩ ⟨(hT.2.1 65), (hT.2.1 66), (hT.2.1 67), (hT.2.1 68), (hT.2.1 80), trivial⟩) 0 (m.1 70) ⟨by decide, by decide⟩ (r32 (by omega) (by omega)) (show 0 ≤ (m.1 70) ∧ (m.1 70) ≤ 4000 by omega) (fun (h : (m654.1 10) = 0) => absurd h (by omega))) (fun rr662 k663 => ?_)
            obtain ⟨m664, hT665, h666, c667, rfl⟩ := k663
            refine ⟨_, _, rfl, ?_⟩
            refine T_nf2 (st' := []) (l' := [(10, (m664.1 10)), (11, (m664.1 11)), (28, (m.1 28)), (69, (m.1 69)), (70, (m.1 70)), (71, (m.1 71)), (72, (m.1 72))]) (a' := [(65, (m.2 65)), (66, (m.2 66)), (67, (m.2 67)), (68, (m.2 68)), (80, (m.2 80))]) [10, 11] [] rfl ⟨rfl, rfl, rfl, rfl, rfl, rfl, rfl, rfl, rfl, rfl, rfl, rfl, rfl, rfl, trivial⟩ ⟨rfl, rfl, rfl, rfl, rfl, rfl, rfl, rfl, rfl, rfl, trivial⟩ rfl rfl (by decide) (by decide) ?_
            have g668 : 0 ≤ m664.1 10 ∧ m664.1 10 ≤ 8 := hT665.1 10
            have g669 : (-1) ≤ m664.1 11 ∧ m664.1 11 ≤ 4000 := hT665.1 11
            replace h666 : (m664.1 10) = 0 → (m654.1 10) = 0 := h666
            have hf670 : 1 ≤ (m664.1 10) := by omega
            clear c667
            clear h666
            clear g658 g659 hf660
            refine T_ld 198 (.int (i32 ((m.2 81) jj))) rfl (fun _ => rfl) ?_
            refine T_gf 202 (.int (i32 (m.1 69))) rfl rfl rfl rfl rfl rfl ?_
            refine T_iadd 203 rfl rfl ?_
            refine T_sto 204 [(2, .int (i32 (((m.2 81) jj) + (m.1 69)))), (5, .int (i32 (m.1 69))), (4, .int (i32 ((m.2 80) jj))), (3, .int (i32 ((m.2 82) jj))), (0, .ref 189), (1, .int (i32 jj))] rfl (fun _ => rfl) ?_
            refine T_goto 261 rfl (fun _ => rfl) ?_
            refine T_gf 265 (.ref 242) rfl rfl rfl rfl rfl rfl ?_
            refine T_ld 266 (.int (i32 jj)) rfl (fun _ => rfl) ?_
            refine T_ld 267 (.int (i32 (-1))) rfl (fun _ => rfl) ?_
            have G671 : ∀ j, (-1) ≤ (upI (m.2 80) jj (-1)) j ∧ (upI (m.2 80) jj (-1)) j ≤ 330 := upI_rg (hT.2.1 80) ⟨by omega, by omega⟩
            refine T_iast (a' := [(65, (m.2 65)), (66, (m.2 66)), (67, (m.2 67)), (68, (m.2 68)), (80, upI (m.2 80) jj (-1))]) 268 80 (m.2 80) rfl rfl rfl (by omega) (show jj < (540 : Int) by omega) rfl rfl ?_
            refine T_ld 269 (.ref 189) rfl (fun _ => rfl) ?_
            refine T_ld 271 (.int (i32 ((m.2 80) jj))) rfl (fun _ => rfl) ?_
            refine T_ld 272 (.int (i32 (((m.2 81) jj) + (m.1 69)))) rfl (fun _ => rfl) ?_
            refine T_ld 274 (.int (i32 (m.1 69))) rfl (fun _ => rfl) ?_
            refine T_ld 275 (.long (i64 0)) rfl (fun _ => rfl) ?_
            refine T_call 278 248 [.ref 189, .int (i32 ((m.2 80) jj)), .int (i32 (((m.2 81) jj) + (m.1 69))), .int (i32 (m.1 69)), .long (i64 0)] [] rfl (fun _ => rfl) rfl (c_node w (mO m [(10, (m664.1 10)), (11, (m664.1 11)), (28, (m.1 28)), (69, (m.1 69)), (70, (m.1 70)), (71, (m.1 71)), (72, (m.1 72))] [(65, (m.2 65)), (66, (m.2 66)), (67, (m.2 67)), (68, (m.2 68)), (80, upI (m.2 80) jj (-1))]) c N D (by omega) (Ty_mO hT rfl rfl ⟨(hT665.1 10), (hT665.1 11), f28, f69, f70, f71, f72, trivial⟩ ⟨(hT.2.1 65), (hT.2.1 66), (hT.2.1 67), (hT.2.1 68), G671, trivial⟩) ((m.2 80) jj) (((m.2 81) jj) + (m.1 69)) (m.1 69) 0 B (1 + lh (m.2 79) (m.2 80) (m.1 73)) (r32 (by omega) (by omega)) (r32 (by omega) (by omega)) (r32 (by omega) (by omega)) ⟨by decide, by decide⟩ (fun (h : (m664.1 10) = 0) => absurd h (by omega))) (fun rr672 k673 => ?_)
            obtain ⟨m674, hT675, h676, c677, rfl⟩ := k673
            refine ⟨_, _, rfl, ?_⟩
            refine T_nf2 (st' := []) (l' := [(10, (m674.1 10)), (11, (m674.1 11)), (28, (m674.1 28)), (69, (m.1 69)), (70, (m.1 70)), (71, (m.1 71)), (72, (m.1 72))]) (a' := [(65, (m674.2 65)), (66, (m674.2 66)), (67, (m674.2 67)), (68, (m674.2 68)), (80, upI (m.2 80) jj (-1))]) [10, 11, 28] [65, 66, 67, 68] rfl ⟨rfl, rfl, rfl, rfl, rfl, rfl, rfl, rfl, rfl, rfl, rfl, rfl, rfl, rfl, trivial⟩ ⟨rfl, rfl, rfl, rfl, rfl, rfl, rfl, rfl, rfl, rfl, trivial⟩ rfl rfl (by decide) (by decide) ?_
            have g678 : 0 ≤ m674.1 10 ∧ m674.1 10 ≤ 8 := hT675.1 10
            have g679 : (-1) ≤ m674.1 11 ∧ m674.1 11 ≤ 4000 := hT675.1 11
            have g680 : 0 ≤ m674.1 28 ∧ m674.1 28 ≤ 800 := hT675.1 28
            replace h676 : (m674.1 10) = 0 → (m664.1 10) = 0 := h676
            have hf681 : 1 ≤ (m674.1 10) := by omega
            clear c677
            clear h676
            clear g668 g669 hf670
            refine T_ld 279 (.ref 189) rfl (fun _ => rfl) ?_
            refine T_ld 280 (.int (i32 (((m.2 81) jj) + (m.1 69)))) rfl (fun _ => rfl) ?_
            refine T_ld 281 (.int (i32 ((m.2 82) jj))) rfl (fun _ => rfl) ?_
            refine T_call 284 250 [.ref 189, .int (i32 (((m.2 81) jj) + (m.1 69))), .int (i32 ((m.2 82) jj))] [] rfl (fun _ => rfl) rfl (c_unit w (mO m [(10, (m674.1 10)), (11, (m674.1 11)), (28, (m674.1 28)), (69, (m.1 69)), (70, (m.1 70)), (71, (m.1 71)), (72, (m.1 72))] [(65, (m674.2 65)), (66, (m674.2 66)), (67, (m674.2 67)), (68, (m674.2 68)), (80, upI (m.2 80) jj (-1))]) c N D (by omega) (Ty_mO hT rfl rfl ⟨(hT675.1 10), (hT675.1 11), (hT675.1 28), f69, f70, f71, f72, trivial⟩ ⟨(hT675.2.1 65), (hT675.2.1 66), (hT675.2.1 67), (hT675.2.1 68), G671, trivial⟩) (((m.2 81) jj) + (m.1 69)) ((m.2 82) jj) (r32 (by omega) (by omega)) (r32 (by omega) (by omega)) (show 0 ≤ (((m.2 81) jj) + (m.1 69)) ∧ (((m.2 81) jj) + (m.1 69)) ≤ 1024 by omega) (show 0 ≤ ((m.2 82) jj) ∧ ((m.2 82) jj) ≤ 4000 by omega)) (fun rr682 k683 => ?_)
            obtain ⟨m684, hT685, h686, rfl⟩ := k683
            refine ⟨_, _, rfl, ?_⟩
            refine T_nf2 (st' := []) (l' := [(10, (m674.1 10)), (11, (m674.1 11)), (28, (m674.1 28)), (69, (m684.1 69)), (70, (m684.1 70)), (71, (m684.1 71)), (72, (m684.1 72))]) (a' := [(65, (m674.2 65)), (66, (m674.2 66)), (67, (m674.2 67)), (68, (m674.2 68)), (80, upI (m.2 80) jj (-1))]) [69, 70, 71, 72] [] rfl ⟨rfl, rfl, rfl, rfl, rfl, rfl, rfl, rfl, rfl, rfl, rfl, rfl, rfl, rfl, rfl, rfl, rfl, trivial⟩ ⟨rfl, rfl, rfl, rfl, rfl, rfl, rfl, rfl, rfl, rfl, trivial⟩ rfl rfl (by decide) (by decide) ?_
            have g687 : 0 ≤ m684.1 69 ∧ m684.1 69 ≤ 1024 := hT685.1 69
            have g688 : 0 ≤ m684.1 70 ∧ m684.1 70 ≤ 4000 := hT685.1 70
            have g689 : 0 ≤ m684.1 71 ∧ m684.1 71 ≤ 1 := hT685.1 71
            have g690 : (-9223372036854775808) ≤ m684.1 72 ∧ m684.1 72 ≤ 9223372036854775807 := hT685.1 72
            replace h686 : (m684.1 69) = (((m.2 81) jj) + (m.1 69)) := h686
            refine T_ret rfl (fun _ => rfl) ?_
            exact ⟨(mO m [(10, (m674.1 10)), (11, (m674.1 11)), (28, (m674.1 28)), (69, (m684.1 69)), (70, (m684.1 70)), (71, (m684.1 71)), (72, (m684.1 72))] [(65, (m674.2 65)), (66, (m674.2 66)), (67, (m674.2 67)), (68, (m674.2 68)), (80, upI (m.2 80) jj (-1))]), (Ty_mO hT rfl rfl ⟨(hT675.1 10), (hT675.1 11), (hT675.1 28), (hT685.1 69), (hT685.1 70), (hT685.1 71), (hT685.1 72), trivial⟩ ⟨(hT675.2.1 65), (hT675.2.1 66), (hT675.2.1 67), (hT675.2.1 68), G671, trivial⟩), (show (m674.1 10) = 0 → (m.1 10) = 0 by omega), (show (m684.1 69) ≤ (m.1 69) + 64 by omega), (fun (h : (m674.1 10) = 0) => absurd h (by omega)), rfl⟩
          · skip
            refine T_ld 186 (.int (i32 1)) rfl (fun _ => rfl) ?_
            refine T_goto 190 rfl (fun _ => rfl) ?_
            refine T_gf 194 (.int (i32 (m.1 70))) rfl rfl rfl rfl rfl rfl ?_
            refine T_call 197 256 [.ref 189, .int (i32 1), .int (i32 (m.1 70))] [] rfl (fun _ => rfl) rfl (c_want w (mO m [(10, (m654.1 10)), (11, (m654.1 11)), (28, (m.1 28)), (69, (m.1 69)), (70, (m.1 70)), (71, (m.1 71)), (72, (m.1 72))] [(65, (m.2 65)), (66, (m.2 66)), (67, (m.2 67)), (68, (m.2 68)), (80, (m.2 80))]) c N D (by omega) (Ty_mO hT rfl rfl ⟨(hT655.1 10), (hT655.1 11), f28, f69, f70, f71, f72, trivial⟩ ⟨(hT.2.1 65), (hT.2.1 66), (hT.2.1 67), (hT.2.1 68), (hT.2.1 80), trivial⟩) 1 (m.1 70) ⟨by decide, by decide⟩ (r32 (by omega) (by omega)) (show 0 ≤ (m.1 70) ∧ (m.1 70) ≤ 4000 by omega) (fun (h : (m654.1 10) = 0) => absurd h (by omega))) (fun rr691 k692 => ?_)
            obtain ⟨m693, hT694, h695, c696, rfl⟩ := k692
            refine ⟨_, _, rfl, ?_⟩
            refine T_nf2 (st' := []) (l' := [(10, (m693.1 10)), (11, (m693.1 11)), (28, (m.1 28)), (69, (m.1 69)), (70, (m.1 70)), (71, (m.1 71)), (72, (m.1 72))]) (a' := [(65, (m.2 65)), (66, (m.2 66)), (67, (m.2 67)), (68, (m.2 68)), (80, (m.2 80))]) [10, 11] [] rfl ⟨rfl, rfl, rfl, rfl, rfl, rfl, rfl, rfl, rfl, rfl, rfl, rfl, rfl, rfl, trivial⟩ ⟨rfl, rfl, rfl, rfl, rfl, rfl, rfl, rfl, rfl, rfl, trivial⟩ rfl rfl (by decide) (by decide) ?_
            have g697 : 0 ≤ m693.1 10 ∧ m693.1 10 ≤ 8 := hT694.1 10
            have g698 : (-1) ≤ m693.1 11 ∧ m693.1 11 ≤ 4000 := hT694.1 11
            replace h695 : (m693.1 10) = 0 → (m654.1 10) = 0 := h695
            have hf699 : 1 ≤ (m693.1 10) := by omega
            clear c696
            clear h695
            clear g658 g659 hf660
            refine T_ld 198 (.int (i32 ((m.2 81) jj))) rfl (fun _ => rfl) ?_
            refine T_gf 202 (.int (i32 (m.1 69))) rfl rfl rfl rfl rfl rfl ?_
            refine T_iadd 203 rfl rfl ?_
            refine T_sto 204 [(2, .int (i32 (((m.2 81) jj) + (m.1 69)))), (5, .int (i32 (m.1 69))), (4, .int (i32 ((m.2 80) jj))), (3, .int (i32 ((m.2 82) jj))), (0, .ref 189), (1, .int (i32 jj))] rfl (fun _ => rfl) ?_
            refine T_goto 261 rfl (fun _ => rfl) ?_
            refine T_gf 265 (.ref 242) rfl rfl rfl rfl rfl rfl ?_
            refine T_ld 266 (.int (i32 jj)) rfl (fun _ => rfl) ?_
            refine T_ld 267 (.int (i32 (-1))) rfl (fun _ => rfl) ?_
            have G700 : ∀ j, (-1) ≤ (upI (m.2 80) jj (-1)) j ∧ (upI (m.2 80) jj (-1)) j ≤ 330 := upI_rg (hT.2.1 80) ⟨by omega, by omega⟩
            refine T_iast (a' := [(65, (m.2 65)), (66, (m.2 66)), (67, (m.2 67)), (68, (m.2 68)), (80, upI (m.2 80) jj (-1))]) 268 80 (m.2 80) rfl rfl rfl (by omega) (show jj < (540 : Int) by omega) rfl rfl ?_
            refine T_ld 269 (.ref 189) rfl (fun _ => rfl) ?_
            refine T_ld 271 (.int (i32 ((m.2 80) jj))) rfl (fun _ => rfl) ?_
            refine T_ld 272 (.int (i32 (((m.2 81) jj) + (m.1 69)))) rfl (fun _ => rfl) ?_
            refine T_ld 274 (.int (i32 (m.1 69))) rfl (fun _ => rfl) ?_
            refine T_ld 275 (.long (i64 0)) rfl (fun _ => rfl) ?_
            refine T_call 278 248 [.ref 189, .int (i32 ((m.2 80) jj)), .int (i32 (((m.2 81) jj) + (m.1 69))), .int (i32 (m.1 69)), .long (i64 0)] [] rfl (fun _ => rfl) rfl (c_node w (mO m [(10, (m693.1 10)), (11, (m693.1 11)), (28, (m.1 28)), (69, (m.1 69)), (70, (m.1 70)), (71, (m.1 71)), (72, (m.1 72))] [(65, (m.2 65)), (66, (m.2 66)), (67, (m.2 67)), (68, (m.2 68)), (80, upI (m.2 80) jj (-1))]) c N D (by omega) (Ty_mO hT rfl rfl ⟨(hT694.1 10), (hT694.1 11), f28, f69, f70, f71, f72, trivial⟩ ⟨(hT.2.1 65), (hT.2.1 66), (hT.2.1 67), (hT.2.1 68), G700, trivial⟩) ((m.2 80) jj) (((m.2 81) jj) + (m.1 69)) (m.1 69) 0 B (1 + lh (m.2 79) (m.2 80) (m.1 73)) (r32 (by omega) (by omega)) (r32 (by omega) (by omega)) (r32 (by omega) (by omega)) ⟨by decide, by decide⟩ (fun (h : (m693.1 10) = 0) => absurd h (by omega))) (fun rr701 k702 => ?_)
            obtain ⟨m703, hT704, h705, c706, rfl⟩ := k702
            refine ⟨_, _, rfl, ?_⟩
            refine T_nf2 (st' := []) (l' := [(10, (m703.1 10)), (11, (m703.1 11)), (28, (m703.1 28)), (69, (m.1 69)), (70, (m.1 70)), (71, (m.1 71)), (72, (m.1 72))]) (a' := [(65, (m703.2 65)), (66, (m703.2 66)), (67, (m703.2 67)), (68, (m703.2 68)), (80, upI (m.2 80) jj (-1))]) [10, 11, 28] [65, 66, 67, 68] rfl ⟨rfl, rfl, rfl, rfl, rfl, rfl, rfl, rfl, rfl, rfl, rfl, rfl, rfl, rfl, trivial⟩ ⟨rfl, rfl, rfl, rfl, rfl, rfl, rfl, rfl, rfl, rfl, trivial⟩ rfl rfl (by decide) (by decide) ?_
            have g707 : 0 ≤ m703.1 10 ∧ m703.1 10 ≤ 8 := hT704.1 10
            have g708 : (-1) ≤ m703.1 11 ∧ m703.1 11 ≤ 4000 := hT704.1 11
            have g709 : 0 ≤ m703.1 28 ∧ m703.1 28 ≤ 800 := hT704.1 28
            replace h705 : (m703.1 10) = 0 → (m693.1 10) = 0 := h705
            have hf710 : 1 ≤ (m703.1 10) := by omega
            clear c706
            clear h705
            clear g697 g698 hf699
            refine T_ld 279 (.ref 189) rfl (fun _ => rfl) ?_
            refine T_ld 280 (.int (i32 (((m.2 81) jj) + (m.1 69)))) rfl (fun _ => rfl) ?_
            refine T_ld 281 (.int (i32 ((m.2 82) jj))) rfl (fun _ => rfl) ?_
            refine T_call 284 250 [.ref 189, .int (i32 (((m.2 81) jj) + (m.1 69))), .int (i32 ((m.2 82) jj))] [] rfl (fun _ => rfl) rfl (c_unit w (mO m [(10, (m703.1 10)), (11, (m703.1 11)), (28, (m703.1 28)), (69, (m.1 69)), (70, (m.1 70)), (71, (m.1 71)), (72, (m.1 72))] [(65, (m703.2 65)), (66, (m703.2 66)), (67, (m703.2 67)), (68, (m703.2 68)), (80, upI (m.2 80) jj (-1))]) c N D (by omega) (Ty_mO hT rfl rfl ⟨(hT704.1 10), (hT704.1 11), (hT704.1 28), f69, f70, f71, f72, trivial⟩ ⟨(hT704.2.1 65), (hT704.2.1 66), (hT704.2.1 67), (hT704.2.1 68), G700, trivial⟩) (((m.2 81) jj) + (m.1 69)) ((m.2 82) jj) (r32 (by omega) (by omega)) (r32 (by omega) (by omega)) (show 0 ≤ (((m.2 81) jj) + (m.1 69)) ∧ (((m.2 81) jj) + (m.1 69)) ≤ 1024 by omega) (show 0 ≤ ((m.2 82) jj) ∧ ((m.2 82) jj) ≤ 4000 by omega)) (fun rr711 k712 => ?_)
            obtain ⟨m713, hT714, h715, rfl⟩ := k712
            refine ⟨_, _, rfl, ?_⟩
            refine T_nf2 (st' := []) (l' := [(10, (m703.1 10)), (11, (m703.1 11)), (28, (m703.1 28)), (69, (m713.1 69)), (70, (m713.1 70)), (71, (m713.1 71)), (72, (m713.1 72))]) (a' := [(65, (m703.2 65)), (66, (m703.2 66)), (67, (m703.2 67)), (68, (m703.2 68)), (80, upI (m.2 80) jj (-1))]) [69, 70, 71, 72] [] rfl ⟨rfl, rfl, rfl, rfl, rfl, rfl, rfl, rfl, rfl, rfl, rfl, rfl, rfl, rfl, rfl, rfl, rfl, trivial⟩ ⟨rfl, rfl, rfl, rfl, rfl, rfl, rfl, rfl, rfl, rfl, trivial⟩ rfl rfl (by decide) (by decide) ?_
            have g716 : 0 ≤ m713.1 69 ∧ m713.1 69 ≤ 1024 := hT714.1 69
            have g717 : 0 ≤ m713.1 70 ∧ m713.1 70 ≤ 4000 := hT714.1 70
            have g718 : 0 ≤ m713.1 71 ∧ m713.1 71 ≤ 1 := hT714.1 71
            have g719 : (-9223372036854775808) ≤ m713.1 72 ∧ m713.1 72 ≤ 9223372036854775807 := hT714.1 72
            replace h715 : (m713.1 69) = (((m.2 81) jj) + (m.1 69)) := h715
            refine T_ret rfl (fun _ => rfl) ?_
            exact ⟨(mO m [(10, (m703.1 10)), (11, (m703.1 11)), (28, (m703.1 28)), (69, (m713.1 69)), (70, (m713.1 70)), (71, (m713.1 71)), (72, (m713.1 72))] [(65, (m703.2 65)), (66, (m703.2 66)), (67, (m703.2 67)), (68, (m703.2 68)), (80, upI (m.2 80) jj (-1))]), (Ty_mO hT rfl rfl ⟨(hT704.1 10), (hT704.1 11), (hT704.1 28), (hT714.1 69), (hT714.1 70), (hT714.1 71), (hT714.1 72), trivial⟩ ⟨(hT704.2.1 65), (hT704.2.1 66), (hT704.2.1 67), (hT704.2.1 68), G700, trivial⟩), (show (m703.1 10) = 0 → (m.1 10) = 0 by omega), (show (m713.1 69) ≤ (m.1 69) + 64 by omega), (fun (h : (m703.1 10) = 0) => absurd h (by omega)), rfl⟩
        · skip
          refine T_ld 162 (.int (i32 1)) rfl (fun _ => rfl) ?_
          refine T_goto 166 rfl (fun _ => rfl) ?_
          refine T_gf 170 (.int (i32 (m.1 70))) rfl rfl rfl rfl rfl rfl ?_
          refine T_call 173 256 [.ref 189, .int (i32 1), .int (i32 (m.1 70))] [] rfl (fun _ => rfl) rfl (c_want w (mO m [(10, (m644.1 10)), (11, (m644.1 11)), (28, (m.1 28)), (69, (m.1 69)), (70, (m.1 70)), (71, (m.1 71)), (72, (m.1 72))] [(65, (m.2 65)), (66, (m.2 66)), (67, (m.2 67)), (68, (m.2 68)), (80, (m.2 80))]) c N D (by omega) (Ty_mO hT rfl rfl ⟨(hT645.1 10), (hT645.1 11), f28, f69, f70, f71, f72, trivial⟩ ⟨(hT.2.1 65), (hT.2.1 66), (hT.2.1 67), (hT.2.1 68), (hT.2.1 80), trivial⟩) 1 (m.1 70) ⟨by decide, by decide⟩ (r32 (by omega) (by omega)) (show 0 ≤ (m.1 70) ∧ (m.1 70) ≤ 4000 by omega) (fun (h : (m644.1 10) = 0) => absurd h (by omega))) (fun rr720 k721 => ?_)
          obtain ⟨m722, hT723, h724, c725, rfl⟩ := k721
          refine ⟨_, _, rfl, ?_⟩
          refine T_nf2 (st' := []) (l' := [(10, (m722.1 10)), (11, (m722.1 11)), (28, (m.1 28)), (69, (m.1 69)), (70, (m.1 70)), (71, (m.1 71)), (72, (m.1 72))]) (a' := [(65, (m.2 65)), (66, (m.2 66)), (67, (m.2 67)), (68, (m.2 68)), (80, (m.2 80))]) [10, 11] [] rfl ⟨rfl, rfl, rfl, rfl, rfl, rfl, rfl, rfl, rfl, rfl, rfl, rfl, rfl, rfl, trivial⟩ ⟨rfl, rfl, rfl, rfl, rfl, rfl, rfl, rfl, rfl, rfl, trivial⟩ rfl rfl (by decide) (by decide) ?_
          have g726 : 0 ≤ m722.1 10 ∧ m722.1 10 ≤ 8 := hT723.1 10
          have g727 : (-1) ≤ m722.1 11 ∧ m722.1 11 ≤ 4000 := hT723.1 11
          replace h724 : (m722.1 10) = 0 → (m644.1 10) = 0 := h724
          have hf728 : 1 ≤ (m722.1 10) := by omega
          clear c725
          clear h724
          clear g648 g649 hf650
          refine T_ld 174 (.ref 189) rfl (fun _ => rfl) ?_
          refine T_ld 175 (.int (i32 ((m.2 81) jj))) rfl (fun _ => rfl) ?_
          refine T_gf 179 (.int (i32 (m.1 69))) rfl rfl rfl rfl rfl rfl ?_
          refine T_iadd 180 rfl rfl ?_
          refine T_ld 182 (.int (i32 64)) rfl (fun _ => rfl) ?_
          refine T_icmp 189 185 rfl rfl rfl (r32 (by omega) (by omega)) ⟨by decide, by decide⟩ (fun (h729 : (64 : Int) < ((m.2 81) jj) + (m.1 69)) => ?_) (fun (h729 : ¬ ((64 : Int) < ((m.2 81) jj) + (m.1 69))) => ?_)
          · skip
            refine T_ld 190 (.int (i32 0)) rfl (fun _ => rfl) ?_
            refine T_gf 194 (.int (i32 (m.1 70))) rfl rfl rfl rfl rfl rfl ?_
            refine T_call 197 256 [.ref 189, .int (i32 0), .int (i32 (m.1 70))] [] rfl (fun _ => rfl) rfl (c_want w (mO m [(10, (m722.1 10)), (11, (m722.1 11)), (28, (m.1 28)), (69, (m.1 69)), (70, (m.1 70)), (71, (m.1 71)), (72, (m.1 72))] [(65, (m.2 65)), (66, (m.2 66)), (67, (m.2 67)), (68, (m.2 68)), (80, (m.2 80))]) c N D (by omega) (Ty_mO hT rfl rfl ⟨(hT723.1 10), (hT723.1 11), f28, f69, f70, f71, f72, trivial⟩ ⟨(hT.2.1 65), (hT.2.1 66), (hT.2.1 67), (hT.2.1 68), (hT.2.1 80), trivial⟩) 0 (m.1 70) ⟨by decide, by decide⟩ (r32 (by omega) (by omega)) (show 0 ≤ (m.1 70) ∧ (m.1 70) ≤ 4000 by omega) (fun (h : (m722.1 10) = 0) => absurd h (by omega))) (fun rr730 k731 => ?_)
            obtain ⟨m732, hT733, h734, c735, rfl⟩ := k731
            refine ⟨_, _, rfl, ?_⟩
            refine T_nf2 (st' := []) (l' := [(10, (m732.1 10)), (11, (m732.1 11)), (28, (m.1 28)), (69, (m.1 69)), (70, (m.1 70)), (71, (m.1 71)), (72, (m.1 72))]) (a' := [(65, (m.2 65)), (66, (m.2 66)), (67, (m.2 67)), (68, (m.2 68)), (80, (m.2 80))]) [10, 11] [] rfl ⟨rfl, rfl, rfl, rfl, rfl, rfl, rfl, rfl, rfl, rfl, rfl, rfl, rfl, rfl, trivial⟩ ⟨rfl, rfl, rfl, rfl, rfl, rfl, rfl, rfl, rfl, rfl, trivial⟩ rfl rfl (by decide) (by decide) ?_
            have g736 : 0 ≤ m732.1 10 ∧ m732.1 10 ≤ 8 := hT733.1 10
            have g737 : (-1) ≤ m732.1 11 ∧ m732.1 11 ≤ 4000 := hT733.1 11
            replace h734 : (m732.1 10) = 0 → (m722.1 10) = 0 := h734
            have hf738 : 1 ≤ (m732.1 10) := by omega
            clear c735
            clear h734
            clear g726 g727 hf728
            refine T_ld 198 (.int (i32 ((m.2 81) jj))) rfl (fun _ => rfl) ?_
            refine T_gf 202 (.int (i32 (m.1 69))) rfl rfl rfl rfl rfl rfl ?_
            refine T_iadd 203 rfl rfl ?_
            refine T_sto 204 [(2, .int (i32 (((m.2 81) jj) + (m.1 69)))), (5, .int (i32 (m.1 69))), (4, .int (i32 ((m.2 80) jj))), (3, .int (i32 ((m.2 82) jj))), (0, .ref 189), (1, .int (i32 jj))] rfl (fun _ => rfl) ?_
            refine T_goto 261 rfl (fun _ => rfl) ?_
            refine T_gf 265 (.ref 242) rfl rfl rfl rfl rfl rfl ?_
            refine T_ld 266 (.int (i32 jj)) rfl (fun _ => rfl) ?_
            refine T_ld 267 (.int (i32 (-1))) rfl (fun _ => rfl) ?_
            have G739 : ∀ j, (-1) ≤ (upI (m.2 80) jj (-1)) j ∧ (upI (m.2 80) jj (-1)) j ≤ 330 := upI_rg (hT.2.1 80) ⟨by omega, by omega⟩
            refine T_iast (a' := [(65, (m.2 65)), (66, (m.2 66)), (67, (m.2 67)), (68, (m.2 68)), (80, upI (m.2 80) jj (-1))]) 268 80 (m.2 80) rfl rfl rfl (by omega) (show jj < (540 : Int) by omega) rfl rfl ?_
            refine T_ld 269 (.ref 189) rfl (fun _ => rfl) ?_
            refine T_ld 271 (.int (i32 ((m.2 80) jj))) rfl (fun _ => rfl) ?_
            refine T_ld 272 (.int (i32 (((m.2 81) jj) + (m.1 69)))) rfl (fun _ => rfl) ?_
            refine T_ld 274 (.int (i32 (m.1 69))) rfl (fun _ => rfl) ?_
            refine T_ld 275 (.long (i64 0)) rfl (fun _ => rfl) ?_
            refine T_call 278 248 [.ref 189, .int (i32 ((m.2 80) jj)), .int (i32 (((m.2 81) jj) + (m.1 69))), .int (i32 (m.1 69)), .long (i64 0)] [] rfl (fun _ => rfl) rfl (c_node w (mO m [(10, (m732.1 10)), (11, (m732.1 11)), (28, (m.1 28)), (69, (m.1 69)), (70, (m.1 70)), (71, (m.1 71)), (72, (m.1 72))] [(65, (m.2 65)), (66, (m.2 66)), (67, (m.2 67)), (68, (m.2 68)), (80, upI (m.2 80) jj (-1))]) c N D (by omega) (Ty_mO hT rfl rfl ⟨(hT733.1 10), (hT733.1 11), f28, f69, f70, f71, f72, trivial⟩ ⟨(hT.2.1 65), (hT.2.1 66), (hT.2.1 67), (hT.2.1 68), G739, trivial⟩) ((m.2 80) jj) (((m.2 81) jj) + (m.1 69)) (m.1 69) 0 B (1 + lh (m.2 79) (m.2 80) (m.1 73)) (r32 (by omega) (by omega)) (r32 (by omega) (by omega)) (r32 (by omega) (by omega)) ⟨by decide, by decide⟩ (fun (h : (m732.1 10) = 0) => absurd h (by omega))) (fun rr740 k741 => ?_)
            obtain ⟨m742, hT743, h744, c745, rfl⟩ := k741
            refine ⟨_, _, rfl, ?_⟩
            refine T_nf2 (st' := []) (l' := [(10, (m742.1 10)), (11, (m742.1 11)), (28, (m742.1 28)), (69, (m.1 69)), (70, (m.1 70)), (71, (m.1 71)), (72, (m.1 72))]) (a' := [(65, (m742.2 65)), (66, (m742.2 66)), (67, (m742.2 67)), (68, (m742.2 68)), (80, upI (m.2 80) jj (-1))]) [10, 11, 28] [65, 66, 67, 68] rfl ⟨rfl, rfl, rfl, rfl, rfl, rfl, rfl, rfl, rfl, rfl, rfl, rfl, rfl, rfl, trivial⟩ ⟨rfl, rfl, rfl, rfl, rfl, rfl, rfl, rfl, rfl, rfl, trivial⟩ rfl rfl (by decide) (by decide) ?_
            have g746 : 0 ≤ m742.1 10 ∧ m742.1 10 ≤ 8 := hT743.1 10
            have g747 : (-1) ≤ m742.1 11 ∧ m742.1 11 ≤ 4000 := hT743.1 11
            have g748 : 0 ≤ m742.1 28 ∧ m742.1 28 ≤ 800 := hT743.1 28
            replace h744 : (m742.1 10) = 0 → (m732.1 10) = 0 := h744
            have hf749 : 1 ≤ (m742.1 10) := by omega
            clear c745
            clear h744
            clear g736 g737 hf738
            refine T_ld 279 (.ref 189) rfl (fun _ => rfl) ?_
            refine T_ld 280 (.int (i32 (((m.2 81) jj) + (m.1 69)))) rfl (fun _ => rfl) ?_
            refine T_ld 281 (.int (i32 ((m.2 82) jj))) rfl (fun _ => rfl) ?_
            refine T_call 284 250 [.ref 189, .int (i32 (((m.2 81) jj) + (m.1 69))), .int (i32 ((m.2 82) jj))] [] rfl (fun _ => rfl) rfl (c_unit w (mO m [(10, (m742.1 10)), (11, (m742.1 11)), (28, (m742.1 28)), (69, (m.1 69)), (70, (m.1 70)), (71, (m.1 71)), (72, (m.1 72))] [(65, (m742.2 65)), (66, (m742.2 66)), (67, (m742.2 67)), (68, (m742.2 68)), (80, upI (m.2 80) jj (-1))]) c N D (by omega) (Ty_mO hT rfl rfl ⟨(hT743.1 10), (hT743.1 11), (hT743.1 28), f69, f70, f71, f72, trivial⟩ ⟨(hT743.2.1 65), (hT743.2.1 66), (hT743.2.1 67), (hT743.2.1 68), G739, trivial⟩) (((m.2 81) jj) + (m.1 69)) ((m.2 82) jj) (r32 (by omega) (by omega)) (r32 (by omega) (by omega)) (show 0 ≤ (((m.2 81) jj) + (m.1 69)) ∧ (((m.2 81) jj) + (m.1 69)) ≤ 1024 by omega) (show 0 ≤ ((m.2 82) jj) ∧ ((m.2 82) jj) ≤ 4000 by omega)) (fun rr750 k751 => ?_)
            obtain ⟨m752, hT753, h754, rfl⟩ := k751
            refine ⟨_, _, rfl, ?_⟩
            refine T_nf2 (st' := []) (l' := [(10, (m742.1 10)), (11, (m742.1 11)), (28, (m742.1 28)), (69, (m752.1 69)), (70, (m752.1 70)), (71, (m752.1 71)), (72, (m752.1 72))]) (a' := [(65, (m742.2 65)), (66, (m742.2 66)), (67, (m742.2 67)), (68, (m742.2 68)), (80, upI (m.2 80) jj (-1))]) [69, 70, 71, 72] [] rfl ⟨rfl, rfl, rfl, rfl, rfl, rfl, rfl, rfl, rfl, rfl, rfl, rfl, rfl, rfl, rfl, rfl, rfl, trivial⟩ ⟨rfl, rfl, rfl, rfl, rfl, rfl, rfl, rfl, rfl, rfl, trivial⟩ rfl rfl (by decide) (by decide) ?_
            have g755 : 0 ≤ m752.1 69 ∧ m752.1 69 ≤ 1024 := hT753.1 69
            have g756 : 0 ≤ m752.1 70 ∧ m752.1 70 ≤ 4000 := hT753.1 70
            have g757 : 0 ≤ m752.1 71 ∧ m752.1 71 ≤ 1 := hT753.1 71
            have g758 : (-9223372036854775808) ≤ m752.1 72 ∧ m752.1 72 ≤ 9223372036854775807 := hT753.1 72
            replace h754 : (m752.1 69) = (((m.2 81) jj) + (m.1 69)) := h754
            refine T_ret rfl (fun _ => rfl) ?_
            exact ⟨(mO m [(10, (m742.1 10)), (11, (m742.1 11)), (28, (m742.1 28)), (69, (m752.1 69)), (70, (m752.1 70)), (71, (m752.1 71)), (72, (m752.1 72))] [(65, (m742.2 65)), (66, (m742.2 66)), (67, (m742.2 67)), (68, (m742.2 68)), (80, upI (m.2 80) jj (-1))]), (Ty_mO hT rfl rfl ⟨(hT743.1 10), (hT743.1 11), (hT743.1 28), (hT753.1 69), (hT753.1 70), (hT753.1 71), (hT753.1 72), trivial⟩ ⟨(hT743.2.1 65), (hT743.2.1 66), (hT743.2.1 67), (hT743.2.1 68), G739, trivial⟩), (show (m742.1 10) = 0 → (m.1 10) = 0 by omega), (show (m752.1 69) ≤ (m.1 69) + 64 by omega), (fun (h : (m742.1 10) = 0) => absurd h (by omega)), rfl⟩
          · skip
            refine T_ld 186 (.int (i32 1)) rfl (fun _ => rfl) ?_
            refine T_goto 190 rfl (fun _ => rfl) ?_
            refine T_gf 194 (.int (i32 (m.1 70))) rfl rfl rfl rfl rfl rfl ?_
            refine T_call 197 256 [.ref 189, .int (i32 1), .int (i32 (m.1 70))] [] rfl (fun _ => rfl) rfl (c_want w (mO m [(10, (m722.1 10)), (11, (m722.1 11)), (28, (m.1 28)), (69, (m.1 69)), (70, (m.1 70)), (71, (m.1 71)), (72, (m.1 72))] [(65, (m.2 65)), (66, (m.2 66)), (67, (m.2 67)), (68, (m.2 68)), (80, (m.2 80))]) c N D (by omega) (Ty_mO hT rfl rfl ⟨(hT723.1 10), (hT723.1 11), f28, f69, f70, f71, f72, trivial⟩ ⟨(hT.2.1 65), (hT.2.1 66), (hT.2.1 67), (hT.2.1 68), (hT.2.1 80), trivial⟩) 1 (m.1 70) ⟨by decide, by decide⟩ (r32 (by omega) (by omega)) (show 0 ≤ (m.1 70) ∧ (m.1 70) ≤ 4000 by omega) (fun (h : (m722.1 10) = 0) => absurd h (by omega))) (fun rr759 k760 => ?_)
            obtain ⟨m761, hT762, h763, c764, rfl⟩ := k760
            refine ⟨_, _, rfl, ?_⟩
            refine T_nf2 (st' := []) (l' := [(10, (m761.1 10)), (11, (m761.1 11)), (28, (m.1 28)), (69, (m.1 69)), (70, (m.1 70)), (71, (m.1 71)), (72, (m.1 72))]) (a' := [(65, (m.2 65)), (66, (m.2 66)), (67, (m.2 67)), (68, (m.2 68)), (80, (m.2 80))]) [10, 11] [] rfl ⟨rfl, rfl, rfl, rfl, rfl, rfl, rfl, rfl, rfl, rfl, rfl, rfl, rfl, rfl, trivial⟩ ⟨rfl, rfl, rfl, rfl, rfl, rfl, rfl, rfl, rfl, rfl, trivial⟩ rfl rfl (by decide) (by decide) ?_
            have g765 : 0 ≤ m761.1 10 ∧ m761.1 10 ≤ 8 := hT762.1 10
            have g766 : (-1) ≤ m761.1 11 ∧ m761.1 11 ≤ 4000 := hT762.1 11
            replace h763 : (m761.1 10) = 0 → (m722.1 10) = 0 := h763
            have hf767 : 1 ≤ (m761.1 10) := by omega
            clear c764
            clear h763
            clear g726 g727 hf728
            refine T_ld 198 (.int (i32 ((m.2 81) jj))) rfl (fun _ => rfl) ?_
            refine T_gf 202 (.int (i32 (m.1 69))) rfl rfl rfl rfl rfl rfl ?_
            refine T_iadd 203 rfl rfl ?_
            refine T_sto 204 [(2, .int (i32 (((m.2 81) jj) + (m.1 69)))), (5, .int (i32 (m.1 69))), (4, .int (i32 ((m.2 80) jj))), (3, .int (i32 ((m.2 82) jj))), (0, .ref 189), (1, .int (i32 jj))] rfl (fun _ => rfl) ?_
            refine T_goto 261 rfl (fun _ => rfl) ?_
            refine T_gf 265 (.ref 242) rfl rfl rfl rfl rfl rfl ?_
            refine T_ld 266 (.int (i32 jj)) rfl (fun _ => rfl) ?_
            refine T_ld 267 (.int (i32 (-1))) rfl (fun _ => rfl) ?_
            have G768 : ∀ j, (-1) ≤ (upI (m.2 80) jj (-1)) j ∧ (upI (m.2 80) jj (-1)) j ≤ 330 := upI_rg (hT.2.1 80) ⟨by omega, by omega⟩
            refine T_iast (a' := [(65, (m.2 65)), (66, (m.2 66)), (67, (m.2 67)), (68, (m.2 68)), (80, upI (m.2 80) jj (-1))]) 268 80 (m.2 80) rfl rfl rfl (by omega) (show jj < (540 : Int) by omega) rfl rfl ?_
            refine T_ld 269 (.ref 189) rfl (fun _ => rfl) ?_
            refine T_ld 271 (.int (i32 ((m.2 80) jj))) rfl (fun _ => rfl) ?_
            refine T_ld 272 (.int (i32 (((m.2 81) jj) + (m.1 69)))) rfl (fun _ => rfl) ?_
            refine T_ld 274 (.int (i32 (m.1 69))) rfl (fun _ => rfl) ?_
            refine T_ld 275 (.long (i64 0)) rfl (fun _ => rfl) ?_
            refine T_call 278 248 [.ref 189, .int (i32 ((m.2 80) jj)), .int (i32 (((m.2 81) jj) + (m.1 69))), .int (i32 (m.1 69)), .long (i64 0)] [] rfl (fun _ => rfl) rfl (c_node w (mO m [(10, (m761.1 10)), (11, (m761.1 11)), (28, (m.1 28)), (69, (m.1 69)), (70, (m.1 70)), (71, (m.1 71)), (72, (m.1 72))] [(65, (m.2 65)), (66, (m.2 66)), (67, (m.2 67)), (68, (m.2 68)), (80, upI (m.2 80) jj (-1))]) c N D (by omega) (Ty_mO hT rfl rfl ⟨(hT762.1 10), (hT762.1 11), f28, f69, f70, f71, f72, trivial⟩ ⟨(hT.2.1 65), (hT.2.1 66), (hT.2.1 67), (hT.2.1 68), G768, trivial⟩) ((m.2 80) jj) (((m.2 81) jj) + (m.1 69)) (m.1 69) 0 B (1 + lh (m.2 79) (m.2 80) (m.1 73)) (r32 (by omega) (by omega)) (r32 (by omega) (by omega)) (r32 (by omega) (by omega)) ⟨by decide, by decide⟩ (fun (h : (m761.1 10) = 0) => absurd h (by omega))) (fun rr769 k770 => ?_)
            obtain ⟨m771, hT772, h773, c774, rfl⟩ := k770
            refine ⟨_, _, rfl, ?_⟩
            refine T_nf2 (st' := []) (l' := [(10, (m771.1 10)), (11, (m771.1 11)), (28, (m771.1 28)), (69, (m.1 69)), (70, (m.1 70)), (71, (m.1 71)), (72, (m.1 72))]) (a' := [(65, (m771.2 65)), (66, (m771.2 66)), (67, (m771.2 67)), (68, (m771.2 68)), (80, upI (m.2 80) jj (-1))]) [10, 11, 28] [65, 66, 67, 68] rfl ⟨rfl, rfl, rfl, rfl, rfl, rfl, rfl, rfl, rfl, rfl, rfl, rfl, rfl, rfl, trivial⟩ ⟨rfl, rfl, rfl, rfl, rfl, rfl, rfl, rfl, rfl, rfl, trivial⟩ rfl rfl (by decide) (by decide) ?_
            have g775 : 0 ≤ m771.1 10 ∧ m771.1 10 ≤ 8 := hT772.1 10
            have g776 : (-1) ≤ m771.1 11 ∧ m771.1 11 ≤ 4000 := hT772.1 11
            have g777 : 0 ≤ m771.1 28 ∧ m771.1 28 ≤ 800 := hT772.1 28
            replace h773 : (m771.1 10) = 0 → (m761.1 10) = 0 := h773
            have hf778 : 1 ≤ (m771.1 10) := by omega
            clear c774
            clear h773
            clear g765 g766 hf767
            refine T_ld 279 (.ref 189) rfl (fun _ => rfl) ?_
            refine T_ld 280 (.int (i32 (((m.2 81) jj) + (m.1 69)))) rfl (fun _ => rfl) ?_
            refine T_ld 281 (.int (i32 ((m.2 82) jj))) rfl (fun _ => rfl) ?_
            refine T_call 284 250 [.ref 189, .int (i32 (((m.2 81) jj) + (m.1 69))), .int (i32 ((m.2 82) jj))] [] rfl (fun _ => rfl) rfl (c_unit w (mO m [(10, (m771.1 10)), (11, (m771.1 11)), (28, (m771.1 28)), (69, (m.1 69)), (70, (m.1 70)), (71, (m.1 71)), (72, (m.1 72))] [(65, (m771.2 65)), (66, (m771.2 66)), (67, (m771.2 67)), (68, (m771.2 68)), (80, upI (m.2 80) jj (-1))]) c N D (by omega) (Ty_mO hT rfl rfl ⟨(hT772.1 10), (hT772.1 11), (hT772.1 28), f69, f70, f71, f72, trivial⟩ ⟨(hT772.2.1 65), (hT772.2.1 66), (hT772.2.1 67), (hT772.2.1 68), G768, trivial⟩) (((m.2 81) jj) + (m.1 69)) ((m.2 82) jj) (r32 (by omega) (by omega)) (r32 (by omega) (by omega)) (show 0 ≤ (((m.2 81) jj) + (m.1 69)) ∧ (((m.2 81) jj) + (m.1 69)) ≤ 1024 by omega) (show 0 ≤ ((m.2 82) jj) ∧ ((m.2 82) jj) ≤ 4000 by omega)) (fun rr779 k780 => ?_)
            obtain ⟨m781, hT782, h783, rfl⟩ := k780
            refine ⟨_, _, rfl, ?_⟩
            refine T_nf2 (st' := []) (l' := [(10, (m771.1 10)), (11, (m771.1 11)), (28, (m771.1 28)), (69, (m781.1 69)), (70, (m781.1 70)), (71, (m781.1 71)), (72, (m781.1 72))]) (a' := [(65, (m771.2 65)), (66, (m771.2 66)), (67, (m771.2 67)), (68, (m771.2 68)), (80, upI (m.2 80) jj (-1))]) [69, 70, 71, 72] [] rfl ⟨rfl, rfl, rfl, rfl, rfl, rfl, rfl, rfl, rfl, rfl, rfl, rfl, rfl, rfl, rfl, rfl, rfl, trivial⟩ ⟨rfl, rfl, rfl, rfl, rfl, rfl, rfl, rfl, rfl, rfl, trivial⟩ rfl rfl (by decide) (by decide) ?_
            have g784 : 0 ≤ m781.1 69 ∧ m781.1 69 ≤ 1024 := hT782.1 69
            have g785 : 0 ≤ m781.1 70 ∧ m781.1 70 ≤ 4000 := hT782.1 70
            have g786 : 0 ≤ m781.1 71 ∧ m781.1 71 ≤ 1 := hT782.1 71
            have g787 : (-9223372036854775808) ≤ m781.1 72 ∧ m781.1 72 ≤ 9223372036854775807 := hT782.1 72
            replace h783 : (m781.1 69) = (((m.2 81) jj) + (m.1 69)) := h783
            refine T_ret rfl (fun _ => rfl) ?_
            exact ⟨(mO m [(10, (m771.1 10)), (11, (m771.1 11)), (28, (m771.1 28)), (69, (m781.1 69)), (70, (m781.1 70)), (71, (m781.1 71)), (72, (m781.1 72))] [(65, (m771.2 65)), (66, (m771.2 66)), (67, (m771.2 67)), (68, (m771.2 68)), (80, upI (m.2 80) jj (-1))]), (Ty_mO hT rfl rfl ⟨(hT772.1 10), (hT772.1 11), (hT772.1 28), (hT782.1 69), (hT782.1 70), (hT782.1 71), (hT782.1 72), trivial⟩ ⟨(hT772.2.1 65), (hT772.2.1 66), (hT772.2.1 67), (hT772.2.1 68), G768, trivial⟩), (show (m771.1 10) = 0 → (m.1 10) = 0 by omega), (show (m781.1 69) ≤ (m.1 69) + 64 by omega), (fun (h : (m771.1 10) = 0) => absurd h (by omega)), rfl⟩
      · skip
        refine T_ld 145 (.int (i32 1)) rfl (fun _ => rfl) ?_
        refine T_goto 149 rfl (fun _ => rfl) ?_
        refine T_ld 150 (.int (i32 ((m.2 82) jj))) rfl (fun _ => rfl) ?_
        refine T_call 153 256 [.ref 189, .int (i32 1), .int (i32 ((m.2 82) jj))] [] rfl (fun _ => rfl) rfl (c_want w (mO m [(10, (m.1 10)), (11, (m.1 11)), (28, (m.1 28)), (69, (m.1 69)), (70, (m.1 70)), (71, (m.1 71)), (72, (m.1 72))] [(65, (m.2 65)), (66, (m.2 66)), (67, (m.2 67)), (68, (m.2 68)), (80, (m.2 80))]) c N D (by omega) (Ty_mO hT rfl rfl ⟨f10, f11, f28, f69, f70, f71, f72, trivial⟩ ⟨(hT.2.1 65), (hT.2.1 66), (hT.2.1 67), (hT.2.1 68), (hT.2.1 80), trivial⟩) 1 ((m.2 82) jj) ⟨by decide, by decide⟩ (r32 (by omega) (by omega)) (show 0 ≤ ((m.2 82) jj) ∧ ((m.2 82) jj) ≤ 4000 by omega) (fun (h : (m.1 10) = 0) => absurd h (by omega))) (fun rr788 k789 => ?_)
        obtain ⟨m790, hT791, h792, c793, rfl⟩ := k789
        refine ⟨_, _, rfl, ?_⟩
        refine T_nf2 (st' := []) (l' := [(10, (m790.1 10)), (11, (m790.1 11)), (28, (m.1 28)), (69, (m.1 69)), (70, (m.1 70)), (71, (m.1 71)), (72, (m.1 72))]) (a' := [(65, (m.2 65)), (66, (m.2 66)), (67, (m.2 67)), (68, (m.2 68)), (80, (m.2 80))]) [10, 11] [] rfl ⟨rfl, rfl, rfl, rfl, rfl, rfl, rfl, rfl, rfl, rfl, rfl, rfl, rfl, rfl, trivial⟩ ⟨rfl, rfl, rfl, rfl, rfl, rfl, rfl, rfl, rfl, rfl, trivial⟩ rfl rfl (by decide) (by decide) ?_
        have g794 : 0 ≤ m790.1 10 ∧ m790.1 10 ≤ 8 := hT791.1 10
        have g795 : (-1) ≤ m790.1 11 ∧ m790.1 11 ≤ 4000 := hT791.1 11
        replace h792 : (m790.1 10) = 0 → (m.1 10) = 0 := h792
        have hf796 : 1 ≤ (m790.1 10) := by omega
        clear c793
        clear h792
        clear g509a g509b h510
        refine T_ld 154 (.ref 189) rfl (fun _ => rfl) ?_
        refine T_gf 158 (.int (i32 (m.1 71))) rfl rfl rfl rfl rfl rfl ?_
        refine T_if 165 161 rfl rfl rfl (r32 (by omega) (by omega)) (fun (h797 : (m.1 71) ≠ 0) => ?_) (fun (h797 : ¬ ((m.1 71) ≠ 0)) => ?_)
        · skip
          refine T_ld 166 (.int (i32 0)) rfl (fun _ => rfl) ?_
          refine T_gf 170 (.int (i32 (m.1 70))) rfl rfl rfl rfl rfl rfl ?_
          refine T_call 173 256 [.ref 189, .int (i32 0), .int (i32 (m.1 70))] [] rfl (fun _ => rfl) rfl (c_want w (mO m [(10, (m790.1 10)), (11, (m790.1 11)), (28, (m.1 28)), (69, (m.1 69)), (70, (m.1 70)), (71, (m.1 71)), (72, (m.1 72))] [(65, (m.2 65)), (66, (m.2 66)), (67, (m.2 67)), (68, (m.2 68)), (80, (m.2 80))]) c N D (by omega) (Ty_mO hT rfl rfl ⟨(hT791.1 10), (hT791.1 11), f28, f69, f70, f71, f72, trivial⟩ ⟨(hT.2.1 65), (hT.2.1 66), (hT.2.1 67), (hT.2.1 68), (hT.2.1 80), trivial⟩) 0 (m.1 70) ⟨by decide, by decide⟩ (r32 (by omega) (by omega)) (show 0 ≤ (m.1 70) ∧ (m.1 70) ≤ 4000 by omega) (fun (h : (m790.1 10) = 0) => absurd h (by omega))) (fun rr798 k799 => ?_)
          obtain ⟨m800, hT801, h802, c803, rfl⟩ := k799
          refine ⟨_, _, rfl, ?_⟩
          refine T_nf2 (st' := []) (l' := [(10, (m800.1 10)), (11, (m800.1 11)), (28, (m.1 28)), (69, (m.1 69)), (70, (m.1 70)), (71, (m.1 71)), (72, (m.1 72))]) (a' := [(65, (m.2 65)), (66, (m.2 66)), (67, (m.2 67)), (68, (m.2 68)), (80, (m.2 80))]) [10, 11] [] rfl ⟨rfl, rfl, rfl, rfl, rfl, rfl, rfl, rfl, rfl, rfl, rfl, rfl, rfl, rfl, trivial⟩ ⟨rfl, rfl, rfl, rfl, rfl, rfl, rfl, rfl, rfl, rfl, trivial⟩ rfl rfl (by decide) (by decide) ?_
          have g804 : 0 ≤ m800.1 10 ∧ m800.1 10 ≤ 8 := hT801.1 10
          have g805 : (-1) ≤ m800.1 11 ∧ m800.1 11 ≤ 4000 := hT801.1 11
          replace h802 : (m800.1 10) = 0 → (m790.1 10) = 0 := h802
          have hf806 : 1 ≤ (m800.1 10) := by omega
          clear c803
          clear h802
          clear g794 g795 hf796
          refine T_ld 174 (.ref 189) rfl (fun _ => rfl) ?_
          refine T_ld 175 (.int (i32 ((m.2 81) jj))) rfl (fun _ => rfl) ?_
          refine T_gf 179 (.int (i32 (m.1 69))) rfl rfl rfl rfl rfl rfl ?_
          refine T_iadd 180 rfl rfl ?_
          refine T_ld 182 (.int (i32 64)) rfl (fun _ => rfl) ?_
          refine T_icmp 189 185 rfl rfl rfl (r32 (by omega) (by omega)) ⟨by decide, by decide⟩ (fun (h807 : (64 : Int) < ((m.2 81) jj) + (m.1 69)) => ?_) (fun (h807 : ¬ ((64 : Int) < ((m.2 81) jj) + (m.1 69))) => ?_)
          · skip
            refine T_ld 190 (.int (i32 0)) rfl (fun _ => rfl) ?_
            refine T_gf 194 (.int (i32 (m.1 70))) rfl rfl rfl rfl rfl rfl ?_
            refine T_call 197 256 [.ref 189, .int (i32 0), .int (i32 (m.1 70))] [] rfl (fun _ => rfl) rfl (c_want w (mO m [(10, (m800.1 10)), (11, (m800.1 11)), (28, (m.1 28)), (69, (m.1 69)), (70, (m.1 70)), (71, (m.1 71)), (72, (m.1 72))] [(65, (m.2 65)), (66, (m.2 66)), (67, (m.2 67)), (68, (m.2 68)), (80, (m.2 80))]) c N D (by omega) (Ty_mO hT rfl rfl ⟨(hT801.1 10), (hT801.1 11), f28, f69, f70, f71, f72, trivial⟩ ⟨(hT.2.1 65), (hT.2.1 66), (hT.2.1 67), (hT.2.1 68), (hT.2.1 80), trivial⟩) 0 (m.1 70) ⟨by decide, by decide⟩ (r32 (by omega) (by omega)) (show 0 ≤ (m.1 70) ∧ (m.1 70) ≤ 4000 by omega) (fun (h : (m800.1 10) = 0) => absurd h (by omega))) (fun rr808 k809 => ?_)
            obtain ⟨m810, hT811, h812, c813, rfl⟩ := k809
            refine ⟨_, _, rfl, ?_⟩
            refine T_nf2 (st' := []) (l' := [(10, (m810.1 10)), (11, (m810.1 11)), (28, (m.1 28)), (69, (m.1 69)), (70, (m.1 70)), (71, (m.1 71)), (72, (m.1 72))]) (a' := [(65, (m.2 65)), (66, (m.2 66)), (67, (m.2 67)), (68, (m.2 68)), (80, (m.2 80))]) [10, 11] [] rfl ⟨rfl, rfl, rfl, rfl, rfl, rfl, rfl, rfl, rfl, rfl, rfl, rfl, rfl, rfl, trivial⟩ ⟨rfl, rfl, rfl, rfl, rfl, rfl, rfl, rfl, rfl, rfl, trivial⟩ rfl rfl (by decide) (by decide) ?_
            have g814 : 0 ≤ m810.1 10 ∧ m810.1 10 ≤ 8 := hT811.1 10
            have g815 : (-1) ≤ m810.1 11 ∧ m810.1 11 ≤ 4000 := hT811.1 11
            replace h812 : (m810.1 10) = 0 → (m800.1 10) = 0 := h812
            have hf816 : 1 ≤ (m810.1 10) := by omega
            clear c813
            clear h812
            clear g804 g805 hf806
            refine T_ld 198 (.int (i32 ((m.2 81) jj))) rfl (fun _ => rfl) ?_
            refine T_gf 202 (.int (i32 (m.1 69))) rfl rfl rfl rfl rfl rfl ?_
            refine T_iadd 203 rfl rfl ?_
            refine T_sto 204 [(2, .int (i32 (((m.2 81) jj) + (m.1 69)))), (5, .int (i32 (m.1 69))), (4, .int (i32 ((m.2 80) jj))), (3, .int (i32 ((m.2 82) jj))), (0, .ref 189), (1, .int (i32 jj))] rfl (fun _ => rfl) ?_
            refine T_goto 261 rfl (fun _ => rfl) ?_
            refine T_gf 265 (.ref 242) rfl rfl rfl rfl rfl rfl ?_
            refine T_ld 266 (.int (i32 jj)) rfl (fun _ => rfl) ?_
            refine T_ld 267 (.int (i32 (-1))) rfl (fun _ => rfl) ?_
            have G817 : ∀ j, (-1) ≤ (upI (m.2 80) jj (-1)) j ∧ (upI (m.2 80) jj (-1)) j ≤ 330 := upI_rg (hT.2.1 80) ⟨by omega, by omega⟩
            refine T_iast (a' := [(65, (m.2 65)), (66, (m.2 66)), (67, (m.2 67)), (68, (m.2 68)), (80, upI (m.2 80) jj (-1))]) 268 80 (m.2 80) rfl rfl rfl (by omega) (show jj < (540 : Int) by omega) rfl rfl ?_
            refine T_ld 269 (.ref 189) rfl (fun _ => rfl) ?_
            refine T_ld 271 (.int (i32 ((m.2 80) jj))) rfl (fun _ => rfl) ?_
            refine T_ld 272 (.int (i32 (((m.2 81) jj) + (m.1 69)))) rfl (fun _ => rfl) ?_
            refine T_ld 274 (.int (i32 (m.1 69))) rfl (fun _ => rfl) ?_
            refine T_ld 275 (.long (i64 0)) rfl (fun _ => rfl) ?_
            refine T_call 278 248 [.ref 189, .int (i32 ((m.2 80) jj)), .int (i32 (((m.2 81) jj) + (m.1 69))), .int (i32 (m.1 69)), .long (i64 0)] [] rfl (fun _ => rfl) rfl (c_node w (mO m [(10, (m810.1 10)), (11, (m810.1 11)), (28, (m.1 28)), (69, (m.1 69)), (70, (m.1 70)), (71, (m.1 71)), (72, (m.1 72))] [(65, (m.2 65)), (66, (m.2 66)), (67, (m.2 67)), (68, (m.2 68)), (80, upI (m.2 80) jj (-1))]) c N D (by omega) (Ty_mO hT rfl rfl ⟨(hT811.1 10), (hT811.1 11), f28, f69, f70, f71, f72, trivial⟩ ⟨(hT.2.1 65), (hT.2.1 66), (hT.2.1 67), (hT.2.1 68), G817, trivial⟩) ((m.2 80) jj) (((m.2 81) jj) + (m.1 69)) (m.1 69) 0 B (1 + lh (m.2 79) (m.2 80) (m.1 73)) (r32 (by omega) (by omega)) (r32 (by omega) (by omega)) (r32 (by omega) (by omega)) ⟨by decide, by decide⟩ (fun (h : (m810.1 10) = 0) => absurd h (by omega))) (fun rr818 k819 => ?_)
            obtain ⟨m820, hT821, h822, c823, rfl⟩ := k819
            refine ⟨_, _, rfl, ?_⟩
            refine T_nf2 (st' := []) (l' := [(10, (m820.1 10)), (11, (m820.1 11)), (28, (m820.1 28)), (69, (m.1 69)), (70, (m.1 70)), (71, (m.1 71)), (72, (m.1 72))]) (a' := [(65, (m820.2 65)), (66, (m820.2 66)), (67, (m820.2 67)), (68, (m820.2 68)), (80, upI (m.2 80) jj (-1))]) [10, 11, 28] [65, 66, 67, 68] rfl ⟨rfl, rfl, rfl, rfl, rfl, rfl, rfl, rfl, rfl, rfl, rfl, rfl, rfl, rfl, trivial⟩ ⟨rfl, rfl, rfl, rfl, rfl, rfl, rfl, rfl, rfl, rfl, trivial⟩ rfl rfl (by decide) (by decide) ?_
            have g824 : 0 ≤ m820.1 10 ∧ m820.1 10 ≤ 8 := hT821.1 10
            have g825 : (-1) ≤ m820.1 11 ∧ m820.1 11 ≤ 4000 := hT821.1 11
            have g826 : 0 ≤ m820.1 28 ∧ m820.1 28 ≤ 800 := hT821.1 28
            replace h822 : (m820.1 10) = 0 → (m810.1 10) = 0 := h822
            have hf827 : 1 ≤ (m820.1 10) := by omega
            clear c823
            clear h822
            clear g814 g815 hf816
            refine T_ld 279 (.ref 189) rfl (fun _ => rfl) ?_
            refine T_ld 280 (.int (i32 (((m.2 81) jj) + (m.1 69)))) rfl (fun _ => rfl) ?_
            refine T_ld 281 (.int (i32 ((m.2 82) jj))) rfl (fun _ => rfl) ?_
            refine T_call 284 250 [.ref 189, .int (i32 (((m.2 81) jj) + (m.1 69))), .int (i32 ((m.2 82) jj))] [] rfl (fun _ => rfl) rfl (c_unit w (mO m [(10, (m820.1 10)), (11, (m820.1 11)), (28, (m820.1 28)), (69, (m.1 69)), (70, (m.1 70)), (71, (m.1 71)), (72, (m.1 72))] [(65, (m820.2 65)), (66, (m820.2 66)), (67, (m820.2 67)), (68, (m820.2 68)), (80, upI (m.2 80) jj (-1))]) c N D (by omega) (Ty_mO hT rfl rfl ⟨(hT821.1 10), (hT821.1 11), (hT821.1 28), f69, f70, f71, f72, trivial⟩ ⟨(hT821.2.1 65), (hT821.2.1 66), (hT821.2.1 67), (hT821.2.1 68), G817, trivial⟩) (((m.2 81) jj) + (m.1 69)) ((m.2 82) jj) (r32 (by omega) (by omega)) (r32 (by omega) (by omega)) (show 0 ≤ (((m.2 81) jj) + (m.1 69)) ∧ (((m.2 81) jj) + (m.1 69)) ≤ 1024 by omega) (show 0 ≤ ((m.2 82) jj) ∧ ((m.2 82) jj) ≤ 4000 by omega)) (fun rr828 k829 => ?_)
            obtain ⟨m830, hT831, h832, rfl⟩ := k829
            refine ⟨_, _, rfl, ?_⟩
            refine T_nf2 (st' := []) (l' := [(10, (m820.1 10)), (11, (m820.1 11)), (28, (m820.1 28)), (69, (m830.1 69)), (70, (m830.1 70)), (71, (m830.1 71)), (72, (m830.1 72))]) (a' := [(65, (m820.2 65)), (66, (m820.2 66)), (67, (m820.2 67)), (68, (m820.2 68)), (80, upI (m.2 80) jj (-1))]) [69, 70, 71, 72] [] rfl ⟨rfl, rfl, rfl, rfl, rfl, rfl, rfl, rfl, rfl, rfl, rfl, rfl, rfl, rfl, rfl, rfl, rfl, trivial⟩ ⟨rfl, rfl, rfl, rfl, rfl, rfl, rfl, rfl, rfl, rfl, trivial⟩ rfl rfl (by decide) (by decide) ?_
            have g833 : 0 ≤ m830.1 69 ∧ m830.1 69 ≤ 1024 := hT831.1 69
            have g834 : 0 ≤ m830.1 70 ∧ m830.1 70 ≤ 4000 := hT831.1 70
            have g835 : 0 ≤ m830.1 71 ∧ m830.1 71 ≤ 1 := hT831.1 71
            have g836 : (-9223372036854775808) ≤ m830.1 72 ∧ m830.1 72 ≤ 9223372036854775807 := hT831.1 72
            replace h832 : (m830.1 69) = (((m.2 81) jj) + (m.1 69)) := h832
            refine T_ret rfl (fun _ => rfl) ?_
            exact ⟨(mO m [(10, (m820.1 10)), (11, (m820.1 11)), (28, (m820.1 28)), (69, (m830.1 69)), (70, (m830.1 70)), (71, (m830.1 71)), (72, (m830.1 72))] [(65, (m820.2 65)), (66, (m820.2 66)), (67, (m820.2 67)), (68, (m820.2 68)), (80, upI (m.2 80) jj (-1))]), (Ty_mO hT rfl rfl ⟨(hT821.1 10), (hT821.1 11), (hT821.1 28), (hT831.1 69), (hT831.1 70), (hT831.1 71), (hT831.1 72), trivial⟩ ⟨(hT821.2.1 65), (hT821.2.1 66), (hT821.2.1 67), (hT821.2.1 68), G817, trivial⟩), (show (m820.1 10) = 0 → (m.1 10) = 0 by omega), (show (m830.1 69) ≤ (m.1 69) + 64 by omega), (fun (h : (m820.1 10) = 0) => absurd h (by omega)), rfl⟩
          · skip
            refine T_ld 186 (.int (i32 1)) rfl (fun _ => rfl) ?_
            refine T_goto 190 rfl (fun _ => rfl) ?_
            refine T_gf 194 (.int (i32 (m.1 70))) rfl rfl rfl rfl rfl rfl ?_
            refine T_call 197 256 [.ref 189, .int (i32 1), .int (i32 (m.1 70))] [] rfl (fun _ => rfl) rfl (c_want w (mO m [(10, (m800.1 10)), (11, (m800.1 11)), (28, (m.1 28)), (69, (m.1 69)), (70, (m.1 70)), (71, (m.1 71)), (72, (m.1 72))] [(65, (m.2 65)), (66, (m.2 66)), (67, (m.2 67)), (68, (m.2 68)), (80, (m.2 80))]) c N D (by omega) (Ty_mO hT rfl rfl ⟨(hT801.1 10), (hT801.1 11), f28, f69, f70, f71, f72, trivial⟩ ⟨(hT.2.1 65), (hT.2.1 66), (hT.2.1 67), (hT.2.1 68), (hT.2.1 80), trivial⟩) 1 (m.1 70) ⟨by decide, by decide⟩ (r32 (by omega) (by omega)) (show 0 ≤ (m.1 70) ∧ (m.1 70) ≤ 4000 by omega) (fun (h : (m800.1 10) = 0) => absurd h (by omega))) (fun rr837 k838 => ?_)
            obtain ⟨m839, hT840, h841, c842, rfl⟩ := k838
            refine ⟨_, _, rfl, ?_⟩
            refine T_nf2 (st' := []) (l' := [(10, (m839.1 10)), (11, (m839.1 11)), (28, (m.1 28)), (69, (m.1 69)), (70, (m.1 70)), (71, (m.1 71)), (72, (m.1 72))]) (a' := [(65, (m.2 65)), (66, (m.2 66)), (67, (m.2 67)), (68, (m.2 68)), (80, (m.2 80))]) [10, 11] [] rfl ⟨rfl, rfl, rfl, rfl, rfl, rfl, rfl, rfl, rfl, rfl, rfl, rfl, rfl, rfl, trivial⟩ ⟨rfl, rfl, rfl, rfl, rfl, rfl, rfl, rfl, rfl, rfl, trivial⟩ rfl rfl (by decide) (by decide) ?_
            have g843 : 0 ≤ m839.1 10 ∧ m839.1 10 ≤ 8 := hT840.1 10
            have g844 : (-1) ≤ m839.1 11 ∧ m839.1 11 ≤ 4000 := hT840.1 11
            replace h841 : (m839.1 10) = 0 → (m800.1 10) = 0 := h841
            have hf845 : 1 ≤ (m839.1 10) := by omega
            clear c842
            clear h841
            clear g804 g805 hf806
            refine T_ld 198 (.int (i32 ((m.2 81) jj))) rfl (fun _ => rfl) ?_
            refine T_gf 202 (.int (i32 (m.1 69))) rfl rfl rfl rfl rfl rfl ?_
            refine T_iadd 203 rfl rfl ?_
            refine T_sto 204 [(2, .int (i32 (((m.2 81) jj) + (m.1 69)))), (5, .int (i32 (m.1 69))), (4, .int (i32 ((m.2 80) jj))), (3, .int (i32 ((m.2 82) jj))), (0, .ref 189), (1, .int (i32 jj))] rfl (fun _ => rfl) ?_
            refine T_goto 261 rfl (fun _ => rfl) ?_
            refine T_gf 265 (.ref 242) rfl rfl rfl rfl rfl rfl ?_
            refine T_ld 266 (.int (i32 jj)) rfl (fun _ => rfl) ?_
            refine T_ld 267 (.int (i32 (-1))) rfl (fun _ => rfl) ?_
            have G846 : ∀ j, (-1) ≤ (upI (m.2 80) jj (-1)) j ∧ (upI (m.2 80) jj (-1)) j ≤ 330 := upI_rg (hT.2.1 80) ⟨by omega, by omega⟩
            refine T_iast (a' := [(65, (m.2 65)), (66, (m.2 66)), (67, (m.2 67)), (68, (m.2 68)), (80, upI (m.2 80) jj (-1))]) 268 80 (m.2 80) rfl rfl rfl (by omega) (show jj < (540 : Int) by omega) rfl rfl ?_
            refine T_ld 269 (.ref 189) rfl (fun _ => rfl) ?_
            refine T_ld 271 (.int (i32 ((m.2 80) jj))) rfl (fun _ => rfl) ?_
            refine T_ld 272 (.int (i32 (((m.2 81) jj) + (m.1 69)))) rfl (fun _ => rfl) ?_
            refine T_ld 274 (.int (i32 (m.1 69))) rfl (fun _ => rfl) ?_
            refine T_ld 275 (.long (i64 0)) rfl (fun _ => rfl) ?_
            refine T_call 278 248 [.ref 189, .int (i32 ((m.2 80) jj)), .int (i32 (((m.2 81) jj) + (m.1 69))), .int (i32 (m.1 69)), .long (i64 0)] [] rfl (fun _ => rfl) rfl (c_node w (mO m [(10, (m839.1 10)), (11, (m839.1 11)), (28, (m.1 28)), (69, (m.1 69)), (70, (m.1 70)), (71, (m.1 71)), (72, (m.1 72))] [(65, (m.2 65)), (66, (m.2 66)), (67, (m.2 67)), (68, (m.2 68)), (80, upI (m.2 80) jj (-1))]) c N D (by omega) (Ty_mO hT rfl rfl ⟨(hT840.1 10), (hT840.1 11), f28, f69, f70, f71, f72, trivial⟩ ⟨(hT.2.1 65), (hT.2.1 66), (hT.2.1 67), (hT.2.1 68), G846, trivial⟩) ((m.2 80) jj) (((m.2 81) jj) + (m.1 69)) (m.1 69) 0 B (1 + lh (m.2 79) (m.2 80) (m.1 73)) (r32 (by omega) (by omega)) (r32 (by omega) (by omega)) (r32 (by omega) (by omega)) ⟨by decide, by decide⟩ (fun (h : (m839.1 10) = 0) => absurd h (by omega))) (fun rr847 k848 => ?_)
            obtain ⟨m849, hT850, h851, c852, rfl⟩ := k848
            refine ⟨_, _, rfl, ?_⟩
            refine T_nf2 (st' := []) (l' := [(10, (m849.1 10)), (11, (m849.1 11)), (28, (m849.1 28)), (69, (m.1 69)), (70, (m.1 70)), (71, (m.1 71)), (72, (m.1 72))]) (a' := [(65, (m849.2 65)), (66, (m849.2 66)), (67, (m849.2 67)), (68, (m849.2 68)), (80, upI (m.2 80) jj (-1))]) [10, 11, 28] [65, 66, 67, 68] rfl ⟨rfl, rfl, rfl, rfl, rfl, rfl, rfl, rfl, rfl, rfl, rfl, rfl, rfl, rfl, trivial⟩ ⟨rfl, rfl, rfl, rfl, rfl, rfl, rfl, rfl, rfl, rfl, trivial⟩ rfl rfl (by decide) (by decide) ?_
            have g853 : 0 ≤ m849.1 10 ∧ m849.1 10 ≤ 8 := hT850.1 10
            have g854 : (-1) ≤ m849.1 11 ∧ m849.1 11 ≤ 4000 := hT850.1 11
            have g855 : 0 ≤ m849.1 28 ∧ m849.1 28 ≤ 800 := hT850.1 28
            replace h851 : (m849.1 10) = 0 → (m839.1 10) = 0 := h851
            have hf856 : 1 ≤ (m849.1 10) := by omega
            clear c852
            clear h851
            clear g843 g844 hf845
            refine T_ld 279 (.ref 189) rfl (fun _ => rfl) ?_
            refine T_ld 280 (.int (i32 (((m.2 81) jj) + (m.1 69)))) rfl (fun _ => rfl) ?_
            refine T_ld 281 (.int (i32 ((m.2 82) jj))) rfl (fun _ => rfl) ?_
            refine T_call 284 250 [.ref 189, .int (i32 (((m.2 81) jj) + (m.1 69))), .int (i32 ((m.2 82) jj))] [] rfl (fun _ => rfl) rfl (c_unit w (mO m [(10, (m849.1 10)), (11, (m849.1 11)), (28, (m849.1 28)), (69, (m.1 69)), (70, (m.1 70)), (71, (m.1 71)), (72, (m.1 72))] [(65, (m849.2 65)), (66, (m849.2 66)), (67, (m849.2 67)), (68, (m849.2 68)), (80, upI (m.2 80) jj (-1))]) c N D (by omega) (Ty_mO hT rfl rfl ⟨(hT850.1 10), (hT850.1 11), (hT850.1 28), f69, f70, f71, f72, trivial⟩ ⟨(hT850.2.1 65), (hT850.2.1 66), (hT850.2.1 67), (hT850.2.1 68), G846, trivial⟩) (((m.2 81) jj) + (m.1 69)) ((m.2 82) jj) (r32 (by omega) (by omega)) (r32 (by omega) (by omega)) (show 0 ≤ (((m.2 81) jj) + (m.1 69)) ∧ (((m.2 81) jj) + (m.1 69)) ≤ 1024 by omega) (show 0 ≤ ((m.2 82) jj) ∧ ((m.2 82) jj) ≤ 4000 by omega)) (fun rr857 k858 => ?_)
            obtain ⟨m859, hT860, h861, rfl⟩ := k858
            refine ⟨_, _, rfl, ?_⟩
            refine T_nf2 (st' := []) (l' := [(10, (m849.1 10)), (11, (m849.1 11)), (28, (m849.1 28)), (69, (m859.1 69)), (70, (m859.1 70)), (71, (m859.1 71)), (72, (m859.1 72))]) (a' := [(65, (m849.2 65)), (66, (m849.2 66)), (67, (m849.2 67)), (68, (m849.2 68)), (80, upI (m.2 80) jj (-1))]) [69, 70, 71, 72] [] rfl ⟨rfl, rfl, rfl, rfl, rfl, rfl, rfl, rfl, rfl, rfl, rfl, rfl, rfl, rfl, rfl, rfl, rfl, trivial⟩ ⟨rfl, rfl, rfl, rfl, rfl, rfl, rfl, rfl, rfl, rfl, trivial⟩ rfl rfl (by decide) (by decide) ?_
            have g862 : 0 ≤ m859.1 69 ∧ m859.1 69 ≤ 1024 := hT860.1 69
            have g863 : 0 ≤ m859.1 70 ∧ m859.1 70 ≤ 4000 := hT860.1 70
            have g864 : 0 ≤ m859.1 71 ∧ m859.1 71 ≤ 1 := hT860.1 71
            have g865 : (-9223372036854775808) ≤ m859.1 72 ∧ m859.1 72 ≤ 9223372036854775807 := hT860.1 72
            replace h861 : (m859.1 69) = (((m.2 81) jj) + (m.1 69)) := h861
            refine T_ret rfl (fun _ => rfl) ?_
            exact ⟨(mO m [(10, (m849.1 10)), (11, (m849.1 11)), (28, (m849.1 28)), (69, (m859.1 69)), (70, (m859.1 70)), (71, (m859.1 71)), (72, (m859.1 72))] [(65, (m849.2 65)), (66, (m849.2 66)), (67, (m849.2 67)), (68, (m849.2 68)), (80, upI (m.2 80) jj (-1))]), (Ty_mO hT rfl rfl ⟨(hT850.1 10), (hT850.1 11), (hT850.1 28), (hT860.1 69), (hT860.1 70), (hT860.1 71), (hT860.1 72), trivial⟩ ⟨(hT850.2.1 65), (hT850.2.1 66), (hT850.2.1 67), (hT850.2.1 68), G846, trivial⟩), (show (m849.1 10) = 0 → (m.1 10) = 0 by omega), (show (m859.1 69) ≤ (m.1 69) + 64 by omega), (fun (h : (m849.1 10) = 0) => absurd h (by omega)), rfl⟩
        · skip
          refine T_ld 162 (.int (i32 1)) rfl (fun _ => rfl) ?_
          refine T_goto 166 rfl (fun _ => rfl) ?_
          refine T_gf 170 (.int (i32 (m.1 70))) rfl rfl rfl rfl rfl rfl ?_
          refine T_call 173 256 [.ref 189, .int (i32 1), .int (i32 (m.1 70))] [] rfl (fun _ => rfl) rfl (c_want w (mO m [(10, (m790.1 10)), (11, (m790.1 11)), (28, (m.1 28)), (69, (m.1 69)), (70, (m.1 70)), (71, (m.1 71)), (72, (m.1 72))] [(65, (m.2 65)), (66, (m.2 66)), (67, (m.2 67)), (68, (m.2 68)), (80, (m.2 80))]) c N D (by omega) (Ty_mO hT rfl rfl ⟨(hT791.1 10), (hT791.1 11), f28, f69, f70, f71, f72, trivial⟩ ⟨(hT.2.1 65), (hT.2.1 66), (hT.2.1 67), (hT.2.1 68), (hT.2.1 80), trivial⟩) 1 (m.1 70) ⟨by decide, by decide⟩ (r32 (by omega) (by omega)) (show 0 ≤ (m.1 70) ∧ (m.1 70) ≤ 4000 by omega) (fun (h : (m790.1 10) = 0) => absurd h (by omega))) (fun rr866 k867 => ?_)
          obtain ⟨m868, hT869, h870, c871, rfl⟩ := k867
          refine ⟨_, _, rfl, ?_⟩
          refine T_nf2 (st' := []) (l' := [(10, (m868.1 10)), (11, (m868.1 11)), (28, (m.1 28)), (69, (m.1 69)), (70, (m.1 70)), (71, (m.1 71)), (72, (m.1 72))]) (a' := [(65, (m.2 65)), (66, (m.2 66)), (67, (m.2 67)), (68, (m.2 68)), (80, (m.2 80))]) [10, 11] [] rfl ⟨rfl, rfl, rfl, rfl, rfl, rfl, rfl, rfl, rfl, rfl, rfl, rfl, rfl, rfl, trivial⟩ ⟨rfl, rfl, rfl, rfl, rfl, rfl, rfl, rfl, rfl, rfl, trivial⟩ rfl rfl (by decide) (by decide) ?_
          have g872 : 0 ≤ m868.1 10 ∧ m868.1 10 ≤ 8 := hT869.1 10
          have g873 : (-1) ≤ m868.1 11 ∧ m868.1 11 ≤ 4000 := hT869.1 11
          replace h870 : (m868.1 10) = 0 → (m790.1 10) = 0 := h870
          have hf874 : 1 ≤ (m868.1 10) := by omega
          clear c871
          clear h870
          clear g794 g795 hf796
          refine T_ld 174 (.ref 189) rfl (fun _ => rfl) ?_
          refine T_ld 175 (.int (i32 ((m.2 81) jj))) rfl (fun _ => rfl) ?_
          refine T_gf 179 (.int (i32 (m.1 69))) rfl rfl rfl rfl rfl rfl ?_
          refine T_iadd 180 rfl rfl ?_
          refine T_ld 182 (.int (i32 64)) rfl (fun _ => rfl) ?_
          refine T_icmp 189 185 rfl rfl rfl (r32 (by omega) (by omega)) ⟨by decide, by decide⟩ (fun (h875 : (64 : Int) < ((m.2 81) jj) + (m.1 69)) => ?_) (fun (h875 : ¬ ((64 : Int) < ((m.2 81) jj) + (m.1 69))) => ?_)
          · skip
            refine T_ld 190 (.int (i32 0)) rfl (fun _ => rfl) ?_
            refine T_gf 194 (.int (i32 (m.1 70))) rfl rfl rfl rfl rfl rfl ?_
            refine T_call 197 256 [.ref 189, .int (i32 0), .int (i32 (m.1 70))] [] rfl (fun _ => rfl) rfl (c_want w (mO m [(10, (m868.1 10)), (11, (m868.1 11)), (28, (m.1 28)), (69, (m.1 69)), (70, (m.1 70)), (71, (m.1 71)), (72, (m.1 72))] [(65, (m.2 65)), (66, (m.2 66)), (67, (m.2 67)), (68, (m.2 68)), (80, (m.2 80))]) c N D (by omega) (Ty_mO hT rfl rfl ⟨(hT869.1 10), (hT869.1 11), f28, f69, f70, f71, f72, trivial⟩ ⟨(hT.2.1 65), (hT.2.1 66), (hT.2.1 67), (hT.2.1 68), (hT.2.1 80), trivial⟩) 0 (m.1 70) ⟨by decide, by decide⟩ (r32 (by omega) (by omega)) (show 0 ≤ (m.1 70) ∧ (m.1 70) ≤ 4000 by omega) (fun (h : (m868.1 10) = 0) => absurd h (by omega))) (fun rr876 k877 => ?_)
            obtain ⟨m878, hT879, h880, c881, rfl⟩ := k877
            refine ⟨_, _, rfl, ?_⟩
            refine T_nf2 (st' := []) (l' := [(10, (m878.1 10)), (11, (m878.1 11)), (28, (m.1 28)), (69, (m.1 69)), (70, (m.1 70)), (71, (m.1 71)), (72, (m.1 72))]) (a' := [(65, (m.2 65)), (66, (m.2 66)), (67, (m.2 67)), (68, (m.2 68)), (80, (m.2 80))]) [10, 11] [] rfl ⟨rfl, rfl, rfl, rfl, rfl, rfl, rfl, rfl, rfl, rfl, rfl, rfl, rfl, rfl, trivial⟩ ⟨rfl, rfl, rfl, rfl, rfl, rfl, rfl, rfl, rfl, rfl, trivial⟩ rfl rfl (by decide) (by decide) ?_
            have g882 : 0 ≤ m878.1 10 ∧ m878.1 10 ≤ 8 := hT879.1 10
            have g883 : (-1) ≤ m878.1 11 ∧ m878.1 11 ≤ 4000 := hT879.1 11
            replace h880 : (m878.1 10) = 0 → (m868.1 10) = 0 := h880
            have hf884 : 1 ≤ (m878.1 10) := by omega
            clear c881
            clear h880
            clear g872 g873 hf874
            refine T_ld 198 (.int (i32 ((m.2 81) jj))) rfl (fun _ => rfl) ?_
            refine T_gf 202 (.int (i32 (m.1 69))) rfl rfl rfl rfl rfl rfl ?_
            refine T_iadd 203 rfl rfl ?_
            refine T_sto 204 [(2, .int (i32 (((m.2 81) jj) + (m.1 69)))), (5, .int (i32 (m.1 69))), (4, .int (i32 ((m.2 80) jj))), (3, .int (i32 ((m.2 82) jj))), (0, .ref 189), (1, .int (i32 jj))] rfl (fun _ => rfl) ?_
            refine T_goto 261 rfl (fun _ => rfl) ?_
            refine T_gf 265 (.ref 242) rfl rfl rfl rfl rfl rfl ?_
            refine T_ld 266 (.int (i32 jj)) rfl (fun _ => rfl) ?_
            refine T_ld 267 (.int (i32 (-1))) rfl (fun _ => rfl) ?_
            have G885 : ∀ j, (-1) ≤ (upI (m.2 80) jj (-1)) j ∧ (upI (m.2 80) jj (-1)) j ≤ 330 := upI_rg (hT.2.1 80) ⟨by omega, by omega⟩
            refine T_iast (a' := [(65, (m.2 65)), (66, (m.2 66)), (67, (m.2 67)), (68, (m.2 68)), (80, upI (m.2 80) jj (-1))]) 268 80 (m.2 80) rfl rfl rfl (by omega) (show jj < (540 : Int) by omega) rfl rfl ?_
            refine T_ld 269 (.ref 189) rfl (fun _ => rfl) ?_
            refine T_ld 271 (.int (i32 ((m.2 80) jj))) rfl (fun _ => rfl) ?_
            refine T_ld 272 (.int (i32 (((m.2 81) jj) + (m.1 69)))) rfl (fun _ => rfl) ?_
            refine T_ld 274 (.int (i32 (m.1 69))) rfl (fun _ => rfl) ?_
            refine T_ld 275 (.long (i64 0)) rfl (fun _ => rfl) ?_
            refine T_call 278 248 [.ref 189, .int (i32 ((m.2 80) jj)), .int (i32 (((m.2 81) jj) + (m.1 69))), .int (i32 (m.1 69)), .long (i64 0)] [] rfl (fun _ => rfl) rfl (c_node w (mO m [(10, (m878.1 10)), (11, (m878.1 11)), (28, (m.1 28)), (69, (m.1 69)), (70, (m.1 70)), (71, (m.1 71)), (72, (m.1 72))] [(65, (m.2 65)), (66, (m.2 66)), (67, (m.2 67)), (68, (m.2 68)), (80, upI (m.2 80) jj (-1))]) c N D (by omega) (Ty_mO hT rfl rfl ⟨(hT879.1 10), (hT879.1 11), f28, f69, f70, f71, f72, trivial⟩ ⟨(hT.2.1 65), (hT.2.1 66), (hT.2.1 67), (hT.2.1 68), G885, trivial⟩) ((m.2 80) jj) (((m.2 81) jj) + (m.1 69)) (m.1 69) 0 B (1 + lh (m.2 79) (m.2 80) (m.1 73)) (r32 (by omega) (by omega)) (r32 (by omega) (by omega)) (r32 (by omega) (by omega)) ⟨by decide, by decide⟩ (fun (h : (m878.1 10) = 0) => absurd h (by omega))) (fun rr886 k887 => ?_)
            obtain ⟨m888, hT889, h890, c891, rfl⟩ := k887
            refine ⟨_, _, rfl, ?_⟩
            refine T_nf2 (st' := []) (l' := [(10, (m888.1 10)), (11, (m888.1 11)), (28, (m888.1 28)), (69, (m.1 69)), (70, (m.1 70)), (71, (m.1 71)), (72, (m.1 72))]) (a' := [(65, (m888.2 65)), (66, (m888.2 66)), (67, (m888.2 67)), (68, (m888.2 68)), (80, upI (m.2 80) jj (-1))]) [10, 11, 28] [65, 66, 67, 68] rfl ⟨rfl, rfl, rfl, rfl, rfl, rfl, rfl, rfl, rfl, rfl, rfl, rfl, rfl, rfl, trivial⟩ ⟨rfl, rfl, rfl, rfl, rfl, rfl, rfl, rfl, rfl, rfl, trivial⟩ rfl rfl (by decide) (by decide) ?_
            have g892 : 0 ≤ m888.1 10 ∧ m888.1 10 ≤ 8 := hT889.1 10
            have g893 : (-1) ≤ m888.1 11 ∧ m888.1 11 ≤ 4000 := hT889.1 11
            have g894 : 0 ≤ m888.1 28 ∧ m888.1 28 ≤ 800 := hT889.1 28
            replace h890 : (m888.1 10) = 0 → (m878.1 10) = 0 := h890
            have hf895 : 1 ≤ (m888.1 10) := by omega
            clear c891
            clear h890
            clear g882 g883 hf884
            refine T_ld 279 (.ref 189) rfl (fun _ => rfl) ?_
            refine T_ld 280 (.int (i32 (((m.2 81) jj) + (m.1 69)))) rfl (fun _ => rfl) ?_
            refine T_ld 281 (.int (i32 ((m.2 82) jj))) rfl (fun _ => rfl) ?_
            refine T_call 284 250 [.ref 189, .int (i32 (((m.2 81) jj) + (m.1 69))), .int (i32 ((m.2 82) jj))] [] rfl (fun _ => rfl) rfl (c_unit w (mO m [(10, (m888.1 10)), (11, (m888.1 11)), (28, (m888.1 28)), (69, (m.1 69)), (70, (m.1 70)), (71, (m.1 71)), (72, (m.1 72))] [(65, (m888.2 65)), (66, (m888.2 66)), (67, (m888.2 67)), (68, (m888.2 68)), (80, upI (m.2 80) jj (-1))]) c N D (by omega) (Ty_mO hT rfl rfl ⟨(hT889.1 10), (hT889.1 11), (hT889.1 28), f69, f70, f71, f72, trivial⟩ ⟨(hT889.2.1 65), (hT889.2.1 66), (hT889.2.1 67), (hT889.2.1 68), G885, trivial⟩) (((m.2 81) jj) + (m.1 69)) ((m.2 82) jj) (r32 (by omega) (by omega)) (r32 (by omega) (by omega)) (show 0 ≤ (((m.2 81) jj) + (m.1 69)) ∧ (((m.2 81) jj) + (m.1 69)) ≤ 1024 by omega) (show 0 ≤ ((m.2 82) jj) ∧ ((m.2 82) jj) ≤ 4000 by omega)) (fun rr896 k897 => ?_)
            obtain ⟨m898, hT899, h900, rfl⟩ := k897
            refine ⟨_, _, rfl, ?_⟩
            refine T_nf2 (st' := []) (l' := [(10, (m888.1 10)), (11, (m888.1 11)), (28, (m888.1 28)), (69, (m898.1 69)), (70, (m898.1 70)), (71, (m898.1 71)), (72, (m898.1 72))]) (a' := [(65, (m888.2 65)), (66, (m888.2 66)), (67, (m888.2 67)), (68, (m888.2 68)), (80, upI (m.2 80) jj (-1))]) [69, 70, 71, 72] [] rfl ⟨rfl, rfl, rfl, rfl, rfl, rfl, rfl, rfl, rfl, rfl, rfl, rfl, rfl, rfl, rfl, rfl, rfl, trivial⟩ ⟨rfl, rfl, rfl, rfl, rfl, rfl, rfl, rfl, rfl, rfl, trivial⟩ rfl rfl (by decide) (by decide) ?_
            have g901 : 0 ≤ m898.1 69 ∧ m898.1 69 ≤ 1024 := hT899.1 69
            have g902 : 0 ≤ m898.1 70 ∧ m898.1 70 ≤ 4000 := hT899.1 70
            have g903 : 0 ≤ m898.1 71 ∧ m898.1 71 ≤ 1 := hT899.1 71
            have g904 : (-9223372036854775808) ≤ m898.1 72 ∧ m898.1 72 ≤ 9223372036854775807 := hT899.1 72
            replace h900 : (m898.1 69) = (((m.2 81) jj) + (m.1 69)) := h900
            refine T_ret rfl (fun _ => rfl) ?_
            exact ⟨(mO m [(10, (m888.1 10)), (11, (m888.1 11)), (28, (m888.1 28)), (69, (m898.1 69)), (70, (m898.1 70)), (71, (m898.1 71)), (72, (m898.1 72))] [(65, (m888.2 65)), (66, (m888.2 66)), (67, (m888.2 67)), (68, (m888.2 68)), (80, upI (m.2 80) jj (-1))]), (Ty_mO hT rfl rfl ⟨(hT889.1 10), (hT889.1 11), (hT889.1 28), (hT899.1 69), (hT899.1 70), (hT899.1 71), (hT899.1 72), trivial⟩ ⟨(hT889.2.1 65), (hT889.2.1 66), (hT889.2.1 67), (hT889.2.1 68), G885, trivial⟩), (show (m888.1 10) = 0 → (m.1 10) = 0 by omega), (show (m898.1 69) ≤ (m.1 69) + 64 by omega), (fun (h : (m888.1 10) = 0) => absurd h (by omega)), rfl⟩
          · skip
            refine T_ld 186 (.int (i32 1)) rfl (fun _ => rfl) ?_
            refine T_goto 190 rfl (fun _ => rfl) ?_
            refine T_gf 194 (.int (i32 (m.1 70))) rfl rfl rfl rfl rfl rfl ?_
            refine T_call 197 256 [.ref 189, .int (i32 1), .int (i32 (m.1 70))] [] rfl (fun _ => rfl) rfl (c_want w (mO m [(10, (m868.1 10)), (11, (m868.1 11)), (28, (m.1 28)), (69, (m.1 69)), (70, (m.1 70)), (71, (m.1 71)), (72, (m.1 72))] [(65, (m.2 65)), (66, (m.2 66)), (67, (m.2 67)), (68, (m.2 68)), (80, (m.2 80))]) c N D (by omega) (Ty_mO hT rfl rfl ⟨(hT869.1 10), (hT869.1 11), f28, f69, f70, f71, f72, trivial⟩ ⟨(hT.2.1 65), (hT.2.1 66), (hT.2.1 67), (hT.2.1 68), (hT.2.1 80), trivial⟩) 1 (m.1 70) ⟨by decide, by decide⟩ (r32 (by omega) (by omega)) (show 0 ≤ (m.1 70) ∧ (m.1 70) ≤ 4000 by omega) (fun (h : (m868.1 10) = 0) => absurd h (by omega))) (fun rr905 k906 => ?_)
            obtain ⟨m907, hT908, h909, c910, rfl⟩ := k906
            refine ⟨_, _, rfl, ?_⟩
            refine T_nf2 (st' := []) (l' := [(10, (m907.1 10)), (11, (m907.1 11)), (28, (m.1 28)), (69, (m.1 69)), (70, (m.1 70)), (71, (m.1 71)), (72, (m.1 72))]) (a' := [(65, (m.2 65)), (66, (m.2 66)), (67, (m.2 67)), (68, (m.2 68)), (80, (m.2 80))]) [10, 11] [] rfl ⟨rfl, rfl, rfl, rfl, rfl, rfl, rfl, rfl, rfl, rfl, rfl, rfl, rfl, rfl, trivial⟩ ⟨rfl, rfl, rfl, rfl, rfl, rfl, rfl, rfl, rfl, rfl, trivial⟩ rfl rfl (by decide) (by decide) ?_
            have g911 : 0 ≤ m907.1 10 ∧ m907.1 10 ≤ 8 := hT908.1 10
            have g912 : (-1) ≤ m907.1 11 ∧ m907.1 11 ≤ 4000 := hT908.1 11
            replace h909 : (m907.1 10) = 0 → (m868.1 10) = 0 := h909
            have hf913 : 1 ≤ (m907.1 10) := by omega
            clear c910
            clear h909
            clear g872 g873 hf874
            refine T_ld 198 (.int (i32 ((m.2 81) jj))) rfl (fun _ => rfl) ?_
            refine T_gf 202 (.int (i32 (m.1 69))) rfl rfl rfl rfl rfl rfl ?_
            refine T_iadd 203 rfl rfl ?_
            refine T_sto 204 [(2, .int (i32 (((m.2 81) jj) + (m.1 69)))), (5, .int (i32 (m.1 69))), (4, .int (i32 ((m.2 80) jj))), (3, .int (i32 ((m.2 82) jj))), (0, .ref 189), (1, .int (i32 jj))] rfl (fun _ => rfl) ?_
            refine T_goto 261 rfl (fun _ => rfl) ?_
            refine T_gf 265 (.ref 242) rfl rfl rfl rfl rfl rfl ?_
            refine T_ld 266 (.int (i32 jj)) rfl (fun _ => rfl) ?_
            refine T_ld 267 (.int (i32 (-1))) rfl (fun _ => rfl) ?_
            have G914 : ∀ j, (-1) ≤ (upI (m.2 80) jj (-1)) j ∧ (upI (m.2 80) jj (-1)) j ≤ 330 := upI_rg (hT.2.1 80) ⟨by omega, by omega⟩
            refine T_iast (a' := [(65, (m.2 65)), (66, (m.2 66)), (67, (m.2 67)), (68, (m.2 68)), (80, upI (m.2 80) jj (-1))]) 268 80 (m.2 80) rfl rfl rfl (by omega) (show jj < (540 : Int) by omega) rfl rfl ?_
            refine T_ld 269 (.ref 189) rfl (fun _ => rfl) ?_
            refine T_ld 271 (.int (i32 ((m.2 80) jj))) rfl (fun _ => rfl) ?_
            refine T_ld 272 (.int (i32 (((m.2 81) jj) + (m.1 69)))) rfl (fun _ => rfl) ?_
            refine T_ld 274 (.int (i32 (m.1 69))) rfl (fun _ => rfl) ?_
            refine T_ld 275 (.long (i64 0)) rfl (fun _ => rfl) ?_
            refine T_call 278 248 [.ref 189, .int (i32 ((m.2 80) jj)), .int (i32 (((m.2 81) jj) + (m.1 69))), .int (i32 (m.1 69)), .long (i64 0)] [] rfl (fun _ => rfl) rfl (c_node w (mO m [(10, (m907.1 10)), (11, (m907.1 11)), (28, (m.1 28)), (69, (m.1 69)), (70, (m.1 70)), (71, (m.1 71)), (72, (m.1 72))] [(65, (m.2 65)), (66, (m.2 66)), (67, (m.2 67)), (68, (m.2 68)), (80, upI (m.2 80) jj (-1))]) c N D (by omega) (Ty_mO hT rfl rfl ⟨(hT908.1 10), (hT908.1 11), f28, f69, f70, f71, f72, trivial⟩ ⟨(hT.2.1 65), (hT.2.1 66), (hT.2.1 67), (hT.2.1 68), G914, trivial⟩) ((m.2 80) jj) (((m.2 81) jj) + (m.1 69)) (m.1 69) 0 B (1 + lh (m.2 79) (m.2 80) (m.1 73)) (r32 (by omega) (by omega)) (r32 (by omega) (by omega)) (r32 (by omega) (by omega)) ⟨by decide, by decide⟩ (fun (h : (m907.1 10) = 0) => absurd h (by omega))) (fun rr915 k916 => ?_)
            obtain ⟨m917, hT918, h919, c920, rfl⟩ := k916
            refine ⟨_, _, rfl, ?_⟩
            refine T_nf2 (st' := []) (l' := [(10, (m917.1 10)), (11, (m917.1 11)), (28, (m917.1 28)), (69, (m.1 69)), (70, (m.1 70)), (71, (m.1 71)), (72, (m.1 72))]) (a' := [(65, (m917.2 65)), (66, (m917.2 66)), (67, (m917.2 67)), (68, (m917.2 68)), (80, upI (m.2 80) jj (-1))]) [10, 11, 28] [65, 66, 67, 68] rfl ⟨rfl, rfl, rfl, rfl, rfl, rfl, rfl, rfl, rfl, rfl, rfl, rfl, rfl, rfl, trivial⟩ ⟨rfl, rfl, rfl, rfl, rfl, rfl, rfl, rfl, rfl, rfl, trivial⟩ rfl rfl (by decide) (by decide) ?_
            have g921 : 0 ≤ m917.1 10 ∧ m917.1 10 ≤ 8 := hT918.1 10
            have g922 : (-1) ≤ m917.1 11 ∧ m917.1 11 ≤ 4000 := hT918.1 11
            have g923 : 0 ≤ m917.1 28 ∧ m917.1 28 ≤ 800 := hT918.1 28
            replace h919 : (m917.1 10) = 0 → (m907.1 10) = 0 := h919
            have hf924 : 1 ≤ (m917.1 10) := by omega
            clear c920
            clear h919
            clear g911 g912 hf913
            refine T_ld 279 (.ref 189) rfl (fun _ => rfl) ?_
            refine T_ld 280 (.int (i32 (((m.2 81) jj) + (m.1 69)))) rfl (fun _ => rfl) ?_
            refine T_ld 281 (.int (i32 ((m.2 82) jj))) rfl (fun _ => rfl) ?_
            refine T_call 284 250 [.ref 189, .int (i32 (((m.2 81) jj) + (m.1 69))), .int (i32 ((m.2 82) jj))] [] rfl (fun _ => rfl) rfl (c_unit w (mO m [(10, (m917.1 10)), (11, (m917.1 11)), (28, (m917.1 28)), (69, (m.1 69)), (70, (m.1 70)), (71, (m.1 71)), (72, (m.1 72))] [(65, (m917.2 65)), (66, (m917.2 66)), (67, (m917.2 67)), (68, (m917.2 68)), (80, upI (m.2 80) jj (-1))]) c N D (by omega) (Ty_mO hT rfl rfl ⟨(hT918.1 10), (hT918.1 11), (hT918.1 28), f69, f70, f71, f72, trivial⟩ ⟨(hT918.2.1 65), (hT918.2.1 66), (hT918.2.1 67), (hT918.2.1 68), G914, trivial⟩) (((m.2 81) jj) + (m.1 69)) ((m.2 82) jj) (r32 (by omega) (by omega)) (r32 (by omega) (by omega)) (show 0 ≤ (((m.2 81) jj) + (m.1 69)) ∧ (((m.2 81) jj) + (m.1 69)) ≤ 1024 by omega) (show 0 ≤ ((m.2 82) jj) ∧ ((m.2 82) jj) ≤ 4000 by omega)) (fun rr925 k926 => ?_)
            obtain ⟨m927, hT928, h929, rfl⟩ := k926
            refine ⟨_, _, rfl, ?_⟩
            refine T_nf2 (st' := []) (l' := [(10, (m917.1 10)), (11, (m917.1 11)), (28, (m917.1 28)), (69, (m927.1 69)), (70, (m927.1 70)), (71, (m927.1 71)), (72, (m927.1 72))]) (a' := [(65, (m917.2 65)), (66, (m917.2 66)), (67, (m917.2 67)), (68, (m917.2 68)), (80, upI (m.2 80) jj (-1))]) [69, 70, 71, 72] [] rfl ⟨rfl, rfl, rfl, rfl, rfl, rfl, rfl, rfl, rfl, rfl, rfl, rfl, rfl, rfl, rfl, rfl, rfl, trivial⟩ ⟨rfl, rfl, rfl, rfl, rfl, rfl, rfl, rfl, rfl, rfl, trivial⟩ rfl rfl (by decide) (by decide) ?_
            have g930 : 0 ≤ m927.1 69 ∧ m927.1 69 ≤ 1024 := hT928.1 69
            have g931 : 0 ≤ m927.1 70 ∧ m927.1 70 ≤ 4000 := hT928.1 70
            have g932 : 0 ≤ m927.1 71 ∧ m927.1 71 ≤ 1 := hT928.1 71
            have g933 : (-9223372036854775808) ≤ m927.1 72 ∧ m927.1 72 ≤ 9223372036854775807 := hT928.1 72
            replace h929 : (m927.1 69) = (((m.2 81) jj) + (m.1 69)) := h929
            refine T_ret rfl (fun _ => rfl) ?_
            exact ⟨(mO m [(10, (m917.1 10)), (11, (m917.1 11)), (28, (m917.1 28)), (69, (m927.1 69)), (70, (m927.1 70)), (71, (m927.1 71)), (72, (m927.1 72))] [(65, (m917.2 65)), (66, (m917.2 66)), (67, (m917.2 67)), (68, (m917.2 68)), (80, upI (m.2 80) jj (-1))]), (Ty_mO hT rfl rfl ⟨(hT918.1 10), (hT918.1 11), (hT918.1 28), (hT928.1 69), (hT928.1 70), (hT928.1 71), (hT928.1 72), trivial⟩ ⟨(hT918.2.1 65), (hT918.2.1 66), (hT918.2.1 67), (hT918.2.1 68), G914, trivial⟩), (show (m917.1 10) = 0 → (m.1 10) = 0 by omega), (show (m927.1 69) ≤ (m.1 69) + 64 by omega), (fun (h : (m917.1 10) = 0) => absurd h (by omega)), rfl⟩
    by_cases h934 : x508 = 2
    · skip
      refine T_cast 2 h934 ?_
      refine T_pop 207 rfl (fun _ => rfl) ?_
      exact T207_553
    by_cases h935 : x508 = 3
    · skip
      refine T_cast 3 h935 ?_
      refine T_pop 207 rfl (fun _ => rfl) ?_
      exact T207_553
    by_cases h936 : x508 = 4
    · skip
      refine T_cast 4 h936 ?_
      refine T_pop 207 rfl (fun _ => rfl) ?_
      exact T207_553
    by_cases h937 : x508 = 5
    · skip
      refine T_cast 5 h937 ?_
      refine T_pop 207 rfl (fun _ => rfl) ?_
      exact T207_553
    by_cases h938 : x508 = 7
    · skip
      refine T_cast 7 h938 ?_
      refine T_pop 207 rfl (fun _ => rfl) ?_
      exact T207_553
    refine T_tsd 207 rfl rfl (r32 (by omega) (by omega)) (by omega) ?_
    exact T207_553
