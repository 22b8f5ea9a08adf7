def Q_level (m : mR) (c : Nat → Option am_C) (N : Nat) (x : Int) : ag_Re af_T → Prop := fun R => ∃ (r : Int), ((-1) ≤ r ∧ r ≤ 8) ∧ (0 ≤ r → 4 ≤ x ∧ x ≤ 124) ∧ R = (.inl (some (.int (i32 r))), (mhp (mO m [] []) c, N), 0, 0)
set_option maxHeartbeats 8000000 in
theorem c_level (w : wX) (m : mR) (c : Nat → Option am_C) (N D : Nat) (hD : 1 ≤ D) (hT : Ty m) (x : Int) (qx : R32 x) : TC w D 259 [.int (i32 x)] (mhp m c, N) (Q_level m c N x) := by
  obtain ⟨D, rfl⟩ : ∃ k, D = k + 1 := ⟨D - 1, by omega⟩
  obtain ⟨qxa, qxb⟩ := id qx
  refine Tc_of rfl ?_
  show TT w D pm_259 (0, [(0, .int (i32 x))], [], (mhp m c, N), 0, 0) (Q_level m c N x)
  rw [show (mhp m c, N) = (mhp (mO m [] []) c, N) from rfl]
  refine T_ld 1 (.int (i32 x)) rfl (fun _ => rfl) ?_
  have T144_1 : (x = 4 ∨ x = 5 ∨ x = 6 ∨ x = 7 ∨ x = 60 ∨ x = 62) → TT w D pm_259 (144, [(0, .int (i32 x))], [], (mhp (mO m [] []) c, N), 0, 0) (Q_level m c N x) := by
    intro ht2
    refine T_ld 145 (.int (i32 2)) rfl (fun _ => rfl) ?_
    refine T_ret rfl (fun _ => rfl) ?_
    exact ⟨2, ⟨by omega, by omega⟩, (by omega), rfl⟩
  have T152_3 : (x = 11 ∨ x = 12) → TT w D pm_259 (152, [(0, .int (i32 x))], [], (mhp (mO m [] []) c, N), 0, 0) (Q_level m c N x) := by
    intro ht4
    refine T_ld 154 (.int (i32 6)) rfl (fun _ => rfl) ?_
    refine T_ret rfl (fun _ => rfl) ?_
    exact ⟨6, ⟨by omega, by omega⟩, (by omega), rfl⟩
  have T155_5 : (x = 43 ∨ x = 45) → TT w D pm_259 (155, [(0, .int (i32 x))], [], (mhp (mO m [] []) c, N), 0, 0) (Q_level m c N x) := by
    intro ht6
    refine T_ld 157 (.int (i32 7)) rfl (fun _ => rfl) ?_
    refine T_ret rfl (fun _ => rfl) ?_
    exact ⟨7, ⟨by omega, by omega⟩, (by omega), rfl⟩
  by_cases h7 : x = 4
  · skip
    refine T_cast 4 h7 ?_
    refine T_pop 144 rfl (fun _ => rfl) ?_
    exact T144_1 (by omega)
  by_cases h8 : x = 5
  · skip
    refine T_cast 5 h8 ?_
    refine T_pop 144 rfl (fun _ => rfl) ?_
    exact T144_1 (by omega)
  by_cases h9 : x = 6
  · skip
    refine T_cast 6 h9 ?_
    refine T_pop 144 rfl (fun _ => rfl) ?_
    exact T144_1 (by omega)
  by_cases h10 : x = 7
  · skip
    refine T_cast 7 h10 ?_
    refine T_pop 144 rfl (fun _ => rfl) ?_
    exact T144_1 (by omega)
  by_cases h11 : x = 8
  · skip
    refine T_cast 8 h11 ?_
    refine T_pop 158 rfl (fun _ => rfl) ?_
    refine T_ld 160 (.int (i32 8)) rfl (fun _ => rfl) ?_
    refine T_ret rfl (fun _ => rfl) ?_
    exact ⟨8, ⟨by omega, by omega⟩, (by omega), rfl⟩
  by_cases h12 : x = 9
  · skip
    refine T_cast 9 h12 ?_
    refine T_pop 142 rfl (fun _ => rfl) ?_
    refine T_ld 143 (.int (i32 1)) rfl (fun _ => rfl) ?_
    refine T_ret rfl (fun _ => rfl) ?_
    exact ⟨1, ⟨by omega, by omega⟩, (by omega), rfl⟩
  by_cases h13 : x = 10
  · skip
    refine T_cast 10 h13 ?_
    refine T_pop 140 rfl (fun _ => rfl) ?_
    refine T_ld 141 (.int (i32 0)) rfl (fun _ => rfl) ?_
    refine T_ret rfl (fun _ => rfl) ?_
    exact ⟨0, ⟨by omega, by omega⟩, (by omega), rfl⟩
  by_cases h14 : x = 11
  · skip
    refine T_cast 11 h14 ?_
    refine T_pop 152 rfl (fun _ => rfl) ?_
    exact T152_3 (by omega)
  by_cases h15 : x = 12
  · skip
    refine T_cast 12 h15 ?_
    refine T_pop 152 rfl (fun _ => rfl) ?_
    exact T152_3 (by omega)
  by_cases h16 : x = 38
  · skip
    refine T_cast 38 h16 ?_
    refine T_pop 150 rfl (fun _ => rfl) ?_
    refine T_ld 151 (.int (i32 5)) rfl (fun _ => rfl) ?_
    refine T_ret rfl (fun _ => rfl) ?_
    exact ⟨5, ⟨by omega, by omega⟩, (by omega), rfl⟩
  by_cases h17 : x = 43
  · skip
    refine T_cast 43 h17 ?_
    refine T_pop 155 rfl (fun _ => rfl) ?_
    exact T155_5 (by omega)
  by_cases h18 : x = 45
  · skip
    refine T_cast 45 h18 ?_
    refine T_pop 155 rfl (fun _ => rfl) ?_
    exact T155_5 (by omega)
  by_cases h19 : x = 60
  · skip
    refine T_cast 60 h19 ?_
    refine T_pop 144 rfl (fun _ => rfl) ?_
    exact T144_1 (by omega)
  by_cases h20 : x = 62
  · skip
    refine T_cast 62 h20 ?_
    refine T_pop 144 rfl (fun _ => rfl) ?_
    exact T144_1 (by omega)
  by_cases h21 : x = 94
  · skip
    refine T_cast 94 h21 ?_
    refine T_pop 148 rfl (fun _ => rfl) ?_
    refine T_ld 149 (.int (i32 4)) rfl (fun _ => rfl) ?_
    refine T_ret rfl (fun _ => rfl) ?_
    exact ⟨4, ⟨by omega, by omega⟩, (by omega), rfl⟩
  by_cases h22 : x = 124
  · skip
    refine T_cast 124 h22 ?_
    refine T_pop 146 rfl (fun _ => rfl) ?_
    refine T_ld 147 (.int (i32 3)) rfl (fun _ => rfl) ?_
    refine T_ret rfl (fun _ => rfl) ?_
    exact ⟨3, ⟨by omega, by omega⟩, (by omega), rfl⟩
  refine T_lkd 161 rfl rfl (r32 (by omega) (by omega)) (by simp [Op.lookupswitch.offset, show ¬ ((4 : Int) = x) by omega, show ¬ ((5 : Int) = x) by omega, show ¬ ((6 : Int) = x) by omega, show ¬ ((7 : Int) = x) by omega, show ¬ ((8 : Int) = x) by omega, show ¬ ((9 : Int) = x) by omega, show ¬ ((10 : Int) = x) by omega, show ¬ ((11 : Int) = x) by omega, show ¬ ((12 : Int) = x) by omega, show ¬ ((38 : Int) = x) by omega, show ¬ ((43 : Int) = x) by omega, show ¬ ((45 : Int) = x) by omega, show ¬ ((60 : Int) = x) by omega, show ¬ ((62 : Int) = x) by omega, show ¬ ((94 : Int) = x) by omega, show ¬ ((124 : Int) = x) by omega]) ?_
  refine T_ld 162 (.int (i32 (-1))) rfl (fun _ => rfl) ?_
  refine T_ret rfl (fun _ => rfl) ?_
  exact ⟨(-1), ⟨by omega, by omega⟩, (by omega), rfl⟩
def Q_join (m : mR) (c : Nat → Option am_C) (N : Nat) (jj : Int) (B : Int) : ag_Re af_T → Prop := fun R => ∃ (y10 : Int) (y11 : Int) (y28 : Int) (y69 : Int) (y70 : Int) (y71 : Int) (y72 : Int) (F65 : Int → Int) (F66 : Int → Int) (F67 : Int → Int) (F68 : Int → Int) (F80 : Int → Int), (0 ≤ y10 ∧ y10 ≤ 8) ∧ ((-1) ≤ y11 ∧ y11 ≤ 4000) ∧ (0 ≤ y28 ∧ y28 ≤ 800) ∧ (0 ≤ y69 ∧ y69 ≤ 1024) ∧ (0 ≤ y70 ∧ y70 ≤ 4000) ∧ (0 ≤ y71 ∧ y71 ≤ 1) ∧ ((-9223372036854775808) ≤ y72 ∧ y72 ≤ 9223372036854775807) ∧ (∀ j, 0 ≤ F65 j ∧ F65 j ≤ 408) ∧ (∀ j, 0 ≤ F66 j ∧ F66 j ≤ 64) ∧ (∀ j, 0 ≤ F67 j ∧ F67 j ≤ 191) ∧ (∀ j, (-9223372036854775808) ≤ F68 j ∧ F68 j ≤ 9223372036854775807) ∧ (∀ j, (-1) ≤ F80 j ∧ F80 j ≤ 330) ∧ (y10 = 0 → (m.1 10) = 0) ∧ (y69 ≤ (m.1 69) + 64) ∧ (y10 = 0 → (y69 ≤ 64) ∧ (y28 = (m.1 28) + 1) ∧ (XS F65 F67 (m.2 76) (m.2 78) (m.2 79) F80 B y28 (m.1 73) (m.1 74) 1) ∧ (agr (m.2 65) F65 (m.1 28)) ∧ (F80 = upI (m.2 80) jj (-1))) ∧ R = (.inl (none), (mhp (mO m [(10, y10), (11, y11), (28, y28), (69, y69), (70, y70), (71, y71), (72, y72)] [(65, F65), (66, F66), (67, F67), (68, F68), (80, F80)]) c, N), 0, 0)
set_option maxHeartbeats 8000000 in
theorem c_join (w : wX) (m : mR) (c : Nat → Option am_C) (N D : Nat) (hD : 4 ≤ D) (hT : Ty m) (jj : Int) (B : Int) (qjj : R32 jj) (p0 : 0 ≤ jj ∧ jj ≤ 539) (p1 : (m.1 69) ≤ 900) (hC : m.1 10 = 0 → (XS (m.2 65) (m.2 67) (m.2 76) (m.2 78) (m.2 79) (m.2 80) B (m.1 28) (m.1 73) (m.1 74) 1) ∧ ((m.1 69) ≤ 64) ∧ (1 ≤ (m.1 73)) ∧ (9 * ((m.1 73) - 1) ≤ jj ∧ jj < 9 * (m.1 73)) ∧ (0 ≤ (m.2 80) jj)) : TC w D 260 [.ref 189, .int (i32 jj)] (mhp m c, N) (Q_join m c N jj B) := by
  obtain ⟨D, rfl⟩ : ∃ k, D = k + 1 := ⟨D - 1, by omega⟩
  obtain ⟨qjja, qjjb⟩ := id qjj
  have f10 : 0 ≤ m.1 10 ∧ m.1 10 ≤ 8 := hT.1 10
  have f11 : (-1) ≤ m.1 11 ∧ m.1 11 ≤ 4000 := hT.1 11
  have f28 : 0 ≤ m.1 28 ∧ m.1 28 ≤ 800 := hT.1 28
  have f69 : 0 ≤ m.1 69 ∧ m.1 69 ≤ 1024 := hT.1 69
  have f70 : 0 ≤ m.1 70 ∧ m.1 70 ≤ 4000 := hT.1 70
  have f71 : 0 ≤ m.1 71 ∧ m.1 71 ≤ 1 := hT.1 71
  have f72 : (-9223372036854775808) ≤ m.1 72 ∧ m.1 72 ≤ 9223372036854775807 := hT.1 72
  have f74 : 0 ≤ m.1 74 ∧ m.1 74 ≤ 24 := hT.1 74
  have f73 : 0 ≤ m.1 73 ∧ m.1 73 ≤ 60 := hT.1 73
  refine Tc_of rfl ?_
  show TT w D pm_260 (0, [(0, .ref 189), (1, .int (i32 jj))], [], (mhp m c, N), 0, 0) (Q_join m c N jj B)
  rw [show (mhp m c, N) = (mhp (mO m [(10, (m.1 10)), (11, (m.1 11)), (28, (m.1 28)), (69, (m.1 69)), (70, (m.1 70)), (71, (m.1 71)), (72, (m.1 72))] [(65, (m.2 65)), (66, (m.2 66)), (67, (m.2 67)), (68, (m.2 68)), (80, (m.2 80))]) c, N) from congrArg (fun M => (mhp M c, N)) (mO_pad m [10, 11, 28, 69, 70, 71, 72] [65, 66, 67, 68, 80])]
  by_cases hf0 : m.1 10 = 0
  · skip
    obtain ⟨hXS, c1, c2, c3, c4⟩ := hC hf0
    have hEX := hXS.1.1
    have hl1 := lh_ws (st := (m.2 79)) (ws := (m.2 80)) (hi := (m.1 73)) (i := jj) (by omega) (by omega) (by omega) (by omega)
    have hl0 : 0 ≤ lh (m.2 79) (upI (m.2 80) jj (-1)) (m.1 73) := lh_0 (hT.2.1 79) _ _
    have ha2 := ar_2 (s := (m.2 80) jj) (by have := hT.2.1 80 jj; have e : (m.2 80) jj ≤ 330 := this.2; omega)
    refine T_gf 4 (.ref 243) rfl rfl rfl rfl rfl rfl ?_
    refine T_ld 5 (.int (i32 jj)) rfl (fun _ => rfl) ?_
    refine T_iald 6 81 (m.2 81) rfl rfl rfl (by omega) (show jj < (540 : Int) by omega) rfl ?_
    have e5 : 0 ≤ m.2 81 jj ∧ m.2 81 jj ≤ 64 := hT.2.1 81 jj
    refine T_sto 7 [(2, .int (i32 ((m.2 81) jj))), (0, .ref 189), (1, .int (i32 jj))] rfl (fun _ => rfl) ?_
    refine T_gf 11 (.ref 244) rfl rfl rfl rfl rfl rfl ?_
    refine T_ld 12 (.int (i32 jj)) rfl (fun _ => rfl) ?_
    refine T_iald 13 82 (m.2 82) rfl rfl rfl (by omega) (show jj < (540 : Int) by omega) rfl ?_
    have e6 : 0 ≤ m.2 82 jj ∧ m.2 82 jj ≤ 4000 := hT.2.1 82 jj
    refine T_sto 14 [(3, .int (i32 ((m.2 82) jj))), (2, .int (i32 ((m.2 81) jj))), (0, .ref 189), (1, .int (i32 jj))] rfl (fun _ => rfl) ?_
    refine T_gf 18 (.ref 242) rfl rfl rfl rfl rfl rfl ?_
    refine T_ld 19 (.int (i32 jj)) rfl (fun _ => rfl) ?_
    refine T_iald 20 80 (m.2 80) rfl rfl rfl (by omega) (show jj < (540 : Int) by omega) rfl ?_
    have e7 : (-1) ≤ (m.2 80) jj ∧ (m.2 80) jj ≤ 330 := (hT.2.1 80) jj
    refine T_sto 22 [(4, .int (i32 ((m.2 80) jj))), (3, .int (i32 ((m.2 82) jj))), (2, .int (i32 ((m.2 81) jj))), (0, .ref 189), (1, .int (i32 jj))] rfl (fun _ => rfl) ?_
    refine T_gf 26 (.int (i32 (m.1 69))) rfl rfl rfl rfl rfl rfl ?_
    refine T_sto 28 [(5, .int (i32 (m.1 69))), (4, .int (i32 ((m.2 80) jj))), (3, .int (i32 ((m.2 82) jj))), (2, .int (i32 ((m.2 81) jj))), (0, .ref 189), (1, .int (i32 jj))] rfl (fun _ => rfl) ?_
    refine T_gf 32 (.ref 242) rfl rfl rfl rfl rfl rfl ?_
    refine T_ld 33 (.int (i32 jj)) rfl (fun _ => rfl) ?_
    refine T_iald 34 80 (m.2 80) rfl rfl rfl (by omega) (show jj < (540 : Int) by omega) rfl ?_
    have e8 : (-1) ≤ (m.2 80) jj ∧ (m.2 80) jj ≤ 330 := (hT.2.1 80) jj
    refine T_call 37 259 [.int (i32 ((m.2 80) jj))] [] rfl (fun _ => rfl) rfl (c_level w (mO m [(10, (m.1 10)), (11, (m.1 11)), (28, (m.1 28)), (69, (m.1 69)), (70, (m.1 70)), (71, (m.1 71)), (72, (m.1 72))] [(65, (m.2 65)), (66, (m.2 66)), (67, (m.2 67)), (68, (m.2 68)), (80, (m.2 80))]) c N D (by omega) (Ty_mO hT rfl rfl ⟨f10, f11, f28, f69, f70, f71, f72, trivial⟩ ⟨(hT.2.1 65), (hT.2.1 66), (hT.2.1 67), (hT.2.1 68), (hT.2.1 80), trivial⟩) ((m.2 80) jj) (r32 (by omega) (by omega))) (fun rr9 k10 => ?_)
    obtain ⟨x11, g12, h13, rfl⟩ := k10
    refine ⟨_, _, rfl, ?_⟩
    refine T_nf (st' := [.int (i32 x11)]) (l' := [(10, (m.1 10)), (11, (m.1 11)), (28, (m.1 28)), (69, (m.1 69)), (70, (m.1 70)), (71, (m.1 71)), (72, (m.1 72))]) (a' := [(65, (m.2 65)), (66, (m.2 66)), (67, (m.2 67)), (68, (m.2 68)), (80, (m.2 80))]) rfl rfl rfl rfl rfl ?_
    obtain ⟨g12a, g12b⟩ := g12
    replace h13 : 0 ≤ x11 → 4 ≤ ((m.2 80) jj) ∧ ((m.2 80) jj) ≤ 124 := h13
    have J261_17 : ∀ (v14 : Int) (y15 : Int) (y16 : Int), (R32 v14) → (0 ≤ y15 ∧ y15 ≤ 8) → ((-1) ≤ y16 ∧ y16 ≤ 4000) → (0 ≤ v14 ∧ v14 ≤ (m.1 69) + 64) → (y15 = 0 → (v14 ≤ 64)) → TT w D pm_260 (261, [(0, .ref 189), (1, .int (i32 jj)), (2, .int (i32 v14)), (3, .int (i32 ((m.2 82) jj))), (4, .int (i32 ((m.2 80) jj))), (5, .int (i32 (m.1 69)))], [.int (i32 x11)], (mhp (mO m [(10, y15), (11, y16), (28, (m.1 28)), (69, (m.1 69)), (70, (m.1 70)), (71, (m.1 71)), (72, (m.1 72))] [(65, (m.2 65)), (66, (m.2 66)), (67, (m.2 67)), (68, (m.2 68)), (80, (m.2 80))]) c, N), 0, 0) (Q_join m c N jj B) := by
      intro v14 y15 y16 q18 q19 q20 ic21 c22
      obtain ⟨q18a, q18b⟩ := id q18
      by_cases hf23 : y15 = 0
      · skip
        subst hf23
        have c24 := c22 rfl
        refine T_gf 265 (.ref 242) rfl rfl rfl rfl rfl rfl ?_
        refine T_ld 266 (.int (i32 jj)) rfl (fun _ => rfl) ?_
        refine T_ld 267 (.int (i32 (-1))) rfl (fun _ => rfl) ?_
        have G25 : ∀ j, (-1) ≤ (upI (m.2 80) jj (-1)) j ∧ (upI (m.2 80) jj (-1)) j ≤ 330 := upI_rg (hT.2.1 80) ⟨by omega, by omega⟩
        refine T_iast (a' := [(65, (m.2 65)), (66, (m.2 66)), (67, (m.2 67)), (68, (m.2 68)), (80, upI (m.2 80) jj (-1))]) 268 80 (m.2 80) rfl rfl rfl (by omega) (show jj < (540 : Int) by omega) rfl rfl ?_
        have hAr : ar ((m.2 80) jj) ≤ 1 + lh (m.2 79) (m.2 80) (m.1 73) := by omega
        have hCk : CNk ((m.2 80) jj) (m.1 69) := by refine ⟨?_, ?_, ?_, ?_⟩ <;> omega
        refine T_ld 269 (.ref 189) rfl (fun _ => rfl) ?_
        refine T_ld 271 (.int (i32 ((m.2 80) jj))) rfl (fun _ => rfl) ?_
        refine T_ld 272 (.int (i32 v14)) rfl (fun _ => rfl) ?_
        refine T_ld 274 (.int (i32 (m.1 69))) rfl (fun _ => rfl) ?_
        refine T_ld 275 (.long (i64 0)) rfl (fun _ => rfl) ?_
        refine T_call 278 248 [.ref 189, .int (i32 ((m.2 80) jj)), .int (i32 v14), .int (i32 (m.1 69)), .long (i64 0)] [.int (i32 x11)] rfl (fun _ => rfl) rfl (c_node w (mO m [(10, 0), (11, y16), (28, (m.1 28)), (69, (m.1 69)), (70, (m.1 70)), (71, (m.1 71)), (72, (m.1 72))] [(65, (m.2 65)), (66, (m.2 66)), (67, (m.2 67)), (68, (m.2 68)), (80, upI (m.2 80) jj (-1))]) c N D (by omega) (Ty_mO hT rfl rfl ⟨⟨(by omega : (0 : Int) ≤ 0), (by omega : (0 : Int) ≤ 8)⟩, q20, f28, f69, f70, f71, f72, trivial⟩ ⟨(hT.2.1 65), (hT.2.1 66), (hT.2.1 67), (hT.2.1 68), G25, trivial⟩) ((m.2 80) jj) v14 (m.1 69) 0 B (1 + lh (m.2 79) (m.2 80) (m.1 73)) (r32 (by omega) (by omega)) (r32 (by omega) (by omega)) (r32 (by omega) (by omega)) ⟨by decide, by decide⟩ (fun _ => ⟨(show 0 ≤ ((m.2 80) jj) ∧ ((m.2 80) jj) ≤ 408 by first | omega | decide), (show 0 ≤ v14 ∧ v14 ≤ 64 by first | omega | decide), (show 0 ≤ (m.1 69) ∧ (m.1 69) ≤ 191 by first | omega | decide), (show CNk ((m.2 80) jj) (m.1 69) by first | exact hCk | (refine ⟨?_, ?_, ?_, ?_⟩ <;> omega)), (show ar ((m.2 80) jj) ≤ (1 + lh (m.2 79) (m.2 80) (m.1 73)) by first | exact hAr | omega), (show EX (m.2 65) (m.2 67) B (m.1 28) (1 + lh (m.2 79) (m.2 80) (m.1 73)) by first | exact hEX | assumption)⟩)) (fun rr26 k27 => ?_)
        obtain ⟨y28, y30, y32, F34, F36, F38, F40, g29, g31, g33, G35, G37, G39, G41, h42, c43, rfl⟩ := k27
        refine ⟨_, _, rfl, ?_⟩
        refine T_nf (st' := [.int (i32 x11)]) (l' := [(10, y28), (11, y30), (28, y32), (69, (m.1 69)), (70, (m.1 70)), (71, (m.1 71)), (72, (m.1 72))]) (a' := [(65, F34), (66, F36), (67, F38), (68, F40), (80, upI (m.2 80) jj (-1))]) rfl rfl rfl rfl rfl ?_
        by_cases hf44 : y28 = 0
        · skip
          subst hf44
          replace h42 : (0 : Int) = 0 := h42 rfl
          obtain ⟨c45, c46, c47⟩ := c43 rfl
          replace c45 : y32 = (m.1 28) + 1 := c45
          replace c46 : EX F34 F38 B y32 ((1 + lh (m.2 79) (m.2 80) (m.1 73)) + 1 - ar ((m.2 80) jj)) := c46
          have hEX := c46
          replace c47 : agr (m.2 65) F34 (m.1 28) := c47
          have hAg := c47
          clear c43
          clear q19 q20 g29
          have hXE : XS F34 F38 (m.2 76) (m.2 78) (m.2 79) (upI (m.2 80) jj (-1)) B y32 (m.1 73) (m.1 74) 1 := XS_of (XS_ws (x := -1) (U' := 1) hXS (by omega) (by omega) (by omega) (by rw [if_neg (by omega)]; have := cn1_0 (m.2 80) jj; omega)) hEX (by omega)
          refine T_ld 279 (.ref 189) rfl (fun _ => rfl) ?_
          refine T_ld 280 (.int (i32 v14)) rfl (fun _ => rfl) ?_
          refine T_ld 281 (.int (i32 ((m.2 82) jj))) rfl (fun _ => rfl) ?_
          refine T_call 284 250 [.ref 189, .int (i32 v14), .int (i32 ((m.2 82) jj))] [.int (i32 x11)] rfl (fun _ => rfl) rfl (c_unit w (mO m [(10, 0), (11, y30), (28, y32), (69, (m.1 69)), (70, (m.1 70)), (71, (m.1 71)), (72, (m.1 72))] [(65, F34), (66, F36), (67, F38), (68, F40), (80, upI (m.2 80) jj (-1))]) c N D (by omega) (Ty_mO hT rfl rfl ⟨⟨(by omega : (0 : Int) ≤ 0), (by omega : (0 : Int) ≤ 8)⟩, g31, g33, f69, f70, f71, f72, trivial⟩ ⟨G35, G37, G39, G41, G25, trivial⟩) v14 ((m.2 82) jj) (r32 (by omega) (by omega)) (r32 (by omega) (by omega)) (show 0 ≤ v14 ∧ v14 ≤ 1024 by omega) (show 0 ≤ ((m.2 82) jj) ∧ ((m.2 82) jj) ≤ 4000 by omega)) (fun rr48 k49 => ?_)
          obtain ⟨y50, y52, y54, y56, g51, g53, g55, g57, h58, rfl⟩ := k49
          refine ⟨_, _, rfl, ?_⟩
          refine T_nf (st' := [.int (i32 x11)]) (l' := [(10, 0), (11, y30), (28, y32), (69, y50), (70, y52), (71, y54), (72, y56)]) (a' := [(65, F34), (66, F36), (67, F38), (68, F40), (80, upI (m.2 80) jj (-1))]) rfl rfl rfl rfl rfl ?_
          replace h58 : y50 = v14 := h58
          refine T_ret rfl (fun _ => rfl) ?_
          exact ⟨0, y30, y32, y50, y52, y54, y56, F34, F36, F38, F40, upI (m.2 80) jj (-1), ⟨by omega, by omega⟩, g31, g33, g51, g53, g55, g57, G35, G37, G39, G41, G25, (by omega), (by omega), (fun _ => ⟨(by omega), (by omega), (by first | (exact hXE) | (exfalso; omega)), (by first | (exact hAg) | (exfalso; omega)), (by rfl)⟩), rfl⟩
        · skip
          clear c43
          clear h42
          have hf59 : 1 ≤ y28 := by omega
          clear q19 q20
          refine T_ld 279 (.ref 189) rfl (fun _ => rfl) ?_
          refine T_ld 280 (.int (i32 v14)) rfl (fun _ => rfl) ?_
          refine T_ld 281 (.int (i32 ((m.2 82) jj))) rfl (fun _ => rfl) ?_
          refine T_call 284 250 [.ref 189, .int (i32 v14), .int (i32 ((m.2 82) jj))] [.int (i32 x11)] rfl (fun _ => rfl) rfl (c_unit w (mO m [(10, y28), (11, y30), (28, y32), (69, (m.1 69)), (70, (m.1 70)), (71, (m.1 71)), (72, (m.1 72))] [(65, F34), (66, F36), (67, F38), (68, F40), (80, upI (m.2 80) jj (-1))]) c N D (by omega) (Ty_mO hT rfl rfl ⟨g29, g31, g33, f69, f70, f71, f72, trivial⟩ ⟨G35, G37, G39, G41, G25, trivial⟩) v14 ((m.2 82) jj) (r32 (by omega) (by omega)) (r32 (by omega) (by omega)) (show 0 ≤ v14 ∧ v14 ≤ 1024 by omega) (show 0 ≤ ((m.2 82) jj) ∧ ((m.2 82) jj) ≤ 4000 by omega)) (fun rr60 k61 => ?_)
          obtain ⟨y62, y64, y66, y68, g63, g65, g67, g69, h70, rfl⟩ := k61
          refine ⟨_, _, rfl, ?_⟩
          refine T_nf (st' := [.int (i32 x11)]) (l' := [(10, y28), (11, y30), (28, y32), (69, y62), (70, y64), (71, y66), (72, y68)]) (a' := [(65, F34), (66, F36), (67, F38), (68, F40), (80, upI (m.2 80) jj (-1))]) rfl rfl rfl rfl rfl ?_
          replace h70 : y62 = v14 := h70
          refine T_ret rfl (fun _ => rfl) ?_
          exact ⟨y28, y30, y32, y62, y64, y66, y68, F34, F36, F38, F40, upI (m.2 80) jj (-1), g29, g31, g33, g63, g65, g67, g69, G35, G37, G39, G41, G25, (by omega), (by omega), (fun h => absurd h (by omega)), rfl⟩
      · skip
        clear c22
        have hf71 : 1 ≤ y15 := by omega
        refine T_gf 265 (.ref 242) rfl rfl rfl rfl rfl rfl ?_
        refine T_ld 266 (.int (i32 jj)) rfl (fun _ => rfl) ?_
        refine T_ld 267 (.int (i32 (-1))) rfl (fun _ => rfl) ?_
        have G72 : ∀ j, (-1) ≤ (upI (m.2 80) jj (-1)) j ∧ (upI (m.2 80) jj (-1)) j ≤ 330 := upI_rg (hT.2.1 80) ⟨by omega, by omega⟩
        refine T_iast (a' := [(65, (m.2 65)), (66, (m.2 66)), (67, (m.2 67)), (68, (m.2 68)), (80, upI (m.2 80) jj (-1))]) 268 80 (m.2 80) rfl rfl rfl (by omega) (show jj < (540 : Int) by omega) rfl rfl ?_
        refine T_ld 269 (.ref 189) rfl (fun _ => rfl) ?_
        refine T_ld 271 (.int (i32 ((m.2 80) jj))) rfl (fun _ => rfl) ?_
        refine T_ld 272 (.int (i32 v14)) rfl (fun _ => rfl) ?_
        refine T_ld 274 (.int (i32 (m.1 69))) rfl (fun _ => rfl) ?_
        refine T_ld 275 (.long (i64 0)) rfl (fun _ => rfl) ?_
        refine T_call 278 248 [.ref 189, .int (i32 ((m.2 80) jj)), .int (i32 v14), .int (i32 (m.1 69)), .long (i64 0)] [.int (i32 x11)] rfl (fun _ => rfl) rfl (c_node w (mO m [(10, y15), (11, y16), (28, (m.1 28)), (69, (m.1 69)), (70, (m.1 70)), (71, (m.1 71)), (72, (m.1 72))] [(65, (m.2 65)), (66, (m.2 66)), (67, (m.2 67)), (68, (m.2 68)), (80, upI (m.2 80) jj (-1))]) c N D (by omega) (Ty_mO hT rfl rfl ⟨q19, q20, f28, f69, f70, f71, f72, trivial⟩ ⟨(hT.2.1 65), (hT.2.1 66), (hT.2.1 67), (hT.2.1 68), G72, trivial⟩) ((m.2 80) jj) v14 (m.1 69) 0 B (1 + lh (m.2 79) (m.2 80) (m.1 73)) (r32 (by omega) (by omega)) (r32 (by omega) (by omega)) (r32 (by omega) (by omega)) ⟨by decide, by decide⟩ (fun (h : y15 = 0) => absurd h (by omega))) (fun rr73 k74 => ?_)
        obtain ⟨y75, y77, y79, F81, F83, F85, F87, g76, g78, g80, G82, G84, G86, G88, h89, c90, rfl⟩ := k74
        refine ⟨_, _, rfl, ?_⟩
        refine T_nf (st' := [.int (i32 x11)]) (l' := [(10, y75), (11, y77), (28, y79), (69, (m.1 69)), (70, (m.1 70)), (71, (m.1 71)), (72, (m.1 72))]) (a' := [(65, F81), (66, F83), (67, F85), (68, F87), (80, upI (m.2 80) jj (-1))]) rfl rfl rfl rfl rfl ?_
        replace h89 : y75 = 0 → y15 = 0 := h89
        have hf91 : 1 ≤ y75 := by omega
        clear c90
        clear h89
        clear q19 q20 hf71
        refine T_ld 279 (.ref 189) rfl (fun _ => rfl) ?_
        refine T_ld 280 (.int (i32 v14)) rfl (fun _ => rfl) ?_
        refine T_ld 281 (.int (i32 ((m.2 82) jj))) rfl (fun _ => rfl) ?_
        refine T_call 284 250 [.ref 189, .int (i32 v14), .int (i32 ((m.2 82) jj))] [.int (i32 x11)] rfl (fun _ => rfl) rfl (c_unit w (mO m [(10, y75), (11, y77), (28, y79), (69, (m.1 69)), (70, (m.1 70)), (71, (m.1 71)), (72, (m.1 72))] [(65, F81), (66, F83), (67, F85), (68, F87), (80, upI (m.2 80) jj (-1))]) c N D (by omega) (Ty_mO hT rfl rfl ⟨g76, g78, g80, f69, f70, f71, f72, trivial⟩ ⟨G82, G84, G86, G88, G72, trivial⟩) v14 ((m.2 82) jj) (r32 (by omega) (by omega)) (r32 (by omega) (by omega)) (show 0 ≤ v14 ∧ v14 ≤ 1024 by omega) (show 0 ≤ ((m.2 82) jj) ∧ ((m.2 82) jj) ≤ 4000 by omega)) (fun rr92 k93 => ?_)
        obtain ⟨y94, y96, y98, y100, g95, g97, g99, g101, h102, rfl⟩ := k93
        refine ⟨_, _, rfl, ?_⟩
        refine T_nf (st' := [.int (i32 x11)]) (l' := [(10, y75), (11, y77), (28, y79), (69, y94), (70, y96), (71, y98), (72, y100)]) (a' := [(65, F81), (66, F83), (67, F85), (68, F87), (80, upI (m.2 80) jj (-1))]) rfl rfl rfl rfl rfl ?_
        replace h102 : y94 = v14 := h102
        refine T_ret rfl (fun _ => rfl) ?_
        exact ⟨y75, y77, y79, y94, y96, y98, y100, F81, F83, F85, F87, upI (m.2 80) jj (-1), g76, g78, g80, g95, g97, g99, g101, G82, G84, G86, G88, G72, (by omega), (by omega), (fun h => absurd h (by omega)), rfl⟩
    have T88_103 : (x11 = 0 ∨ x11 = 1) → TT w D pm_260 (88, [(5, .int (i32 (m.1 69))), (4, .int (i32 ((m.2 80) jj))), (3, .int (i32 ((m.2 82) jj))), (2, .int (i32 ((m.2 81) jj))), (0, .ref 189), (1, .int (i32 jj))], [], (mhp (mO m [(10, (m.1 10)), (11, (m.1 11)), (28, (m.1 28)), (69, (m.1 69)), (70, (m.1 70)), (71, (m.1 71)), (72, (m.1 72))] [(65, (m.2 65)), (66, (m.2 66)), (67, (m.2 67)), (68, (m.2 68)), (80, (m.2 80))]) c, N), 0, 0) (Q_join m c N jj B) := by
      intro ht104
      refine T_ld 89 (.ref 189) rfl (fun _ => rfl) ?_
      refine T_ld 90 (.int (i32 ((m.2 81) jj))) rfl (fun _ => rfl) ?_
      refine T_gf 94 (.ref 245) rfl rfl rfl rfl rfl rfl ?_
      refine T_ld 95 (.int (i32 jj)) rfl (fun _ => rfl) ?_
      refine T_bald 96 83 (m.2 83) rfl rfl rfl (by omega) (show jj < (540 : Int) by omega) rfl ?_
      have e105 : 0 ≤ m.2 83 jj ∧ m.2 83 jj ≤ 1 := hT.2.1 83 jj
      refine T_gf 100 (.ref 246) rfl rfl rfl rfl rfl rfl ?_
      refine T_ld 101 (.int (i32 jj)) rfl (fun _ => rfl) ?_
      refine T_lald 102 84 (m.2 84) rfl rfl rfl (by omega) (show jj < (540 : Int) by omega) rfl ?_
      have e106 : (-9223372036854775808) ≤ m.2 84 jj ∧ m.2 84 jj ≤ 9223372036854775807 := hT.2.1 84 jj
      refine T_ld 103 (.int (i32 ((m.2 82) jj))) rfl (fun _ => rfl) ?_
      refine T_call 106 258 [.ref 189, .int (i32 ((m.2 81) jj)), .int (i32 ((m.2 83) jj)), .long (i64 ((m.2 84) jj)), .int (i32 ((m.2 82) jj))] [] rfl (fun _ => rfl) rfl (c_wantBit w (mO m [(10, (m.1 10)), (11, (m.1 11)), (28, (m.1 28)), (69, (m.1 69)), (70, (m.1 70)), (71, (m.1 71)), (72, (m.1 72))] [(65, (m.2 65)), (66, (m.2 66)), (67, (m.2 67)), (68, (m.2 68)), (80, (m.2 80))]) c N D (by omega) (Ty_mO hT rfl rfl ⟨f10, f11, f28, f69, f70, f71, f72, trivial⟩ ⟨(hT.2.1 65), (hT.2.1 66), (hT.2.1 67), (hT.2.1 68), (hT.2.1 80), trivial⟩) ((m.2 81) jj) ((m.2 83) jj) ((m.2 84) jj) ((m.2 82) jj) (r32 (by omega) (by omega)) (r32 (by omega) (by omega)) (r64 (by omega) (by omega)) (r32 (by omega) (by omega)) (show 0 ≤ ((m.2 82) jj) ∧ ((m.2 82) jj) ≤ 4000 by omega) (fun _ => trivial)) (fun rr107 k108 => ?_)
      obtain ⟨y109, y111, g110, g112, h113, c114, rfl⟩ := k108
      refine ⟨_, _, rfl, ?_⟩
      refine T_nf (st' := []) (l' := [(10, y109), (11, y111), (28, (m.1 28)), (69, (m.1 69)), (70, (m.1 70)), (71, (m.1 71)), (72, (m.1 72))]) (a' := [(65, (m.2 65)), (66, (m.2 66)), (67, (m.2 67)), (68, (m.2 68)), (80, (m.2 80))]) rfl rfl rfl rfl rfl ?_
      by_cases hf115 : y109 = 0
      · skip
        subst hf115
        replace h113 : (m.1 10) = 0 := h113 rfl
        clear c114
        clear g12a g12b h13 g110
        refine T_ld 107 (.ref 189) rfl (fun _ => rfl) ?_
        refine T_gf 111 (.int (i32 (m.1 69))) rfl rfl rfl rfl rfl rfl ?_
        refine T_gf 115 (.int (i32 (m.1 71))) rfl rfl rfl rfl rfl rfl ?_
        refine T_gf 119 (.long (i64 (m.1 72))) rfl rfl rfl rfl rfl rfl ?_
        refine T_gf 123 (.int (i32 (m.1 70))) rfl rfl rfl rfl rfl rfl ?_
        refine T_call 126 258 [.ref 189, .int (i32 (m.1 69)), .int (i32 (m.1 71)), .long (i64 (m.1 72)), .int (i32 (m.1 70))] [] rfl (fun _ => rfl) rfl (c_wantBit w (mO m [(10, 0), (11, y111), (28, (m.1 28)), (69, (m.1 69)), (70, (m.1 70)), (71, (m.1 71)), (72, (m.1 72))] [(65, (m.2 65)), (66, (m.2 66)), (67, (m.2 67)), (68, (m.2 68)), (80, (m.2 80))]) c N D (by omega) (Ty_mO hT rfl rfl ⟨⟨(by omega : (0 : Int) ≤ 0), (by omega : (0 : Int) ≤ 8)⟩, g112, f28, f69, f70, f71, f72, trivial⟩ ⟨(hT.2.1 65), (hT.2.1 66), (hT.2.1 67), (hT.2.1 68), (hT.2.1 80), trivial⟩) (m.1 69) (m.1 71) (m.1 72) (m.1 70) (r32 (by omega) (by omega)) (r32 (by omega) (by omega)) (r64 (by omega) (by omega)) (r32 (by omega) (by omega)) (show 0 ≤ (m.1 70) ∧ (m.1 70) ≤ 4000 by omega) (fun _ => trivial)) (fun rr116 k117 => ?_)
        obtain ⟨y118, y120, g119, g121, h122, c123, rfl⟩ := k117
        refine ⟨_, _, rfl, ?_⟩
        refine T_nf (st' := []) (l' := [(10, y118), (11, y120), (28, (m.1 28)), (69, (m.1 69)), (70, (m.1 70)), (71, (m.1 71)), (72, (m.1 72))]) (a' := [(65, (m.2 65)), (66, (m.2 66)), (67, (m.2 67)), (68, (m.2 68)), (80, (m.2 80))]) rfl rfl rfl rfl rfl ?_
        by_cases hf124 : y118 = 0
        · skip
          subst hf124
          replace h122 : (0 : Int) = 0 := h122 rfl
          clear c123
          clear g112 g119
          refine T_ld 127 (.int (i32 1)) rfl (fun _ => rfl) ?_
          refine T_sto 128 [(2, .int (i32 1)), (5, .int (i32 (m.1 69))), (4, .int (i32 ((m.2 80) jj))), (3, .int (i32 ((m.2 82) jj))), (0, .ref 189), (1, .int (i32 jj))] rfl (fun _ => rfl) ?_
          refine T_goto 261 rfl (fun _ => rfl) ?_
          refine Tm_lv (a := [(0, .ref 189), (1, .int (i32 jj)), (2, .int (i32 1)), (3, .int (i32 ((m.2 82) jj))), (4, .int (i32 ((m.2 80) jj))), (5, .int (i32 (m.1 69)))]) rfl rfl ⟨rfl, rfl, rfl, rfl, rfl, rfl, trivial⟩ ?_
          exact J261_17 1 0 y120 ⟨by decide, by decide⟩ ⟨by omega, by omega⟩ g121 (by omega) (fun _ => (by omega))
        · skip
          clear c123
          clear h122
          have hf125 : 1 ≤ y118 := by omega
          clear g112
          refine T_ld 127 (.int (i32 1)) rfl (fun _ => rfl) ?_
          refine T_sto 128 [(2, .int (i32 1)), (5, .int (i32 (m.1 69))), (4, .int (i32 ((m.2 80) jj))), (3, .int (i32 ((m.2 82) jj))), (0, .ref 189), (1, .int (i32 jj))] rfl (fun _ => rfl) ?_
          refine T_goto 261 rfl (fun _ => rfl) ?_
          refine Tm_lv (a := [(0, .ref 189), (1, .int (i32 jj)), (2, .int (i32 1)), (3, .int (i32 ((m.2 82) jj))), (4, .int (i32 ((m.2 80) jj))), (5, .int (i32 (m.1 69)))]) rfl rfl ⟨rfl, rfl, rfl, rfl, rfl, rfl, trivial⟩ ?_
          exact J261_17 1 y118 y120 ⟨by decide, by decide⟩ g119 g121 (by omega) (fun h => absurd h (by omega))
      · skip
        clear c114
        clear h113
        have hf126 : 1 ≤ y109 := by omega
        clear g12a g12b h13
        refine T_ld 107 (.ref 189) rfl (fun _ => rfl) ?_
        refine T_gf 111 (.int (i32 (m.1 69))) rfl rfl rfl rfl rfl rfl ?_
        refine T_gf 115 (.int (i32 (m.1 71))) rfl rfl rfl rfl rfl rfl ?_
        refine T_gf 119 (.long (i64 (m.1 72))) rfl rfl rfl rfl rfl rfl ?_
        refine T_gf 123 (.int (i32 (m.1 70))) rfl rfl rfl rfl rfl rfl ?_
        refine T_call 126 258 [.ref 189, .int (i32 (m.1 69)), .int (i32 (m.1 71)), .long (i64 (m.1 72)), .int (i32 (m.1 70))] [] rfl (fun _ => rfl) rfl (c_wantBit w (mO m [(10, y109), (11, y111), (28, (m.1 28)), (69, (m.1 69)), (70, (m.1 70)), (71, (m.1 71)), (72, (m.1 72))] [(65, (m.2 65)), (66, (m.2 66)), (67, (m.2 67)), (68, (m.2 68)), (80, (m.2 80))]) c N D (by omega) (Ty_mO hT rfl rfl ⟨g110, g112, f28, f69, f70, f71, f72, trivial⟩ ⟨(hT.2.1 65), (hT.2.1 66), (hT.2.1 67), (hT.2.1 68), (hT.2.1 80), trivial⟩) (m.1 69) (m.1 71) (m.1 72) (m.1 70) (r32 (by omega) (by omega)) (r32 (by omega) (by omega)) (r64 (by omega) (by omega)) (r32 (by omega) (by omega)) (show 0 ≤ (m.1 70) ∧ (m.1 70) ≤ 4000 by omega) (fun (h : y109 = 0) => absurd h (by omega))) (fun rr127 k128 => ?_)
        obtain ⟨y129, y131, g130, g132, h133, c134, rfl⟩ := k128
        refine ⟨_, _, rfl, ?_⟩
        refine T_nf (st' := []) (l' := [(10, y129), (11, y131), (28, (m.1 28)), (69, (m.1 69)), (70, (m.1 70)), (71, (m.1 71)), (72, (m.1 72))]) (a' := [(65, (m.2 65)), (66, (m.2 66)), (67, (m.2 67)), (68, (m.2 68)), (80, (m.2 80))]) rfl rfl rfl rfl rfl ?_
        replace h133 : y129 = 0 → y109 = 0 := h133
        have hf135 : 1 ≤ y129 := by omega
        clear c134
        clear h133
        clear g110 g112 hf126
        refine T_ld 127 (.int (i32 1)) rfl (fun _ => rfl) ?_
        refine T_sto 128 [(2, .int (i32 1)), (5, .int (i32 (m.1 69))), (4, .int (i32 ((m.2 80) jj))), (3, .int (i32 ((m.2 82) jj))), (0, .ref 189), (1, .int (i32 jj))] rfl (fun _ => rfl) ?_
        refine T_goto 261 rfl (fun _ => rfl) ?_
        refine Tm_lv (a := [(0, .ref 189), (1, .int (i32 jj)), (2, .int (i32 1)), (3, .int (i32 ((m.2 82) jj))), (4, .int (i32 ((m.2 80) jj))), (5, .int (i32 (m.1 69)))]) rfl rfl ⟨rfl, rfl, rfl, rfl, rfl, rfl, trivial⟩ ?_
        exact J261_17 1 y129 y131 ⟨by decide, by decide⟩ g130 g132 (by omega) (fun h => absurd h (by omega))
    have T207_136 : TT w D pm_260 (207, [(5, .int (i32 (m.1 69))), (4, .int (i32 ((m.2 80) jj))), (3, .int (i32 ((m.2 82) jj))), (2, .int (i32 ((m.2 81) jj))), (0, .ref 189), (1, .int (i32 jj))], [], (mhp (mO m [(10, (m.1 10)), (11, (m.1 11)), (28, (m.1 28)), (69, (m.1 69)), (70, (m.1 70)), (71, (m.1 71)), (72, (m.1 72))] [(65, (m.2 65)), (66, (m.2 66)), (67, (m.2 67)), (68, (m.2 68)), (80, (m.2 80))]) c, N), 0, 0) (Q_join m c N jj B) := by
      refine T_ld 208 (.ref 189) rfl (fun _ => rfl) ?_
      refine T_ld 209 (.int (i32 ((m.2 81) jj))) rfl (fun _ => rfl) ?_
      refine T_gf 213 (.ref 245) rfl rfl rfl rfl rfl rfl ?_
      refine T_ld 214 (.int (i32 jj)) rfl (fun _ => rfl) ?_
      refine T_bald 215 83 (m.2 83) rfl rfl rfl (by omega) (show jj < (540 : Int) by omega) rfl ?_
      have e138 : 0 ≤ m.2 83 jj ∧ m.2 83 jj ≤ 1 := hT.2.1 83 jj
      refine T_gf 219 (.ref 246) rfl rfl rfl rfl rfl rfl ?_
      refine T_ld 220 (.int (i32 jj)) rfl (fun _ => rfl) ?_
      refine T_lald 221 84 (m.2 84) rfl rfl rfl (by omega) (show jj < (540 : Int) by omega) rfl ?_
      have e139 : (-9223372036854775808) ≤ m.2 84 jj ∧ m.2 84 jj ≤ 9223372036854775807 := hT.2.1 84 jj
      refine T_ld 222 (.int (i32 ((m.2 82) jj))) rfl (fun _ => rfl) ?_
      refine T_gf 226 (.int (i32 (m.1 69))) rfl rfl rfl rfl rfl rfl ?_
      refine T_gf 230 (.int (i32 (m.1 71))) rfl rfl rfl rfl rfl rfl ?_
      refine T_gf 234 (.long (i64 (m.1 72))) rfl rfl rfl rfl rfl rfl ?_
      refine T_gf 238 (.int (i32 (m.1 70))) rfl rfl rfl rfl rfl rfl ?_
      refine T_call 241 261 [.ref 189, .int (i32 ((m.2 81) jj)), .int (i32 ((m.2 83) jj)), .long (i64 ((m.2 84) jj)), .int (i32 ((m.2 82) jj)), .int (i32 (m.1 69)), .int (i32 (m.1 71)), .long (i64 (m.1 72)), .int (i32 (m.1 70))] [] rfl (fun _ => rfl) rfl (c_common w (mO m [(10, (m.1 10)), (11, (m.1 11)), (28, (m.1 28)), (69, (m.1 69)), (70, (m.1 70)), (71, (m.1 71)), (72, (m.1 72))] [(65, (m.2 65)), (66, (m.2 66)), (67, (m.2 67)), (68, (m.2 68)), (80, (m.2 80))]) c N D (by omega) (Ty_mO hT rfl rfl ⟨f10, f11, f28, f69, f70, f71, f72, trivial⟩ ⟨(hT.2.1 65), (hT.2.1 66), (hT.2.1 67), (hT.2.1 68), (hT.2.1 80), trivial⟩) ((m.2 81) jj) ((m.2 83) jj) ((m.2 84) jj) ((m.2 82) jj) (m.1 69) (m.1 71) (m.1 72) (m.1 70) (r32 (by omega) (by omega)) (r32 (by omega) (by omega)) (r64 (by omega) (by omega)) (r32 (by omega) (by omega)) (r32 (by omega) (by omega)) (r32 (by omega) (by omega)) (r64 (by omega) (by omega)) (r32 (by omega) (by omega)) (show 0 ≤ ((m.2 82) jj) ∧ ((m.2 82) jj) ≤ 4000 by omega) (show 0 ≤ (m.1 70) ∧ (m.1 70) ≤ 4000 by omega) (show 0 ≤ ((m.2 81) jj) ∧ ((m.2 81) jj) ≤ 1024 by omega) (show 0 ≤ (m.1 69) ∧ (m.1 69) ≤ 1024 by omega) (fun _ => trivial)) (fun rr140 k141 => ?_)
      obtain ⟨y142, y144, x146, g143, g145, g147, h148, h149, c150, rfl⟩ := k141
      refine ⟨_, _, rfl, ?_⟩
      refine T_nf (st' := [.int (i32 x146)]) (l' := [(10, y142), (11, y144), (28, (m.1 28)), (69, (m.1 69)), (70, (m.1 70)), (71, (m.1 71)), (72, (m.1 72))]) (a' := [(65, (m.2 65)), (66, (m.2 66)), (67, (m.2 67)), (68, (m.2 68)), (80, (m.2 80))]) rfl rfl rfl rfl rfl ?_
      obtain ⟨g147a, g147b⟩ := g147
      by_cases hf151 : y142 = 0
      · skip
        subst hf151
        replace h148 : (m.1 10) = 0 := h148 rfl
        replace h149 : x146 = 64 ∨ x146 = ((m.2 81) jj) ∨ x146 = (m.1 69) := h149
        clear c150
        clear g12a g12b h13 g143
        refine T_sto 242 [(2, .int (i32 x146)), (5, .int (i32 (m.1 69))), (4, .int (i32 ((m.2 80) jj))), (3, .int (i32 ((m.2 82) jj))), (0, .ref 189), (1, .int (i32 jj))] rfl (fun _ => rfl) ?_
        refine T_gf 246 (.ref 242) rfl rfl rfl rfl rfl rfl ?_
        refine T_ld 247 (.int (i32 jj)) rfl (fun _ => rfl) ?_
        refine T_iald 248 80 (m.2 80) rfl rfl rfl (by omega) (show jj < (540 : Int) by omega) rfl ?_
        have e152 : (-1) ≤ (m.2 80) jj ∧ (m.2 80) jj ≤ 330 := (hT.2.1 80) jj
        refine T_call 251 259 [.int (i32 ((m.2 80) jj))] [] rfl (fun _ => rfl) rfl (c_level w (mO m [(10, 0), (11, y144), (28, (m.1 28)), (69, (m.1 69)), (70, (m.1 70)), (71, (m.1 71)), (72, (m.1 72))] [(65, (m.2 65)), (66, (m.2 66)), (67, (m.2 67)), (68, (m.2 68)), (80, (m.2 80))]) c N D (by omega) (Ty_mO hT rfl rfl ⟨⟨(by omega : (0 : Int) ≤ 0), (by omega : (0 : Int) ≤ 8)⟩, g145, f28, f69, f70, f71, f72, trivial⟩ ⟨(hT.2.1 65), (hT.2.1 66), (hT.2.1 67), (hT.2.1 68), (hT.2.1 80), trivial⟩) ((m.2 80) jj) (r32 (by omega) (by omega))) (fun rr153 k154 => ?_)
        obtain ⟨x155, g156, h157, rfl⟩ := k154
        refine ⟨_, _, rfl, ?_⟩
        refine T_nf (st' := [.int (i32 x155)]) (l' := [(10, 0), (11, y144), (28, (m.1 28)), (69, (m.1 69)), (70, (m.1 70)), (71, (m.1 71)), (72, (m.1 72))]) (a' := [(65, (m.2 65)), (66, (m.2 66)), (67, (m.2 67)), (68, (m.2 68)), (80, (m.2 80))]) rfl rfl rfl rfl rfl ?_
        obtain ⟨g156a, g156b⟩ := g156
        replace h157 : 0 ≤ x155 → 4 ≤ ((m.2 80) jj) ∧ ((m.2 80) jj) ≤ 124 := h157
        refine T_ld 252 (.int (i32 2)) rfl (fun _ => rfl) ?_
        refine T_icmp 259 255 rfl rfl rfl (r32 (by omega) (by omega)) ⟨by decide, by decide⟩ (fun (h158 : x155 ≠ 2) => ?_) (fun (h158 : ¬ (x155 ≠ 2)) => ?_)
        · skip
          refine T_ld 260 (.int (i32 x146)) rfl (fun _ => rfl) ?_
          refine T_sto 261 [(2, .int (i32 x146)), (5, .int (i32 (m.1 69))), (4, .int (i32 ((m.2 80) jj))), (3, .int (i32 ((m.2 82) jj))), (0, .ref 189), (1, .int (i32 jj))] rfl (fun _ => rfl) ?_
          refine Tm_lv (a := [(0, .ref 189), (1, .int (i32 jj)), (2, .int (i32 x146)), (3, .int (i32 ((m.2 82) jj))), (4, .int (i32 ((m.2 80) jj))), (5, .int (i32 (m.1 69)))]) rfl rfl ⟨rfl, rfl, rfl, rfl, rfl, rfl, trivial⟩ ?_
          exact J261_17 x146 0 y144 (r32 (by omega) (by omega)) ⟨by omega, by omega⟩ g145 (by omega) (fun _ => (by omega))
        · skip
          refine T_ld 256 (.int (i32 1)) rfl (fun _ => rfl) ?_
          refine T_goto 260 rfl (fun _ => rfl) ?_
          refine T_sto 261 [(2, .int (i32 1)), (5, .int (i32 (m.1 69))), (4, .int (i32 ((m.2 80) jj))), (3, .int (i32 ((m.2 82) jj))), (0, .ref 189), (1, .int (i32 jj))] rfl (fun _ => rfl) ?_
          refine Tm_lv (a := [(0, .ref 189), (1, .int (i32 jj)), (2, .int (i32 1)), (3, .int (i32 ((m.2 82) jj))), (4, .int (i32 ((m.2 80) jj))), (5, .int (i32 (m.1 69)))]) rfl rfl ⟨rfl, rfl, rfl, rfl, rfl, rfl, trivial⟩ ?_
          exact J261_17 1 0 y144 ⟨by decide, by decide⟩ ⟨by omega, by omega⟩ g145 (by omega) (fun _ => (by omega))
      · skip
        clear c150
        clear h148
        replace h149 : x146 = 64 ∨ x146 = ((m.2 81) jj) ∨ x146 = (m.1 69) := h149
        have hf159 : 1 ≤ y142 := by omega
        clear g12a g12b h13
        refine T_sto 242 [(2, .int (i32 x146)), (5, .int (i32 (m.1 69))), (4, .int (i32 ((m.2 80) jj))), (3, .int (i32 ((m.2 82) jj))), (0, .ref 189), (1, .int (i32 jj))] rfl (fun _ => rfl) ?_
        refine T_gf 246 (.ref 242) rfl rfl rfl rfl rfl rfl ?_
        refine T_ld 247 (.int (i32 jj)) rfl (fun _ => rfl) ?_
        refine T_iald 248 80 (m.2 80) rfl rfl rfl (by omega) (show jj < (540 : Int) by omega) rfl ?_
        have e160 : (-1) ≤ (m.2 80) jj ∧ (m.2 80) jj ≤ 330 := (hT.2.1 80) jj
        refine T_call 251 259 [.int (i32 ((m.2 80) jj))] [] rfl (fun _ => rfl) rfl (c_level w (mO m [(10, y142), (11, y144), (28, (m.1 28)), (69, (m.1 69)), (70, (m.1 70)), (71, (m.1 71)), (72, (m.1 72))] [(65, (m.2 65)), (66, (m.2 66)), (67, (m.2 67)), (68, (m.2 68)), (80, (m.2 80))]) c N D (by omega) (Ty_mO hT rfl rfl ⟨g143, g145, f28, f69, f70, f71, f72, trivial⟩ ⟨(hT.2.1 65), (hT.2.1 66), (hT.2.1 67), (hT.2.1 68), (hT.2.1 80), trivial⟩) ((m.2 80) jj) (r32 (by omega) (by omega))) (fun rr161 k162 => ?_)
        obtain ⟨x163, g164, h165, rfl⟩ := k162
        refine ⟨_, _, rfl, ?_⟩
        refine T_nf (st' := [.int (i32 x163)]) (l' := [(10, y142), (11, y144), (28, (m.1 28)), (69, (m.1 69)), (70, (m.1 70)), (71, (m.1 71)), (72, (m.1 72))]) (a' := [(65, (m.2 65)), (66, (m.2 66)), (67, (m.2 67)), (68, (m.2 68)), (80, (m.2 80))]) rfl rfl rfl rfl rfl ?_
        obtain ⟨g164a, g164b⟩ := g164
        replace h165 : 0 ≤ x163 → 4 ≤ ((m.2 80) jj) ∧ ((m.2 80) jj) ≤ 124 := h165
        refine T_ld 252 (.int (i32 2)) rfl (fun _ => rfl) ?_
        refine T_icmp 259 255 rfl rfl rfl (r32 (by omega) (by omega)) ⟨by decide, by decide⟩ (fun (h166 : x163 ≠ 2) => ?_) (fun (h166 : ¬ (x163 ≠ 2)) => ?_)
        · skip
          refine T_ld 260 (.int (i32 x146)) rfl (fun _ => rfl) ?_
          refine T_sto 261 [(2, .int (i32 x146)), (5, .int (i32 (m.1 69))), (4, .int (i32 ((m.2 80) jj))), (3, .int (i32 ((m.2 82) jj))), (0, .ref 189), (1, .int (i32 jj))] rfl (fun _ => rfl) ?_
          refine Tm_lv (a := [(0, .ref 189), (1, .int (i32 jj)), (2, .int (i32 x146)), (3, .int (i32 ((m.2 82) jj))), (4, .int (i32 ((m.2 80) jj))), (5, .int (i32 (m.1 69)))]) rfl rfl ⟨rfl, rfl, rfl, rfl, rfl, rfl, trivial⟩ ?_
          exact J261_17 x146 y142 y144 (r32 (by omega) (by omega)) g143 g145 (by omega) (fun h => absurd h (by omega))
        · skip
          refine T_ld 256 (.int (i32 1)) rfl (fun _ => rfl) ?_
          refine T_goto 260 rfl (fun _ => rfl) ?_
          refine T_sto 261 [(2, .int (i32 1)), (5, .int (i32 (m.1 69))), (4, .int (i32 ((m.2 80) jj))), (3, .int (i32 ((m.2 82) jj))), (0, .ref 189), (1, .int (i32 jj))] rfl (fun _ => rfl) ?_
          refine Tm_lv (a := [(0, .ref 189), (1, .int (i32 jj)), (2, .int (i32 1)), (3, .int (i32 ((m.2 82) jj))), (4, .int (i32 ((m.2 80) jj))), (5, .int (i32 (m.1 69)))]) rfl rfl ⟨rfl, rfl, rfl, rfl, rfl, rfl, trivial⟩ ?_
          exact J261_17 1 y142 y144 ⟨by decide, by decide⟩ g143 g145 (by omega) (fun h => absurd h (by omega))
    by_cases h167 : x11 = 0
    · skip
      refine T_cast 0 h167 ?_
      refine T_pop 88 rfl (fun _ => rfl) ?_
      exact T88_103 (by omega)
    by_cases h168 : x11 = 1
    · skip
      refine T_cast 1 h168 ?_
      refine T_pop 88 rfl (fun _ => rfl) ?_
      exact T88_103 (by omega)
    by_cases h169 : x11 = 6
    · skip
      refine T_cast 6 h169 ?_
      refine T_pop 131 rfl (fun _ => rfl) ?_
      refine T_goto 261 rfl (fun _ => rfl) ?_
      refine Tm_lv (a := [(0, .ref 189), (1, .int (i32 jj)), (2, .int (i32 ((m.2 81) jj))), (3, .int (i32 ((m.2 82) jj))), (4, .int (i32 ((m.2 80) jj))), (5, .int (i32 (m.1 69)))]) rfl rfl ⟨rfl, rfl, rfl, rfl, rfl, rfl, trivial⟩ ?_
      exact J261_17 ((m.2 81) jj) (m.1 10) (m.1 11) (r32 (by omega) (by omega)) f10 f11 (by omega) (fun _ => (by omega))
    by_cases h170 : x11 = 8
    · skip
      refine T_cast 8 h170 ?_
      refine T_pop 134 rfl (fun _ => rfl) ?_
      refine T_ld 135 (.ref 189) rfl (fun _ => rfl) ?_
      refine T_gf 139 (.ref 245) rfl rfl rfl rfl rfl rfl ?_
      refine T_ld 140 (.int (i32 jj)) rfl (fun _ => rfl) ?_
      refine T_bald 141 83 (m.2 83) rfl rfl rfl (by omega) (show jj < (540 : Int) by omega) rfl ?_
      have e171 : 0 ≤ m.2 83 jj ∧ m.2 83 jj ≤ 1 := hT.2.1 83 jj
      refine T_if 148 144 rfl rfl rfl (r32 (by omega) (by omega)) (fun (h172 : (m.2 83) jj ≠ 0) => ?_) (fun (h172 : ¬ ((m.2 83) jj ≠ 0)) => ?_)
      · skip
        refine T_ld 149 (.int (i32 0)) rfl (fun _ => rfl) ?_
        refine T_ld 150 (.int (i32 ((m.2 82) jj))) rfl (fun _ => rfl) ?_
        refine T_call 153 256 [.ref 189, .int (i32 0), .int (i32 ((m.2 82) jj))] [] rfl (fun _ => rfl) rfl (c_want w (mO m [(10, (m.1 10)), (11, (m.1 11)), (28, (m.1 28)), (69, (m.1 69)), (70, (m.1 70)), (71, (m.1 71)), (72, (m.1 72))] [(65, (m.2 65)), (66, (m.2 66)), (67, (m.2 67)), (68, (m.2 68)), (80, (m.2 80))]) c N D (by omega) (Ty_mO hT rfl rfl ⟨f10, f11, f28, f69, f70, f71, f72, trivial⟩ ⟨(hT.2.1 65), (hT.2.1 66), (hT.2.1 67), (hT.2.1 68), (hT.2.1 80), trivial⟩) 0 ((m.2 82) jj) ⟨by decide, by decide⟩ (r32 (by omega) (by omega)) (show 0 ≤ ((m.2 82) jj) ∧ ((m.2 82) jj) ≤ 4000 by omega) (fun _ => trivial)) (fun rr173 k174 => ?_)
        obtain ⟨y175, y177, g176, g178, h179, c180, rfl⟩ := k174
        refine ⟨_, _, rfl, ?_⟩
        refine T_nf (st' := []) (l' := [(10, y175), (11, y177), (28, (m.1 28)), (69, (m.1 69)), (70, (m.1 70)), (71, (m.1 71)), (72, (m.1 72))]) (a' := [(65, (m.2 65)), (66, (m.2 66)), (67, (m.2 67)), (68, (m.2 68)), (80, (m.2 80))]) rfl rfl rfl rfl rfl ?_
        by_cases hf181 : y175 = 0
        · skip
          subst hf181
          replace h179 : (m.1 10) = 0 := h179 rfl
          have c182 := c180 rfl
          replace c182 : (0 : Int) ≠ 0 := c182
          clear c180
          clear g12a g12b h13 g176
          refine T_ld 154 (.ref 189) rfl (fun _ => rfl) ?_
          refine T_gf 158 (.int (i32 (m.1 71))) rfl rfl rfl rfl rfl rfl ?_
          refine T_if 165 161 rfl rfl rfl (r32 (by omega) (by omega)) (fun (h183 : (m.1 71) ≠ 0) => ?_) (fun (h183 : ¬ ((m.1 71) ≠ 0)) => ?_)
          · skip
            refine T_ld 166 (.int (i32 0)) rfl (fun _ => rfl) ?_
            refine T_gf 170 (.int (i32 (m.1 70))) rfl rfl rfl rfl rfl rfl ?_
            refine T_call 173 256 [.ref 189, .int (i32 0), .int (i32 (m.1 70))] [] rfl (fun _ => rfl) rfl (c_want w (mO m [(10, 0), (11, y177), (28, (m.1 28)), (69, (m.1 69)), (70, (m.1 70)), (71, (m.1 71)), (72, (m.1 72))] [(65, (m.2 65)), (66, (m.2 66)), (67, (m.2 67)), (68, (m.2 68)), (80, (m.2 80))]) c N D (by omega) (Ty_mO hT rfl rfl ⟨⟨(by omega : (0 : Int) ≤ 0), (by omega : (0 : Int) ≤ 8)⟩, g178, f28, f69, f70, f71, f72, trivial⟩ ⟨(hT.2.1 65), (hT.2.1 66), (hT.2.1 67), (hT.2.1 68), (hT.2.1 80), trivial⟩) 0 (m.1 70) ⟨by decide, by decide⟩ (r32 (by omega) (by omega)) (show 0 ≤ (m.1 70) ∧ (m.1 70) ≤ 4000 by omega) (fun _ => trivial)) (fun rr184 k185 => ?_)
            obtain ⟨y186, y188, g187, g189, h190, c191, rfl⟩ := k185
            refine ⟨_, _, rfl, ?_⟩
            refine T_nf (st' := []) (l' := [(10, y186), (11, y188), (28, (m.1 28)), (69, (m.1 69)), (70, (m.1 70)), (71, (m.1 71)), (72, (m.1 72))]) (a' := [(65, (m.2 65)), (66, (m.2 66)), (67, (m.2 67)), (68, (m.2 68)), (80, (m.2 80))]) rfl rfl rfl rfl rfl ?_
            by_cases hf192 : y186 = 0
            · skip
              subst hf192
              replace h190 : (0 : Int) = 0 := h190 rfl
              have c193 := c191 rfl
              replace c193 : (0 : Int) ≠ 0 := c193
              clear c191
              clear g178 g187
              refine T_ld 174 (.ref 189) rfl (fun _ => rfl) ?_
              refine T_ld 175 (.int (i32 ((m.2 81) jj))) rfl (fun _ => rfl) ?_
              refine T_gf 179 (.int (i32 (m.1 69))) rfl rfl rfl rfl rfl rfl ?_
              refine T_iadd 180 rfl rfl ?_
              refine T_ld 182 (.int (i32 64)) rfl (fun _ => rfl) ?_
              refine T_icmp 189 185 rfl rfl rfl (r32 (by omega) (by omega)) ⟨by decide, by decide⟩ (fun (h194 : (64 : Int) < ((m.2 81) jj) + (m.1 69)) => ?_) (fun (h194 : ¬ ((64 : Int) < ((m.2 81) jj) + (m.1 69))) => ?_)
              · skip
                refine T_ld 190 (.int (i32 0)) rfl (fun _ => rfl) ?_
                refine T_gf 194 (.int (i32 (m.1 70))) rfl rfl rfl rfl rfl rfl ?_
                refine T_call 197 256 [.ref 189, .int (i32 0), .int (i32 (m.1 70))] [] rfl (fun _ => rfl) rfl (c_want w (mO m [(10, 0), (11, y188), (28, (m.1 28)), (69, (m.1 69)), (70, (m.1 70)), (71, (m.1 71)), (72, (m.1 72))] [(65, (m.2 65)), (66, (m.2 66)), (67, (m.2 67)), (68, (m.2 68)), (80, (m.2 80))]) c N D (by omega) (Ty_mO hT rfl rfl ⟨⟨(by omega : (0 : Int) ≤ 0), (by omega : (0 : Int) ≤ 8)⟩, g189, f28, f69, f70, f71, f72, trivial⟩ ⟨(hT.2.1 65), (hT.2.1 66), (hT.2.1 67), (hT.2.1 68), (hT.2.1 80), trivial⟩) 0 (m.1 70) ⟨by decide, by decide⟩ (r32 (by omega) (by omega)) (show 0 ≤ (m.1 70) ∧ (m.1 70) ≤ 4000 by omega) (fun _ => trivial)) (fun rr195 k196 => ?_)
                obtain ⟨y197, y199, g198, g200, h201, c202, rfl⟩ := k196
                refine ⟨_, _, rfl, ?_⟩
                refine T_nf (st' := []) (l' := [(10, y197), (11, y199), (28, (m.1 28)), (69, (m.1 69)), (70, (m.1 70)), (71, (m.1 71)), (72, (m.1 72))]) (a' := [(65, (m.2 65)), (66, (m.2 66)), (67, (m.2 67)), (68, (m.2 68)), (80, (m.2 80))]) rfl rfl rfl rfl rfl ?_
                by_cases hf203 : y197 = 0
                · skip
                  subst hf203
                  replace h201 : (0 : Int) = 0 := h201 rfl
                  have c204 := c202 rfl
                  replace c204 : (0 : Int) ≠ 0 := c204
                  clear c202
                  clear g189 g198
                  refine T_ld 198 (.int (i32 ((m.2 81) jj))) rfl (fun _ => rfl) ?_
                  refine T_gf 202 (.int (i32 (m.1 69))) rfl rfl rfl rfl rfl rfl ?_
                  refine T_iadd 203 rfl rfl ?_
                  refine T_sto 204 [(2, .int (i32 (((m.2 81) jj) + (m.1 69)))), (5, .int (i32 (m.1 69))), (4, .int (i32 ((m.2 80) jj))), (3, .int (i32 ((m.2 82) jj))), (0, .ref 189), (1, .int (i32 jj))] rfl (fun _ => rfl) ?_
                  refine T_goto 261 rfl (fun _ => rfl) ?_
                  refine Tm_lv (a := [(0, .ref 189), (1, .int (i32 jj)), (2, .int (i32 (((m.2 81) jj) + (m.1 69)))), (3, .int (i32 ((m.2 82) jj))), (4, .int (i32 ((m.2 80) jj))), (5, .int (i32 (m.1 69)))]) rfl rfl ⟨rfl, rfl, rfl, rfl, rfl, rfl, trivial⟩ ?_
                  exact J261_17 (((m.2 81) jj) + (m.1 69)) 0 y199 (r32 (by omega) (by omega)) ⟨by omega, by omega⟩ g200 (by omega) (fun _ => (by omega))
                · skip
                  clear c202
                  clear h201
                  have hf205 : 1 ≤ y197 := by omega
                  clear g189
                  refine T_ld 198 (.int (i32 ((m.2 81) jj))) rfl (fun _ => rfl) ?_
                  refine T_gf 202 (.int (i32 (m.1 69))) rfl rfl rfl rfl rfl rfl ?_
                  refine T_iadd 203 rfl rfl ?_
                  refine T_sto 204 [(2, .int (i32 (((m.2 81) jj) + (m.1 69)))), (5, .int (i32 (m.1 69))), (4, .int (i32 ((m.2 80) jj))), (3, .int (i32 ((m.2 82) jj))), (0, .ref 189), (1, .int (i32 jj))] rfl (fun _ => rfl) ?_
                  refine T_goto 261 rfl (fun _ => rfl) ?_
                  refine Tm_lv (a := [(0, .ref 189), (1, .int (i32 jj)), (2, .int (i32 (((m.2 81) jj) + (m.1 69)))), (3, .int (i32 ((m.2 82) jj))), (4, .int (i32 ((m.2 80) jj))), (5, .int (i32 (m.1 69)))]) rfl rfl ⟨rfl, rfl, rfl, rfl, rfl, rfl, trivial⟩ ?_
                  exact J261_17 (((m.2 81) jj) + (m.1 69)) y197 y199 (r32 (by omega) (by omega)) g198 g200 (by omega) (fun h => absurd h (by omega))
              · skip
                refine T_ld 186 (.int (i32 1)) rfl (fun _ => rfl) ?_
                refine T_goto 190 rfl (fun _ => rfl) ?_
                refine T_gf 194 (.int (i32 (m.1 70))) rfl rfl rfl rfl rfl rfl ?_
                refine T_call 197 256 [.ref 189, .int (i32 1), .int (i32 (m.1 70))] [] rfl (fun _ => rfl) rfl (c_want w (mO m [(10, 0), (11, y188), (28, (m.1 28)), (69, (m.1 69)), (70, (m.1 70)), (71, (m.1 71)), (72, (m.1 72))] [(65, (m.2 65)), (66, (m.2 66)), (67, (m.2 67)), (68, (m.2 68)), (80, (m.2 80))]) c N D (by omega) (Ty_mO hT rfl rfl ⟨⟨(by omega : (0 : Int) ≤ 0), (by omega : (0 : Int) ≤ 8)⟩, g189, f28, f69, f70, f71, f72, trivial⟩ ⟨(hT.2.1 65), (hT.2.1 66), (hT.2.1 67), (hT.2.1 68), (hT.2.1 80), trivial⟩) 1 (m.1 70) ⟨by decide, by decide⟩ (r32 (by omega) (by omega)) (show 0 ≤ (m.1 70) ∧ (m.1 70) ≤ 4000 by omega) (fun _ => trivial)) (fun rr206 k207 => ?_)
                obtain ⟨y208, y210, g209, g211, h212, c213, rfl⟩ := k207
                refine ⟨_, _, rfl, ?_⟩
                refine T_nf (st' := []) (l' := [(10, y208), (11, y210), (28, (m.1 28)), (69, (m.1 69)), (70, (m.1 70)), (71, (m.1 71)), (72, (m.1 72))]) (a' := [(65, (m.2 65)), (66, (m.2 66)), (67, (m.2 67)), (68, (m.2 68)), (80, (m.2 80))]) rfl rfl rfl rfl rfl ?_
                by_cases hf214 : y208 = 0
                · skip
                  subst hf214
                  replace h212 : (0 : Int) = 0 := h212 rfl
                  have c215 := c213 rfl
                  replace c215 : (1 : Int) ≠ 0 := c215
                  clear c213
                  clear g189 g209
                  refine T_ld 198 (.int (i32 ((m.2 81) jj))) rfl (fun _ => rfl) ?_
                  refine T_gf 202 (.int (i32 (m.1 69))) rfl rfl rfl rfl rfl rfl ?_
                  refine T_iadd 203 rfl rfl ?_
                  refine T_sto 204 [(2, .int (i32 (((m.2 81) jj) + (m.1 69)))), (5, .int (i32 (m.1 69))), (4, .int (i32 ((m.2 80) jj))), (3, .int (i32 ((m.2 82) jj))), (0, .ref 189), (1, .int (i32 jj))] rfl (fun _ => rfl) ?_
                  refine T_goto 261 rfl (fun _ => rfl) ?_
                  refine Tm_lv (a := [(0, .ref 189), (1, .int (i32 jj)), (2, .int (i32 (((m.2 81) jj) + (m.1 69)))), (3, .int (i32 ((m.2 82) jj))), (4, .int (i32 ((m.2 80) jj))), (5, .int (i32 (m.1 69)))]) rfl rfl ⟨rfl, rfl, rfl, rfl, rfl, rfl, trivial⟩ ?_
                  exact J261_17 (((m.2 81) jj) + (m.1 69)) 0 y210 (r32 (by omega) (by omega)) ⟨by omega, by omega⟩ g211 (by omega) (fun _ => (by omega))
                · skip
                  clear c213
                  clear h212
                  have hf216 : 1 ≤ y208 := by omega
                  clear g189
                  refine T_ld 198 (.int (i32 ((m.2 81) jj))) rfl (fun _ => rfl) ?_
                  refine T_gf 202 (.int (i32 (m.1 69))) rfl rfl rfl rfl rfl rfl ?_
                  refine T_iadd 203 rfl rfl ?_
                  refine T_sto 204 [(2, .int (i32 (((m.2 81) jj) + (m.1 69)))), (5, .int (i32 (m.1 69))), (4, .int (i32 ((m.2 80) jj))), (3, .int (i32 ((m.2 82) jj))), (0, .ref 189), (1, .int (i32 jj))] rfl (fun _ => rfl) ?_
                  refine T_goto 261 rfl (fun _ => rfl) ?_
                  refine Tm_lv (a := [(0, .ref 189), (1, .int (i32 jj)), (2, .int (i32 (((m.2 81) jj) + (m.1 69)))), (3, .int (i32 ((m.2 82) jj))), (4, .int (i32 ((m.2 80) jj))), (5, .int (i32 (m.1 69)))]) rfl rfl ⟨rfl, rfl, rfl, rfl, rfl, rfl, trivial⟩ ?_
                  exact J261_17 (((m.2 81) jj) + (m.1 69)) y208 y210 (r32 (by omega) (by omega)) g209 g211 (by omega) (fun h => absurd h (by omega))
            · skip
              clear c191
              clear h190
              have hf217 : 1 ≤ y186 := by omega
              clear g178
              refine T_ld 174 (.ref 189) rfl (fun _ => rfl) ?_
              refine T_ld 175 (.int (i32 ((m.2 81) jj))) rfl (fun _ => rfl) ?_
              refine T_gf 179 (.int (i32 (m.1 69))) rfl rfl rfl rfl rfl rfl ?_
              refine T_iadd 180 rfl rfl ?_
              refine T_ld 182 (.int (i32 64)) rfl (fun _ => rfl) ?_
              refine T_icmp 189 185 rfl rfl rfl (r32 (by omega) (by omega)) ⟨by decide, by decide⟩ (fun (h218 : (64 : Int) < ((m.2 81) jj) + (m.1 69)) => ?_) (fun (h218 : ¬ ((64 : Int) < ((m.2 81) jj) + (m.1 69))) => ?_)
              · skip
                refine T_ld 190 (.int (i32 0)) rfl (fun _ => rfl) ?_
                refine T_gf 194 (.int (i32 (m.1 70))) rfl rfl rfl rfl rfl rfl ?_
                refine T_call 197 256 [.ref 189, .int (i32 0), .int (i32 (m.1 70))] [] rfl (fun _ => rfl) rfl (c_want w (mO m [(10, y186), (11, y188), (28, (m.1 28)), (69, (m.1 69)), (70, (m.1 70)), (71, (m.1 71)), (72, (m.1 72))] [(65, (m.2 65)), (66, (m.2 66)), (67, (m.2 67)), (68, (m.2 68)), (80, (m.2 80))]) c N D (by omega) (Ty_mO hT rfl rfl ⟨g187, g189, f28, f69, f70, f71, f72, trivial⟩ ⟨(hT.2.1 65), (hT.2.1 66), (hT.2.1 67), (hT.2.1 68), (hT.2.1 80), trivial⟩) 0 (m.1 70) ⟨by decide, by decide⟩ (r32 (by omega) (by omega)) (show 0 ≤ (m.1 70) ∧ (m.1 70) ≤ 4000 by omega) (fun (h : y186 = 0) => absurd h (by omega))) (fun rr219 k220 => ?_)
                obtain ⟨y221, y223, g222, g224, h225, c226, rfl⟩ := k220
                refine ⟨_, _, rfl, ?_⟩
                refine T_nf (st' := []) (l' := [(10, y221), (11, y223), (28, (m.1 28)), (69, (m.1 69)), (70, (m.1 70)), (71, (m.1 71)), (72, (m.1 72))]) (a' := [(65, (m.2 65)), (66, (m.2 66)), (67, (m.2 67)), (68, (m.2 68)), (80, (m.2 80))]) rfl rfl rfl rfl rfl ?_
                replace h225 : y221 = 0 → y186 = 0 := h225
                have hf227 : 1 ≤ y221 := by omega
                clear c226
                clear h225
                clear g187 g189 hf217
                refine T_ld 198 (.int (i32 ((m.2 81) jj))) rfl (fun _ => rfl) ?_
                refine T_gf 202 (.int (i32 (m.1 69))) rfl rfl rfl rfl rfl rfl ?_
                refine T_iadd 203 rfl rfl ?_
                refine T_sto 204 [(2, .int (i32 (((m.2 81) jj) + (m.1 69)))), (5, .int (i32 (m.1 69))), (4, .int (i32 ((m.2 80) jj))), (3, .int (i32 ((m.2 82) jj))), (0, .ref 189), (1, .int (i32 jj))] rfl (fun _ => rfl) ?_
                refine T_goto 261 rfl (fun _ => rfl) ?_
                refine Tm_lv (a := [(0, .ref 189), (1, .int (i32 jj)), (2, .int (i32 (((m.2 81) jj) + (m.1 69)))), (3, .int (i32 ((m.2 82) jj))), (4, .int (i32 ((m.2 80) jj))), (5, .int (i32 (m.1 69)))]) rfl rfl ⟨rfl, rfl, rfl, rfl, rfl, rfl, trivial⟩ ?_
                exact J261_17 (((m.2 81) jj) + (m.1 69)) y221 y223 (r32 (by omega) (by omega)) g222 g224 (by omega) (fun h => absurd h (by omega))
              · skip
                refine T_ld 186 (.int (i32 1)) rfl (fun _ => rfl) ?_
                refine T_goto 190 rfl (fun _ => rfl) ?_
                refine T_gf 194 (.int (i32 (m.1 70))) rfl rfl rfl rfl rfl rfl ?_
                refine T_call 197 256 [.ref 189, .int (i32 1), .int (i32 (m.1 70))] [] rfl (fun _ => rfl) rfl (c_want w (mO m [(10, y186), (11, y188), (28, (m.1 28)), (69, (m.1 69)), (70, (m.1 70)), (71, (m.1 71)), (72, (m.1 72))] [(65, (m.2 65)), (66, (m.2 66)), (67, (m.2 67)), (68, (m.2 68)), (80, (m.2 80))]) c N D (by omega) (Ty_mO hT rfl rfl ⟨g187, g189, f28, f69, f70, f71, f72, trivial⟩ ⟨(hT.2.1 65), (hT.2.1 66), (hT.2.1 67), (hT.2.1 68), (hT.2.1 80), trivial⟩) 1 (m.1 70) ⟨by decide, by decide⟩ (r32 (by omega) (by omega)) (show 0 ≤ (m.1 70) ∧ (m.1 70) ≤ 4000 by omega) (fun (h : y186 = 0) => absurd h (by omega))) (fun rr228 k229 => ?_)
                obtain ⟨y230, y232, g231, g233, h234, c235, rfl⟩ := k229
                refine ⟨_, _, rfl, ?_⟩
                refine T_nf (st' := []) (l' := [(10, y230), (11, y232), (28, (m.1 28)), (69, (m.1 69)), (70, (m.1 70)), (71, (m.1 71)), (72, (m.1 72))]) (a' := [(65, (m.2 65)), (66, (m.2 66)), (67, (m.2 67)), (68, (m.2 68)), (80, (m.2 80))]) rfl rfl rfl rfl rfl ?_
                replace h234 : y230 = 0 → y186 = 0 := h234
                have hf236 : 1 ≤ y230 := by omega
                clear c235
                clear h234
                clear g187 g189 hf217
                refine T_ld 198 (.int (i32 ((m.2 81) jj))) rfl (fun _ => rfl) ?_
                refine T_gf 202 (.int (i32 (m.1 69))) rfl rfl rfl rfl rfl rfl ?_
                refine T_iadd 203 rfl rfl ?_
                refine T_sto 204 [(2, .int (i32 (((m.2 81) jj) + (m.1 69)))), (5, .int (i32 (m.1 69))), (4, .int (i32 ((m.2 80) jj))), (3, .int (i32 ((m.2 82) jj))), (0, .ref 189), (1, .int (i32 jj))] rfl (fun _ => rfl) ?_
                refine T_goto 261 rfl (fun _ => rfl) ?_
                refine Tm_lv (a := [(0, .ref 189), (1, .int (i32 jj)), (2, .int (i32 (((m.2 81) jj) + (m.1 69)))), (3, .int (i32 ((m.2 82) jj))), (4, .int (i32 ((m.2 80) jj))), (5, .int (i32 (m.1 69)))]) rfl rfl ⟨rfl, rfl, rfl, rfl, rfl, rfl, trivial⟩ ?_
                exact J261_17 (((m.2 81) jj) + (m.1 69)) y230 y232 (r32 (by omega) (by omega)) g231 g233 (by omega) (fun h => absurd h (by omega))
          · skip
            refine T_ld 162 (.int (i32 1)) rfl (fun _ => rfl) ?_
            refine T_goto 166 rfl (fun _ => rfl) ?_
            refine T_gf 170 (.int (i32 (m.1 70))) rfl rfl rfl rfl rfl rfl ?_
            refine T_call 173 256 [.ref 189, .int (i32 1), .int (i32 (m.1 70))] [] rfl (fun _ => rfl) rfl (c_want w (mO m [(10, 0), (11, y177), (28, (m.1 28)), (69, (m.1 69)), (70, (m.1 70)), (71, (m.1 71)), (72, (m.1 72))] [(65, (m.2 65)), (66, (m.2 66)), (67, (m.2 67)), (68, (m.2 68)), (80, (m.2 80))]) c N D (by omega) (Ty_mO hT rfl rfl ⟨⟨(by omega : (0 : Int) ≤ 0), (by omega : (0 : Int) ≤ 8)⟩, g178, f28, f69, f70, f71, f72, trivial⟩ ⟨(hT.2.1 65), (hT.2.1 66), (hT.2.1 67), (hT.2.1 68), (hT.2.1 80), trivial⟩) 1 (m.1 70) ⟨by decide, by decide⟩ (r32 (by omega) (by omega)) (show 0 ≤ (m.1 70) ∧ (m.1 70) ≤ 4000 by omega) (fun _ => trivial)) (fun rr237 k238 => ?_)
            obtain ⟨y239, y241, g240, g242, h243, c244, rfl⟩ := k238
            refine ⟨_, _, rfl, ?_⟩
            refine T_nf (st' := []) (l' := [(10, y239), (11, y241), (28, (m.1 28)), (69, (m.1 69)), (70, (m.1 70)), (71, (m.1 71)), (72, (m.1 72))]) (a' := [(65, (m.2 65)), (66, (m.2 66)), (67, (m.2 67)), (68, (m.2 68)), (80, (m.2 80))]) rfl rfl rfl rfl rfl ?_
            by_cases hf245 : y239 = 0
            · skip
              subst hf245
              replace h243 : (0 : Int) = 0 := h243 rfl
              have c246 := c244 rfl
              replace c246 : (1 : Int) ≠ 0 := c246
              clear c244
              clear g178 g240
              refine T_ld 174 (.ref 189) rfl (fun _ => rfl) ?_
              refine T_ld 175 (.int (i32 ((m.2 81) jj))) rfl (fun _ => rfl) ?_
              refine T_gf 179 (.int (i32 (m.1 69))) rfl rfl rfl rfl rfl rfl ?_
              refine T_iadd 180 rfl rfl ?_
              refine T_ld 182 (.int (i32 64)) rfl (fun _ => rfl) ?_
              refine T_icmp 189 185 rfl rfl rfl (r32 (by omega) (by omega)) ⟨by decide, by decide⟩ (fun (h247 : (64 : Int) < ((m.2 81) jj) + (m.1 69)) => ?_) (fun (h247 : ¬ ((64 : Int) < ((m.2 81) jj) + (m.1 69))) => ?_)
              · skip
                refine T_ld 190 (.int (i32 0)) rfl (fun _ => rfl) ?_
                refine T_gf 194 (.int (i32 (m.1 70))) rfl rfl rfl rfl rfl rfl ?_
                refine T_call 197 256 [.ref 189, .int (i32 0), .int (i32 (m.1 70))] [] rfl (fun _ => rfl) rfl (c_want w (mO m [(10, 0), (11, y241), (28, (m.1 28)), (69, (m.1 69)), (70, (m.1 70)), (71, (m.1 71)), (72, (m.1 72))] [(65, (m.2 65)), (66, (m.2 66)), (67, (m.2 67)), (68, (m.2 68)), (80, (m.2 80))]) c N D (by omega) (Ty_mO hT rfl rfl ⟨⟨(by omega : (0 : Int) ≤ 0), (by omega : (0 : Int) ≤ 8)⟩, g242, f28, f69, f70, f71, f72, trivial⟩ ⟨(hT.2.1 65), (hT.2.1 66), (hT.2.1 67), (hT.2.1 68), (hT.2.1 80), trivial⟩) 0 (m.1 70) ⟨by decide, by decide⟩ (r32 (by omega) (by omega)) (show 0 ≤ (m.1 70) ∧ (m.1 70) ≤ 4000 by omega) (fun _ => trivial)) (fun rr248 k249 => ?_)
                obtain ⟨y250, y252, g251, g253, h254, c255, rfl⟩ := k249
                refine ⟨_, _, rfl, ?_⟩
                refine T_nf (st' := []) (l' := [(10, y250), (11, y252), (28, (m.1 28)), (69, (m.1 69)), (70, (m.1 70)), (71, (m.1 71)), (72, (m.1 72))]) (a' := [(65, (m.2 65)), (66, (m.2 66)), (67, (m.2 67)), (68, (m.2 68)), (80, (m.2 80))]) rfl rfl rfl rfl rfl ?_
                by_cases hf256 : y250 = 0
                · skip
                  subst hf256
                  replace h254 : (0 : Int) = 0 := h254 rfl
                  have c257 := c255 rfl
                  replace c257 : (0 : Int) ≠ 0 := c257
                  clear c255
                  clear g242 g251
                  refine T_ld 198 (.int (i32 ((m.2 81) jj))) rfl (fun _ => rfl) ?_
                  refine T_gf 202 (.int (i32 (m.1 69))) rfl rfl rfl rfl rfl rfl ?_
                  refine T_iadd 203 rfl rfl ?_
                  refine T_sto 204 [(2, .int (i32 (((m.2 81) jj) + (m.1 69)))), (5, .int (i32 (m.1 69))), (4, .int (i32 ((m.2 80) jj))), (3, .int (i32 ((m.2 82) jj))), (0, .ref 189), (1, .int (i32 jj))] rfl (fun _ => rfl) ?_
                  refine T_goto 261 rfl (fun _ => rfl) ?_
                  refine Tm_lv (a := [(0, .ref 189), (1, .int (i32 jj)), (2, .int (i32 (((m.2 81) jj) + (m.1 69)))), (3, .int (i32 ((m.2 82) jj))), (4, .int (i32 ((m.2 80) jj))), (5, .int (i32 (m.1 69)))]) rfl rfl ⟨rfl, rfl, rfl, rfl, rfl, rfl, trivial⟩ ?_
                  exact J261_17 (((m.2 81) jj) + (m.1 69)) 0 y252 (r32 (by omega) (by omega)) ⟨by omega, by omega⟩ g253 (by omega) (fun _ => (by omega))
                · skip
                  clear c255
                  clear h254
                  have hf258 : 1 ≤ y250 := by omega
                  clear g242
                  refine T_ld 198 (.int (i32 ((m.2 81) jj))) rfl (fun _ => rfl) ?_
                  refine T_gf 202 (.int (i32 (m.1 69))) rfl rfl rfl rfl rfl rfl ?_
                  refine T_iadd 203 rfl rfl ?_
                  refine T_sto 204 [(2, .int (i32 (((m.2 81) jj) + (m.1 69)))), (5, .int (i32 (m.1 69))), (4, .int (i32 ((m.2 80) jj))), (3, .int (i32 ((m.2 82) jj))), (0, .ref 189), (1, .int (i32 jj))] rfl (fun _ => rfl) ?_
                  refine T_goto 261 rfl (fun _ => rfl) ?_
                  refine Tm_lv (a := [(0, .ref 189), (1, .int (i32 jj)), (2, .int (i32 (((m.2 81) jj) + (m.1 69)))), (3, .int (i32 ((m.2 82) jj))), (4, .int (i32 ((m.2 80) jj))), (5, .int (i32 (m.1 69)))]) rfl rfl ⟨rfl, rfl, rfl, rfl, rfl, rfl, trivial⟩ ?_
                  exact J261_17 (((m.2 81) jj) + (m.1 69)) y250 y252 (r32 (by omega) (by omega)) g251 g253 (by omega) (fun h => absurd h (by omega))
              · skip
                refine T_ld 186 (.int (i32 1)) rfl (fun _ => rfl) ?_
                refine T_goto 190 rfl (fun _ => rfl) ?_
                refine T_gf 194 (.int (i32 (m.1 70))) rfl rfl rfl rfl rfl rfl ?_
                refine T_call 197 256 [.ref 189, .int (i32 1), .int (i32 (m.1 70))] [] rfl (fun _ => rfl) rfl (c_want w (mO m [(10, 0), (11, y241), (28, (m.1 28)), (69, (m.1 69)), (70, (m.1 70)), (71, (m.1 71)), (72, (m.1 72))] [(65, (m.2 65)), (66, (m.2 66)), (67, (m.2 67)), (68, (m.2 68)), (80, (m.2 80))]) c N D (by omega) (Ty_mO hT rfl rfl ⟨⟨(by omega : (0 : Int) ≤ 0), (by omega : (0 : Int) ≤ 8)⟩, g242, f28, f69, f70, f71, f72, trivial⟩ ⟨(hT.2.1 65), (hT.2.1 66), (hT.2.1 67), (hT.2.1 68), (hT.2.1 80), trivial⟩) 1 (m.1 70) ⟨by decide, by decide⟩ (r32 (by omega) (by omega)) (show 0 ≤ (m.1 70) ∧ (m.1 70) ≤ 4000 by omega) (fun _ => trivial)) (fun rr259 k260 => ?_)
                obtain ⟨y261, y263, g262, g264, h265, c266, rfl⟩ := k260
                refine ⟨_, _, rfl, ?_⟩
                refine T_nf (st' := []) (l' := [(10, y261), (11, y263), (28, (m.1 28)), (69, (m.1 69)), (70, (m.1 70)), (71, (m.1 71)), (72, (m.1 72))]) (a' := [(65, (m.2 65)), (66, (m.2 66)), (67, (m.2 67)), (68, (m.2 68)), (80, (m.2 80))]) rfl rfl rfl rfl rfl ?_
                by_cases hf267 : y261 = 0
                · skip
                  subst hf267
                  replace h265 : (0 : Int) = 0 := h265 rfl
                  have c268 := c266 rfl
                  replace c268 : (1 : Int) ≠ 0 := c268
                  clear c266
                  clear g242 g262
                  refine T_ld 198 (.int (i32 ((m.2 81) jj))) rfl (fun _ => rfl) ?_
                  refine T_gf 202 (.int (i32 (m.1 69))) rfl rfl rfl rfl rfl rfl ?_
                  refine T_iadd 203 rfl rfl ?_
                  refine T_sto 204 [(2, .int (i32 (((m.2 81) jj) + (m.1 69)))), (5, .int (i32 (m.1 69))), (4, .int (i32 ((m.2 80) jj))), (3, .int (i32 ((m.2 82) jj))), (0, .ref 189), (1, .int (i32 jj))] rfl (fun _ => rfl) ?_
                  refine T_goto 261 rfl (fun _ => rfl) ?_
                  refine Tm_lv (a := [(0, .ref 189), (1, .int (i32 jj)), (2, .int (i32 (((m.2 81) jj) + (m.1 69)))), (3, .int (i32 ((m.2 82) jj))), (4, .int (i32 ((m.2 80) jj))), (5, .int (i32 (m.1 69)))]) rfl rfl ⟨rfl, rfl, rfl, rfl, rfl, rfl, trivial⟩ ?_
                  exact J261_17 (((m.2 81) jj) + (m.1 69)) 0 y263 (r32 (by omega) (by omega)) ⟨by omega, by omega⟩ g264 (by omega) (fun _ => (by omega))
                · skip
                  clear c266
                  clear h265
                  have hf269 : 1 ≤ y261 := by omega
                  clear g242
                  refine T_ld 198 (.int (i32 ((m.2 81) jj))) rfl (fun _ => rfl) ?_
                  refine T_gf 202 (.int (i32 (m.1 69))) rfl rfl rfl rfl rfl rfl ?_
                  refine T_iadd 203 rfl rfl ?_
                  refine T_sto 204 [(2, .int (i32 (((m.2 81) jj) + (m.1 69)))), (5, .int (i32 (m.1 69))), (4, .int (i32 ((m.2 80) jj))), (3, .int (i32 ((m.2 82) jj))), (0, .ref 189), (1, .int (i32 jj))] rfl (fun _ => rfl) ?_
                  refine T_goto 261 rfl (fun _ => rfl) ?_
                  refine Tm_lv (a := [(0, .ref 189), (1, .int (i32 jj)), (2, .int (i32 (((m.2 81) jj) + (m.1 69)))), (3, .int (i32 ((m.2 82) jj))), (4, .int (i32 ((m.2 80) jj))), (5, .int (i32 (m.1 69)))]) rfl rfl ⟨rfl, rfl, rfl, rfl, rfl, rfl, trivial⟩ ?_
                  exact J261_17 (((m.2 81) jj) + (m.1 69)) y261 y263 (r32 (by omega) (by omega)) g262 g264 (by omega) (fun h => absurd h (by omega))
            · skip
              clear c244
              clear h243
              have hf270 : 1 ≤ y239 := by omega
              clear g178
              refine T_ld 174 (.ref 189) rfl (fun _ => rfl) ?_
              refine T_ld 175 (.int (i32 ((m.2 81) jj))) rfl (fun _ => rfl) ?_
              refine T_gf 179 (.int (i32 (m.1 69))) rfl rfl rfl rfl rfl rfl ?_
              refine T_iadd 180 rfl rfl ?_
              refine T_ld 182 (.int (i32 64)) rfl (fun _ => rfl) ?_
              refine T_icmp 189 185 rfl rfl rfl (r32 (by omega) (by omega)) ⟨by decide, by decide⟩ (fun (h271 : (64 : Int) < ((m.2 81) jj) + (m.1 69)) => ?_) (fun (h271 : ¬ ((64 : Int) < ((m.2 81) jj) + (m.1 69))) => ?_)
              · skip
                refine T_ld 190 (.int (i32 0)) rfl (fun _ => rfl) ?_
                refine T_gf 194 (.int (i32 (m.1 70))) rfl rfl rfl rfl rfl rfl ?_
                refine T_call 197 256 [.ref 189, .int (i32 0), .int (i32 (m.1 70))] [] rfl (fun _ => rfl) rfl (c_want w (mO m [(10, y239), (11, y241), (28, (m.1 28)), (69, (m.1 69)), (70, (m.1 70)), (71, (m.1 71)), (72, (m.1 72))] [(65, (m.2 65)), (66, (m.2 66)), (67, (m.2 67)), (68, (m.2 68)), (80, (m.2 80))]) c N D (by omega) (Ty_mO hT rfl rfl ⟨g240, g242, f28, f69, f70, f71, f72, trivial⟩ ⟨(hT.2.1 65), (hT.2.1 66), (hT.2.1 67), (hT.2.1 68), (hT.2.1 80), trivial⟩) 0 (m.1 70) ⟨by decide, by decide⟩ (r32 (by omega) (by omega)) (show 0 ≤ (m.1 70) ∧ (m.1 70) ≤ 4000 by omega) (fun (h : y239 = 0) => absurd h (by omega))) (fun rr272 k273 => ?_)
                obtain ⟨y274, y276, g275, g277, h278, c279, rfl⟩ := k273
                refine ⟨_, _, rfl, ?_⟩
                refine T_nf (st' := []) (l' := [(10, y274), (11, y276), (28, (m.1 28)), (69, (m.1 69)), (70, (m.1 70)), (71, (m.1 71)), (72, (m.1 72))]) (a' := [(65, (m.2 65)), (66, (m.2 66)), (67, (m.2 67)), (68, (m.2 68)), (80, (m.2 80))]) rfl rfl rfl rfl rfl ?_
                replace h278 : y274 = 0 → y239 = 0 := h278
                have hf280 : 1 ≤ y274 := by omega
                clear c279
                clear h278
                clear g240 g242 hf270
                refine T_ld 198 (.int (i32 ((m.2 81) jj))) rfl (fun _ => rfl) ?_
                refine T_gf 202 (.int (i32 (m.1 69))) rfl rfl rfl rfl rfl rfl ?_
                refine T_iadd 203 rfl rfl ?_
                refine T_sto 204 [(2, .int (i32 (((m.2 81) jj) + (m.1 69)))), (5, .int (i32 (m.1 69))), (4, .int (i32 ((m.2 80) jj))), (3, .int (i32 ((m.2 82) jj))), (0, .ref 189), (1, .int (i32 jj))] rfl (fun _ => rfl) ?_
                refine T_goto 261 rfl (fun _ => rfl) ?_
                refine Tm_lv (a := [(0, .ref 189), (1, .int (i32 jj)), (2, .int (i32 (((m.2 81) jj) + (m.1 69)))), (3, .int (i32 ((m.2 82) jj))), (4, .int (i32 ((m.2 80) jj))), (5, .int (i32 (m.1 69)))]) rfl rfl ⟨rfl, rfl, rfl, rfl, rfl, rfl, trivial⟩ ?_
                exact J261_17 (((m.2 81) jj) + (m.1 69)) y274 y276 (r32 (by omega) (by omega)) g275 g277 (by omega) (fun h => absurd h (by omega))
              · skip
                refine T_ld 186 (.int (i32 1)) rfl (fun _ => rfl) ?_
                refine T_goto 190 rfl (fun _ => rfl) ?_
                refine T_gf 194 (.int (i32 (m.1 70))) rfl rfl rfl rfl rfl rfl ?_
                refine T_call 197 256 [.ref 189, .int (i32 1), .int (i32 (m.1 70))] [] rfl (fun _ => rfl) rfl (c_want w (mO m [(10, y239), (11, y241), (28, (m.1 28)), (69, (m.1 69)), (70, (m.1 70)), (71, (m.1 71)), (72, (m.1 72))] [(65, (m.2 65)), (66, (m.2 66)), (67, (m.2 67)), (68, (m.2 68)), (80, (m.2 80))]) c N D (by omega) (Ty_mO hT rfl rfl ⟨g240, g242, f28, f69, f70, f71, f72, trivial⟩ ⟨(hT.2.1 65), (hT.2.1 66), (hT.2.1 67), (hT.2.1 68), (hT.2.1 80), trivial⟩) 1 (m.1 70) ⟨by decide, by decide⟩ (r32 (by omega) (by omega)) (show 0 ≤ (m.1 70) ∧ (m.1 70) ≤ 4000 by omega) (fun (h : y239 = 0) => absurd h (by omega))) (fun rr281 k282 => ?_)
                obtain ⟨y283, y285, g284, g286, h287, c288, rfl⟩ := k282
                refine ⟨_, _, rfl, ?_⟩
                refine T_nf (st' := []) (l' := [(10, y283), (11, y285), (28, (m.1 28)), (69, (m.1 69)), (70, (m.1 70)), (71, (m.1 71)), (72, (m.1 72))]) (a' := [(65, (m.2 65)), (66, (m.2 66)), (67, (m.2 67)), (68, (m.2 68)), (80, (m.2 80))]) rfl rfl rfl rfl rfl ?_
                replace h287 : y283 = 0 → y239 = 0 := h287
                have hf289 : 1 ≤ y283 := by omega
                clear c288
                clear h287
                clear g240 g242 hf270
                refine T_ld 198 (.int (i32 ((m.2 81) jj))) rfl (fun _ => rfl) ?_
                refine T_gf 202 (.int (i32 (m.1 69))) rfl rfl rfl rfl rfl rfl ?_
                refine T_iadd 203 rfl rfl ?_
                refine T_sto 204 [(2, .int (i32 (((m.2 81) jj) + (m.1 69)))), (5, .int (i32 (m.1 69))), (4, .int (i32 ((m.2 80) jj))), (3, .int (i32 ((m.2 82) jj))), (0, .ref 189), (1, .int (i32 jj))] rfl (fun _ => rfl) ?_
                refine T_goto 261 rfl (fun _ => rfl) ?_
                refine Tm_lv (a := [(0, .ref 189), (1, .int (i32 jj)), (2, .int (i32 (((m.2 81) jj) + (m.1 69)))), (3, .int (i32 ((m.2 82) jj))), (4, .int (i32 ((m.2 80) jj))), (5, .int (i32 (m.1 69)))]) rfl rfl ⟨rfl, rfl, rfl, rfl, rfl, rfl, trivial⟩ ?_
                exact J261_17 (((m.2 81) jj) + (m.1 69)) y283 y285 (r32 (by omega) (by omega)) g284 g286 (by omega) (fun h => absurd h (by omega))
        · skip
          clear c180
          clear h179
          have hf290 : 1 ≤ y175 := by omega
          clear g12a g12b h13
          refine T_ld 154 (.ref 189) rfl (fun _ => rfl) ?_
          refine T_gf 158 (.int (i32 (m.1 71))) rfl rfl rfl rfl rfl rfl ?_
          refine T_if 165 161 rfl rfl rfl (r32 (by omega) (by omega)) (fun (h291 : (m.1 71) ≠ 0) => ?_) (fun (h291 : ¬ ((m.1 71) ≠ 0)) => ?_)
          · skip
            refine T_ld 166 (.int (i32 0)) rfl (fun _ => rfl) ?_
            refine T_gf 170 (.int (i32 (m.1 70))) rfl rfl rfl rfl rfl rfl ?_
            refine T_call 173 256 [.ref 189, .int (i32 0), .int (i32 (m.1 70))] [] rfl (fun _ => rfl) rfl (c_want w (mO m [(10, y175), (11, y177), (28, (m.1 28)), (69, (m.1 69)), (70, (m.1 70)), (71, (m.1 71)), (72, (m.1 72))] [(65, (m.2 65)), (66, (m.2 66)), (67, (m.2 67)), (68, (m.2 68)), (80, (m.2 80))]) c N D (by omega) (Ty_mO hT rfl rfl ⟨g176, g178, f28, f69, f70, f71, f72, trivial⟩ ⟨(hT.2.1 65), (hT.2.1 66), (hT.2.1 67), (hT.2.1 68), (hT.2.1 80), trivial⟩) 0 (m.1 70) ⟨by decide, by decide⟩ (r32 (by omega) (by omega)) (show 0 ≤ (m.1 70) ∧ (m.1 70) ≤ 4000 by omega) (fun (h : y175 = 0) => absurd h (by omega))) (fun rr292 k293 => ?_)
            obtain ⟨y294, y296, g295, g297, h298, c299, rfl⟩ := k293
            refine ⟨_, _, rfl, ?_⟩
            refine T_nf (st' := []) (l' := [(10, y294), (11, y296), (28, (m.1 28)), (69, (m.1 69)), (70, (m.1 70)), (71, (m.1 71)), (72, (m.1 72))]) (a' := [(65, (m.2 65)), (66, (m.2 66)), (67, (m.2 67)), (68, (m.2 68)), (80, (m.2 80))]) rfl rfl rfl rfl rfl ?_
            replace h298 : y294 = 0 → y175 = 0 := h298
            have hf300 : 1 ≤ y294 := by omega
            clear c299
            clear h298
            clear g176 g178 hf290
            refine T_ld 174 (.ref 189) rfl (fun _ => rfl) ?_
            refine T_ld 175 (.int (i32 ((m.2 81) jj))) rfl (fun _ => rfl) ?_
            refine T_gf 179 (.int (i32 (m.1 69))) rfl rfl rfl rfl rfl rfl ?_
            refine T_iadd 180 rfl rfl ?_
            refine T_ld 182 (.int (i32 64)) rfl (fun _ => rfl) ?_
            refine T_icmp 189 185 rfl rfl rfl (r32 (by omega) (by omega)) ⟨by decide, by decide⟩ (fun (h301 : (64 : Int) < ((m.2 81) jj) + (m.1 69)) => ?_) (fun (h301 : ¬ ((64 : Int) < ((m.2 81) jj) + (m.1 69))) => ?_)
            · skip
              refine T_ld 190 (.int (i32 0)) rfl (fun _ => rfl) ?_
              refine T_gf 194 (.int (i32 (m.1 70))) rfl rfl rfl rfl rfl rfl ?_
              refine T_call 197 256 [.ref 189, .int (i32 0), .int (i32 (m.1 70))] [] rfl (fun _ => rfl) rfl (c_want w (mO m [(10, y294), (11, y296), (28, (m.1 28)), (69, (m.1 69)), (70, (m.1 70)), (71, (m.1 71)), (72, (m.1 72))] [(65, (m.2 65)), (66, (m.2 66)), (67, (m.2 67)), (68, (m.2 68)), (80, (m.2 80))]) c N D (by omega) (Ty_mO hT rfl rfl ⟨g295, g297, f28, f69, f70, f71, f72, trivial⟩ ⟨(hT.2.1 65), (hT.2.1 66), (hT.2.1 67), (hT.2.1 68), (hT.2.1 80), trivial⟩) 0 (m.1 70) ⟨by decide, by decide⟩ (r32 (by omega) (by omega)) (show 0 ≤ (m.1 70) ∧ (m.1 70) ≤ 4000 by omega) (fun (h : y294 = 0) => absurd h (by omega))) (fun rr302 k303 => ?_)
              obtain ⟨y304, y306, g305, g307, h308, c309, rfl⟩ := k303
              refine ⟨_, _, rfl, ?_⟩
              refine T_nf (st' := []) (l' := [(10, y304), (11, y306), (28, (m.1 28)), (69, (m.1 69)), (70, (m.1 70)), (71, (m.1 71)), (72, (m.1 72))]) (a' := [(65, (m.2 65)), (66, (m.2 66)), (67, (m.2 67)), (68, (m.2 68)), (80, (m.2 80))]) rfl rfl rfl rfl rfl ?_
              replace h308 : y304 = 0 → y294 = 0 := h308
              have hf310 : 1 ≤ y304 := by omega
              clear c309
              clear h308
              clear g295 g297 hf300
              refine T_ld 198 (.int (i32 ((m.2 81) jj))) rfl (fun _ => rfl) ?_
              refine T_gf 202 (.int (i32 (m.1 69))) rfl rfl rfl rfl rfl rfl ?_
              refine T_iadd 203 rfl rfl ?_
              refine T_sto 204 [(2, .int (i32 (((m.2 81) jj) + (m.1 69)))), (5, .int (i32 (m.1 69))), (4, .int (i32 ((m.2 80) jj))), (3, .int (i32 ((m.2 82) jj))), (0, .ref 189), (1, .int (i32 jj))] rfl (fun _ => rfl) ?_
              refine T_goto 261 rfl (fun _ => rfl) ?_
              refine Tm_lv (a := [(0, .ref 189), (1, .int (i32 jj)), (2, .int (i32 (((m.2 81) jj) + (m.1 69)))), (3, .int (i32 ((m.2 82) jj))), (4, .int (i32 ((m.2 80) jj))), (5, .int (i32 (m.1 69)))]) rfl rfl ⟨rfl, rfl, rfl, rfl, rfl, rfl, trivial⟩ ?_
              exact J261_17 (((m.2 81) jj) + (m.1 69)) y304 y306 (r32 (by omega) (by omega)) g305 g307 (by omega) (fun h => absurd h (by omega))
            · skip
              refine T_ld 186 (.int (i32 1)) rfl (fun _ => rfl) ?_
              refine T_goto 190 rfl (fun _ => rfl) ?_
              refine T_gf 194 (.int (i32 (m.1 70))) rfl rfl rfl rfl rfl rfl ?_
              refine T_call 197 256 [.ref 189, .int (i32 1), .int (i32 (m.1 70))] [] rfl (fun _ => rfl) rfl (c_want w (mO m [(10, y294), (11, y296), (28, (m.1 28)), (69, (m.1 69)), (70, (m.1 70)), (71, (m.1 71)), (72, (m.1 72))] [(65, (m.2 65)), (66, (m.2 66)), (67, (m.2 67)), (68, (m.2 68)), (80, (m.2 80))]) c N D (by omega) (Ty_mO hT rfl rfl ⟨g295, g297, f28, f69, f70, f71, f72, trivial⟩ ⟨(hT.2.1 65), (hT.2.1 66), (hT.2.1 67), (hT.2.1 68), (hT.2.1 80), trivial⟩) 1 (m.1 70) ⟨by decide, by decide⟩ (r32 (by omega) (by omega)) (show 0 ≤ (m.1 70) ∧ (m.1 70) ≤ 4000 by omega) (fun (h : y294 = 0) => absurd h (by omega))) (fun rr311 k312 => ?_)
              obtain ⟨y313, y315, g314, g316, h317, c318, rfl⟩ := k312
              refine ⟨_, _, rfl, ?_⟩
              refine T_nf (st' := []) (l' := [(10, y313), (11, y315), (28, (m.1 28)), (69, (m.1 69)), (70, (m.1 70)), (71, (m.1 71)), (72, (m.1 72))]) (a' := [(65, (m.2 65)), (66, (m.2 66)), (67, (m.2 67)), (68, (m.2 68)), (80, (m.2 80))]) rfl rfl rfl rfl rfl ?_
              replace h317 : y313 = 0 → y294 = 0 := h317
              have hf319 : 1 ≤ y313 := by omega
              clear c318
              clear h317
              clear g295 g297 hf300
              refine T_ld 198 (.int (i32 ((m.2 81) jj))) rfl (fun _ => rfl) ?_
              refine T_gf 202 (.int (i32 (m.1 69))) rfl rfl rfl rfl rfl rfl ?_
              refine T_iadd 203 rfl rfl ?_
              refine T_sto 204 [(2, .int (i32 (((m.2 81) jj) + (m.1 69)))), (5, .int (i32 (m.1 69))), (4, .int (i32 ((m.2 80) jj))), (3, .int (i32 ((m.2 82) jj))), (0, .ref 189), (1, .int (i32 jj))] rfl (fun _ => rfl) ?_
              refine T_goto 261 rfl (fun _ => rfl) ?_
              refine Tm_lv (a := [(0, .ref 189), (1, .int (i32 jj)), (2, .int (i32 (((m.2 81) jj) + (m.1 69)))), (3, .int (i32 ((m.2 82) jj))), (4, .int (i32 ((m.2 80) jj))), (5, .int (i32 (m.1 69)))]) rfl rfl ⟨rfl, rfl, rfl, rfl, rfl, rfl, trivial⟩ ?_
              exact J261_17 (((m.2 81) jj) + (m.1 69)) y313 y315 (r32 (by omega) (by omega)) g314 g316 (by omega) (fun h => absurd h (by omega))
          · skip
            refine T_ld 162 (.int (i32 1)) rfl (fun _ => rfl) ?_
            refine T_goto 166 rfl (fun _ => rfl) ?_
            refine T_gf 170 (.int (i32 (m.1 70))) rfl rfl rfl rfl rfl rfl ?_
            refine T_call 173 256 [.ref 189, .int (i32 1), .int (i32 (m.1 70))] [] rfl (fun _ => rfl) rfl (c_want w (mO m [(10, y175), (11, y177), (28, (m.1 28)), (69, (m.1 69)), (70, (m.1 70)), (71, (m.1 71)), (72, (m.1 72))] [(65, (m.2 65)), (66, (m.2 66)), (67, (m.2 67)), (68, (m.2 68)), (80, (m.2 80))]) c N D (by omega) (Ty_mO hT rfl rfl ⟨g176, g178, f28, f69, f70, f71, f72, trivial⟩ ⟨(hT.2.1 65), (hT.2.1 66), (hT.2.1 67), (hT.2.1 68), (hT.2.1 80), trivial⟩) 1 (m.1 70) ⟨by decide, by decide⟩ (r32 (by omega) (by omega)) (show 0 ≤ (m.1 70) ∧ (m.1 70) ≤ 4000 by omega) (fun (h : y175 = 0) => absurd h (by omega))) (fun rr320 k321 => ?_)
            obtain ⟨y322, y324, g323, g325, h326, c327, rfl⟩ := k321
            refine ⟨_, _, rfl, ?_⟩
            refine T_nf (st' := []) (l' := [(10, y322), (11, y324), (28, (m.1 28)), (69, (m.1 69)), (70, (m.1 70)), (71, (m.1 71)), (72, (m.1 72))]) (a' := [(65, (m.2 65)), (66, (m.2 66)), (67, (m.2 67)), (68, (m.2 68)), (80, (m.2 80))]) rfl rfl rfl rfl rfl ?_
            replace h326 : y322 = 0 → y175 = 0 := h326
            have hf328 : 1 ≤ y322 := by omega
            clear c327
            clear h326
            clear g176 g178 hf290
            refine T_ld 174 (.ref 189) rfl (fun _ => rfl) ?_
            refine T_ld 175 (.int (i32 ((m.2 81) jj))) rfl (fun _ => rfl) ?_
            refine T_gf 179 (.int (i32 (m.1 69))) rfl rfl rfl rfl rfl rfl ?_
            refine T_iadd 180 rfl rfl ?_
            refine T_ld 182 (.int (i32 64)) rfl (fun _ => rfl) ?_
            refine T_icmp 189 185 rfl rfl rfl (r32 (by omega) (by omega)) ⟨by decide, by decide⟩ (fun (h329 : (64 : Int) < ((m.2 81) jj) + (m.1 69)) => ?_) (fun (h329 : ¬ ((64 : Int) < ((m.2 81) jj) + (m.1 69))) => ?_)
            · skip
              refine T_ld 190 (.int (i32 0)) rfl (fun _ => rfl) ?_
              refine T_gf 194 (.int (i32 (m.1 70))) rfl rfl rfl rfl rfl rfl ?_
              refine T_call 197 256 [.ref 189, .int (i32 0), .int (i32 (m.1 70))] [] rfl (fun _ => rfl) rfl (c_want w (mO m [(10, y322), (11, y324), (28, (m.1 28)), (69, (m.1 69)), (70, (m.1 70)), (71, (m.1 71)), (72, (m.1 72))] [(65, (m.2 65)), (66, (m.2 66)), (67, (m.2 67)), (68, (m.2 68)), (80, (m.2 80))]) c N D (by omega) (Ty_mO hT rfl rfl ⟨g323, g325, f28, f69, f70, f71, f72, trivial⟩ ⟨(hT.2.1 65), (hT.2.1 66), (hT.2.1 67), (hT.2.1 68), (hT.2.1 80), trivial⟩) 0 (m.1 70) ⟨by decide, by decide⟩ (r32 (by omega) (by omega)) (show 0 ≤ (m.1 70) ∧ (m.1 70) ≤ 4000 by omega) (fun (h : y322 = 0) => absurd h (by omega))) (fun rr330 k331 => ?_)
              obtain ⟨y332, y334, g333, g335, h336, c337, rfl⟩ := k331
              refine ⟨_, _, rfl, ?_⟩
              refine T_nf (st' := []) (l' := [(10, y332), (11, y334), (28, (m.1 28)), (69, (m.1 69)), (70, (m.1 70)), (71, (m.1 71)), (72, (m.1 72))]) (a' := [(65, (m.2 65)), (66, (m.2 66)), (67, (m.2 67)), (68, (m.2 68)), (80, (m.2 80))]) rfl rfl rfl rfl rfl ?_
              replace h336 : y332 = 0 → y322 = 0 := h336
              have hf338 : 1 ≤ y332 := by omega
              clear c337
              clear h336
              clear g323 g325 hf328
              refine T_ld 198 (.int (i32 ((m.2 81) jj))) rfl (fun _ => rfl) ?_
              refine T_gf 202 (.int (i32 (m.1 69))) rfl rfl rfl rfl rfl rfl ?_
              refine T_iadd 203 rfl rfl ?_
              refine T_sto 204 [(2, .int (i32 (((m.2 81) jj) + (m.1 69)))), (5, .int (i32 (m.1 69))), (4, .int (i32 ((m.2 80) jj))), (3, .int (i32 ((m.2 82) jj))), (0, .ref 189), (1, .int (i32 jj))] rfl (fun _ => rfl) ?_
              refine T_goto 261 rfl (fun _ => rfl) ?_
              refine Tm_lv (a := [(0, .ref 189), (1, .int (i32 jj)), (2, .int (i32 (((m.2 81) jj) + (m.1 69)))), (3, .int (i32 ((m.2 82) jj))), (4, .int (i32 ((m.2 80) jj))), (5, .int (i32 (m.1 69)))]) rfl rfl ⟨rfl, rfl, rfl, rfl, rfl, rfl, trivial⟩ ?_
              exact J261_17 (((m.2 81) jj) + (m.1 69)) y332 y334 (r32 (by omega) (by omega)) g333 g335 (by omega) (fun h => absurd h (by omega))
            · skip
              refine T_ld 186 (.int (i32 1)) rfl (fun _ => rfl) ?_
              refine T_goto 190 rfl (fun _ => rfl) ?_
              refine T_gf 194 (.int (i32 (m.1 70))) rfl rfl rfl rfl rfl rfl ?_
              refine T_call 197 256 [.ref 189, .int (i32 1), .int (i32 (m.1 70))] [] rfl (fun _ => rfl) rfl (c_want w (mO m [(10, y322), (11, y324), (28, (m.1 28)), (69, (m.1 69)), (70, (m.1 70)), (71, (m.1 71)), (72, (m.1 72))] [(65, (m.2 65)), (66, (m.2 66)), (67, (m.2 67)), (68, (m.2 68)), (80, (m.2 80))]) c N D (by omega) (Ty_mO hT rfl rfl ⟨g323, g325, f28, f69, f70, f71, f72, trivial⟩ ⟨(hT.2.1 65), (hT.2.1 66), (hT.2.1 67), (hT.2.1 68), (hT.2.1 80), trivial⟩) 1 (m.1 70) ⟨by decide, by decide⟩ (r32 (by omega) (by omega)) (show 0 ≤ (m.1 70) ∧ (m.1 70) ≤ 4000 by omega) (fun (h : y322 = 0) => absurd h (by omega))) (fun rr339 k340 => ?_)
              obtain ⟨y341, y343, g342, g344, h345, c346, rfl⟩ := k340
              refine ⟨_, _, rfl, ?_⟩
              refine T_nf (st' := []) (l' := [(10, y341), (11, y343), (28, (m.1 28)), (69, (m.1 69)), (70, (m.1 70)), (71, (m.1 71)), (72, (m.1 72))]) (a' := [(65, (m.2 65)), (66, (m.2 66)), (67, (m.2 67)), (68, (m.2 68)), (80, (m.2 80))]) rfl rfl rfl rfl rfl ?_
              replace h345 : y341 = 0 → y322 = 0 := h345
              have hf347 : 1 ≤ y341 := by omega
              clear c346
              clear h345
              clear g323 g325 hf328
              refine T_ld 198 (.int (i32 ((m.2 81) jj))) rfl (fun _ => rfl) ?_
              refine T_gf 202 (.int (i32 (m.1 69))) rfl rfl rfl rfl rfl rfl ?_
              refine T_iadd 203 rfl rfl ?_
              refine T_sto 204 [(2, .int (i32 (((m.2 81) jj) + (m.1 69)))), (5, .int (i32 (m.1 69))), (4, .int (i32 ((m.2 80) jj))), (3, .int (i32 ((m.2 82) jj))), (0, .ref 189), (1, .int (i32 jj))] rfl (fun _ => rfl) ?_
              refine T_goto 261 rfl (fun _ => rfl) ?_
              refine Tm_lv (a := [(0, .ref 189), (1, .int (i32 jj)), (2, .int (i32 (((m.2 81) jj) + (m.1 69)))), (3, .int (i32 ((m.2 82) jj))), (4, .int (i32 ((m.2 80) jj))), (5, .int (i32 (m.1 69)))]) rfl rfl ⟨rfl, rfl, rfl, rfl, rfl, rfl, trivial⟩ ?_
              exact J261_17 (((m.2 81) jj) + (m.1 69)) y341 y343 (r32 (by omega) (by omega)) g342 g344 (by omega) (fun h => absurd h (by omega))
      · skip
        refine T_ld 145 (.int (i32 1)) rfl (fun _ => rfl) ?_
        refine T_goto 149 rfl (fun _ => rfl) ?_
        refine T_ld 150 (.int (i32 ((m.2 82) jj))) rfl (fun _ => rfl) ?_
        refine T_call 153 256 [.ref 189, .int (i32 1), .int (i32 ((m.2 82) jj))] [] rfl (fun _ => rfl) rfl (c_want w (mO m [(10, (m.1 10)), (11, (m.1 11)), (28, (m.1 28)), (69, (m.1 69)), (70, (m.1 70)), (71, (m.1 71)), (72, (m.1 72))] [(65, (m.2 65)), (66, (m.2 66)), (67, (m.2 67)), (68, (m.2 68)), (80, (m.2 80))]) c N D (by omega) (Ty_mO hT rfl rfl ⟨f10, f11, f28, f69, f70, f71, f72, trivial⟩ ⟨(hT.2.1 65), (hT.2.1 66), (hT.2.1 67), (hT.2.1 68), (hT.2.1 80), trivial⟩) 1 ((m.2 82) jj) ⟨by decide, by decide⟩ (r32 (by omega) (by omega)) (show 0 ≤ ((m.2 82) jj) ∧ ((m.2 82) jj) ≤ 4000 by omega) (fun _ => trivial)) (fun rr348 k349 => ?_)
        obtain ⟨y350, y352, g351, g353, h354, c355, rfl⟩ := k349
        refine ⟨_, _, rfl, ?_⟩
        refine T_nf (st' := []) (l' := [(10, y350), (11, y352), (28, (m.1 28)), (69, (m.1 69)), (70, (m.1 70)), (71, (m.1 71)), (72, (m.1 72))]) (a' := [(65, (m.2 65)), (66, (m.2 66)), (67, (m.2 67)), (68, (m.2 68)), (80, (m.2 80))]) rfl rfl rfl rfl rfl ?_
        by_cases hf356 : y350 = 0
        · skip
          subst hf356
          replace h354 : (m.1 10) = 0 := h354 rfl
          have c357 := c355 rfl
          replace c357 : (1 : Int) ≠ 0 := c357
          clear c355
          clear g12a g12b h13 g351
          refine T_ld 154 (.ref 189) rfl (fun _ => rfl) ?_
          refine T_gf 158 (.int (i32 (m.1 71))) rfl rfl rfl rfl rfl rfl ?_
          refine T_if 165 161 rfl rfl rfl (r32 (by omega) (by omega)) (fun (h358 : (m.1 71) ≠ 0) => ?_) (fun (h358 : ¬ ((m.1 71) ≠ 0)) => ?_)
          · skip
            refine T_ld 166 (.int (i32 0)) rfl (fun _ => rfl) ?_
            refine T_gf 170 (.int (i32 (m.1 70))) rfl rfl rfl rfl rfl rfl ?_
            refine T_call 173 256 [.ref 189, .int (i32 0), .int (i32 (m.1 70))] [] rfl (fun _ => rfl) rfl (c_want w (mO m [(10, 0), (11, y352), (28, (m.1 28)), (69, (m.1 69)), (70, (m.1 70)), (71, (m.1 71)), (72, (m.1 72))] [(65, (m.2 65)), (66, (m.2 66)), (67, (m.2 67)), (68, (m.2 68)), (80, (m.2 80))]) c N D (by omega) (Ty_mO hT rfl rfl ⟨⟨(by omega : (0 : Int) ≤ 0), (by omega : (0 : Int) ≤ 8)⟩, g353, f28, f69, f70, f71, f72, trivial⟩ ⟨(hT.2.1 65), (hT.2.1 66), (hT.2.1 67), (hT.2.1 68), (hT.2.1 80), trivial⟩) 0 (m.1 70) ⟨by decide, by decide⟩ (r32 (by omega) (by omega)) (show 0 ≤ (m.1 70) ∧ (m.1 70) ≤ 4000 by omega) (fun _ => trivial)) (fun rr359 k360 => ?_)
            obtain ⟨y361, y363, g362, g364, h365, c366, rfl⟩ := k360
            refine ⟨_, _, rfl, ?_⟩
            refine T_nf (st' := []) (l' := [(10, y361), (11, y363), (28, (m.1 28)), (69, (m.1 69)), (70, (m.1 70)), (71, (m.1 71)), (72, (m.1 72))]) (a' := [(65, (m.2 65)), (66, (m.2 66)), (67, (m.2 67)), (68, (m.2 68)), (80, (m.2 80))]) rfl rfl rfl rfl rfl ?_
            by_cases hf367 : y361 = 0
            · skip
              subst hf367
              replace h365 : (0 : Int) = 0 := h365 rfl
              have c368 := c366 rfl
              replace c368 : (0 : Int) ≠ 0 := c368
              clear c366
              clear g353 g362
              refine T_ld 174 (.ref 189) rfl (fun _ => rfl) ?_
              refine T_ld 175 (.int (i32 ((m.2 81) jj))) rfl (fun _ => rfl) ?_
              refine T_gf 179 (.int (i32 (m.1 69))) rfl rfl rfl rfl rfl rfl ?_
              refine T_iadd 180 rfl rfl ?_
              refine T_ld 182 (.int (i32 64)) rfl (fun _ => rfl) ?_
              refine T_icmp 189 185 rfl rfl rfl (r32 (by omega) (by omega)) ⟨by decide, by decide⟩ (fun (h369 : (64 : Int) < ((m.2 81) jj) + (m.1 69)) => ?_) (fun (h369 : ¬ ((64 : Int) < ((m.2 81) jj) + (m.1 69))) => ?_)
              · skip
                refine T_ld 190 (.int (i32 0)) rfl (fun _ => rfl) ?_
                refine T_gf 194 (.int (i32 (m.1 70))) rfl rfl rfl rfl rfl rfl ?_
                refine T_call 197 256 [.ref 189, .int (i32 0), .int (i32 (m.1 70))] [] rfl (fun _ => rfl) rfl (c_want w (mO m [(10, 0), (11, y363), (28, (m.1 28)), (69, (m.1 69)), (70, (m.1 70)), (71, (m.1 71)), (72, (m.1 72))] [(65, (m.2 65)), (66, (m.2 66)), (67, (m.2 67)), (68, (m.2 68)), (80, (m.2 80))]) c N D (by omega) (Ty_mO hT rfl rfl ⟨⟨(by omega : (0 : Int) ≤ 0), (by omega : (0 : Int) ≤ 8)⟩, g364, f28, f69, f70, f71, f72, trivial⟩ ⟨(hT.2.1 65), (hT.2.1 66), (hT.2.1 67), (hT.2.1 68), (hT.2.1 80), trivial⟩) 0 (m.1 70) ⟨by decide, by decide⟩ (r32 (by omega) (by omega)) (show 0 ≤ (m.1 70) ∧ (m.1 70) ≤ 4000 by omega) (fun _ => trivial)) (fun rr370 k371 => ?_)
                obtain ⟨y372, y374, g373, g375, h376, c377, rfl⟩ := k371
                refine ⟨_, _, rfl, ?_⟩
                refine T_nf (st' := []) (l' := [(10, y372), (11, y374), (28, (m.1 28)), (69, (m.1 69)), (70, (m.1 70)), (71, (m.1 71)), (72, (m.1 72))]) (a' := [(65, (m.2 65)), (66, (m.2 66)), (67, (m.2 67)), (68, (m.2 68)), (80, (m.2 80))]) rfl rfl rfl rfl rfl ?_
                by_cases hf378 : y372 = 0
                · skip
                  subst hf378
                  replace h376 : (0 : Int) = 0 := h376 rfl
                  have c379 := c377 rfl
                  replace c379 : (0 : Int) ≠ 0 := c379
                  clear c377
                  clear g364 g373
                  refine T_ld 198 (.int (i32 ((m.2 81) jj))) rfl (fun _ => rfl) ?_
                  refine T_gf 202 (.int (i32 (m.1 69))) rfl rfl rfl rfl rfl rfl ?_
                  refine T_iadd 203 rfl rfl ?_
                  refine T_sto 204 [(2, .int (i32 (((m.2 81) jj) + (m.1 69)))), (5, .int (i32 (m.1 69))), (4, .int (i32 ((m.2 80) jj))), (3, .int (i32 ((m.2 82) jj))), (0, .ref 189), (1, .int (i32 jj))] rfl (fun _ => rfl) ?_
                  refine T_goto 261 rfl (fun _ => rfl) ?_
                  refine Tm_lv (a := [(0, .ref 189), (1, .int (i32 jj)), (2, .int (i32 (((m.2 81) jj) + (m.1 69)))), (3, .int (i32 ((m.2 82) jj))), (4, .int (i32 ((m.2 80) jj))), (5, .int (i32 (m.1 69)))]) rfl rfl ⟨rfl, rfl, rfl, rfl, rfl, rfl, trivial⟩ ?_
                  exact J261_17 (((m.2 81) jj) + (m.1 69)) 0 y374 (r32 (by omega) (by omega)) ⟨by omega, by omega⟩ g375 (by omega) (fun _ => (by omega))
                · skip
                  clear c377
                  clear h376
                  have hf380 : 1 ≤ y372 := by omega
                  clear g364
                  refine T_ld 198 (.int (i32 ((m.2 81) jj))) rfl (fun _ => rfl) ?_
                  refine T_gf 202 (.int (i32 (m.1 69))) rfl rfl rfl rfl rfl rfl ?_
                  refine T_iadd 203 rfl rfl ?_
                  refine T_sto 204 [(2, .int (i32 (((m.2 81) jj) + (m.1 69)))), (5, .int (i32 (m.1 69))), (4, .int (i32 ((m.2 80) jj))), (3, .int (i32 ((m.2 82) jj))), (0, .ref 189), (1, .int (i32 jj))] rfl (fun _ => rfl) ?_
                  refine T_goto 261 rfl (fun _ => rfl) ?_
                  refine Tm_lv (a := [(0, .ref 189), (1, .int (i32 jj)), (2, .int (i32 (((m.2 81) jj) + (m.1 69)))), (3, .int (i32 ((m.2 82) jj))), (4, .int (i32 ((m.2 80) jj))), (5, .int (i32 (m.1 69)))]) rfl rfl ⟨rfl, rfl, rfl, rfl, rfl, rfl, trivial⟩ ?_
                  exact J261_17 (((m.2 81) jj) + (m.1 69)) y372 y374 (r32 (by omega) (by omega)) g373 g375 (by omega) (fun h => absurd h (by omega))
              · skip
                refine T_ld 186 (.int (i32 1)) rfl (fun _ => rfl) ?_
                refine T_goto 190 rfl (fun _ => rfl) ?_
                refine T_gf 194 (.int (i32 (m.1 70))) rfl rfl rfl rfl rfl rfl ?_
                refine T_call 197 256 [.ref 189, .int (i32 1), .int (i32 (m.1 70))] [] rfl (fun _ => rfl) rfl (c_want w (mO m [(10, 0), (11, y363), (28, (m.1 28)), (69, (m.1 69)), (70, (m.1 70)), (71, (m.1 71)), (72, (m.1 72))] [(65, (m.2 65)), (66, (m.2 66)), (67, (m.2 67)), (68, (m.2 68)), (80, (m.2 80))]) c N D (by omega) (Ty_mO hT rfl rfl ⟨⟨(by omega : (0 : Int) ≤ 0), (by omega : (0 : Int) ≤ 8)⟩, g364, f28, f69, f70, f71, f72, trivial⟩ ⟨(hT.2.1 65), (hT.2.1 66), (hT.2.1 67), (hT.2.1 68), (hT.2.1 80), trivial⟩) 1 (m.1 70) ⟨by decide, by decide⟩ (r32 (by omega) (by omega)) (show 0 ≤ (m.1 70) ∧ (m.1 70) ≤ 4000 by omega) (fun _ => trivial)) (fun rr381 k382 => ?_)
                obtain ⟨y383, y385, g384, g386, h387, c388, rfl⟩ := k382
                refine ⟨_, _, rfl, ?_⟩
                refine T_nf (st' := []) (l' := [(10, y383), (11, y385), (28, (m.1 28)), (69, (m.1 69)), (70, (m.1 70)), (71, (m.1 71)), (72, (m.1 72))]) (a' := [(65, (m.2 65)), (66, (m.2 66)), (67, (m.2 67)), (68, (m.2 68)), (80, (m.2 80))]) rfl rfl rfl rfl rfl ?_
                by_cases hf389 : y383 = 0
                · skip
                  subst hf389
                  replace h387 : (0 : Int) = 0 := h387 rfl
                  have c390 := c388 rfl
                  replace c390 : (1 : Int) ≠ 0 := c390
                  clear c388
                  clear g364 g384
                  refine T_ld 198 (.int (i32 ((m.2 81) jj))) rfl (fun _ => rfl) ?_
                  refine T_gf 202 (.int (i32 (m.1 69))) rfl rfl rfl rfl rfl rfl ?_
                  refine T_iadd 203 rfl rfl ?_
                  refine T_sto 204 [(2, .int (i32 (((m.2 81) jj) + (m.1 69)))), (5, .int (i32 (m.1 69))), (4, .int (i32 ((m.2 80) jj))), (3, .int (i32 ((m.2 82) jj))), (0, .ref 189), (1, .int (i32 jj))] rfl (fun _ => rfl) ?_
                  refine T_goto 261 rfl (fun _ => rfl) ?_
                  refine Tm_lv (a := [(0, .ref 189), (1, .int (i32 jj)), (2, .int (i32 (((m.2 81) jj) + (m.1 69)))), (3, .int (i32 ((m.2 82) jj))), (4, .int (i32 ((m.2 80) jj))), (5, .int (i32 (m.1 69)))]) rfl rfl ⟨rfl, rfl, rfl, rfl, rfl, rfl, trivial⟩ ?_
                  exact J261_17 (((m.2 81) jj) + (m.1 69)) 0 y385 (r32 (by omega) (by omega)) ⟨by omega, by omega⟩ g386 (by omega) (fun _ => (by omega))
                · skip
                  clear c388
                  clear h387
                  have hf391 : 1 ≤ y383 := by omega
                  clear g364
                  refine T_ld 198 (.int (i32 ((m.2 81) jj))) rfl (fun _ => rfl) ?_
                  refine T_gf 202 (.int (i32 (m.1 69))) rfl rfl rfl rfl rfl rfl ?_
                  refine T_iadd 203 rfl rfl ?_
                  refine T_sto 204 [(2, .int (i32 (((m.2 81) jj) + (m.1 69)))), (5, .int (i32 (m.1 69))), (4, .int (i32 ((m.2 80) jj))), (3, .int (i32 ((m.2 82) jj))), (0, .ref 189), (1, .int (i32 jj))] rfl (fun _ => rfl) ?_
                  refine T_goto 261 rfl (fun _ => rfl) ?_
                  refine Tm_lv (a := [(0, .ref 189), (1, .int (i32 jj)), (2, .int (i32 (((m.2 81) jj) + (m.1 69)))), (3, .int (i32 ((m.2 82) jj))), (4, .int (i32 ((m.2 80) jj))), (5, .int (i32 (m.1 69)))]) rfl rfl ⟨rfl, rfl, rfl, rfl, rfl, rfl, trivial⟩ ?_
                  exact J261_17 (((m.2 81) jj) + (m.1 69)) y383 y385 (r32 (by omega) (by omega)) g384 g386 (by omega) (fun h => absurd h (by omega))
            · skip
              clear c366
              clear h365
              have hf392 : 1 ≤ y361 := by omega
              clear g353
              refine T_ld 174 (.ref 189) rfl (fun _ => rfl) ?_
              refine T_ld 175 (.int (i32 ((m.2 81) jj))) rfl (fun _ => rfl) ?_
              refine T_gf 179 (.int (i32 (m.1 69))) rfl rfl rfl rfl rfl rfl ?_
              refine T_iadd 180 rfl rfl ?_
              refine T_ld 182 (.int (i32 64)) rfl (fun _ => rfl) ?_
              refine T_icmp 189 185 rfl rfl rfl (r32 (by omega) (by omega)) ⟨by decide, by decide⟩ (fun (h393 : (64 : Int) < ((m.2 81) jj) + (m.1 69)) => ?_) (fun (h393 : ¬ ((64 : Int) < ((m.2 81) jj) + (m.1 69))) => ?_)
              · skip
                refine T_ld 190 (.int (i32 0)) rfl (fun _ => rfl) ?_
                refine T_gf 194 (.int (i32 (m.1 70))) rfl rfl rfl rfl rfl rfl ?_
                refine T_call 197 256 [.ref 189, .int (i32 0), .int (i32 (m.1 70))] [] rfl (fun _ => rfl) rfl (c_want w (mO m [(10, y361), (11, y363), (28, (m.1 28)), (69, (m.1 69)), (70, (m.1 70)), (71, (m.1 71)), (72, (m.1 72))] [(65, (m.2 65)), (66, (m.2 66)), (67, (m.2 67)), (68, (m.2 68)), (80, (m.2 80))]) c N D (by omega) (Ty_mO hT rfl rfl ⟨g362, g364, f28, f69, f70, f71, f72, trivial⟩ ⟨(hT.2.1 65), (hT.2.1 66), (hT.2.1 67), (hT.2.1 68), (hT.2.1 80), trivial⟩) 0 (m.1 70) ⟨by decide, by decide⟩ (r32 (by omega) (by omega)) (show 0 ≤ (m.1 70) ∧ (m.1 70) ≤ 4000 by omega) (fun (h : y361 = 0) => absurd h (by omega))) (fun rr394 k395 => ?_)
                obtain ⟨y396, y398, g397, g399, h400, c401, rfl⟩ := k395
                refine ⟨_, _, rfl, ?_⟩
                refine T_nf (st' := []) (l' := [(10, y396), (11, y398), (28, (m.1 28)), (69, (m.1 69)), (70, (m.1 70)), (71, (m.1 71)), (72, (m.1 72))]) (a' := [(65, (m.2 65)), (66, (m.2 66)), (67, (m.2 67)), (68, (m.2 68)), (80, (m.2 80))]) rfl rfl rfl rfl rfl ?_
                replace h400 : y396 = 0 → y361 = 0 := h400
                have hf402 : 1 ≤ y396 := by omega
                clear c401
                clear h400
                clear g362 g364 hf392
                refine T_ld 198 (.int (i32 ((m.2 81) jj))) rfl (fun _ => rfl) ?_
                refine T_gf 202 (.int (i32 (m.1 69))) rfl rfl rfl rfl rfl rfl ?_
                refine T_iadd 203 rfl rfl ?_
                refine T_sto 204 [(2, .int (i32 (((m.2 81) jj) + (m.1 69)))), (5, .int (i32 (m.1 69))), (4, .int (i32 ((m.2 80) jj))), (3, .int (i32 ((m.2 82) jj))), (0, .ref 189), (1, .int (i32 jj))] rfl (fun _ => rfl) ?_
                refine T_goto 261 rfl (fun _ => rfl) ?_
                refine Tm_lv (a := [(0, .ref 189), (1, .int (i32 jj)), (2, .int (i32 (((m.2 81) jj) + (m.1 69)))), (3, .int (i32 ((m.2 82) jj))), (4, .int (i32 ((m.2 80) jj))), (5, .int (i32 (m.1 69)))]) rfl rfl ⟨rfl, rfl, rfl, rfl, rfl, rfl, trivial⟩ ?_
                exact J261_17 (((m.2 81) jj) + (m.1 69)) y396 y398 (r32 (by omega) (by omega)) g397 g399 (by omega) (fun h => absurd h (by omega))
              · skip
                refine T_ld 186 (.int (i32 1)) rfl (fun _ => rfl) ?_
                refine T_goto 190 rfl (fun _ => rfl) ?_
                refine T_gf 194 (.int (i32 (m.1 70))) rfl rfl rfl rfl rfl rfl ?_
                refine T_call 197 256 [.ref 189, .int (i32 1), .int (i32 (m.1 70))] [] rfl (fun _ => rfl) rfl (c_want w (mO m [(10, y361), (11, y363), (28, (m.1 28)), (69, (m.1 69)), (70, (m.1 70)), (71, (m.1 71)), (72, (m.1 72))] [(65, (m.2 65)), (66, (m.2 66)), (67, (m.2 67)), (68, (m.2 68)), (80, (m.2 80))]) c N D (by omega) (Ty_mO hT rfl rfl ⟨g362, g364, f28, f69, f70, f71, f72, trivial⟩ ⟨(hT.2.1 65), (hT.2.1 66), (hT.2.1 67), (hT.2.1 68), (hT.2.1 80), trivial⟩) 1 (m.1 70) ⟨by decide, by decide⟩ (r32 (by omega) (by omega)) (show 0 ≤ (m.1 70) ∧ (m.1 70) ≤ 4000 by omega) (fun (h : y361 = 0) => absurd h (by omega))) (fun rr403 k404 => ?_)
                obtain ⟨y405, y407, g406, g408, h409, c410, rfl⟩ := k404
                refine ⟨_, _, rfl, ?_⟩
                refine T_nf (st' := []) (l' := [(10, y405), (11, y407), (28, (m.1 28)), (69, (m.1 69)), (70, (m.1 70)), (71, (m.1 71)), (72, (m.1 72))]) (a' := [(65, (m.2 65)), (66, (m.2 66)), (67, (m.2 67)), (68, (m.2 68)), (80, (m.2 80))]) rfl rfl rfl rfl rfl ?_
                replace h409 : y405 = 0 → y361 = 0 := h409
                have hf411 : 1 ≤ y405 := by omega
                clear c410
                clear h409
                clear g362 g364 hf392
                refine T_ld 198 (.int (i32 ((m.2 81) jj))) rfl (fun _ => rfl) ?_
                refine T_gf 202 (.int (i32 (m.1 69))) rfl rfl rfl rfl rfl rfl ?_
                refine T_iadd 203 rfl rfl ?_
                refine T_sto 204 [(2, .int (i32 (((m.2 81) jj) + (m.1 69)))), (5, .int (i32 (m.1 69))), (4, .int (i32 ((m.2 80) jj))), (3, .int (i32 ((m.2 82) jj))), (0, .ref 189), (1, .int (i32 jj))] rfl (fun _ => rfl) ?_
                refine T_goto 261 rfl (fun _ => rfl) ?_
                refine Tm_lv (a := [(0, .ref 189), (1, .int (i32 jj)), (2, .int (i32 (((m.2 81) jj) + (m.1 69)))), (3, .int (i32 ((m.2 82) jj))), (4, .int (i32 ((m.2 80) jj))), (5, .int (i32 (m.1 69)))]) rfl rfl ⟨rfl, rfl, rfl, rfl, rfl, rfl, trivial⟩ ?_
                exact J261_17 (((m.2 81) jj) + (m.1 69)) y405 y407 (r32 (by omega) (by omega)) g406 g408 (by omega) (fun h => absurd h (by omega))
          · skip
            refine T_ld 162 (.int (i32 1)) rfl (fun _ => rfl) ?_
            refine T_goto 166 rfl (fun _ => rfl) ?_
            refine T_gf 170 (.int (i32 (m.1 70))) rfl rfl rfl rfl rfl rfl ?_
            refine T_call 173 256 [.ref 189, .int (i32 1), .int (i32 (m.1 70))] [] rfl (fun _ => rfl) rfl (c_want w (mO m [(10, 0), (11, y352), (28, (m.1 28)), (69, (m.1 69)), (70, (m.1 70)), (71, (m.1 71)), (72, (m.1 72))] [(65, (m.2 65)), (66, (m.2 66)), (67, (m.2 67)), (68, (m.2 68)), (80, (m.2 80))]) c N D (by omega) (Ty_mO hT rfl rfl ⟨⟨(by omega : (0 : Int) ≤ 0), (by omega : (0 : Int) ≤ 8)⟩, g353, f28, f69, f70, f71, f72, trivial⟩ ⟨(hT.2.1 65), (hT.2.1 66), (hT.2.1 67), (hT.2.1 68), (hT.2.1 80), trivial⟩) 1 (m.1 70) ⟨by decide, by decide⟩ (r32 (by omega) (by omega)) (show 0 ≤ (m.1 70) ∧ (m.1 70) ≤ 4000 by omega) (fun _ => trivial)) (fun rr412 k413 => ?_)
            obtain ⟨y414, y416, g415, g417, h418, c419, rfl⟩ := k413
            refine ⟨_, _, rfl, ?_⟩
            refine T_nf (st' := []) (l' := [(10, y414), (11, y416), (28, (m.1 28)), (69, (m.1 69)), (70, (m.1 70)), (71, (m.1 71)), (72, (m.1 72))]) (a' := [(65, (m.2 65)), (66, (m.2 66)), (67, (m.2 67)), (68, (m.2 68)), (80, (m.2 80))]) rfl rfl rfl rfl rfl ?_
            by_cases hf420 : y414 = 0
            · skip
              subst hf420
              replace h418 : (0 : Int) = 0 := h418 rfl
              have c421 := c419 rfl
              replace c421 : (1 : Int) ≠ 0 := c421
              clear c419
              clear g353 g415
              refine T_ld 174 (.ref 189) rfl (fun _ => rfl) ?_
              refine T_ld 175 (.int (i32 ((m.2 81) jj))) rfl (fun _ => rfl) ?_
              refine T_gf 179 (.int (i32 (m.1 69))) rfl rfl rfl rfl rfl rfl ?_
              refine T_iadd 180 rfl rfl ?_
              refine T_ld 182 (.int (i32 64)) rfl (fun _ => rfl) ?_
              refine T_icmp 189 185 rfl rfl rfl (r32 (by omega) (by omega)) ⟨by decide, by decide⟩ (fun (h422 : (64 : Int) < ((m.2 81) jj) + (m.1 69)) => ?_) (fun (h422 : ¬ ((64 : Int) < ((m.2 81) jj) + (m.1 69))) => ?_)
              · skip
                refine T_ld 190 (.int (i32 0)) rfl (fun _ => rfl) ?_
                refine T_gf 194 (.int (i32 (m.1 70))) rfl rfl rfl rfl rfl rfl ?_
                refine T_call 197 256 [.ref 189, .int (i32 0), .int (i32 (m.1 70))] [] rfl (fun _ => rfl) rfl (c_want w (mO m [(10, 0), (11, y416), (28, (m.1 28)), (69, (m.1 69)), (70, (m.1 70)), (71, (m.1 71)), (72, (m.1 72))] [(65, (m.2 65)), (66, (m.2 66)), (67, (m.2 67)), (68, (m.2 68)), (80, (m.2 80))]) c N D (by omega) (Ty_mO hT rfl rfl ⟨⟨(by omega : (0 : Int) ≤ 0), (by omega : (0 : Int) ≤ 8)⟩, g417, f28, f69, f70, f71, f72, trivial⟩ ⟨(hT.2.1 65), (hT.2.1 66), (hT.2.1 67), (hT.2.1 68), (hT.2.1 80), trivial⟩) 0 (m.1 70) ⟨by decide, by decide⟩ (r32 (by omega) (by omega)) (show 0 ≤ (m.1 70) ∧ (m.1 70) ≤ 4000 by omega) (fun _ => trivial)) (fun rr423 k424 => ?_)
                obtain ⟨y425, y427, g426, g428, h429, c430, rfl⟩ := k424
                refine ⟨_, _, rfl, ?_⟩
                refine T_nf (st' := []) (l' := [(10, y425), (11, y427), (28, (m.1 28)), (69, (m.1 69)), (70, (m.1 70)), (71, (m.1 71)), (72, (m.1 72))]) (a' := [(65, (m.2 65)), (66, (m.2 66)), (67, (m.2 67)), (68, (m.2 68)), (80, (m.2 80))]) rfl rfl rfl rfl rfl ?_
                by_cases hf431 : y425 = 0
                · skip
                  subst hf431
                  replace h429 : (0 : Int) = 0 := h429 rfl
                  have c432 := c430 rfl
                  replace c432 : (0 : Int) ≠ 0 := c432
                  clear c430
                  clear g417 g426
                  refine T_ld 198 (.int (i32 ((m.2 81) jj))) rfl (fun _ => rfl) ?_
                  refine T_gf 202 (.int (i32 (m.1 69))) rfl rfl rfl rfl rfl rfl ?_
                  refine T_iadd 203 rfl rfl ?_
                  refine T_sto 204 [(2, .int (i32 (((m.2 81) jj) + (m.1 69)))), (5, .int (i32 (m.1 69))), (4, .int (i32 ((m.2 80) jj))), (3, .int (i32 ((m.2 82) jj))), (0, .ref 189), (1, .int (i32 jj))] rfl (fun _ => rfl) ?_
                  refine T_goto 261 rfl (fun _ => rfl) ?_
                  refine Tm_lv (a := [(0, .ref 189), (1, .int (i32 jj)), (2, .int (i32 (((m.2 81) jj) + (m.1 69)))), (3, .int (i32 ((m.2 82) jj))), (4, .int (i32 ((m.2 80) jj))), (5, .int (i32 (m.1 69)))]) rfl rfl ⟨rfl, rfl, rfl, rfl, rfl, rfl, trivial⟩ ?_
                  exact J261_17 (((m.2 81) jj) + (m.1 69)) 0 y427 (r32 (by omega) (by omega)) ⟨by omega, by omega⟩ g428 (by omega) (fun _ => (by omega))
                · skip
                  clear c430
                  clear h429
                  have hf433 : 1 ≤ y425 := by omega
                  clear g417
                  refine T_ld 198 (.int (i32 ((m.2 81) jj))) rfl (fun _ => rfl) ?_
                  refine T_gf 202 (.int (i32 (m.1 69))) rfl rfl rfl rfl rfl rfl ?_
                  refine T_iadd 203 rfl rfl ?_
                  refine T_sto 204 [(2, .int (i32 (((m.2 81) jj) + (m.1 69)))), (5, .int (i32 (m.1 69))), (4, .int (i32 ((m.2 80) jj))), (3, .int (i32 ((m.2 82) jj))), (0, .ref 189), (1, .int (i32 jj))] rfl (fun _ => rfl) ?_
                  refine T_goto 261 rfl (fun _ => rfl) ?_
                  refine Tm_lv (a := [(0, .ref 189), (1, .int (i32 jj)), (2, .int (i32 (((m.2 81) jj) + (m.1 69)))), (3, .int (i32 ((m.2 82) jj))), (4, .int (i32 ((m.2 80) jj))), (5, .int (i32 (m.1 69)))]) rfl rfl ⟨rfl, rfl, rfl, rfl, rfl, rfl, trivial⟩ ?_
                  exact J261_17 (((m.2 81) jj) + (m.1 69)) y425 y427 (r32 (by omega) (by omega)) g426 g428 (by omega) (fun h => absurd h (by omega))
              · skip
                refine T_ld 186 (.int (i32 1)) rfl (fun _ => rfl) ?_
                refine T_goto 190 rfl (fun _ => rfl) ?_
                refine T_gf 194 (.int (i32 (m.1 70))) rfl rfl rfl rfl rfl rfl ?_
                refine T_call 197 256 [.ref 189, .int (i32 1), .int (i32 (m.1 70))] [] rfl (fun _ => rfl) rfl (c_want w (mO m [(10, 0), (11, y416), (28, (m.1 28)), (69, (m.1 69)), (70, (m.1 70)), (71, (m.1 71)), (72, (m.1 72))] [(65, (m.2 65)), (66, (m.2 66)), (67, (m.2 67)), (68, (m.2 68)), (80, (m.2 80))]) c N D (by omega) (Ty_mO hT rfl rfl ⟨⟨(by omega : (0 : Int) ≤ 0), (by omega : (0 : Int) ≤ 8)⟩, g417, f28, f69, f70, f71, f72, trivial⟩ ⟨(hT.2.1 65), (hT.2.1 66), (hT.2.1 67), (hT.2.1 68), (hT.2.1 80), trivial⟩) 1 (m.1 70) ⟨by decide, by decide⟩ (r32 (by omega) (by omega)) (show 0 ≤ (m.1 70) ∧ (m.1 70) ≤ 4000 by omega) (fun _ => trivial)) (fun rr434 k435 => ?_)
                obtain ⟨y436, y438, g437, g439, h440, c441, rfl⟩ := k435
                refine ⟨_, _, rfl, ?_⟩
                refine T_nf (st' := []) (l' := [(10, y436), (11, y438), (28, (m.1 28)), (69, (m.1 69)), (70, (m.1 70)), (71, (m.1 71)), (72, (m.1 72))]) (a' := [(65, (m.2 65)), (66, (m.2 66)), (67, (m.2 67)), (68, (m.2 68)), (80, (m.2 80))]) rfl rfl rfl rfl rfl ?_
                by_cases hf442 : y436 = 0
                · skip
                  subst hf442
                  replace h440 : (0 : Int) = 0 := h440 rfl
                  have c443 := c441 rfl
                  replace c443 : (1 : Int) ≠ 0 := c443
                  clear c441
                  clear g417 g437
                  refine T_ld 198 (.int (i32 ((m.2 81) jj))) rfl (fun _ => rfl) ?_
                  refine T_gf 202 (.int (i32 (m.1 69))) rfl rfl rfl rfl rfl rfl ?_
                  refine T_iadd 203 rfl rfl ?_
                  refine T_sto 204 [(2, .int (i32 (((m.2 81) jj) + (m.1 69)))), (5, .int (i32 (m.1 69))), (4, .int (i32 ((m.2 80) jj))), (3, .int (i32 ((m.2 82) jj))), (0, .ref 189), (1, .int (i32 jj))] rfl (fun _ => rfl) ?_
                  refine T_goto 261 rfl (fun _ => rfl) ?_
                  refine Tm_lv (a := [(0, .ref 189), (1, .int (i32 jj)), (2, .int (i32 (((m.2 81) jj) + (m.1 69)))), (3, .int (i32 ((m.2 82) jj))), (4, .int (i32 ((m.2 80) jj))), (5, .int (i32 (m.1 69)))]) rfl rfl ⟨rfl, rfl, rfl, rfl, rfl, rfl, trivial⟩ ?_
                  exact J261_17 (((m.2 81) jj) + (m.1 69)) 0 y438 (r32 (by omega) (by omega)) ⟨by omega, by omega⟩ g439 (by omega) (fun _ => (by omega))
                · skip
                  clear c441
                  clear h440
                  have hf444 : 1 ≤ y436 := by omega
                  clear g417
                  refine T_ld 198 (.int (i32 ((m.2 81) jj))) rfl (fun _ => rfl) ?_
                  refine T_gf 202 (.int (i32 (m.1 69))) rfl rfl rfl rfl rfl rfl ?_
                  refine T_iadd 203 rfl rfl ?_
                  refine T_sto 204 [(2, .int (i32 (((m.2 81) jj) + (m.1 69)))), (5, .int (i32 (m.1 69))), (4, .int (i32 ((m.2 80) jj))), (3, .int (i32 ((m.2 82) jj))), (0, .ref 189), (1, .int (i32 jj))] rfl (fun _ => rfl) ?_
                  refine T_goto 261 rfl (fun _ => rfl) ?_
                  refine Tm_lv (a := [(0, .ref 189), (1, .int (i32 jj)), (2, .int (i32 (((m.2 81) jj) + (m.1 69)))), (3, .int (i32 ((m.2 82) jj))), (4, .int (i32 ((m.2 80) jj))), (5, .int (i32 (m.1 69)))]) rfl rfl ⟨rfl, rfl, rfl, rfl, rfl, rfl, trivial⟩ ?_
                  exact J261_17 (((m.2 81) jj) + (m.1 69)) y436 y438 (r32 (by omega) (by omega)) g437 g439 (by omega) (fun h => absurd h (by omega))
            · skip
              clear c419
              clear h418
              have hf445 : 1 ≤ y414 := by omega
              clear g353
              refine T_ld 174 (.ref 189) rfl (fun _ => rfl) ?_
              refine T_ld 175 (.int (i32 ((m.2 81) jj))) rfl (fun _ => rfl) ?_
              refine T_gf 179 (.int (i32 (m.1 69))) rfl rfl rfl rfl rfl rfl ?_
              refine T_iadd 180 rfl rfl ?_
              refine T_ld 182 (.int (i32 64)) rfl (fun _ => rfl) ?_
              refine T_icmp 189 185 rfl rfl rfl (r32 (by omega) (by omega)) ⟨by decide, by decide⟩ (fun (h446 : (64 : Int) < ((m.2 81) jj) + (m.1 69)) => ?_) (fun (h446 : ¬ ((64 : Int) < ((m.2 81) jj) + (m.1 69))) => ?_)
              · skip
                refine T_ld 190 (.int (i32 0)) rfl (fun _ => rfl) ?_
                refine T_gf 194 (.int (i32 (m.1 70))) rfl rfl rfl rfl rfl rfl ?_
                refine T_call 197 256 [.ref 189, .int (i32 0), .int (i32 (m.1 70))] [] rfl (fun _ => rfl) rfl (c_want w (mO m [(10, y414), (11, y416), (28, (m.1 28)), (69, (m.1 69)), (70, (m.1 70)), (71, (m.1 71)), (72, (m.1 72))] [(65, (m.2 65)), (66, (m.2 66)), (67, (m.2 67)), (68, (m.2 68)), (80, (m.2 80))]) c N D (by omega) (Ty_mO hT rfl rfl ⟨g415, g417, f28, f69, f70, f71, f72, trivial⟩ ⟨(hT.2.1 65), (hT.2.1 66), (hT.2.1 67), (hT.2.1 68), (hT.2.1 80), trivial⟩) 0 (m.1 70) ⟨by decide, by decide⟩ (r32 (by omega) (by omega)) (show 0 ≤ (m.1 70) ∧ (m.1 70) ≤ 4000 by omega) (fun (h : y414 = 0) => absurd h (by omega))) (fun rr447 k448 => ?_)
                obtain ⟨y449, y451, g450, g452, h453, c454, rfl⟩ := k448
                refine ⟨_, _, rfl, ?_⟩
                refine T_nf (st' := []) (l' := [(10, y449), (11, y451), (28, (m.1 28)), (69, (m.1 69)), (70, (m.1 70)), (71, (m.1 71)), (72, (m.1 72))]) (a' := [(65, (m.2 65)), (66, (m.2 66)), (67, (m.2 67)), (68, (m.2 68)), (80, (m.2 80))]) rfl rfl rfl rfl rfl ?_
                replace h453 : y449 = 0 → y414 = 0 := h453
                have hf455 : 1 ≤ y449 := by omega
                clear c454
                clear h453
                clear g415 g417 hf445
                refine T_ld 198 (.int (i32 ((m.2 81) jj))) rfl (fun _ => rfl) ?_
                refine T_gf 202 (.int (i32 (m.1 69))) rfl rfl rfl rfl rfl rfl ?_
                refine T_iadd 203 rfl rfl ?_
                refine T_sto 204 [(2, .int (i32 (((m.2 81) jj) + (m.1 69)))), (5, .int (i32 (m.1 69))), (4, .int (i32 ((m.2 80) jj))), (3, .int (i32 ((m.2 82) jj))), (0, .ref 189), (1, .int (i32 jj))] rfl (fun _ => rfl) ?_
                refine T_goto 261 rfl (fun _ => rfl) ?_
                refine Tm_lv (a := [(0, .ref 189), (1, .int (i32 jj)), (2, .int (i32 (((m.2 81) jj) + (m.1 69)))), (3, .int (i32 ((m.2 82) jj))), (4, .int (i32 ((m.2 80) jj))), (5, .int (i32 (m.1 69)))]) rfl rfl ⟨rfl, rfl, rfl, rfl, rfl, rfl, trivial⟩ ?_
                exact J261_17 (((m.2 81) jj) + (m.1 69)) y449 y451 (r32 (by omega) (by omega)) g450 g452 (by omega) (fun h => absurd h (by omega))
              · skip
                refine T_ld 186 (.int (i32 1)) rfl (fun _ => rfl) ?_
                refine T_goto 190 rfl (fun _ => rfl) ?_
                refine T_gf 194 (.int (i32 (m.1 70))) rfl rfl rfl rfl rfl rfl ?_
                refine T_call 197 256 [.ref 189, .int (i32 1), .int (i32 (m.1 70))] [] rfl (fun _ => rfl) rfl (c_want w (mO m [(10, y414), (11, y416), (28, (m.1 28)), (69, (m.1 69)), (70, (m.1 70)), (71, (m.1 71)), (72, (m.1 72))] [(65, (m.2 65)), (66, (m.2 66)), (67, (m.2 67)), (68, (m.2 68)), (80, (m.2 80))]) c N D (by omega) (Ty_mO hT rfl rfl ⟨g415, g417, f28, f69, f70, f71, f72, trivial⟩ ⟨(hT.2.1 65), (hT.2.1 66), (hT.2.1 67), (hT.2.1 68), (hT.2.1 80), trivial⟩) 1 (m.1 70) ⟨by decide, by decide⟩ (r32 (by omega) (by omega)) (show 0 ≤ (m.1 70) ∧ (m.1 70) ≤ 4000 by omega) (fun (h : y414 = 0) => absurd h (by omega))) (fun rr456 k457 => ?_)
                obtain ⟨y458, y460, g459, g461, h462, c463, rfl⟩ := k457
                refine ⟨_, _, rfl, ?_⟩
                refine T_nf (st' := []) (l' := [(10, y458), (11, y460), (28, (m.1 28)), (69, (m.1 69)), (70, (m.1 70)), (71, (m.1 71)), (72, (m.1 72))]) (a' := [(65, (m.2 65)), (66, (m.2 66)), (67, (m.2 67)), (68, (m.2 68)), (80, (m.2 80))]) rfl rfl rfl rfl rfl ?_
                replace h462 : y458 = 0 → y414 = 0 := h462
                have hf464 : 1 ≤ y458 := by omega
                clear c463
                clear h462
                clear g415 g417 hf445
                refine T_ld 198 (.int (i32 ((m.2 81) jj))) rfl (fun _ => rfl) ?_
                refine T_gf 202 (.int (i32 (m.1 69))) rfl rfl rfl rfl rfl rfl ?_
                refine T_iadd 203 rfl rfl ?_
                refine T_sto 204 [(2, .int (i32 (((m.2 81) jj) + (m.1 69)))), (5, .int (i32 (m.1 69))), (4, .int (i32 ((m.2 80) jj))), (3, .int (i32 ((m.2 82) jj))), (0, .ref 189), (1, .int (i32 jj))] rfl (fun _ => rfl) ?_
                refine T_goto 261 rfl (fun _ => rfl) ?_
                refine Tm_lv (a := [(0, .ref 189), (1, .int (i32 jj)), (2, .int (i32 (((m.2 81) jj) + (m.1 69)))), (3, .int (i32 ((m.2 82) jj))), (4, .int (i32 ((m.2 80) jj))), (5, .int (i32 (m.1 69)))]) rfl rfl ⟨rfl, rfl, rfl, rfl, rfl, rfl, trivial⟩ ?_
                exact J261_17 (((m.2 81) jj) + (m.1 69)) y458 y460 (r32 (by omega) (by omega)) g459 g461 (by omega) (fun h => absurd h (by omega))
        · skip
          clear c355
          clear h354
          have hf465 : 1 ≤ y350 := by omega
          clear g12a g12b h13
          refine T_ld 154 (.ref 189) rfl (fun _ => rfl) ?_
          refine T_gf 158 (.int (i32 (m.1 71))) rfl rfl rfl rfl rfl rfl ?_
          refine T_if 165 161 rfl rfl rfl (r32 (by omega) (by omega)) (fun (h466 : (m.1 71) ≠ 0) => ?_) (fun (h466 : ¬ ((m.1 71) ≠ 0)) => ?_)
          · skip
            refine T_ld 166 (.int (i32 0)) rfl (fun _ => rfl) ?_
            refine T_gf 170 (.int (i32 (m.1 70))) rfl rfl rfl rfl rfl rfl ?_
            refine T_call 173 256 [.ref 189, .int (i32 0), .int (i32 (m.1 70))] [] rfl (fun _ => rfl) rfl (c_want w (mO m [(10, y350), (11, y352), (28, (m.1 28)), (69, (m.1 69)), (70, (m.1 70)), (71, (m.1 71)), (72, (m.1 72))] [(65, (m.2 65)), (66, (m.2 66)), (67, (m.2 67)), (68, (m.2 68)), (80, (m.2 80))]) c N D (by omega) (Ty_mO hT rfl rfl ⟨g351, g353, f28, f69, f70, f71, f72, trivial⟩ ⟨(hT.2.1 65), (hT.2.1 66), (hT.2.1 67), (hT.2.1 68), (hT.2.1 80), trivial⟩) 0 (m.1 70) ⟨by decide, by decide⟩ (r32 (by omega) (by omega)) (show 0 ≤ (m.1 70) ∧ (m.1 70) ≤ 4000 by omega) (fun (h : y350 = 0) => absurd h (by omega))) (fun rr467 k468 => ?_)
            obtain ⟨y469, y471, g470, g472, h473, c474, rfl⟩ := k468
            refine ⟨_, _, rfl, ?_⟩
            refine T_nf (st' := []) (l' := [(10, y469), (11, y471), (28, (m.1 28)), (69, (m.1 69)), (70, (m.1 70)), (71, (m.1 71)), (72, (m.1 72))]) (a' := [(65, (m.2 65)), (66, (m.2 66)), (67, (m.2 67)), (68, (m.2 68)), (80, (m.2 80))]) rfl rfl rfl rfl rfl ?_
            replace h473 : y469 = 0 → y350 = 0 := h473
            have hf475 : 1 ≤ y469 := by omega
            clear c474
            clear h473
            clear g351 g353 hf465
            refine T_ld 174 (.ref 189) rfl (fun _ => rfl) ?_
            refine T_ld 175 (.int (i32 ((m.2 81) jj))) rfl (fun _ => rfl) ?_
            refine T_gf 179 (.int (i32 (m.1 69))) rfl rfl rfl rfl rfl rfl ?_
            refine T_iadd 180 rfl rfl ?_
            refine T_ld 182 (.int (i32 64)) rfl (fun _ => rfl) ?_
            refine T_icmp 189 185 rfl rfl rfl (r32 (by omega) (by omega)) ⟨by decide, by decide⟩ (fun (h476 : (64 : Int) < ((m.2 81) jj) + (m.1 69)) => ?_) (fun (h476 : ¬ ((64 : Int) < ((m.2 81) jj) + (m.1 69))) => ?_)
            · skip
              refine T_ld 190 (.int (i32 0)) rfl (fun _ => rfl) ?_
              refine T_gf 194 (.int (i32 (m.1 70))) rfl rfl rfl rfl rfl rfl ?_
              refine T_call 197 256 [.ref 189, .int (i32 0), .int (i32 (m.1 70))] [] rfl (fun _ => rfl) rfl (c_want w (mO m [(10, y469), (11, y471), (28, (m.1 28)), (69, (m.1 69)), (70, (m.1 70)), (71, (m.1 71)), (72, (m.1 72))] [(65, (m.2 65)), (66, (m.2 66)), (67, (m.2 67)), (68, (m.2 68)), (80, (m.2 80))]) c N D (by omega) (Ty_mO hT rfl rfl ⟨g470, g472, f28, f69, f70, f71, f72, trivial⟩ ⟨(hT.2.1 65), (hT.2.1 66), (hT.2.1 67), (hT.2.1 68), (hT.2.1 80), trivial⟩) 0 (m.1 70) ⟨by decide, by decide⟩ (r32 (by omega) (by omega)) (show 0 ≤ (m.1 70) ∧ (m.1 70) ≤ 4000 by omega) (fun (h : y469 = 0) => absurd h (by omega))) (fun rr477 k478 => ?_)
              obtain ⟨y479, y481, g480, g482, h483, c484, rfl⟩ := k478
              refine ⟨_, _, rfl, ?_⟩
              refine T_nf (st' := []) (l' := [(10, y479), (11, y481), (28, (m.1 28)), (69, (m.1 69)), (70, (m.1 70)), (71, (m.1 71)), (72, (m.1 72))]) (a' := [(65, (m.2 65)), (66, (m.2 66)), (67, (m.2 67)), (68, (m.2 68)), (80, (m.2 80))]) rfl rfl rfl rfl rfl ?_
              replace h483 : y479 = 0 → y469 = 0 := h483
              have hf485 : 1 ≤ y479 := by omega
              clear c484
              clear h483
              clear g470 g472 hf475
              refine T_ld 198 (.int (i32 ((m.2 81) jj))) rfl (fun _ => rfl) ?_
              refine T_gf 202 (.int (i32 (m.1 69))) rfl rfl rfl rfl rfl rfl ?_
              refine T_iadd 203 rfl rfl ?_
              refine T_sto 204 [(2, .int (i32 (((m.2 81) jj) + (m.1 69)))), (5, .int (i32 (m.1 69))), (4, .int (i32 ((m.2 80) jj))), (3, .int (i32 ((m.2 82) jj))), (0, .ref 189), (1, .int (i32 jj))] rfl (fun _ => rfl) ?_
              refine T_goto 261 rfl (fun _ => rfl) ?_
              refine Tm_lv (a := [(0, .ref 189), (1, .int (i32 jj)), (2, .int (i32 (((m.2 81) jj) + (m.1 69)))), (3, .int (i32 ((m.2 82) jj))), (4, .int (i32 ((m.2 80) jj))), (5, .int (i32 (m.1 69)))]) rfl rfl ⟨rfl, rfl, rfl, rfl, rfl, rfl, trivial⟩ ?_
              exact J261_17 (((m.2 81) jj) + (m.1 69)) y479 y481 (r32 (by omega) (by omega)) g480 g482 (by omega) (fun h => absurd h (by omega))
            · skip
              refine T_ld 186 (.int (i32 1)) rfl (fun _ => rfl) ?_
              refine T_goto 190 rfl (fun _ => rfl) ?_
              refine T_gf 194 (.int (i32 (m.1 70))) rfl rfl rfl rfl rfl rfl ?_
              refine T_call 197 256 [.ref 189, .int (i32 1), .int (i32 (m.1 70))] [] rfl (fun _ => rfl) rfl (c_want w (mO m [(10, y469), (11, y471), (28, (m.1 28)), (69, (m.1 69)), (70, (m.1 70)), (71, (m.1 71)), (72, (m.1 72))] [(65, (m.2 65)), (66, (m.2 66)), (67, (m.2 67)), (68, (m.2 68)), (80, (m.2 80))]) c N D (by omega) (Ty_mO hT rfl rfl ⟨g470, g472, f28, f69, f70, f71, f72, trivial⟩ ⟨(hT.2.1 65), (hT.2.1 66), (hT.2.1 67), (hT.2.1 68), (hT.2.1 80), trivial⟩) 1 (m.1 70) ⟨by decide, by decide⟩ (r32 (by omega) (by omega)) (show 0 ≤ (m.1 70) ∧ (m.1 70) ≤ 4000 by omega) (fun (h : y469 = 0) => absurd h (by omega))) (fun rr486 k487 => ?_)
              obtain ⟨y488, y490, g489, g491, h492, c493, rfl⟩ := k487
              refine ⟨_, _, rfl, ?_⟩
              refine T_nf (st' := []) (l' := [(10, y488), (11, y490), (28, (m.1 28)), (69, (m.1 69)), (70, (m.1 70)), (71, (m.1 71)), (72, (m.1 72))]) (a' := [(65, (m.2 65)), (66, (m.2 66)), (67, (m.2 67)), (68, (m.2 68)), (80, (m.2 80))]) rfl rfl rfl rfl rfl ?_
              replace h492 : y488 = 0 → y469 = 0 := h492
              have hf494 : 1 ≤ y488 := by omega
              clear c493
              clear h492
              clear g470 g472 hf475
              refine T_ld 198 (.int (i32 ((m.2 81) jj))) rfl (fun _ => rfl) ?_
              refine T_gf 202 (.int (i32 (m.1 69))) rfl rfl rfl rfl rfl rfl ?_
              refine T_iadd 203 rfl rfl ?_
              refine T_sto 204 [(2, .int (i32 (((m.2 81) jj) + (m.1 69)))), (5, .int (i32 (m.1 69))), (4, .int (i32 ((m.2 80) jj))), (3, .int (i32 ((m.2 82) jj))), (0, .ref 189), (1, .int (i32 jj))] rfl (fun _ => rfl) ?_
              refine T_goto 261 rfl (fun _ => rfl) ?_
              refine Tm_lv (a := [(0, .ref 189), (1, .int (i32 jj)), (2, .int (i32 (((m.2 81) jj) + (m.1 69)))), (3, .int (i32 ((m.2 82) jj))), (4, .int (i32 ((m.2 80) jj))), (5, .int (i32 (m.1 69)))]) rfl rfl ⟨rfl, rfl, rfl, rfl, rfl, rfl, trivial⟩ ?_
              exact J261_17 (((m.2 81) jj) + (m.1 69)) y488 y490 (r32 (by omega) (by omega)) g489 g491 (by omega) (fun h => absurd h (by omega))
          · skip
            refine T_ld 162 (.int (i32 1)) rfl (fun _ => rfl) ?_
            refine T_goto 166 rfl (fun _ => rfl) ?_
            refine T_gf 170 (.int (i32 (m.1 70))) rfl rfl rfl rfl rfl rfl ?_
            refine T_call 173 256 [.ref 189, .int (i32 1), .int (i32 (m.1 70))] [] rfl (fun _ => rfl) rfl (c_want w (mO m [(10, y350), (11, y352), (28, (m.1 28)), (69, (m.1 69)), (70, (m.1 70)), (71, (m.1 71)), (72, (m.1 72))] [(65, (m.2 65)), (66, (m.2 66)), (67, (m.2 67)), (68, (m.2 68)), (80, (m.2 80))]) c N D (by omega) (Ty_mO hT rfl rfl ⟨g351, g353, f28, f69, f70, f71, f72, trivial⟩ ⟨(hT.2.1 65), (hT.2.1 66), (hT.2.1 67), (hT.2.1 68), (hT.2.1 80), trivial⟩) 1 (m.1 70) ⟨by decide, by decide⟩ (r32 (by omega) (by omega)) (show 0 ≤ (m.1 70) ∧ (m.1 70) ≤ 4000 by omega) (fun (h : y350 = 0) => absurd h (by omega))) (fun rr495 k496 => ?_)
            obtain ⟨y497, y499, g498, g500, h501, c502, rfl⟩ := k496
            refine ⟨_, _, rfl, ?_⟩
            refine T_nf (st' := []) (l' := [(10, y497), (11, y499), (28, (m.1 28)), (69, (m.1 69)), (70, (m.1 70)), (71, (m.1 71)), (72, (m.1 72))]) (a' := [(65, (m.2 65)), (66, (m.2 66)), (67, (m.2 67)), (68, (m.2 68)), (80, (m.2 80))]) rfl rfl rfl rfl rfl ?_
            replace h501 : y497 = 0 → y350 = 0 := h501
            have hf503 : 1 ≤ y497 := by omega
            clear c502
            clear h501
            clear g351 g353 hf465
            refine T_ld 174 (.ref 189) rfl (fun _ => rfl) ?_
            refine T_ld 175 (.int (i32 ((m.2 81) jj))) rfl (fun _ => rfl) ?_
            refine T_gf 179 (.int (i32 (m.1 69))) rfl rfl rfl rfl rfl rfl ?_
            refine T_iadd 180 rfl rfl ?_
            refine T_ld 182 (.int (i32 64)) rfl (fun _ => rfl) ?_
            refine T_icmp 189 185 rfl rfl rfl (r32 (by omega) (by omega)) ⟨by decide, by decide⟩ (fun (h504 : (64 : Int) < ((m.2 81) jj) + (m.1 69)) => ?_) (fun (h504 : ¬ ((64 : Int) < ((m.2 81) jj) + (m.1 69))) => ?_)
            · skip
              refine T_ld 190 (.int (i32 0)) rfl (fun _ => rfl) ?_
              refine T_gf 194 (.int (i32 (m.1 70))) rfl rfl rfl rfl rfl rfl ?_
              refine T_call 197 256 [.ref 189, .int (i32 0), .int (i32 (m.1 70))] [] rfl (fun _ => rfl) rfl (c_want w (mO m [(10, y497), (11, y499), (28, (m.1 28)), (69, (m.1 69)), (70, (m.1 70)), (71, (m.1 71)), (72, (m.1 72))] [(65, (m.2 65)), (66, (m.2 66)), (67, (m.2 67)), (68, (m.2 68)), (80, (m.2 80))]) c N D (by omega) (Ty_mO hT rfl rfl ⟨g498, g500, f28, f69, f70, f71, f72, trivial⟩ ⟨(hT.2.1 65), (hT.2.1 66), (hT.2.1 67), (hT.2.1 68), (hT.2.1 80), trivial⟩) 0 (m.1 70) ⟨by decide, by decide⟩ (r32 (by omega) (by omega)) (show 0 ≤ (m.1 70) ∧ (m.1 70) ≤ 4000 by omega) (fun (h : y497 = 0) => absurd h (by omega))) (fun rr505 k506 => ?_)
              obtain ⟨y507, y509, g508, g510, h511, c512, rfl⟩ := k506
              refine ⟨_, _, rfl, ?_⟩
              refine T_nf (st' := []) (l' := [(10, y507), (11, y509), (28, (m.1 28)), (69, (m.1 69)), (70, (m.1 70)), (71, (m.1 71)), (72, (m.1 72))]) (a' := [(65, (m.2 65)), (66, (m.2 66)), (67, (m.2 67)), (68, (m.2 68)), (80, (m.2 80))]) rfl rfl rfl rfl rfl ?_
              replace h511 : y507 = 0 → y497 = 0 := h511
              have hf513 : 1 ≤ y507 := by omega
              clear c512
              clear h511
              clear g498 g500 hf503
              refine T_ld 198 (.int (i32 ((m.2 81) jj))) rfl (fun _ => rfl) ?_
              refine T_gf 202 (.int (i32 (m.1 69))) rfl rfl rfl rfl rfl rfl ?_
              refine T_iadd 203 rfl rfl ?_
              refine T_sto 204 [(2, .int (i32 (((m.2 81) jj) + (m.1 69)))), (5, .int (i32 (m.1 69))), (4, .int (i32 ((m.2 80) jj))), (3, .int (i32 ((m.2 82) jj))), (0, .ref 189), (1, .int (i32 jj))] rfl (fun _ => rfl) ?_
              refine T_goto 261 rfl (fun _ => rfl) ?_
              refine Tm_lv (a := [(0, .ref 189), (1, .int (i32 jj)), (2, .int (i32 (((m.2 81) jj) + (m.1 69)))), (3, .int (i32 ((m.2 82) jj))), (4, .int (i32 ((m.2 80) jj))), (5, .int (i32 (m.1 69)))]) rfl rfl ⟨rfl, rfl, rfl, rfl, rfl, rfl, trivial⟩ ?_
              exact J261_17 (((m.2 81) jj) + (m.1 69)) y507 y509 (r32 (by omega) (by omega)) g508 g510 (by omega) (fun h => absurd h (by omega))
            · skip
              refine T_ld 186 (.int (i32 1)) rfl (fun _ => rfl) ?_
              refine T_goto 190 rfl (fun _ => rfl) ?_
              refine T_gf 194 (.int (i32 (m.1 70))) rfl rfl rfl rfl rfl rfl ?_
              refine T_call 197 256 [.ref 189, .int (i32 1), .int (i32 (m.1 70))] [] rfl (fun _ => rfl) rfl (c_want w (mO m [(10, y497), (11, y499), (28, (m.1 28)), (69, (m.1 69)), (70, (m.1 70)), (71, (m.1 71)), (72, (m.1 72))] [(65, (m.2 65)), (66, (m.2 66)), (67, (m.2 67)), (68, (m.2 68)), (80, (m.2 80))]) c N D (by omega) (Ty_mO hT rfl rfl ⟨g498, g500, f28, f69, f70, f71, f72, trivial⟩ ⟨(hT.2.1 65), (hT.2.1 66), (hT.2.1 67), (hT.2.1 68), (hT.2.1 80), trivial⟩) 1 (m.1 70) ⟨by decide, by decide⟩ (r32 (by omega) (by omega)) (show 0 ≤ (m.1 70) ∧ (m.1 70) ≤ 4000 by omega) (fun (h : y497 = 0) => absurd h (by omega))) (fun rr514 k515 => ?_)
              obtain ⟨y516, y518, g517, g519, h520, c521, rfl⟩ := k515
              refine ⟨_, _, rfl, ?_⟩
              refine T_nf (st' := []) (l' := [(10, y516), (11, y518), (28, (m.1 28)), (69, (m.1 69)), (70, (m.1 70)), (71, (m.1 71)), (72, (m.1 72))]) (a' := [(65, (m.2 65)), (66, (m.2 66)), (67, (m.2 67)), (68, (m.2 68)), (80, (m.2 80))]) rfl rfl rfl rfl rfl ?_
              replace h520 : y516 = 0 → y497 = 0 := h520
              have hf522 : 1 ≤ y516 := by omega
              clear c521
              clear h520
              clear g498 g500 hf503
              refine T_ld 198 (.int (i32 ((m.2 81) jj))) rfl (fun _ => rfl) ?_
              refine T_gf 202 (.int (i32 (m.1 69))) rfl rfl rfl rfl rfl rfl ?_
              refine T_iadd 203 rfl rfl ?_
              refine T_sto 204 [(2, .int (i32 (((m.2 81) jj) + (m.1 69)))), (5, .int (i32 (m.1 69))), (4, .int (i32 ((m.2 80) jj))), (3, .int (i32 ((m.2 82) jj))), (0, .ref 189), (1, .int (i32 jj))] rfl (fun _ => rfl) ?_
              refine T_goto 261 rfl (fun _ => rfl) ?_
              refine Tm_lv (a := [(0, .ref 189), (1, .int (i32 jj)), (2, .int (i32 (((m.2 81) jj) + (m.1 69)))), (3, .int (i32 ((m.2 82) jj))), (4, .int (i32 ((m.2 80) jj))), (5, .int (i32 (m.1 69)))]) rfl rfl ⟨rfl, rfl, rfl, rfl, rfl, rfl, trivial⟩ ?_
              exact J261_17 (((m.2 81) jj) + (m.1 69)) y516 y518 (r32 (by omega) (by omega)) g517 g519 (by omega) (fun h => absurd h (by omega))
    by_cases h523 : x11 = 2
    · skip
      refine T_cast 2 h523 ?_
      refine T_pop 207 rfl (fun _ => rfl) ?_
      exact T207_136
    by_cases h524 : x11 = 3
    · skip
      refine T_cast 3 h524 ?_
      refine T_pop 207 rfl (fun _ => rfl) ?_
      exact T207_136
    by_cases h525 : x11 = 4
    · skip
      refine T_cast 4 h525 ?_
      refine T_pop 207 rfl (fun _ => rfl) ?_
      exact T207_136
    by_cases h526 : x11 = 5
    · skip
      refine T_cast 5 h526 ?_
      refine T_pop 207 rfl (fun _ => rfl) ?_
      exact T207_136
    by_cases h527 : x11 = 7
    · skip
      refine T_cast 7 h527 ?_
      refine T_pop 207 rfl (fun _ => rfl) ?_
      exact T207_136
    refine T_tsd 207 rfl rfl (r32 (by omega) (by omega)) (by omega) ?_
    exact T207_136
  · skip
    clear hC
    refine T_gf 4 (.ref 243) rfl rfl rfl rfl rfl rfl ?_
    refine T_ld 5 (.int (i32 jj)) rfl (fun _ => rfl) ?_
    refine T_iald 6 81 (m.2 81) rfl rfl rfl (by omega) (show jj < (540 : Int) by omega) rfl ?_
    have e528 : 0 ≤ m.2 81 jj ∧ m.2 81 jj ≤ 64 := hT.2.1 81 jj
    refine T_sto 7 [(2, .int (i32 ((m.2 81) jj))), (0, .ref 189), (1, .int (i32 jj))] rfl (fun _ => rfl) ?_
    refine T_gf 11 (.ref 244) rfl rfl rfl rfl rfl rfl ?_
    refine T_ld 12 (.int (i32 jj)) rfl (fun _ => rfl) ?_
    refine T_iald 13 82 (m.2 82) rfl rfl rfl (by omega) (show jj < (540 : Int) by omega) rfl ?_
    have e529 : 0 ≤ m.2 82 jj ∧ m.2 82 jj ≤ 4000 := hT.2.1 82 jj
    refine T_sto 14 [(3, .int (i32 ((m.2 82) jj))), (2, .int (i32 ((m.2 81) jj))), (0, .ref 189), (1, .int (i32 jj))] rfl (fun _ => rfl) ?_
    refine T_gf 18 (.ref 242) rfl rfl rfl rfl rfl rfl ?_
    refine T_ld 19 (.int (i32 jj)) rfl (fun _ => rfl) ?_
    refine T_iald 20 80 (m.2 80) rfl rfl rfl (by omega) (show jj < (540 : Int) by omega) rfl ?_
    have e530 : (-1) ≤ (m.2 80) jj ∧ (m.2 80) jj ≤ 330 := (hT.2.1 80) jj
    refine T_sto 22 [(4, .int (i32 ((m.2 80) jj))), (3, .int (i32 ((m.2 82) jj))), (2, .int (i32 ((m.2 81) jj))), (0, .ref 189), (1, .int (i32 jj))] rfl (fun _ => rfl) ?_
    refine T_gf 26 (.int (i32 (m.1 69))) rfl rfl rfl rfl rfl rfl ?_
    refine T_sto 28 [(5, .int (i32 (m.1 69))), (4, .int (i32 ((m.2 80) jj))), (3, .int (i32 ((m.2 82) jj))), (2, .int (i32 ((m.2 81) jj))), (0, .ref 189), (1, .int (i32 jj))] rfl (fun _ => rfl) ?_
    refine T_gf 32 (.ref 242) rfl rfl rfl rfl rfl rfl ?_
    refine T_ld 33 (.int (i32 jj)) rfl (fun _ => rfl) ?_
    refine T_iald 34 80 (m.2 80) rfl rfl rfl (by omega) (show jj < (540 : Int) by omega) rfl ?_
    have e531 : (-1) ≤ (m.2 80) jj ∧ (m.2 80) jj ≤ 330 := (hT.2.1 80) jj
    refine T_call 37 259 [.int (i32 ((m.2 80) jj))] [] rfl (fun _ => rfl) rfl (c_level w (mO m [(10, (m.1 10)), (11, (m.1 11)), (28, (m.1 28)), (69, (m.1 69)), (70, (m.1 70)), (71, (m.1 71)), (72, (m.1 72))] [(65, (m.2 65)), (66, (m.2 66)), (67, (m.2 67)), (68, (m.2 68)), (80, (m.2 80))]) c N D (by omega) (Ty_mO hT rfl rfl ⟨f10, f11, f28, f69, f70, f71, f72, trivial⟩ ⟨(hT.2.1 65), (hT.2.1 66), (hT.2.1 67), (hT.2.1 68), (hT.2.1 80), trivial⟩) ((m.2 80) jj) (r32 (by omega) (by omega))) (fun rr532 k533 => ?_)
    obtain ⟨x534, g535, h536, rfl⟩ := k533
    refine ⟨_, _, rfl, ?_⟩
    refine T_nf (st' := [.int (i32 x534)]) (l' := [(10, (m.1 10)), (11, (m.1 11)), (28, (m.1 28)), (69, (m.1 69)), (70, (m.1 70)), (71, (m.1 71)), (72, (m.1 72))]) (a' := [(65, (m.2 65)), (66, (m.2 66)), (67, (m.2 67)), (68, (m.2 68)), (80, (m.2 80))]) rfl rfl rfl rfl rfl ?_
    obtain ⟨g535a, g535b⟩ := g535
    replace h536 : 0 ≤ x534 → 4 ≤ ((m.2 80) jj) ∧ ((m.2 80) jj) ≤ 124 := h536
    have T88_537 : (x534 = 0 ∨ x534 = 1) → TT w D pm_260 (88, [(5, .int (i32 (m.1 69))), (4, .int (i32 ((m.2 80) jj))), (3, .int (i32 ((m.2 82) jj))), (2, .int (i32 ((m.2 81) jj))), (0, .ref 189), (1, .int (i32 jj))], [], (mhp (mO m [(10, (m.1 10)), (11, (m.1 11)), (28, (m.1 28)), (69, (m.1 69)), (70, (m.1 70)), (71, (m.1 71)), (72, (m.1 72))] [(65, (m.2 65)), (66, (m.2 66)), (67, (m.2 67)), (68, (m.2 68)), (80, (m.2 80))]) c, N), 0, 0) (Q_join m c N jj B) := by
      intro ht538
      refine T_ld 89 (.ref 189) rfl (fun _ => rfl) ?_
      refine T_ld 90 (.int (i32 ((m.2 81) jj))) rfl (fun _ => rfl) ?_
      refine T_gf 94 (.ref 245) rfl rfl rfl rfl rfl rfl ?_
      refine T_ld 95 (.int (i32 jj)) rfl (fun _ => rfl) ?_
      refine T_bald 96 83 (m.2 83) rfl rfl rfl (by omega) (show jj < (540 : Int) by omega) rfl ?_
      have e539 : 0 ≤ m.2 83 jj ∧ m.2 83 jj ≤ 1 := hT.2.1 83 jj
      refine T_gf 100 (.ref 246) rfl rfl rfl rfl rfl rfl ?_
      refine T_ld 101 (.int (i32 jj)) rfl (fun _ => rfl) ?_
      refine T_lald 102 84 (m.2 84) rfl rfl rfl (by omega) (show jj < (540 : Int) by omega) rfl ?_
      have e540 : (-9223372036854775808) ≤ m.2 84 jj ∧ m.2 84 jj ≤ 9223372036854775807 := hT.2.1 84 jj
      refine T_ld 103 (.int (i32 ((m.2 82) jj))) rfl (fun _ => rfl) ?_
      refine T_call 106 258 [.ref 189, .int (i32 ((m.2 81) jj)), .int (i32 ((m.2 83) jj)), .long (i64 ((m.2 84) jj)), .int (i32 ((m.2 82) jj))] [] rfl (fun _ => rfl) rfl (c_wantBit w (mO m [(10, (m.1 10)), (11, (m.1 11)), (28, (m.1 28)), (69, (m.1 69)), (70, (m.1 70)), (71, (m.1 71)), (72, (m.1 72))] [(65, (m.2 65)), (66, (m.2 66)), (67, (m.2 67)), (68, (m.2 68)), (80, (m.2 80))]) c N D (by omega) (Ty_mO hT rfl rfl ⟨f10, f11, f28, f69, f70, f71, f72, trivial⟩ ⟨(hT.2.1 65), (hT.2.1 66), (hT.2.1 67), (hT.2.1 68), (hT.2.1 80), trivial⟩) ((m.2 81) jj) ((m.2 83) jj) ((m.2 84) jj) ((m.2 82) jj) (r32 (by omega) (by omega)) (r32 (by omega) (by omega)) (r64 (by omega) (by omega)) (r32 (by omega) (by omega)) (show 0 ≤ ((m.2 82) jj) ∧ ((m.2 82) jj) ≤ 4000 by omega) (fun (h : (m.1 10) = 0) => absurd h (by omega))) (fun rr541 k542 => ?_)
      obtain ⟨y543, y545, g544, g546, h547, c548, rfl⟩ := k542
      refine ⟨_, _, rfl, ?_⟩
      refine T_nf (st' := []) (l' := [(10, y543), (11, y545), (28, (m.1 28)), (69, (m.1 69)), (70, (m.1 70)), (71, (m.1 71)), (72, (m.1 72))]) (a' := [(65, (m.2 65)), (66, (m.2 66)), (67, (m.2 67)), (68, (m.2 68)), (80, (m.2 80))]) rfl rfl rfl rfl rfl ?_
      replace h547 : y543 = 0 → (m.1 10) = 0 := h547
      have hf549 : 1 ≤ y543 := by omega
      clear c548
      clear h547
      clear g535a g535b h536
      refine T_ld 107 (.ref 189) rfl (fun _ => rfl) ?_
      refine T_gf 111 (.int (i32 (m.1 69))) rfl rfl rfl rfl rfl rfl ?_
      refine T_gf 115 (.int (i32 (m.1 71))) rfl rfl rfl rfl rfl rfl ?_
      refine T_gf 119 (.long (i64 (m.1 72))) rfl rfl rfl rfl rfl rfl ?_
      refine T_gf 123 (.int (i32 (m.1 70))) rfl rfl rfl rfl rfl rfl ?_
      refine T_call 126 258 [.ref 189, .int (i32 (m.1 69)), .int (i32 (m.1 71)), .long (i64 (m.1 72)), .int (i32 (m.1 70))] [] rfl (fun _ => rfl) rfl (c_wantBit w (mO m [(10, y543), (11, y545), (28, (m.1 28)), (69, (m.1 69)), (70, (m.1 70)), (71, (m.1 71)), (72, (m.1 72))] [(65, (m.2 65)), (66, (m.2 66)), (67, (m.2 67)), (68, (m.2 68)), (80, (m.2 80))]) c N D (by omega) (Ty_mO hT rfl rfl ⟨g544, g546, f28, f69, f70, f71, f72, trivial⟩ ⟨(hT.2.1 65), (hT.2.1 66), (hT.2.1 67), (hT.2.1 68), (hT.2.1 80), trivial⟩) (m.1 69) (m.1 71) (m.1 72) (m.1 70) (r32 (by omega) (by omega)) (r32 (by omega) (by omega)) (r64 (by omega) (by omega)) (r32 (by omega) (by omega)) (show 0 ≤ (m.1 70) ∧ (m.1 70) ≤ 4000 by omega) (fun (h : y543 = 0) => absurd h (by omega))) (fun rr550 k551 => ?_)
      obtain ⟨y552, y554, g553, g555, h556, c557, rfl⟩ := k551
      refine ⟨_, _, rfl, ?_⟩
      refine T_nf (st' := []) (l' := [(10, y552), (11, y554), (28, (m.1 28)), (69, (m.1 69)), (70, (m.1 70)), (71, (m.1 71)), (72, (m.1 72))]) (a' := [(65, (m.2 65)), (66, (m.2 66)), (67, (m.2 67)), (68, (m.2 68)), (80, (m.2 80))]) rfl rfl rfl rfl rfl ?_
      replace h556 : y552 = 0 → y543 = 0 := h556
      have hf558 : 1 ≤ y552 := by omega
      clear c557
      clear h556
      clear g544 g546 hf549
      refine T_ld 127 (.int (i32 1)) rfl (fun _ => rfl) ?_
      refine T_sto 128 [(2, .int (i32 1)), (5, .int (i32 (m.1 69))), (4, .int (i32 ((m.2 80) jj))), (3, .int (i32 ((m.2 82) jj))), (0, .ref 189), (1, .int (i32 jj))] rfl (fun _ => rfl) ?_
      refine T_goto 261 rfl (fun _ => rfl) ?_
      refine T_gf 265 (.ref 242) rfl rfl rfl rfl rfl rfl ?_
      refine T_ld 266 (.int (i32 jj)) rfl (fun _ => rfl) ?_
      refine T_ld 267 (.int (i32 (-1))) rfl (fun _ => rfl) ?_
      have G559 : ∀ j, (-1) ≤ (upI (m.2 80) jj (-1)) j ∧ (upI (m.2 80) jj (-1)) j ≤ 330 := upI_rg (hT.2.1 80) ⟨by omega, by omega⟩
      refine T_iast (a' := [(65, (m.2 65)), (66, (m.2 66)), (67, (m.2 67)), (68, (m.2 68)), (80, upI (m.2 80) jj (-1))]) 268 80 (m.2 80) rfl rfl rfl (by omega) (show jj < (540 : Int) by omega) rfl rfl ?_
      refine T_ld 269 (.ref 189) rfl (fun _ => rfl) ?_
      refine T_ld 271 (.int (i32 ((m.2 80) jj))) rfl (fun _ => rfl) ?_
      refine T_ld 272 (.int (i32 1)) rfl (fun _ => rfl) ?_
      refine T_ld 274 (.int (i32 (m.1 69))) rfl (fun _ => rfl) ?_
      refine T_ld 275 (.long (i64 0)) rfl (fun _ => rfl) ?_
      refine T_call 278 248 [.ref 189, .int (i32 ((m.2 80) jj)), .int (i32 1), .int (i32 (m.1 69)), .long (i64 0)] [] rfl (fun _ => rfl) rfl (c_node w (mO m [(10, y552), (11, y554), (28, (m.1 28)), (69, (m.1 69)), (70, (m.1 70)), (71, (m.1 71)), (72, (m.1 72))] [(65, (m.2 65)), (66, (m.2 66)), (67, (m.2 67)), (68, (m.2 68)), (80, upI (m.2 80) jj (-1))]) c N D (by omega) (Ty_mO hT rfl rfl ⟨g553, g555, f28, f69, f70, f71, f72, trivial⟩ ⟨(hT.2.1 65), (hT.2.1 66), (hT.2.1 67), (hT.2.1 68), G559, trivial⟩) ((m.2 80) jj) 1 (m.1 69) 0 B (1 + lh (m.2 79) (m.2 80) (m.1 73)) (r32 (by omega) (by omega)) ⟨by decide, by decide⟩ (r32 (by omega) (by omega)) ⟨by decide, by decide⟩ (fun (h : y552 = 0) => absurd h (by omega))) (fun rr560 k561 => ?_)
      obtain ⟨y562, y564, y566, F568, F570, F572, F574, g563, g565, g567, G569, G571, G573, G575, h576, c577, rfl⟩ := k561
      refine ⟨_, _, rfl, ?_⟩
      refine T_nf (st' := []) (l' := [(10, y562), (11, y564), (28, y566), (69, (m.1 69)), (70, (m.1 70)), (71, (m.1 71)), (72, (m.1 72))]) (a' := [(65, F568), (66, F570), (67, F572), (68, F574), (80, upI (m.2 80) jj (-1))]) rfl rfl rfl rfl rfl ?_
      replace h576 : y562 = 0 → y552 = 0 := h576
      have hf578 : 1 ≤ y562 := by omega
      clear c577
      clear h576
      clear g553 g555 hf558
      refine T_ld 279 (.ref 189) rfl (fun _ => rfl) ?_
      refine T_ld 280 (.int (i32 1)) rfl (fun _ => rfl) ?_
      refine T_ld 281 (.int (i32 ((m.2 82) jj))) rfl (fun _ => rfl) ?_
      refine T_call 284 250 [.ref 189, .int (i32 1), .int (i32 ((m.2 82) jj))] [] rfl (fun _ => rfl) rfl (c_unit w (mO m [(10, y562), (11, y564), (28, y566), (69, (m.1 69)), (70, (m.1 70)), (71, (m.1 71)), (72, (m.1 72))] [(65, F568), (66, F570), (67, F572), (68, F574), (80, upI (m.2 80) jj (-1))]) c N D (by omega) (Ty_mO hT rfl rfl ⟨g563, g565, g567, f69, f70, f71, f72, trivial⟩ ⟨G569, G571, G573, G575, G559, trivial⟩) 1 ((m.2 82) jj) ⟨by decide, by decide⟩ (r32 (by omega) (by omega)) (show 0 ≤ (1 : Int) ∧ (1 : Int) ≤ 1024 by omega) (show 0 ≤ ((m.2 82) jj) ∧ ((m.2 82) jj) ≤ 4000 by omega)) (fun rr579 k580 => ?_)
      obtain ⟨y581, y583, y585, y587, g582, g584, g586, g588, h589, rfl⟩ := k580
      refine ⟨_, _, rfl, ?_⟩
      refine T_nf (st' := []) (l' := [(10, y562), (11, y564), (28, y566), (69, y581), (70, y583), (71, y585), (72, y587)]) (a' := [(65, F568), (66, F570), (67, F572), (68, F574), (80, upI (m.2 80) jj (-1))]) rfl rfl rfl rfl rfl ?_
      replace h589 : y581 = (1 : Int) := h589
      refine T_ret rfl (fun _ => rfl) ?_
      exact ⟨y562, y564, y566, y581, y583, y585, y587, F568, F570, F572, F574, upI (m.2 80) jj (-1), g563, g565, g567, g582, g584, g586, g588, G569, G571, G573, G575, G559, (by omega), (by omega), (fun h => absurd h (by omega)), rfl⟩
    have T207_590 : TT w D pm_260 (207, [(5, .int (i32 (m.1 69))), (4, .int (i32 ((m.2 80) jj))), (3, .int (i32 ((m.2 82) jj))), (2, .int (i32 ((m.2 81) jj))), (0, .ref 189), (1, .int (i32 jj))], [], (mhp (mO m [(10, (m.1 10)), (11, (m.1 11)), (28, (m.1 28)), (69, (m.1 69)), (70, (m.1 70)), (71, (m.1 71)), (72, (m.1 72))] [(65, (m.2 65)), (66, (m.2 66)), (67, (m.2 67)), (68, (m.2 68)), (80, (m.2 80))]) c, N), 0, 0) (Q_join m c N jj B) := by
      refine T_ld 208 (.ref 189) rfl (fun _ => rfl) ?_
      refine T_ld 209 (.int (i32 ((m.2 81) jj))) rfl (fun _ => rfl) ?_
      refine T_gf 213 (.ref 245) rfl rfl rfl rfl rfl rfl ?_
      refine T_ld 214 (.int (i32 jj)) rfl (fun _ => rfl) ?_
      refine T_bald 215 83 (m.2 83) rfl rfl rfl (by omega) (show jj < (540 : Int) by omega) rfl ?_
      have e592 : 0 ≤ m.2 83 jj ∧ m.2 83 jj ≤ 1 := hT.2.1 83 jj
      refine T_gf 219 (.ref 246) rfl rfl rfl rfl rfl rfl ?_
      refine T_ld 220 (.int (i32 jj)) rfl (fun _ => rfl) ?_
      refine T_lald 221 84 (m.2 84) rfl rfl rfl (by omega) (show jj < (540 : Int) by omega) rfl ?_
      have e593 : (-9223372036854775808) ≤ m.2 84 jj ∧ m.2 84 jj ≤ 9223372036854775807 := hT.2.1 84 jj
      refine T_ld 222 (.int (i32 ((m.2 82) jj))) rfl (fun _ => rfl) ?_
      refine T_gf 226 (.int (i32 (m.1 69))) rfl rfl rfl rfl rfl rfl ?_
      refine T_gf 230 (.int (i32 (m.1 71))) rfl rfl rfl rfl rfl rfl ?_
      refine T_gf 234 (.long (i64 (m.1 72))) rfl rfl rfl rfl rfl rfl ?_
      refine T_gf 238 (.int (i32 (m.1 70))) rfl rfl rfl rfl rfl rfl ?_
      refine T_call 241 261 [.ref 189, .int (i32 ((m.2 81) jj)), .int (i32 ((m.2 83) jj)), .long (i64 ((m.2 84) jj)), .int (i32 ((m.2 82) jj)), .int (i32 (m.1 69)), .int (i32 (m.1 71)), .long (i64 (m.1 72)), .int (i32 (m.1 70))] [] rfl (fun _ => rfl) rfl (c_common w (mO m [(10, (m.1 10)), (11, (m.1 11)), (28, (m.1 28)), (69, (m.1 69)), (70, (m.1 70)), (71, (m.1 71)), (72, (m.1 72))] [(65, (m.2 65)), (66, (m.2 66)), (67, (m.2 67)), (68, (m.2 68)), (80, (m.2 80))]) c N D (by omega) (Ty_mO hT rfl rfl ⟨f10, f11, f28, f69, f70, f71, f72, trivial⟩ ⟨(hT.2.1 65), (hT.2.1 66), (hT.2.1 67), (hT.2.1 68), (hT.2.1 80), trivial⟩) ((m.2 81) jj) ((m.2 83) jj) ((m.2 84) jj) ((m.2 82) jj) (m.1 69) (m.1 71) (m.1 72) (m.1 70) (r32 (by omega) (by omega)) (r32 (by omega) (by omega)) (r64 (by omega) (by omega)) (r32 (by omega) (by omega)) (r32 (by omega) (by omega)) (r32 (by omega) (by omega)) (r64 (by omega) (by omega)) (r32 (by omega) (by omega)) (show 0 ≤ ((m.2 82) jj) ∧ ((m.2 82) jj) ≤ 4000 by omega) (show 0 ≤ (m.1 70) ∧ (m.1 70) ≤ 4000 by omega) (show 0 ≤ ((m.2 81) jj) ∧ ((m.2 81) jj) ≤ 1024 by omega) (show 0 ≤ (m.1 69) ∧ (m.1 69) ≤ 1024 by omega) (fun (h : (m.1 10) = 0) => absurd h (by omega))) (fun rr594 k595 => ?_)
      obtain ⟨y596, y598, x600, g597, g599, g601, h602, h603, c604, rfl⟩ := k595
      refine ⟨_, _, rfl, ?_⟩
      refine T_nf (st' := [.int (i32 x600)]) (l' := [(10, y596), (11, y598), (28, (m.1 28)), (69, (m.1 69)), (70, (m.1 70)), (71, (m.1 71)), (72, (m.1 72))]) (a' := [(65, (m.2 65)), (66, (m.2 66)), (67, (m.2 67)), (68, (m.2 68)), (80, (m.2 80))]) rfl rfl rfl rfl rfl ?_
      obtain ⟨g601a, g601b⟩ := g601
      replace h602 : y596 = 0 → (m.1 10) = 0 := h602
      replace h603 : x600 = 64 ∨ x600 = ((m.2 81) jj) ∨ x600 = (m.1 69) := h603
      have hf605 : 1 ≤ y596 := by omega
      clear c604
      clear h602
      clear g535a g535b h536
      refine T_sto 242 [(2, .int (i32 x600)), (5, .int (i32 (m.1 69))), (4, .int (i32 ((m.2 80) jj))), (3, .int (i32 ((m.2 82) jj))), (0, .ref 189), (1, .int (i32 jj))] rfl (fun _ => rfl) ?_
      refine T_gf 246 (.ref 242) rfl rfl rfl rfl rfl rfl ?_
      refine T_ld 247 (.int (i32 jj)) rfl (fun _ => rfl) ?_
      refine T_iald 248 80 (m.2 80) rfl rfl rfl (by omega) (show jj < (540 : Int) by omega) rfl ?_
      have e606 : (-1) ≤ (m.2 80) jj ∧ (m.2 80) jj ≤ 330 := (hT.2.1 80) jj
      refine T_call 251 259 [.int (i32 ((m.2 80) jj))] [] rfl (fun _ => rfl) rfl (c_level w (mO m [(10, y596), (11, y598), (28, (m.1 28)), (69, (m.1 69)), (70, (m.1 70)), (71, (m.1 71)), (72, (m.1 72))] [(65, (m.2 65)), (66, (m.2 66)), (67, (m.2 67)), (68, (m.2 68)), (80, (m.2 80))]) c N D (by omega) (Ty_mO hT rfl rfl ⟨g597, g599, f28, f69, f70, f71, f72, trivial⟩ ⟨(hT.2.1 65), (hT.2.1 66), (hT.2.1 67), (hT.2.1 68), (hT.2.1 80), trivial⟩) ((m.2 80) jj) (r32 (by omega) (by omega))) (fun rr607 k608 => ?_)
      obtain ⟨x609, g610, h611, rfl⟩ := k608
      refine ⟨_, _, rfl, ?_⟩
      refine T_nf (st' := [.int (i32 x609)]) (l' := [(10, y596), (11, y598), (28, (m.1 28)), (69, (m.1 69)), (70, (m.1 70)), (71, (m.1 71)), (72, (m.1 72))]) (a' := [(65, (m.2 65)), (66, (m.2 66)), (67, (m.2 67)), (68, (m.2 68)), (80, (m.2 80))]) rfl rfl rfl rfl rfl ?_
      obtain ⟨g610a, g610b⟩ := g610
      replace h611 : 0 ≤ x609 → 4 ≤ ((m.2 80) jj) ∧ ((m.2 80) jj) ≤ 124 := h611
      refine T_ld 252 (.int (i32 2)) rfl (fun _ => rfl) ?_
      refine T_icmp 259 255 rfl rfl rfl (r32 (by omega) (by omega)) ⟨by decide, by decide⟩ (fun (h612 : x609 ≠ 2) => ?_) (fun (h612 : ¬ (x609 ≠ 2)) => ?_)
      · skip
        refine T_ld 260 (.int (i32 x600)) rfl (fun _ => rfl) ?_
        refine T_sto 261 [(2, .int (i32 x600)), (5, .int (i32 (m.1 69))), (4, .int (i32 ((m.2 80) jj))), (3, .int (i32 ((m.2 82) jj))), (0, .ref 189), (1, .int (i32 jj))] rfl (fun _ => rfl) ?_
        refine T_gf 265 (.ref 242) rfl rfl rfl rfl rfl rfl ?_
        refine T_ld 266 (.int (i32 jj)) rfl (fun _ => rfl) ?_
        refine T_ld 267 (.int (i32 (-1))) rfl (fun _ => rfl) ?_
        have G613 : ∀ j, (-1) ≤ (upI (m.2 80) jj (-1)) j ∧ (upI (m.2 80) jj (-1)) j ≤ 330 := upI_rg (hT.2.1 80) ⟨by omega, by omega⟩
        refine T_iast (a' := [(65, (m.2 65)), (66, (m.2 66)), (67, (m.2 67)), (68, (m.2 68)), (80, upI (m.2 80) jj (-1))]) 268 80 (m.2 80) rfl rfl rfl (by omega) (show jj < (540 : Int) by omega) rfl rfl ?_
        refine T_ld 269 (.ref 189) rfl (fun _ => rfl) ?_
        refine T_ld 271 (.int (i32 ((m.2 80) jj))) rfl (fun _ => rfl) ?_
        refine T_ld 272 (.int (i32 x600)) rfl (fun _ => rfl) ?_
        refine T_ld 274 (.int (i32 (m.1 69))) rfl (fun _ => rfl) ?_
        refine T_ld 275 (.long (i64 0)) rfl (fun _ => rfl) ?_
        refine T_call 278 248 [.ref 189, .int (i32 ((m.2 80) jj)), .int (i32 x600), .int (i32 (m.1 69)), .long (i64 0)] [] rfl (fun _ => rfl) rfl (c_node w (mO m [(10, y596), (11, y598), (28, (m.1 28)), (69, (m.1 69)), (70, (m.1 70)), (71, (m.1 71)), (72, (m.1 72))] [(65, (m.2 65)), (66, (m.2 66)), (67, (m.2 67)), (68, (m.2 68)), (80, upI (m.2 80) jj (-1))]) c N D (by omega) (Ty_mO hT rfl rfl ⟨g597, g599, f28, f69, f70, f71, f72, trivial⟩ ⟨(hT.2.1 65), (hT.2.1 66), (hT.2.1 67), (hT.2.1 68), G613, trivial⟩) ((m.2 80) jj) x600 (m.1 69) 0 B (1 + lh (m.2 79) (m.2 80) (m.1 73)) (r32 (by omega) (by omega)) (r32 (by omega) (by omega)) (r32 (by omega) (by omega)) ⟨by decide, by decide⟩ (fun (h : y596 = 0) => absurd h (by omega))) (fun rr614 k615 => ?_)
        obtain ⟨y616, y618, y620, F622, F624, F626, F628, g617, g619, g621, G623, G625, G627, G629, h630, c631, rfl⟩ := k615
        refine ⟨_, _, rfl, ?_⟩
        refine T_nf (st' := []) (l' := [(10, y616), (11, y618), (28, y620), (69, (m.1 69)), (70, (m.1 70)), (71, (m.1 71)), (72, (m.1 72))]) (a' := [(65, F622), (66, F624), (67, F626), (68, F628), (80, upI (m.2 80) jj (-1))]) rfl rfl rfl rfl rfl ?_
        replace h630 : y616 = 0 → y596 = 0 := h630
        have hf632 : 1 ≤ y616 := by omega
        clear c631
        clear h630
        clear g597 g599 hf605 g610a g610b h611 h612
        refine T_ld 279 (.ref 189) rfl (fun _ => rfl) ?_
        refine T_ld 280 (.int (i32 x600)) rfl (fun _ => rfl) ?_
        refine T_ld 281 (.int (i32 ((m.2 82) jj))) rfl (fun _ => rfl) ?_
        refine T_call 284 250 [.ref 189, .int (i32 x600), .int (i32 ((m.2 82) jj))] [] rfl (fun _ => rfl) rfl (c_unit w (mO m [(10, y616), (11, y618), (28, y620), (69, (m.1 69)), (70, (m.1 70)), (71, (m.1 71)), (72, (m.1 72))] [(65, F622), (66, F624), (67, F626), (68, F628), (80, upI (m.2 80) jj (-1))]) c N D (by omega) (Ty_mO hT rfl rfl ⟨g617, g619, g621, f69, f70, f71, f72, trivial⟩ ⟨G623, G625, G627, G629, G613, trivial⟩) x600 ((m.2 82) jj) (r32 (by omega) (by omega)) (r32 (by omega) (by omega)) (show 0 ≤ x600 ∧ x600 ≤ 1024 by omega) (show 0 ≤ ((m.2 82) jj) ∧ ((m.2 82) jj) ≤ 4000 by omega)) (fun rr633 k634 => ?_)
        obtain ⟨y635, y637, y639, y641, g636, g638, g640, g642, h643, rfl⟩ := k634
        refine ⟨_, _, rfl, ?_⟩
        refine T_nf (st' := []) (l' := [(10, y616), (11, y618), (28, y620), (69, y635), (70, y637), (71, y639), (72, y641)]) (a' := [(65, F622), (66, F624), (67, F626), (68, F628), (80, upI (m.2 80) jj (-1))]) rfl rfl rfl rfl rfl ?_
        replace h643 : y635 = x600 := h643
        refine T_ret rfl (fun _ => rfl) ?_
        exact ⟨y616, y618, y620, y635, y637, y639, y641, F622, F624, F626, F628, upI (m.2 80) jj (-1), g617, g619, g621, g636, g638, g640, g642, G623, G625, G627, G629, G613, (by omega), (by omega), (fun h => absurd h (by omega)), rfl⟩
      · skip
        refine T_ld 256 (.int (i32 1)) rfl (fun _ => rfl) ?_
        refine T_goto 260 rfl (fun _ => rfl) ?_
        refine T_sto 261 [(2, .int (i32 1)), (5, .int (i32 (m.1 69))), (4, .int (i32 ((m.2 80) jj))), (3, .int (i32 ((m.2 82) jj))), (0, .ref 189), (1, .int (i32 jj))] rfl (fun _ => rfl) ?_
        refine T_gf 265 (.ref 242) rfl rfl rfl rfl rfl rfl ?_
        refine T_ld 266 (.int (i32 jj)) rfl (fun _ => rfl) ?_
        refine T_ld 267 (.int (i32 (-1))) rfl (fun _ => rfl) ?_
        have G644 : ∀ j, (-1) ≤ (upI (m.2 80) jj (-1)) j ∧ (upI (m.2 80) jj (-1)) j ≤ 330 := upI_rg (hT.2.1 80) ⟨by omega, by omega⟩
        refine T_iast (a' := [(65, (m.2 65)), (66, (m.2 66)), (67, (m.2 67)), (68, (m.2 68)), (80, upI (m.2 80) jj (-1))]) 268 80 (m.2 80) rfl rfl rfl (by omega) (show jj < (540 : Int) by omega) rfl rfl ?_
        refine T_ld 269 (.ref 189) rfl (fun _ => rfl) ?_
        refine T_ld 271 (.int (i32 ((m.2 80) jj))) rfl (fun _ => rfl) ?_
        refine T_ld 272 (.int (i32 1)) rfl (fun _ => rfl) ?_
        refine T_ld 274 (.int (i32 (m.1 69))) rfl (fun _ => rfl) ?_
        refine T_ld 275 (.long (i64 0)) rfl (fun _ => rfl) ?_
        refine T_call 278 248 [.ref 189, .int (i32 ((m.2 80) jj)), .int (i32 1), .int (i32 (m.1 69)), .long (i64 0)] [] rfl (fun _ => rfl) rfl (c_node w (mO m [(10, y596), (11, y598), (28, (m.1 28)), (69, (m.1 69)), (70, (m.1 70)), (71, (m.1 71)), (72, (m.1 72))] [(65, (m.2 65)), (66, (m.2 66)), (67, (m.2 67)), (68, (m.2 68)), (80, upI (m.2 80) jj (-1))]) c N D (by omega) (Ty_mO hT rfl rfl ⟨g597, g599, f28, f69, f70, f71, f72, trivial⟩ ⟨(hT.2.1 65), (hT.2.1 66), (hT.2.1 67), (hT.2.1 68), G644, trivial⟩) ((m.2 80) jj) 1 (m.1 69) 0 B (1 + lh (m.2 79) (m.2 80) (m.1 73)) (r32 (by omega) (by omega)) ⟨by decide, by decide⟩ (r32 (by omega) (by omega)) ⟨by decide, by decide⟩ (fun (h : y596 = 0) => absurd h (by omega))) (fun rr645 k646 => ?_)
        obtain ⟨y647, y649, y651, F653, F655, F657, F659, g648, g650, g652, G654, G656, G658, G660, h661, c662, rfl⟩ := k646
        refine ⟨_, _, rfl, ?_⟩
        refine T_nf (st' := []) (l' := [(10, y647), (11, y649), (28, y651), (69, (m.1 69)), (70, (m.1 70)), (71, (m.1 71)), (72, (m.1 72))]) (a' := [(65, F653), (66, F655), (67, F657), (68, F659), (80, upI (m.2 80) jj (-1))]) rfl rfl rfl rfl rfl ?_
        replace h661 : y647 = 0 → y596 = 0 := h661
        have hf663 : 1 ≤ y647 := by omega
        clear c662
        clear h661
        clear g597 g599 g601a g601b hf605 h603 g610a g610b h611 h612
        refine T_ld 279 (.ref 189) rfl (fun _ => rfl) ?_
        refine T_ld 280 (.int (i32 1)) rfl (fun _ => rfl) ?_
        refine T_ld 281 (.int (i32 ((m.2 82) jj))) rfl (fun _ => rfl) ?_
        refine T_call 284 250 [.ref 189, .int (i32 1), .int (i32 ((m.2 82) jj))] [] rfl (fun _ => rfl) rfl (c_unit w (mO m [(10, y647), (11, y649), (28, y651), (69, (m.1 69)), (70, (m.1 70)), (71, (m.1 71)), (72, (m.1 72))] [(65, F653), (66, F655), (67, F657), (68, F659), (80, upI (m.2 80) jj (-1))]) c N D (by omega) (Ty_mO hT rfl rfl ⟨g648, g650, g652, f69, f70, f71, f72, trivial⟩ ⟨G654, G656, G658, G660, G644, trivial⟩) 1 ((m.2 82) jj) ⟨by decide, by decide⟩ (r32 (by omega) (by omega)) (show 0 ≤ (1 : Int) ∧ (1 : Int) ≤ 1024 by omega) (show 0 ≤ ((m.2 82) jj) ∧ ((m.2 82) jj) ≤ 4000 by omega)) (fun rr664 k665 => ?_)
        obtain ⟨y666, y668, y670, y672, g667, g669, g671, g673, h674, rfl⟩ := k665
        refine ⟨_, _, rfl, ?_⟩
        refine T_nf (st' := []) (l' := [(10, y647), (11, y649), (28, y651), (69, y666), (70, y668), (71, y670), (72, y672)]) (a' := [(65, F653), (66, F655), (67, F657), (68, F659), (80, upI (m.2 80) jj (-1))]) rfl rfl rfl rfl rfl ?_
        replace h674 : y666 = (1 : Int) := h674
        refine T_ret rfl (fun _ => rfl) ?_
        exact ⟨y647, y649, y651, y666, y668, y670, y672, F653, F655, F657, F659, upI (m.2 80) jj (-1), g648, g650, g652, g667, g669, g671, g673, G654, G656, G658, G660, G644, (by omega), (by omega), (fun h => absurd h (by omega)), rfl⟩
    by_cases h675 : x534 = 0
    · skip
      refine T_cast 0 h675 ?_
      refine T_pop 88 rfl (fun _ => rfl) ?_
      exact T88_537 (by omega)
    by_cases h676 : x534 = 1
    · skip
      refine T_cast 1 h676 ?_
      refine T_pop 88 rfl (fun _ => rfl) ?_
      exact T88_537 (by omega)
    by_cases h677 : x534 = 6
    · skip
      refine T_cast 6 h677 ?_
      refine T_pop 131 rfl (fun _ => rfl) ?_
      refine T_goto 261 rfl (fun _ => rfl) ?_
      refine T_gf 265 (.ref 242) rfl rfl rfl rfl rfl rfl ?_
      refine T_ld 266 (.int (i32 jj)) rfl (fun _ => rfl) ?_
      refine T_ld 267 (.int (i32 (-1))) rfl (fun _ => rfl) ?_
      have G678 : ∀ j, (-1) ≤ (upI (m.2 80) jj (-1)) j ∧ (upI (m.2 80) jj (-1)) j ≤ 330 := upI_rg (hT.2.1 80) ⟨by omega, by omega⟩
      refine T_iast (a' := [(65, (m.2 65)), (66, (m.2 66)), (67, (m.2 67)), (68, (m.2 68)), (80, upI (m.2 80) jj (-1))]) 268 80 (m.2 80) rfl rfl rfl (by omega) (show jj < (540 : Int) by omega) rfl rfl ?_
      refine T_ld 269 (.ref 189) rfl (fun _ => rfl) ?_
      refine T_ld 271 (.int (i32 ((m.2 80) jj))) rfl (fun _ => rfl) ?_
      refine T_ld 272 (.int (i32 ((m.2 81) jj))) rfl (fun _ => rfl) ?_
      refine T_ld 274 (.int (i32 (m.1 69))) rfl (fun _ => rfl) ?_
      refine T_ld 275 (.long (i64 0)) rfl (fun _ => rfl) ?_
      refine T_call 278 248 [.ref 189, .int (i32 ((m.2 80) jj)), .int (i32 ((m.2 81) jj)), .int (i32 (m.1 69)), .long (i64 0)] [] rfl (fun _ => rfl) rfl (c_node w (mO m [(10, (m.1 10)), (11, (m.1 11)), (28, (m.1 28)), (69, (m.1 69)), (70, (m.1 70)), (71, (m.1 71)), (72, (m.1 72))] [(65, (m.2 65)), (66, (m.2 66)), (67, (m.2 67)), (68, (m.2 68)), (80, upI (m.2 80) jj (-1))]) c N D (by omega) (Ty_mO hT rfl rfl ⟨f10, f11, f28, f69, f70, f71, f72, trivial⟩ ⟨(hT.2.1 65), (hT.2.1 66), (hT.2.1 67), (hT.2.1 68), G678, trivial⟩) ((m.2 80) jj) ((m.2 81) jj) (m.1 69) 0 B (1 + lh (m.2 79) (m.2 80) (m.1 73)) (r32 (by omega) (by omega)) (r32 (by omega) (by omega)) (r32 (by omega) (by omega)) ⟨by decide, by decide⟩ (fun (h : (m.1 10) = 0) => absurd h (by omega))) (fun rr679 k680 => ?_)
      obtain ⟨y681, y683, y685, F687, F689, F691, F693, g682, g684, g686, G688, G690, G692, G694, h695, c696, rfl⟩ := k680
      refine ⟨_, _, rfl, ?_⟩
      refine T_nf (st' := []) (l' := [(10, y681), (11, y683), (28, y685), (69, (m.1 69)), (70, (m.1 70)), (71, (m.1 71)), (72, (m.1 72))]) (a' := [(65, F687), (66, F689), (67, F691), (68, F693), (80, upI (m.2 80) jj (-1))]) rfl rfl rfl rfl rfl ?_
      replace h695 : y681 = 0 → (m.1 10) = 0 := h695
      have hf697 : 1 ≤ y681 := by omega
      clear c696
      clear h695
      clear g535a g535b h536
      refine T_ld 279 (.ref 189) rfl (fun _ => rfl) ?_
      refine T_ld 280 (.int (i32 ((m.2 81) jj))) rfl (fun _ => rfl) ?_
      refine T_ld 281 (.int (i32 ((m.2 82) jj))) rfl (fun _ => rfl) ?_
      refine T_call 284 250 [.ref 189, .int (i32 ((m.2 81) jj)), .int (i32 ((m.2 82) jj))] [] rfl (fun _ => rfl) rfl (c_unit w (mO m [(10, y681), (11, y683), (28, y685), (69, (m.1 69)), (70, (m.1 70)), (71, (m.1 71)), (72, (m.1 72))] [(65, F687), (66, F689), (67, F691), (68, F693), (80, upI (m.2 80) jj (-1))]) c N D (by omega) (Ty_mO hT rfl rfl ⟨g682, g684, g686, f69, f70, f71, f72, trivial⟩ ⟨G688, G690, G692, G694, G678, trivial⟩) ((m.2 81) jj) ((m.2 82) jj) (r32 (by omega) (by omega)) (r32 (by omega) (by omega)) (show 0 ≤ ((m.2 81) jj) ∧ ((m.2 81) jj) ≤ 1024 by omega) (show 0 ≤ ((m.2 82) jj) ∧ ((m.2 82) jj) ≤ 4000 by omega)) (fun rr698 k699 => ?_)
      obtain ⟨y700, y702, y704, y706, g701, g703, g705, g707, h708, rfl⟩ := k699
      refine ⟨_, _, rfl, ?_⟩
      refine T_nf (st' := []) (l' := [(10, y681), (11, y683), (28, y685), (69, y700), (70, y702), (71, y704), (72, y706)]) (a' := [(65, F687), (66, F689), (67, F691), (68, F693), (80, upI (m.2 80) jj (-1))]) rfl rfl rfl rfl rfl ?_
      replace h708 : y700 = ((m.2 81) jj) := h708
      refine T_ret rfl (fun _ => rfl) ?_
      exact ⟨y681, y683, y685, y700, y702, y704, y706, F687, F689, F691, F693, upI (m.2 80) jj (-1), g682, g684, g686, g701, g703, g705, g707, G688, G690, G692, G694, G678, (by omega), (by omega), (fun h => absurd h (by omega)), rfl⟩
    by_cases h709 : x534 = 8
    · skip
      refine T_cast 8 h709 ?_
      refine T_pop 134 rfl (fun _ => rfl) ?_
      refine T_ld 135 (.ref 189) rfl (fun _ => rfl) ?_
      refine T_gf 139 (.ref 245) rfl rfl rfl rfl rfl rfl ?_
      refine T_ld 140 (.int (i32 jj)) rfl (fun _ => rfl) ?_
      refine T_bald 141 83 (m.2 83) rfl rfl rfl (by omega) (show jj < (540 : Int) by omega) rfl ?_
      have e710 : 0 ≤ m.2 83 jj ∧ m.2 83 jj ≤ 1 := hT.2.1 83 jj
      refine T_if 148 144 rfl rfl rfl (r32 (by omega) (by omega)) (fun (h711 : (m.2 83) jj ≠ 0) => ?_) (fun (h711 : ¬ ((m.2 83) jj ≠ 0)) => ?_)
      · skip
        refine T_ld 149 (.int (i32 0)) rfl (fun _ => rfl) ?_
        refine T_ld 150 (.int (i32 ((m.2 82) jj))) rfl (fun _ => rfl) ?_
        refine T_call 153 256 [.ref 189, .int (i32 0), .int (i32 ((m.2 82) jj))] [] rfl (fun _ => rfl) rfl (c_want w (mO m [(10, (m.1 10)), (11, (m.1 11)), (28, (m.1 28)), (69, (m.1 69)), (70, (m.1 70)), (71, (m.1 71)), (72, (m.1 72))] [(65, (m.2 65)), (66, (m.2 66)), (67, (m.2 67)), (68, (m.2 68)), (80, (m.2 80))]) c N D (by omega) (Ty_mO hT rfl rfl ⟨f10, f11, f28, f69, f70, f71, f72, trivial⟩ ⟨(hT.2.1 65), (hT.2.1 66), (hT.2.1 67), (hT.2.1 68), (hT.2.1 80), trivial⟩) 0 ((m.2 82) jj) ⟨by decide, by decide⟩ (r32 (by omega) (by omega)) (show 0 ≤ ((m.2 82) jj) ∧ ((m.2 82) jj) ≤ 4000 by omega) (fun (h : (m.1 10) = 0) => absurd h (by omega))) (fun rr712 k713 => ?_)
        obtain ⟨y714, y716, g715, g717, h718, c719, rfl⟩ := k713
        refine ⟨_, _, rfl, ?_⟩
        refine T_nf (st' := []) (l' := [(10, y714), (11, y716), (28, (m.1 28)), (69, (m.1 69)), (70, (m.1 70)), (71, (m.1 71)), (72, (m.1 72))]) (a' := [(65, (m.2 65)), (66, (m.2 66)), (67, (m.2 67)), (68, (m.2 68)), (80, (m.2 80))]) rfl rfl rfl rfl rfl ?_
        replace h718 : y714 = 0 → (m.1 10) = 0 := h718
        have hf720 : 1 ≤ y714 := by omega
        clear c719
        clear h718
        clear g535a g535b h536
        refine T_ld 154 (.ref 189) rfl (fun _ => rfl) ?_
        refine T_gf 158 (.int (i32 (m.1 71))) rfl rfl rfl rfl rfl rfl ?_
        refine T_if 165 161 rfl rfl rfl (r32 (by omega) (by omega)) (fun (h721 : (m.1 71) ≠ 0) => ?_) (fun (h721 : ¬ ((m.1 71) ≠ 0)) => ?_)
        · skip
          refine T_ld 166 (.int (i32 0)) rfl (fun _ => rfl) ?_
          refine T_gf 170 (.int (i32 (m.1 70))) rfl rfl rfl rfl rfl rfl ?_
          refine T_call 173 256 [.ref 189, .int (i32 0), .int (i32 (m.1 70))] [] rfl (fun _ => rfl) rfl (c_want w (mO m [(10, y714), (11, y716), (28, (m.1 28)), (69, (m.1 69)), (70, (m.1 70)), (71, (m.1 71)), (72, (m.1 72))] [(65, (m.2 65)), (66, (m.2 66)), (67, (m.2 67)), (68, (m.2 68)), (80, (m.2 80))]) c N D (by omega) (Ty_mO hT rfl rfl ⟨g715, g717, f28, f69, f70, f71, f72, trivial⟩ ⟨(hT.2.1 65), (hT.2.1 66), (hT.2.1 67), (hT.2.1 68), (hT.2.1 80), trivial⟩) 0 (m.1 70) ⟨by decide, by decide⟩ (r32 (by omega) (by omega)) (show 0 ≤ (m.1 70) ∧ (m.1 70) ≤ 4000 by omega) (fun (h : y714 = 0) => absurd h (by omega))) (fun rr722 k723 => ?_)
          obtain ⟨y724, y726, g725, g727, h728, c729, rfl⟩ := k723
          refine ⟨_, _, rfl, ?_⟩
          refine T_nf (st' := []) (l' := [(10, y724), (11, y726), (28, (m.1 28)), (69, (m.1 69)), (70, (m.1 70)), (71, (m.1 71)), (72, (m.1 72))]) (a' := [(65, (m.2 65)), (66, (m.2 66)), (67, (m.2 67)), (68, (m.2 68)), (80, (m.2 80))]) rfl rfl rfl rfl rfl ?_
          replace h728 : y724 = 0 → y714 = 0 := h728
          have hf730 : 1 ≤ y724 := by omega
          clear c729
          clear h728
          clear g715 g717 hf720
          refine T_ld 174 (.ref 189) rfl (fun _ => rfl) ?_
          refine T_ld 175 (.int (i32 ((m.2 81) jj))) rfl (fun _ => rfl) ?_
          refine T_gf 179 (.int (i32 (m.1 69))) rfl rfl rfl rfl rfl rfl ?_
          refine T_iadd 180 rfl rfl ?_
          refine T_ld 182 (.int (i32 64)) rfl (fun _ => rfl) ?_
          refine T_icmp 189 185 rfl rfl rfl (r32 (by omega) (by omega)) ⟨by decide, by decide⟩ (fun (h731 : (64 : Int) < ((m.2 81) jj) + (m.1 69)) => ?_) (fun (h731 : ¬ ((64 : Int) < ((m.2 81) jj) + (m.1 69))) => ?_)
          · skip
            refine T_ld 190 (.int (i32 0)) rfl (fun _ => rfl) ?_
            refine T_gf 194 (.int (i32 (m.1 70))) rfl rfl rfl rfl rfl rfl ?_
            refine T_call 197 256 [.ref 189, .int (i32 0), .int (i32 (m.1 70))] [] rfl (fun _ => rfl) rfl (c_want w (mO m [(10, y724), (11, y726), (28, (m.1 28)), (69, (m.1 69)), (70, (m.1 70)), (71, (m.1 71)), (72, (m.1 72))] [(65, (m.2 65)), (66, (m.2 66)), (67, (m.2 67)), (68, (m.2 68)), (80, (m.2 80))]) c N D (by omega) (Ty_mO hT rfl rfl ⟨g725, g727, f28, f69, f70, f71, f72, trivial⟩ ⟨(hT.2.1 65), (hT.2.1 66), (hT.2.1 67), (hT.2.1 68), (hT.2.1 80), trivial⟩) 0 (m.1 70) ⟨by decide, by decide⟩ (r32 (by omega) (by omega)) (show 0 ≤ (m.1 70) ∧ (m.1 70) ≤ 4000 by omega) (fun (h : y724 = 0) => absurd h (by omega))) (fun rr732 k733 => ?_)
            obtain ⟨y734, y736, g735, g737, h738, c739, rfl⟩ := k733
            refine ⟨_, _, rfl, ?_⟩
            refine T_nf (st' := []) (l' := [(10, y734), (11, y736), (28, (m.1 28)), (69, (m.1 69)), (70, (m.1 70)), (71, (m.1 71)), (72, (m.1 72))]) (a' := [(65, (m.2 65)), (66, (m.2 66)), (67, (m.2 67)), (68, (m.2 68)), (80, (m.2 80))]) rfl rfl rfl rfl rfl ?_
            replace h738 : y734 = 0 → y724 = 0 := h738
            have hf740 : 1 ≤ y734 := by omega
            clear c739
            clear h738
            clear g725 g727 hf730
            refine T_ld 198 (.int (i32 ((m.2 81) jj))) rfl (fun _ => rfl) ?_
            refine T_gf 202 (.int (i32 (m.1 69))) rfl rfl rfl rfl rfl rfl ?_
            refine T_iadd 203 rfl rfl ?_
            refine T_sto 204 [(2, .int (i32 (((m.2 81) jj) + (m.1 69)))), (5, .int (i32 (m.1 69))), (4, .int (i32 ((m.2 80) jj))), (3, .int (i32 ((m.2 82) jj))), (0, .ref 189), (1, .int (i32 jj))] rfl (fun _ => rfl) ?_
            refine T_goto 261 rfl (fun _ => rfl) ?_
            refine T_gf 265 (.ref 242) rfl rfl rfl rfl rfl rfl ?_
            refine T_ld 266 (.int (i32 jj)) rfl (fun _ => rfl) ?_
            refine T_ld 267 (.int (i32 (-1))) rfl (fun _ => rfl) ?_
            have G741 : ∀ j, (-1) ≤ (upI (m.2 80) jj (-1)) j ∧ (upI (m.2 80) jj (-1)) j ≤ 330 := upI_rg (hT.2.1 80) ⟨by omega, by omega⟩
            refine T_iast (a' := [(65, (m.2 65)), (66, (m.2 66)), (67, (m.2 67)), (68, (m.2 68)), (80, upI (m.2 80) jj (-1))]) 268 80 (m.2 80) rfl rfl rfl (by omega) (show jj < (540 : Int) by omega) rfl rfl ?_
            refine T_ld 269 (.ref 189) rfl (fun _ => rfl) ?_
            refine T_ld 271 (.int (i32 ((m.2 80) jj))) rfl (fun _ => rfl) ?_
            refine T_ld 272 (.int (i32 (((m.2 81) jj) + (m.1 69)))) rfl (fun _ => rfl) ?_
            refine T_ld 274 (.int (i32 (m.1 69))) rfl (fun _ => rfl) ?_
            refine T_ld 275 (.long (i64 0)) rfl (fun _ => rfl) ?_
            refine T_call 278 248 [.ref 189, .int (i32 ((m.2 80) jj)), .int (i32 (((m.2 81) jj) + (m.1 69))), .int (i32 (m.1 69)), .long (i64 0)] [] rfl (fun _ => rfl) rfl (c_node w (mO m [(10, y734), (11, y736), (28, (m.1 28)), (69, (m.1 69)), (70, (m.1 70)), (71, (m.1 71)), (72, (m.1 72))] [(65, (m.2 65)), (66, (m.2 66)), (67, (m.2 67)), (68, (m.2 68)), (80, upI (m.2 80) jj (-1))]) c N D (by omega) (Ty_mO hT rfl rfl ⟨g735, g737, f28, f69, f70, f71, f72, trivial⟩ ⟨(hT.2.1 65), (hT.2.1 66), (hT.2.1 67), (hT.2.1 68), G741, trivial⟩) ((m.2 80) jj) (((m.2 81) jj) + (m.1 69)) (m.1 69) 0 B (1 + lh (m.2 79) (m.2 80) (m.1 73)) (r32 (by omega) (by omega)) (r32 (by omega) (by omega)) (r32 (by omega) (by omega)) ⟨by decide, by decide⟩ (fun (h : y734 = 0) => absurd h (by omega))) (fun rr742 k743 => ?_)
            obtain ⟨y744, y746, y748, F750, F752, F754, F756, g745, g747, g749, G751, G753, G755, G757, h758, c759, rfl⟩ := k743
            refine ⟨_, _, rfl, ?_⟩
            refine T_nf (st' := []) (l' := [(10, y744), (11, y746), (28, y748), (69, (m.1 69)), (70, (m.1 70)), (71, (m.1 71)), (72, (m.1 72))]) (a' := [(65, F750), (66, F752), (67, F754), (68, F756), (80, upI (m.2 80) jj (-1))]) rfl rfl rfl rfl rfl ?_
            replace h758 : y744 = 0 → y734 = 0 := h758
            have hf760 : 1 ≤ y744 := by omega
            clear c759
            clear h758
            clear g735 g737 hf740
            refine T_ld 279 (.ref 189) rfl (fun _ => rfl) ?_
            refine T_ld 280 (.int (i32 (((m.2 81) jj) + (m.1 69)))) rfl (fun _ => rfl) ?_
            refine T_ld 281 (.int (i32 ((m.2 82) jj))) rfl (fun _ => rfl) ?_
            refine T_call 284 250 [.ref 189, .int (i32 (((m.2 81) jj) + (m.1 69))), .int (i32 ((m.2 82) jj))] [] rfl (fun _ => rfl) rfl (c_unit w (mO m [(10, y744), (11, y746), (28, y748), (69, (m.1 69)), (70, (m.1 70)), (71, (m.1 71)), (72, (m.1 72))] [(65, F750), (66, F752), (67, F754), (68, F756), (80, upI (m.2 80) jj (-1))]) c N D (by omega) (Ty_mO hT rfl rfl ⟨g745, g747, g749, f69, f70, f71, f72, trivial⟩ ⟨G751, G753, G755, G757, G741, trivial⟩) (((m.2 81) jj) + (m.1 69)) ((m.2 82) jj) (r32 (by omega) (by omega)) (r32 (by omega) (by omega)) (show 0 ≤ (((m.2 81) jj) + (m.1 69)) ∧ (((m.2 81) jj) + (m.1 69)) ≤ 1024 by omega) (show 0 ≤ ((m.2 82) jj) ∧ ((m.2 82) jj) ≤ 4000 by omega)) (fun rr761 k762 => ?_)
            obtain ⟨y763, y765, y767, y769, g764, g766, g768, g770, h771, rfl⟩ := k762
            refine ⟨_, _, rfl, ?_⟩
            refine T_nf (st' := []) (l' := [(10, y744), (11, y746), (28, y748), (69, y763), (70, y765), (71, y767), (72, y769)]) (a' := [(65, F750), (66, F752), (67, F754), (68, F756), (80, upI (m.2 80) jj (-1))]) rfl rfl rfl rfl rfl ?_
            replace h771 : y763 = (((m.2 81) jj) + (m.1 69)) := h771
            refine T_ret rfl (fun _ => rfl) ?_
            exact ⟨y744, y746, y748, y763, y765, y767, y769, F750, F752, F754, F756, upI (m.2 80) jj (-1), g745, g747, g749, g764, g766, g768, g770, G751, G753, G755, G757, G741, (by omega), (by omega), (fun h => absurd h (by omega)), rfl⟩
          · skip
            refine T_ld 186 (.int (i32 1)) rfl (fun _ => rfl) ?_
            refine T_goto 190 rfl (fun _ => rfl) ?_
            refine T_gf 194 (.int (i32 (m.1 70))) rfl rfl rfl rfl rfl rfl ?_
            refine T_call 197 256 [.ref 189, .int (i32 1), .int (i32 (m.1 70))] [] rfl (fun _ => rfl) rfl (c_want w (mO m [(10, y724), (11, y726), (28, (m.1 28)), (69, (m.1 69)), (70, (m.1 70)), (71, (m.1 71)), (72, (m.1 72))] [(65, (m.2 65)), (66, (m.2 66)), (67, (m.2 67)), (68, (m.2 68)), (80, (m.2 80))]) c N D (by omega) (Ty_mO hT rfl rfl ⟨g725, g727, f28, f69, f70, f71, f72, trivial⟩ ⟨(hT.2.1 65), (hT.2.1 66), (hT.2.1 67), (hT.2.1 68), (hT.2.1 80), trivial⟩) 1 (m.1 70) ⟨by decide, by decide⟩ (r32 (by omega) (by omega)) (show 0 ≤ (m.1 70) ∧ (m.1 70) ≤ 4000 by omega) (fun (h : y724 = 0) => absurd h (by omega))) (fun rr772 k773 => ?_)
            obtain ⟨y774, y776, g775, g777, h778, c779, rfl⟩ := k773
            refine ⟨_, _, rfl, ?_⟩
            refine T_nf (st' := []) (l' := [(10, y774), (11, y776), (28, (m.1 28)), (69, (m.1 69)), (70, (m.1 70)), (71, (m.1 71)), (72, (m.1 72))]) (a' := [(65, (m.2 65)), (66, (m.2 66)), (67, (m.2 67)), (68, (m.2 68)), (80, (m.2 80))]) rfl rfl rfl rfl rfl ?_
            replace h778 : y774 = 0 → y724 = 0 := h778
            have hf780 : 1 ≤ y774 := by omega
            clear c779
            clear h778
            clear g725 g727 hf730
            refine T_ld 198 (.int (i32 ((m.2 81) jj))) rfl (fun _ => rfl) ?_
            refine T_gf 202 (.int (i32 (m.1 69))) rfl rfl rfl rfl rfl rfl ?_
            refine T_iadd 203 rfl rfl ?_
            refine T_sto 204 [(2, .int (i32 (((m.2 81) jj) + (m.1 69)))), (5, .int (i32 (m.1 69))), (4, .int (i32 ((m.2 80) jj))), (3, .int (i32 ((m.2 82) jj))), (0, .ref 189), (1, .int (i32 jj))] rfl (fun _ => rfl) ?_
            refine T_goto 261 rfl (fun _ => rfl) ?_
            refine T_gf 265 (.ref 242) rfl rfl rfl rfl rfl rfl ?_
            refine T_ld 266 (.int (i32 jj)) rfl (fun _ => rfl) ?_
            refine T_ld 267 (.int (i32 (-1))) rfl (fun _ => rfl) ?_
            have G781 : ∀ j, (-1) ≤ (upI (m.2 80) jj (-1)) j ∧ (upI (m.2 80) jj (-1)) j ≤ 330 := upI_rg (hT.2.1 80) ⟨by omega, by omega⟩
            refine T_iast (a' := [(65, (m.2 65)), (66, (m.2 66)), (67, (m.2 67)), (68, (m.2 68)), (80, upI (m.2 80) jj (-1))]) 268 80 (m.2 80) rfl rfl rfl (by omega) (show jj < (540 : Int) by omega) rfl rfl ?_
            refine T_ld 269 (.ref 189) rfl (fun _ => rfl) ?_
            refine T_ld 271 (.int (i32 ((m.2 80) jj))) rfl (fun _ => rfl) ?_
            refine T_ld 272 (.int (i32 (((m.2 81) jj) + (m.1 69)))) rfl (fun _ => rfl) ?_
            refine T_ld 274 (.int (i32 (m.1 69))) rfl (fun _ => rfl) ?_
            refine T_ld 275 (.long (i64 0)) rfl (fun _ => rfl) ?_
            refine T_call 278 248 [.ref 189, .int (i32 ((m.2 80) jj)), .int (i32 (((m.2 81) jj) + (m.1 69))), .int (i32 (m.1 69)), .long (i64 0)] [] rfl (fun _ => rfl) rfl (c_node w (mO m [(10, y774), (11, y776), (28, (m.1 28)), (69, (m.1 69)), (70, (m.1 70)), (71, (m.1 71)), (72, (m.1 72))] [(65, (m.2 65)), (66, (m.2 66)), (67, (m.2 67)), (68, (m.2 68)), (80, upI (m.2 80) jj (-1))]) c N D (by omega) (Ty_mO hT rfl rfl ⟨g775, g777, f28, f69, f70, f71, f72, trivial⟩ ⟨(hT.2.1 65), (hT.2.1 66), (hT.2.1 67), (hT.2.1 68), G781, trivial⟩) ((m.2 80) jj) (((m.2 81) jj) + (m.1 69)) (m.1 69) 0 B (1 + lh (m.2 79) (m.2 80) (m.1 73)) (r32 (by omega) (by omega)) (r32 (by omega) (by omega)) (r32 (by omega) (by omega)) ⟨by decide, by decide⟩ (fun (h : y774 = 0) => absurd h (by omega))) (fun rr782 k783 => ?_)
            obtain ⟨y784, y786, y788, F790, F792, F794, F796, g785, g787, g789, G791, G793, G795, G797, h798, c799, rfl⟩ := k783
            refine ⟨_, _, rfl, ?_⟩
            refine T_nf (st' := []) (l' := [(10, y784), (11, y786), (28, y788), (69, (m.1 69)), (70, (m.1 70)), (71, (m.1 71)), (72, (m.1 72))]) (a' := [(65, F790), (66, F792), (67, F794), (68, F796), (80, upI (m.2 80) jj (-1))]) rfl rfl rfl rfl rfl ?_
            replace h798 : y784 = 0 → y774 = 0 := h798
            have hf800 : 1 ≤ y784 := by omega
            clear c799
            clear h798
            clear g775 g777 hf780
            refine T_ld 279 (.ref 189) rfl (fun _ => rfl) ?_
            refine T_ld 280 (.int (i32 (((m.2 81) jj) + (m.1 69)))) rfl (fun _ => rfl) ?_
            refine T_ld 281 (.int (i32 ((m.2 82) jj))) rfl (fun _ => rfl) ?_
            refine T_call 284 250 [.ref 189, .int (i32 (((m.2 81) jj) + (m.1 69))), .int (i32 ((m.2 82) jj))] [] rfl (fun _ => rfl) rfl (c_unit w (mO m [(10, y784), (11, y786), (28, y788), (69, (m.1 69)), (70, (m.1 70)), (71, (m.1 71)), (72, (m.1 72))] [(65, F790), (66, F792), (67, F794), (68, F796), (80, upI (m.2 80) jj (-1))]) c N D (by omega) (Ty_mO hT rfl rfl ⟨g785, g787, g789, f69, f70, f71, f72, trivial⟩ ⟨G791, G793, G795, G797, G781, trivial⟩) (((m.2 81) jj) + (m.1 69)) ((m.2 82) jj) (r32 (by omega) (by omega)) (r32 (by omega) (by omega)) (show 0 ≤ (((m.2 81) jj) + (m.1 69)) ∧ (((m.2 81) jj) + (m.1 69)) ≤ 1024 by omega) (show 0 ≤ ((m.2 82) jj) ∧ ((m.2 82) jj) ≤ 4000 by omega)) (fun rr801 k802 => ?_)
            obtain ⟨y803, y805, y807, y809, g804, g806, g808, g810, h811, rfl⟩ := k802
            refine ⟨_, _, rfl, ?_⟩
            refine T_nf (st' := []) (l' := [(10, y784), (11, y786), (28, y788), (69, y803), (70, y805), (71, y807), (72, y809)]) (a' := [(65, F790), (66, F792), (67, F794), (68, F796), (80, upI (m.2 80) jj (-1))]) rfl rfl rfl rfl rfl ?_
            replace h811 : y803 = (((m.2 81) jj) + (m.1 69)) := h811
            refine T_ret rfl (fun _ => rfl) ?_
            exact ⟨y784, y786, y788, y803, y805, y807, y809, F790, F792, F794, F796, upI (m.2 80) jj (-1), g785, g787, g789, g804, g806, g808, g810, G791, G793, G795, G797, G781, (by omega), (by omega), (fun h => absurd h (by omega)), rfl⟩
        · skip
          refine T_ld 162 (.int (i32 1)) rfl (fun _ => rfl) ?_
          refine T_goto 166 rfl (fun _ => rfl) ?_
          refine T_gf 170 (.int (i32 (m.1 70))) rfl rfl rfl rfl rfl rfl ?_
          refine T_call 173 256 [.ref 189, .int (i32 1), .int (i32 (m.1 70))] [] rfl (fun _ => rfl) rfl (c_want w (mO m [(10, y714), (11, y716), (28, (m.1 28)), (69, (m.1 69)), (70, (m.1 70)), (71, (m.1 71)), (72, (m.1 72))] [(65, (m.2 65)), (66, (m.2 66)), (67, (m.2 67)), (68, (m.2 68)), (80, (m.2 80))]) c N D (by omega) (Ty_mO hT rfl rfl ⟨g715, g717, f28, f69, f70, f71, f72, trivial⟩ ⟨(hT.2.1 65), (hT.2.1 66), (hT.2.1 67), (hT.2.1 68), (hT.2.1 80), trivial⟩) 1 (m.1 70) ⟨by decide, by decide⟩ (r32 (by omega) (by omega)) (show 0 ≤ (m.1 70) ∧ (m.1 70) ≤ 4000 by omega) (fun (h : y714 = 0) => absurd h (by omega))) (fun rr812 k813 => ?_)
          obtain ⟨y814, y816, g815, g817, h818, c819, rfl⟩ := k813
          refine ⟨_, _, rfl, ?_⟩
          refine T_nf (st' := []) (l' := [(10, y814), (11, y816), (28, (m.1 28)), (69, (m.1 69)), (70, (m.1 70)), (71, (m.1 71)), (72, (m.1 72))]) (a' := [(65, (m.2 65)), (66, (m.2 66)), (67, (m.2 67)), (68, (m.2 68)), (80, (m.2 80))]) rfl rfl rfl rfl rfl ?_
          replace h818 : y814 = 0 → y714 = 0 := h818
          have hf820 : 1 ≤ y814 := by omega
          clear c819
          clear h818
          clear g715 g717 hf720
          refine T_ld 174 (.ref 189) rfl (fun _ => rfl) ?_
          refine T_ld 175 (.int (i32 ((m.2 81) jj))) rfl (fun _ => rfl) ?_
          refine T_gf 179 (.int (i32 (m.1 69))) rfl rfl rfl rfl rfl rfl ?_
          refine T_iadd 180 rfl rfl ?_
          refine T_ld 182 (.int (i32 64)) rfl (fun _ => rfl) ?_
          refine T_icmp 189 185 rfl rfl rfl (r32 (by omega) (by omega)) ⟨by decide, by decide⟩ (fun (h821 : (64 : Int) < ((m.2 81) jj) + (m.1 69)) => ?_) (fun (h821 : ¬ ((64 : Int) < ((m.2 81) jj) + (m.1 69))) => ?_)
          · skip
            refine T_ld 190 (.int (i32 0)) rfl (fun _ => rfl) ?_
            refine T_gf 194 (.int (i32 (m.1 70))) rfl rfl rfl rfl rfl rfl ?_
            refine T_call 197 256 [.ref 189, .int (i32 0), .int (i32 (m.1 70))] [] rfl (fun _ => rfl) rfl (c_want w (mO m [(10, y814), (11, y816), (28, (m.1 28)), (69, (m.1 69)), (70, (m.1 70)), (71, (m.1 71)), (72, (m.1 72))] [(65, (m.2 65)), (66, (m.2 66)), (67, (m.2 67)), (68, (m.2 68)), (80, (m.2 80))]) c N D (by omega) (Ty_mO hT rfl rfl ⟨g815, g817, f28, f69, f70, f71, f72, trivial⟩ ⟨(hT.2.1 65), (hT.2.1 66), (hT.2.1 67), (hT.2.1 68), (hT.2.1 80), trivial⟩) 0 (m.1 70) ⟨by decide, by decide⟩ (r32 (by omega) (by omega)) (show 0 ≤ (m.1 70) ∧ (m.1 70) ≤ 4000 by omega) (fun (h : y814 = 0) => absurd h (by omega))) (fun rr822 k823 => ?_)
            obtain ⟨y824, y826, g825, g827, h828, c829, rfl⟩ := k823
            refine ⟨_, _, rfl, ?_⟩
            refine T_nf (st' := []) (l' := [(10, y824), (11, y826), (28, (m.1 28)), (69, (m.1 69)), (70, (m.1 70)), (71, (m.1 71)), (72, (m.1 72))]) (a' := [(65, (m.2 65)), (66, (m.2 66)), (67, (m.2 67)), (68, (m.2 68)), (80, (m.2 80))]) rfl rfl rfl rfl rfl ?_
            replace h828 : y824 = 0 → y814 = 0 := h828
            have hf830 : 1 ≤ y824 := by omega
            clear c829
            clear h828
            clear g815 g817 hf820
            refine T_ld 198 (.int (i32 ((m.2 81) jj))) rfl (fun _ => rfl) ?_
            refine T_gf 202 (.int (i32 (m.1 69))) rfl rfl rfl rfl rfl rfl ?_
            refine T_iadd 203 rfl rfl ?_
            refine T_sto 204 [(2, .int (i32 (((m.2 81) jj) + (m.1 69)))), (5, .int (i32 (m.1 69))), (4, .int (i32 ((m.2 80) jj))), (3, .int (i32 ((m.2 82) jj))), (0, .ref 189), (1, .int (i32 jj))] rfl (fun _ => rfl) ?_
            refine T_goto 261 rfl (fun _ => rfl) ?_
            refine T_gf 265 (.ref 242) rfl rfl rfl rfl rfl rfl ?_
            refine T_ld 266 (.int (i32 jj)) rfl (fun _ => rfl) ?_
            refine T_ld 267 (.int (i32 (-1))) rfl (fun _ => rfl) ?_
            have G831 : ∀ j, (-1) ≤ (upI (m.2 80) jj (-1)) j ∧ (upI (m.2 80) jj (-1)) j ≤ 330 := upI_rg (hT.2.1 80) ⟨by omega, by omega⟩
            refine T_iast (a' := [(65, (m.2 65)), (66, (m.2 66)), (67, (m.2 67)), (68, (m.2 68)), (80, upI (m.2 80) jj (-1))]) 268 80 (m.2 80) rfl rfl rfl (by omega) (show jj < (540 : Int) by omega) rfl rfl ?_
            refine T_ld 269 (.ref 189) rfl (fun _ => rfl) ?_
            refine T_ld 271 (.int (i32 ((m.2 80) jj))) rfl (fun _ => rfl) ?_
            refine T_ld 272 (.int (i32 (((m.2 81) jj) + (m.1 69)))) rfl (fun _ => rfl) ?_
            refine T_ld 274 (.int (i32 (m.1 69))) rfl (fun _ => rfl) ?_
            refine T_ld 275 (.long (i64 0)) rfl (fun _ => rfl) ?_
            refine T_call 278 248 [.ref 189, .int (i32 ((m.2 80) jj)), .int (i32 (((m.2 81) jj) + (m.1 69))), .int (i32 (m.1 69)), .long (i64 0)] [] rfl (fun _ => rfl) rfl (c_node w (mO m [(10, y824), (11, y826), (28, (m.1 28)), (69, (m.1 69)), (70, (m.1 70)), (71, (m.1 71)), (72, (m.1 72))] [(65, (m.2 65)), (66, (m.2 66)), (67, (m.2 67)), (68, (m.2 68)), (80, upI (m.2 80) jj (-1))]) c N D (by omega) (Ty_mO hT rfl rfl ⟨g825, g827, f28, f69, f70, f71, f72, trivial⟩ ⟨(hT.2.1 65), (hT.2.1 66), (hT.2.1 67), (hT.2.1 68), G831, trivial⟩) ((m.2 80) jj) (((m.2 81) jj) + (m.1 69)) (m.1 69) 0 B (1 + lh (m.2 79) (m.2 80) (m.1 73)) (r32 (by omega) (by omega)) (r32 (by omega) (by omega)) (r32 (by omega) (by omega)) ⟨by decide, by decide⟩ (fun (h : y824 = 0) => absurd h (by omega))) (fun rr832 k833 => ?_)
            obtain ⟨y834, y836, y838, F840, F842, F844, F846, g835, g837, g839, G841, G843, G845, G847, h848, c849, rfl⟩ := k833
            refine ⟨_, _, rfl, ?_⟩
            refine T_nf (st' := []) (l' := [(10, y834), (11, y836), (28, y838), (69, (m.1 69)), (70, (m.1 70)), (71, (m.1 71)), (72, (m.1 72))]) (a' := [(65, F840), (66, F842), (67, F844), (68, F846), (80, upI (m.2 80) jj (-1))]) rfl rfl rfl rfl rfl ?_
            replace h848 : y834 = 0 → y824 = 0 := h848
            have hf850 : 1 ≤ y834 := by omega
            clear c849
            clear h848
            clear g825 g827 hf830
            refine T_ld 279 (.ref 189) rfl (fun _ => rfl) ?_
            refine T_ld 280 (.int (i32 (((m.2 81) jj) + (m.1 69)))) rfl (fun _ => rfl) ?_
            refine T_ld 281 (.int (i32 ((m.2 82) jj))) rfl (fun _ => rfl) ?_
            refine T_call 284 250 [.ref 189, .int (i32 (((m.2 81) jj) + (m.1 69))), .int (i32 ((m.2 82) jj))] [] rfl (fun _ => rfl) rfl (c_unit w (mO m [(10, y834), (11, y836), (28, y838), (69, (m.1 69)), (70, (m.1 70)), (71, (m.1 71)), (72, (m.1 72))] [(65, F840), (66, F842), (67, F844), (68, F846), (80, upI (m.2 80) jj (-1))]) c N D (by omega) (Ty_mO hT rfl rfl ⟨g835, g837, g839, f69, f70, f71, f72, trivial⟩ ⟨G841, G843, G845, G847, G831, trivial⟩) (((m.2 81) jj) + (m.1 69)) ((m.2 82) jj) (r32 (by omega) (by omega)) (r32 (by omega) (by omega)) (show 0 ≤ (((m.2 81) jj) + (m.1 69)) ∧ (((m.2 81) jj) + (m.1 69)) ≤ 1024 by omega) (show 0 ≤ ((m.2 82) jj) ∧ ((m.2 82) jj) ≤ 4000 by omega)) (fun rr851 k852 => ?_)
            obtain ⟨y853, y855, y857, y859, g854, g856, g858, g860, h861, rfl⟩ := k852
            refine ⟨_, _, rfl, ?_⟩
            refine T_nf (st' := []) (l' := [(10, y834), (11, y836), (28, y838), (69, y853), (70, y855), (71, y857), (72, y859)]) (a' := [(65, F840), (66, F842), (67, F844), (68, F846), (80, upI (m.2 80) jj (-1))]) rfl rfl rfl rfl rfl ?_
            replace h861 : y853 = (((m.2 81) jj) + (m.1 69)) := h861
            refine T_ret rfl (fun _ => rfl) ?_
            exact ⟨y834, y836, y838, y853, y855, y857, y859, F840, F842, F844, F846, upI (m.2 80) jj (-1), g835, g837, g839, g854, g856, g858, g860, G841, G843, G845, G847, G831, (by omega), (by omega), (fun h => absurd h (by omega)), rfl⟩
          · skip
            refine T_ld 186 (.int (i32 1)) rfl (fun _ => rfl) ?_
            refine T_goto 190 rfl (fun _ => rfl) ?_
            refine T_gf 194 (.int (i32 (m.1 70))) rfl rfl rfl rfl rfl rfl ?_
            refine T_call 197 256 [.ref 189, .int (i32 1), .int (i32 (m.1 70))] [] rfl (fun _ => rfl) rfl (c_want w (mO m [(10, y814), (11, y816), (28, (m.1 28)), (69, (m.1 69)), (70, (m.1 70)), (71, (m.1 71)), (72, (m.1 72))] [(65, (m.2 65)), (66, (m.2 66)), (67, (m.2 67)), (68, (m.2 68)), (80, (m.2 80))]) c N D (by omega) (Ty_mO hT rfl rfl ⟨g815, g817, f28, f69, f70, f71, f72, trivial⟩ ⟨(hT.2.1 65), (hT.2.1 66), (hT.2.1 67), (hT.2.1 68), (hT.2.1 80), trivial⟩) 1 (m.1 70) ⟨by decide, by decide⟩ (r32 (by omega) (by omega)) (show 0 ≤ (m.1 70) ∧ (m.1 70) ≤ 4000 by omega) (fun (h : y814 = 0) => absurd h (by omega))) (fun rr862 k863 => ?_)
            obtain ⟨y864, y866, g865, g867, h868, c869, rfl⟩ := k863
            refine ⟨_, _, rfl, ?_⟩
            refine T_nf (st' := []) (l' := [(10, y864), (11, y866), (28, (m.1 28)), (69, (m.1 69)), (70, (m.1 70)), (71, (m.1 71)), (72, (m.1 72))]) (a' := [(65, (m.2 65)), (66, (m.2 66)), (67, (m.2 67)), (68, (m.2 68)), (80, (m.2 80))]) rfl rfl rfl rfl rfl ?_
            replace h868 : y864 = 0 → y814 = 0 := h868
            have hf870 : 1 ≤ y864 := by omega
            clear c869
            clear h868
            clear g815 g817 hf820
            refine T_ld 198 (.int (i32 ((m.2 81) jj))) rfl (fun _ => rfl) ?_
            refine T_gf 202 (.int (i32 (m.1 69))) rfl rfl rfl rfl rfl rfl ?_
            refine T_iadd 203 rfl rfl ?_
            refine T_sto 204 [(2, .int (i32 (((m.2 81) jj) + (m.1 69)))), (5, .int (i32 (m.1 69))), (4, .int (i32 ((m.2 80) jj))), (3, .int (i32 ((m.2 82) jj))), (0, .ref 189), (1, .int (i32 jj))] rfl (fun _ => rfl) ?_
            refine T_goto 261 rfl (fun _ => rfl) ?_
            refine T_gf 265 (.ref 242) rfl rfl rfl rfl rfl rfl ?_
            refine T_ld 266 (.int (i32 jj)) rfl (fun _ => rfl) ?_
            refine T_ld 267 (.int (i32 (-1))) rfl (fun _ => rfl) ?_
            have G871 : ∀ j, (-1) ≤ (upI (m.2 80) jj (-1)) j ∧ (upI (m.2 80) jj (-1)) j ≤ 330 := upI_rg (hT.2.1 80) ⟨by omega, by omega⟩
            refine T_iast (a' := [(65, (m.2 65)), (66, (m.2 66)), (67, (m.2 67)), (68, (m.2 68)), (80, upI (m.2 80) jj (-1))]) 268 80 (m.2 80) rfl rfl rfl (by omega) (show jj < (540 : Int) by omega) rfl rfl ?_
            refine T_ld 269 (.ref 189) rfl (fun _ => rfl) ?_
            refine T_ld 271 (.int (i32 ((m.2 80) jj))) rfl (fun _ => rfl) ?_
            refine T_ld 272 (.int (i32 (((m.2 81) jj) + (m.1 69)))) rfl (fun _ => rfl) ?_
            refine T_ld 274 (.int (i32 (m.1 69))) rfl (fun _ => rfl) ?_
            refine T_ld 275 (.long (i64 0)) rfl (fun _ => rfl) ?_
            refine T_call 278 248 [.ref 189, .int (i32 ((m.2 80) jj)), .int (i32 (((m.2 81) jj) + (m.1 69))), .int (i32 (m.1 69)), .long (i64 0)] [] rfl (fun _ => rfl) rfl (c_node w (mO m [(10, y864), (11, y866), (28, (m.1 28)), (69, (m.1 69)), (70, (m.1 70)), (71, (m.1 71)), (72, (m.1 72))] [(65, (m.2 65)), (66, (m.2 66)), (67, (m.2 67)), (68, (m.2 68)), (80, upI (m.2 80) jj (-1))]) c N D (by omega) (Ty_mO hT rfl rfl ⟨g865, g867, f28, f69, f70, f71, f72, trivial⟩ ⟨(hT.2.1 65), (hT.2.1 66), (hT.2.1 67), (hT.2.1 68), G871, trivial⟩) ((m.2 80) jj) (((m.2 81) jj) + (m.1 69)) (m.1 69) 0 B (1 + lh (m.2 79) (m.2 80) (m.1 73)) (r32 (by omega) (by omega)) (r32 (by omega) (by omega)) (r32 (by omega) (by omega)) ⟨by decide, by decide⟩ (fun (h : y864 = 0) => absurd h (by omega))) (fun rr872 k873 => ?_)
            obtain ⟨y874, y876, y878, F880, F882, F884, F886, g875, g877, g879, G881, G883, G885, G887, h888, c889, rfl⟩ := k873
            refine ⟨_, _, rfl, ?_⟩
            refine T_nf (st' := []) (l' := [(10, y874), (11, y876), (28, y878), (69, (m.1 69)), (70, (m.1 70)), (71, (m.1 71)), (72, (m.1 72))]) (a' := [(65, F880), (66, F882), (67, F884), (68, F886), (80, upI (m.2 80) jj (-1))]) rfl rfl rfl rfl rfl ?_
            replace h888 : y874 = 0 → y864 = 0 := h888
            have hf890 : 1 ≤ y874 := by omega
            clear c889
            clear h888
            clear g865 g867 hf870
            refine T_ld 279 (.ref 189) rfl (fun _ => rfl) ?_
            refine T_ld 280 (.int (i32 (((m.2 81) jj) + (m.1 69)))) rfl (fun _ => rfl) ?_
            refine T_ld 281 (.int (i32 ((m.2 82) jj))) rfl (fun _ => rfl) ?_
            refine T_call 284 250 [.ref 189, .int (i32 (((m.2 81) jj) + (m.1 69))), .int (i32 ((m.2 82) jj))] [] rfl (fun _ => rfl) rfl (c_unit w (mO m [(10, y874), (11, y876), (28, y878), (69, (m.1 69)), (70, (m.1 70)), (71, (m.1 71)), (72, (m.1 72))] [(65, F880), (66, F882), (67, F884), (68, F886), (80, upI (m.2 80) jj (-1))]) c N D (by omega) (Ty_mO hT rfl rfl ⟨g875, g877, g879, f69, f70, f71, f72, trivial⟩ ⟨G881, G883, G885, G887, G871, trivial⟩) (((m.2 81) jj) + (m.1 69)) ((m.2 82) jj) (r32 (by omega) (by omega)) (r32 (by omega) (by omega)) (show 0 ≤ (((m.2 81) jj) + (m.1 69)) ∧ (((m.2 81) jj) + (m.1 69)) ≤ 1024 by omega) (show 0 ≤ ((m.2 82) jj) ∧ ((m.2 82) jj) ≤ 4000 by omega)) (fun rr891 k892 => ?_)
            obtain ⟨y893, y895, y897, y899, g894, g896, g898, g900, h901, rfl⟩ := k892
            refine ⟨_, _, rfl, ?_⟩
            refine T_nf (st' := []) (l' := [(10, y874), (11, y876), (28, y878), (69, y893), (70, y895), (71, y897), (72, y899)]) (a' := [(65, F880), (66, F882), (67, F884), (68, F886), (80, upI (m.2 80) jj (-1))]) rfl rfl rfl rfl rfl ?_
            replace h901 : y893 = (((m.2 81) jj) + (m.1 69)) := h901
            refine T_ret rfl (fun _ => rfl) ?_
            exact ⟨y874, y876, y878, y893, y895, y897, y899, F880, F882, F884, F886, upI (m.2 80) jj (-1), g875, g877, g879, g894, g896, g898, g900, G881, G883, G885, G887, G871, (by omega), (by omega), (fun h => absurd h (by omega)), rfl⟩
      · skip
        refine T_ld 145 (.int (i32 1)) rfl (fun _ => rfl) ?_
        refine T_goto 149 rfl (fun _ => rfl) ?_
        refine T_ld 150 (.int (i32 ((m.2 82) jj))) rfl (fun _ => rfl) ?_
        refine T_call 153 256 [.ref 189, .int (i32 1), .int (i32 ((m.2 82) jj))] [] rfl (fun _ => rfl) rfl (c_want w (mO m [(10, (m.1 10)), (11, (m.1 11)), (28, (m.1 28)), (69, (m.1 69)), (70, (m.1 70)), (71, (m.1 71)), (72, (m.1 72))] [(65, (m.2 65)), (66, (m.2 66)), (67, (m.2 67)), (68, (m.2 68)), (80, (m.2 80))]) c N D (by omega) (Ty_mO hT rfl rfl ⟨f10, f11, f28, f69, f70, f71, f72, trivial⟩ ⟨(hT.2.1 65), (hT.2.1 66), (hT.2.1 67), (hT.2.1 68), (hT.2.1 80), trivial⟩) 1 ((m.2 82) jj) ⟨by decide, by decide⟩ (r32 (by omega) (by omega)) (show 0 ≤ ((m.2 82) jj) ∧ ((m.2 82) jj) ≤ 4000 by omega) (fun (h : (m.1 10) = 0) => absurd h (by omega))) (fun rr902 k903 => ?_)
        obtain ⟨y904, y906, g905, g907, h908, c909, rfl⟩ := k903
        refine ⟨_, _, rfl, ?_⟩
        refine T_nf (st' := []) (l' := [(10, y904), (11, y906), (28, (m.1 28)), (69, (m.1 69)), (70, (m.1 70)), (71, (m.1 71)), (72, (m.1 72))]) (a' := [(65, (m.2 65)), (66, (m.2 66)), (67, (m.2 67)), (68, (m.2 68)), (80, (m.2 80))]) rfl rfl rfl rfl rfl ?_
        replace h908 : y904 = 0 → (m.1 10) = 0 := h908
        have hf910 : 1 ≤ y904 := by omega
        clear c909
        clear h908
        clear g535a g535b h536
        refine T_ld 154 (.ref 189) rfl (fun _ => rfl) ?_
        refine T_gf 158 (.int (i32 (m.1 71))) rfl rfl rfl rfl rfl rfl ?_
        refine T_if 165 161 rfl rfl rfl (r32 (by omega) (by omega)) (fun (h911 : (m.1 71) ≠ 0) => ?_) (fun (h911 : ¬ ((m.1 71) ≠ 0)) => ?_)
        · skip
          refine T_ld 166 (.int (i32 0)) rfl (fun _ => rfl) ?_
          refine T_gf 170 (.int (i32 (m.1 70))) rfl rfl rfl rfl rfl rfl ?_
          refine T_call 173 256 [.ref 189, .int (i32 0), .int (i32 (m.1 70))] [] rfl (fun _ => rfl) rfl (c_want w (mO m [(10, y904), (11, y906), (28, (m.1 28)), (69, (m.1 69)), (70, (m.1 70)), (71, (m.1 71)), (72, (m.1 72))] [(65, (m.2 65)), (66, (m.2 66)), (67, (m.2 67)), (68, (m.2 68)), (80, (m.2 80))]) c N D (by omega) (Ty_mO hT rfl rfl ⟨g905, g907, f28, f69, f70, f71, f72, trivial⟩ ⟨(hT.2.1 65), (hT.2.1 66), (hT.2.1 67), (hT.2.1 68), (hT.2.1 80), trivial⟩) 0 (m.1 70) ⟨by decide, by decide⟩ (r32 (by omega) (by omega)) (show 0 ≤ (m.1 70) ∧ (m.1 70) ≤ 4000 by omega) (fun (h : y904 = 0) => absurd h (by omega))) (fun rr912 k913 => ?_)
          obtain ⟨y914, y916, g915, g917, h918, c919, rfl⟩ := k913
          refine ⟨_, _, rfl, ?_⟩
          refine T_nf (st' := []) (l' := [(10, y914), (11, y916), (28, (m.1 28)), (69, (m.1 69)), (70, (m.1 70)), (71, (m.1 71)), (72, (m.1 72))]) (a' := [(65, (m.2 65)), (66, (m.2 66)), (67, (m.2 67)), (68, (m.2 68)), (80, (m.2 80))]) rfl rfl rfl rfl rfl ?_
          replace h918 : y914 = 0 → y904 = 0 := h918
          have hf920 : 1 ≤ y914 := by omega
          clear c919
          clear h918
          clear g905 g907 hf910
          refine T_ld 174 (.ref 189) rfl (fun _ => rfl) ?_
          refine T_ld 175 (.int (i32 ((m.2 81) jj))) rfl (fun _ => rfl) ?_
          refine T_gf 179 (.int (i32 (m.1 69))) rfl rfl rfl rfl rfl rfl ?_
          refine T_iadd 180 rfl rfl ?_
          refine T_ld 182 (.int (i32 64)) rfl (fun _ => rfl) ?_
          refine T_icmp 189 185 rfl rfl rfl (r32 (by omega) (by omega)) ⟨by decide, by decide⟩ (fun (h921 : (64 : Int) < ((m.2 81) jj) + (m.1 69)) => ?_) (fun (h921 : ¬ ((64 : Int) < ((m.2 81) jj) + (m.1 69))) => ?_)
          · skip
            refine T_ld 190 (.int (i32 0)) rfl (fun _ => rfl) ?_
            refine T_gf 194 (.int (i32 (m.1 70))) rfl rfl rfl rfl rfl rfl ?_
            refine T_call 197 256 [.ref 189, .int (i32 0), .int (i32 (m.1 70))] [] rfl (fun _ => rfl) rfl (c_want w (mO m [(10, y914), (11, y916), (28, (m.1 28)), (69, (m.1 69)), (70, (m.1 70)), (71, (m.1 71)), (72, (m.1 72))] [(65, (m.2 65)), (66, (m.2 66)), (67, (m.2 67)), (68, (m.2 68)), (80, (m.2 80))]) c N D (by omega) (Ty_mO hT rfl rfl ⟨g915, g917, f28, f69, f70, f71, f72, trivial⟩ ⟨(hT.2.1 65), (hT.2.1 66), (hT.2.1 67), (hT.2.1 68), (hT.2.1 80), trivial⟩) 0 (m.1 70) ⟨by decide, by decide⟩ (r32 (by omega) (by omega)) (show 0 ≤ (m.1 70) ∧ (m.1 70) ≤ 4000 by omega) (fun (h : y914 = 0) => absurd h (by omega))) (fun rr922 k923 => ?_)
            obtain ⟨y924, y926, g925, g927, h928, c929, rfl⟩ := k923
            refine ⟨_, _, rfl, ?_⟩
            refine T_nf (st' := []) (l' := [(10, y924), (11, y926), (28, (m.1 28)), (69, (m.1 69)), (70, (m.1 70)), (71, (m.1 71)), (72, (m.1 72))]) (a' := [(65, (m.2 65)), (66, (m.2 66)), (67, (m.2 67)), (68, (m.2 68)), (80, (m.2 80))]) rfl rfl rfl rfl rfl ?_
            replace h928 : y924 = 0 → y914 = 0 := h928
            have hf930 : 1 ≤ y924 := by omega
            clear c929
            clear h928
            clear g915 g917 hf920
            refine T_ld 198 (.int (i32 ((m.2 81) jj))) rfl (fun _ => rfl) ?_
            refine T_gf 202 (.int (i32 (m.1 69))) rfl rfl rfl rfl rfl rfl ?_
            refine T_iadd 203 rfl rfl ?_
            refine T_sto 204 [(2, .int (i32 (((m.2 81) jj) + (m.1 69)))), (5, .int (i32 (m.1 69))), (4, .int (i32 ((m.2 80) jj))), (3, .int (i32 ((m.2 82) jj))), (0, .ref 189), (1, .int (i32 jj))] rfl (fun _ => rfl) ?_
            refine T_goto 261 rfl (fun _ => rfl) ?_
            refine T_gf 265 (.ref 242) rfl rfl rfl rfl rfl rfl ?_
            refine T_ld 266 (.int (i32 jj)) rfl (fun _ => rfl) ?_
            refine T_ld 267 (.int (i32 (-1))) rfl (fun _ => rfl) ?_
            have G931 : ∀ j, (-1) ≤ (upI (m.2 80) jj (-1)) j ∧ (upI (m.2 80) jj (-1)) j ≤ 330 := upI_rg (hT.2.1 80) ⟨by omega, by omega⟩
            refine T_iast (a' := [(65, (m.2 65)), (66, (m.2 66)), (67, (m.2 67)), (68, (m.2 68)), (80, upI (m.2 80) jj (-1))]) 268 80 (m.2 80) rfl rfl rfl (by omega) (show jj < (540 : Int) by omega) rfl rfl ?_
            refine T_ld 269 (.ref 189) rfl (fun _ => rfl) ?_
            refine T_ld 271 (.int (i32 ((m.2 80) jj))) rfl (fun _ => rfl) ?_
            refine T_ld 272 (.int (i32 (((m.2 81) jj) + (m.1 69)))) rfl (fun _ => rfl) ?_
            refine T_ld 274 (.int (i32 (m.1 69))) rfl (fun _ => rfl) ?_
            refine T_ld 275 (.long (i64 0)) rfl (fun _ => rfl) ?_
            refine T_call 278 248 [.ref 189, .int (i32 ((m.2 80) jj)), .int (i32 (((m.2 81) jj) + (m.1 69))), .int (i32 (m.1 69)), .long (i64 0)] [] rfl (fun _ => rfl) rfl (c_node w (mO m [(10, y924), (11, y926), (28, (m.1 28)), (69, (m.1 69)), (70, (m.1 70)), (71, (m.1 71)), (72, (m.1 72))] [(65, (m.2 65)), (66, (m.2 66)), (67, (m.2 67)), (68, (m.2 68)), (80, upI (m.2 80) jj (-1))]) c N D (by omega) (Ty_mO hT rfl rfl ⟨g925, g927, f28, f69, f70, f71, f72, trivial⟩ ⟨(hT.2.1 65), (hT.2.1 66), (hT.2.1 67), (hT.2.1 68), G931, trivial⟩) ((m.2 80) jj) (((m.2 81) jj) + (m.1 69)) (m.1 69) 0 B (1 + lh (m.2 79) (m.2 80) (m.1 73)) (r32 (by omega) (by omega)) (r32 (by omega) (by omega)) (r32 (by omega) (by omega)) ⟨by decide, by decide⟩ (fun (h : y924 = 0) => absurd h (by omega))) (fun rr932 k933 => ?_)
            obtain ⟨y934, y936, y938, F940, F942, F944, F946, g935, g937, g939, G941, G943, G945, G947, h948, c949, rfl⟩ := k933
            refine ⟨_, _, rfl, ?_⟩
            refine T_nf (st' := []) (l' := [(10, y934), (11, y936), (28, y938), (69, (m.1 69)), (70, (m.1 70)), (71, (m.1 71)), (72, (m.1 72))]) (a' := [(65, F940), (66, F942), (67, F944), (68, F946), (80, upI (m.2 80) jj (-1))]) rfl rfl rfl rfl rfl ?_
            replace h948 : y934 = 0 → y924 = 0 := h948
            have hf950 : 1 ≤ y934 := by omega
            clear c949
            clear h948
            clear g925 g927 hf930
            refine T_ld 279 (.ref 189) rfl (fun _ => rfl) ?_
            refine T_ld 280 (.int (i32 (((m.2 81) jj) + (m.1 69)))) rfl (fun _ => rfl) ?_
            refine T_ld 281 (.int (i32 ((m.2 82) jj))) rfl (fun _ => rfl) ?_
            refine T_call 284 250 [.ref 189, .int (i32 (((m.2 81) jj) + (m.1 69))), .int (i32 ((m.2 82) jj))] [] rfl (fun _ => rfl) rfl (c_unit w (mO m [(10, y934), (11, y936), (28, y938), (69, (m.1 69)), (70, (m.1 70)), (71, (m.1 71)), (72, (m.1 72))] [(65, F940), (66, F942), (67, F944), (68, F946), (80, upI (m.2 80) jj (-1))]) c N D (by omega) (Ty_mO hT rfl rfl ⟨g935, g937, g939, f69, f70, f71, f72, trivial⟩ ⟨G941, G943, G945, G947, G931, trivial⟩) (((m.2 81) jj) + (m.1 69)) ((m.2 82) jj) (r32 (by omega) (by omega)) (r32 (by omega) (by omega)) (show 0 ≤ (((m.2 81) jj) + (m.1 69)) ∧ (((m.2 81) jj) + (m.1 69)) ≤ 1024 by omega) (show 0 ≤ ((m.2 82) jj) ∧ ((m.2 82) jj) ≤ 4000 by omega)) (fun rr951 k952 => ?_)
            obtain ⟨y953, y955, y957, y959, g954, g956, g958, g960, h961, rfl⟩ := k952
            refine ⟨_, _, rfl, ?_⟩
            refine T_nf (st' := []) (l' := [(10, y934), (11, y936), (28, y938), (69, y953), (70, y955), (71, y957), (72, y959)]) (a' := [(65, F940), (66, F942), (67, F944), (68, F946), (80, upI (m.2 80) jj (-1))]) rfl rfl rfl rfl rfl ?_
            replace h961 : y953 = (((m.2 81) jj) + (m.1 69)) := h961
            refine T_ret rfl (fun _ => rfl) ?_
            exact ⟨y934, y936, y938, y953, y955, y957, y959, F940, F942, F944, F946, upI (m.2 80) jj (-1), g935, g937, g939, g954, g956, g958, g960, G941, G943, G945, G947, G931, (by omega), (by omega), (fun h => absurd h (by omega)), rfl⟩
          · skip
            refine T_ld 186 (.int (i32 1)) rfl (fun _ => rfl) ?_
            refine T_goto 190 rfl (fun _ => rfl) ?_
            refine T_gf 194 (.int (i32 (m.1 70))) rfl rfl rfl rfl rfl rfl ?_
            refine T_call 197 256 [.ref 189, .int (i32 1), .int (i32 (m.1 70))] [] rfl (fun _ => rfl) rfl (c_want w (mO m [(10, y914), (11, y916), (28, (m.1 28)), (69, (m.1 69)), (70, (m.1 70)), (71, (m.1 71)), (72, (m.1 72))] [(65, (m.2 65)), (66, (m.2 66)), (67, (m.2 67)), (68, (m.2 68)), (80, (m.2 80))]) c N D (by omega) (Ty_mO hT rfl rfl ⟨g915, g917, f28, f69, f70, f71, f72, trivial⟩ ⟨(hT.2.1 65), (hT.2.1 66), (hT.2.1 67), (hT.2.1 68), (hT.2.1 80), trivial⟩) 1 (m.1 70) ⟨by decide, by decide⟩ (r32 (by omega) (by omega)) (show 0 ≤ (m.1 70) ∧ (m.1 70) ≤ 4000 by omega) (fun (h : y914 = 0) => absurd h (by omega))) (fun rr962 k963 => ?_)
            obtain ⟨y964, y966, g965, g967, h968, c969, rfl⟩ := k963
            refine ⟨_, _, rfl, ?_⟩
            refine T_nf (st' := []) (l' := [(10, y964), (11, y966), (28, (m.1 28)), (69, (m.1 69)), (70, (m.1 70)), (71, (m.1 71)), (72, (m.1 72))]) (a' := [(65, (m.2 65)), (66, (m.2 66)), (67, (m.2 67)), (68, (m.2 68)), (80, (m.2 80))]) rfl rfl rfl rfl rfl ?_
            replace h968 : y964 = 0 → y914 = 0 := h968
            have hf970 : 1 ≤ y964 := by omega
            clear c969
            clear h968
            clear g915 g917 hf920
            refine T_ld 198 (.int (i32 ((m.2 81) jj))) rfl (fun _ => rfl) ?_
            refine T_gf 202 (.int (i32 (m.1 69))) rfl rfl rfl rfl rfl rfl ?_
            refine T_iadd 203 rfl rfl ?_
            refine T_sto 204 [(2, .int (i32 (((m.2 81) jj) + (m.1 69)))), (5, .int (i32 (m.1 69))), (4, .int (i32 ((m.2 80) jj))), (3, .int (i32 ((m.2 82) jj))), (0, .ref 189), (1, .int (i32 jj))] rfl (fun _ => rfl) ?_
            refine T_goto 261 rfl (fun _ => rfl) ?_
            refine T_gf 265 (.ref 242) rfl rfl rfl rfl rfl rfl ?_
            refine T_ld 266 (.int (i32 jj)) rfl (fun _ => rfl) ?_
            refine T_ld 267 (.int (i32 (-1))) rfl (fun _ => rfl) ?_
            have G971 : ∀ j, (-1) ≤ (upI (m.2 80) jj (-1)) j ∧ (upI (m.2 80) jj (-1)) j ≤ 330 := upI_rg (hT.2.1 80) ⟨by omega, by omega⟩
            refine T_iast (a' := [(65, (m.2 65)), (66, (m.2 66)), (67, (m.2 67)), (68, (m.2 68)), (80, upI (m.2 80) jj (-1))]) 268 80 (m.2 80) rfl rfl rfl (by omega) (show jj < (540 : Int) by omega) rfl rfl ?_
            refine T_ld 269 (.ref 189) rfl (fun _ => rfl) ?_
            refine T_ld 271 (.int (i32 ((m.2 80) jj))) rfl (fun _ => rfl) ?_
            refine T_ld 272 (.int (i32 (((m.2 81) jj) + (m.1 69)))) rfl (fun _ => rfl) ?_
            refine T_ld 274 (.int (i32 (m.1 69))) rfl (fun _ => rfl) ?_
            refine T_ld 275 (.long (i64 0)) rfl (fun _ => rfl) ?_
            refine T_call 278 248 [.ref 189, .int (i32 ((m.2 80) jj)), .int (i32 (((m.2 81) jj) + (m.1 69))), .int (i32 (m.1 69)), .long (i64 0)] [] rfl (fun _ => rfl) rfl (c_node w (mO m [(10, y964), (11, y966), (28, (m.1 28)), (69, (m.1 69)), (70, (m.1 70)), (71, (m.1 71)), (72, (m.1 72))] [(65, (m.2 65)), (66, (m.2 66)), (67, (m.2 67)), (68, (m.2 68)), (80, upI (m.2 80) jj (-1))]) c N D (by omega) (Ty_mO hT rfl rfl ⟨g965, g967, f28, f69, f70, f71, f72, trivial⟩ ⟨(hT.2.1 65), (hT.2.1 66), (hT.2.1 67), (hT.2.1 68), G971, trivial⟩) ((m.2 80) jj) (((m.2 81) jj) + (m.1 69)) (m.1 69) 0 B (1 + lh (m.2 79) (m.2 80) (m.1 73)) (r32 (by omega) (by omega)) (r32 (by omega) (by omega)) (r32 (by omega) (by omega)) ⟨by decide, by decide⟩ (fun (h : y964 = 0) => absurd h (by omega))) (fun rr972 k973 => ?_)
            obtain ⟨y974, y976, y978, F980, F982, F984, F986, g975, g977, g979, G981, G983, G985, G987, h988, c989, rfl⟩ := k973
            refine ⟨_, _, rfl, ?_⟩
            refine T_nf (st' := []) (l' := [(10, y974), (11, y976), (28, y978), (69, (m.1 69)), (70, (m.1 70)), (71, (m.1 71)), (72, (m.1 72))]) (a' := [(65, F980), (66, F982), (67, F984), (68, F986), (80, upI (m.2 80) jj (-1))]) rfl rfl rfl rfl rfl ?_
            replace h988 : y974 = 0 → y964 = 0 := h988
            have hf990 : 1 ≤ y974 := by omega
            clear c989
            clear h988
            clear g965 g967 hf970
            refine T_ld 279 (.ref 189) rfl (fun _ => rfl) ?_
            refine T_ld 280 (.int (i32 (((m.2 81) jj) + (m.1 69)))) rfl (fun _ => rfl) ?_
            refine T_ld 281 (.int (i32 ((m.2 82) jj))) rfl (fun _ => rfl) ?_
            refine T_call 284 250 [.ref 189, .int (i32 (((m.2 81) jj) + (m.1 69))), .int (i32 ((m.2 82) jj))] [] rfl (fun _ => rfl) rfl (c_unit w (mO m [(10, y974), (11, y976), (28, y978), (69, (m.1 69)), (70, (m.1 70)), (71, (m.1 71)), (72, (m.1 72))] [(65, F980), (66, F982), (67, F984), (68, F986), (80, upI (m.2 80) jj (-1))]) c N D (by omega) (Ty_mO hT rfl rfl ⟨g975, g977, g979, f69, f70, f71, f72, trivial⟩ ⟨G981, G983, G985, G987, G971, trivial⟩) (((m.2 81) jj) + (m.1 69)) ((m.2 82) jj) (r32 (by omega) (by omega)) (r32 (by omega) (by omega)) (show 0 ≤ (((m.2 81) jj) + (m.1 69)) ∧ (((m.2 81) jj) + (m.1 69)) ≤ 1024 by omega) (show 0 ≤ ((m.2 82) jj) ∧ ((m.2 82) jj) ≤ 4000 by omega)) (fun rr991 k992 => ?_)
            obtain ⟨y993, y995, y997, y999, g994, g996, g998, g1000, h1001, rfl⟩ := k992
            refine ⟨_, _, rfl, ?_⟩
            refine T_nf (st' := []) (l' := [(10, y974), (11, y976), (28, y978), (69, y993), (70, y995), (71, y997), (72, y999)]) (a' := [(65, F980), (66, F982), (67, F984), (68, F986), (80, upI (m.2 80) jj (-1))]) rfl rfl rfl rfl rfl ?_
            replace h1001 : y993 = (((m.2 81) jj) + (m.1 69)) := h1001
            refine T_ret rfl (fun _ => rfl) ?_
            exact ⟨y974, y976, y978, y993, y995, y997, y999, F980, F982, F984, F986, upI (m.2 80) jj (-1), g975, g977, g979, g994, g996, g998, g1000, G981, G983, G985, G987, G971, (by omega), (by omega), (fun h => absurd h (by omega)), rfl⟩
        · skip
          refine T_ld 162 (.int (i32 1)) rfl (fun _ => rfl) ?_
          refine T_goto 166 rfl (fun _ => rfl) ?_
          refine T_gf 170 (.int (i32 (m.1 70))) rfl rfl rfl rfl rfl rfl ?_
          refine T_call 173 256 [.ref 189, .int (i32 1), .int (i32 (m.1 70))] [] rfl (fun _ => rfl) rfl (c_want w (mO m [(10, y904), (11, y906), (28, (m.1 28)), (69, (m.1 69)), (70, (m.1 70)), (71, (m.1 71)), (72, (m.1 72))] [(65, (m.2 65)), (66, (m.2 66)), (67, (m.2 67)), (68, (m.2 68)), (80, (m.2 80))]) c N D (by omega) (Ty_mO hT rfl rfl ⟨g905, g907, f28, f69, f70, f71, f72, trivial⟩ ⟨(hT.2.1 65), (hT.2.1 66), (hT.2.1 67), (hT.2.1 68), (hT.2.1 80), trivial⟩) 1 (m.1 70) ⟨by decide, by decide⟩ (r32 (by omega) (by omega)) (show 0 ≤ (m.1 70) ∧ (m.1 70) ≤ 4000 by omega) (fun (h : y904 = 0) => absurd h (by omega))) (fun rr1002 k1003 => ?_)
          obtain ⟨y1004, y1006, g1005, g1007, h1008, c1009, rfl⟩ := k1003
          refine ⟨_, _, rfl, ?_⟩
          refine T_nf (st' := []) (l' := [(10, y1004), (11, y1006), (28, (m.1 28)), (69, (m.1 69)), (70, (m.1 70)), (71, (m.1 71)), (72, (m.1 72))]) (a' := [(65, (m.2 65)), (66, (m.2 66)), (67, (m.2 67)), (68, (m.2 68)), (80, (m.2 80))]) rfl rfl rfl rfl rfl ?_
          replace h1008 : y1004 = 0 → y904 = 0 := h1008
          have hf1010 : 1 ≤ y1004 := by omega
          clear c1009
          clear h1008
          clear g905 g907 hf910
          refine T_ld 174 (.ref 189) rfl (fun _ => rfl) ?_
          refine T_ld 175 (.int (i32 ((m.2 81) jj))) rfl (fun _ => rfl) ?_
          refine T_gf 179 (.int (i32 (m.1 69))) rfl rfl rfl rfl rfl rfl ?_
          refine T_iadd 180 rfl rfl ?_
          refine T_ld 182 (.int (i32 64)) rfl (fun _ => rfl) ?_
          refine T_icmp 189 185 rfl rfl rfl (r32 (by omega) (by omega)) ⟨by decide, by decide⟩ (fun (h1011 : (64 : Int) < ((m.2 81) jj) + (m.1 69)) => ?_) (fun (h1011 : ¬ ((64 : Int) < ((m.2 81) jj) + (m.1 69))) => ?_)
          · skip
            refine T_ld 190 (.int (i32 0)) rfl (fun _ => rfl) ?_
            refine T_gf 194 (.int (i32 (m.1 70))) rfl rfl rfl rfl rfl rfl ?_
            refine T_call 197 256 [.ref 189, .int (i32 0), .int (i32 (m.1 70))] [] rfl (fun _ => rfl) rfl (c_want w (mO m [(10, y1004), (11, y1006), (28, (m.1 28)), (69, (m.1 69)), (70, (m.1 70)), (71, (m.1 71)), (72, (m.1 72))] [(65, (m.2 65)), (66, (m.2 66)), (67, (m.2 67)), (68, (m.2 68)), (80, (m.2 80))]) c N D (by omega) (Ty_mO hT rfl rfl ⟨g1005, g1007, f28, f69, f70, f71, f72, trivial⟩ ⟨(hT.2.1 65), (hT.2.1 66), (hT.2.1 67), (hT.2.1 68), (hT.2.1 80), trivial⟩) 0 (m.1 70) ⟨by decide, by decide⟩ (r32 (by omega) (by omega)) (show 0 ≤ (m.1 70) ∧ (m.1 70) ≤ 4000 by omega) (fun (h : y1004 = 0) => absurd h (by omega))) (fun rr1012 k1013 => ?_)
            obtain ⟨y1014, y1016, g1015, g1017, h1018, c1019, rfl⟩ := k1013
            refine ⟨_, _, rfl, ?_⟩
            refine T_nf (st' := []) (l' := [(10, y1014), (11, y1016), (28, (m.1 28)), (69, (m.1 69)), (70, (m.1 70)), (71, (m.1 71)), (72, (m.1 72))]) (a' := [(65, (m.2 65)), (66, (m.2 66)), (67, (m.2 67)), (68, (m.2 68)), (80, (m.2 80))]) rfl rfl rfl rfl rfl ?_
            replace h1018 : y1014 = 0 → y1004 = 0 := h1018
            have hf1020 : 1 ≤ y1014 := by omega
            clear c1019
            clear h1018
            clear g1005 g1007 hf1010
            refine T_ld 198 (.int (i32 ((m.2 81) jj))) rfl (fun _ => rfl) ?_
            refine T_gf 202 (.int (i32 (m.1 69))) rfl rfl rfl rfl rfl rfl ?_
            refine T_iadd 203 rfl rfl ?_
            refine T_sto 204 [(2, .int (i32 (((m.2 81) jj) + (m.1 69)))), (5, .int (i32 (m.1 69))), (4, .int (i32 ((m.2 80) jj))), (3, .int (i32 ((m.2 82) jj))), (0, .ref 189), (1, .int (i32 jj))] rfl (fun _ => rfl) ?_
            refine T_goto 261 rfl (fun _ => rfl) ?_
            refine T_gf 265 (.ref 242) rfl rfl rfl rfl rfl rfl ?_
            refine T_ld 266 (.int (i32 jj)) rfl (fun _ => rfl) ?_
            refine T_ld 267 (.int (i32 (-1))) rfl (fun _ => rfl) ?_
            have G1021 : ∀ j, (-1) ≤ (upI (m.2 80) jj (-1)) j ∧ (upI (m.2 80) jj (-1)) j ≤ 330 := upI_rg (hT.2.1 80) ⟨by omega, by omega⟩
            refine T_iast (a' := [(65, (m.2 65)), (66, (m.2 66)), (67, (m.2 67)), (68, (m.2 68)), (80, upI (m.2 80) jj (-1))]) 268 80 (m.2 80) rfl rfl rfl (by omega) (show jj < (540 : Int) by omega) rfl rfl ?_
            refine T_ld 269 (.ref 189) rfl (fun _ => rfl) ?_
            refine T_ld 271 (.int (i32 ((m.2 80) jj))) rfl (fun _ => rfl) ?_
            refine T_ld 272 (.int (i32 (((m.2 81) jj) + (m.1 69)))) rfl (fun _ => rfl) ?_
            refine T_ld 274 (.int (i32 (m.1 69))) rfl (fun _ => rfl) ?_
            refine T_ld 275 (.long (i64 0)) rfl (fun _ => rfl) ?_
            refine T_call 278 248 [.ref 189, .int (i32 ((m.2 80) jj)), .int (i32 (((m.2 81) jj) + (m.1 69))), .int (i32 (m.1 69)), .long (i64 0)] [] rfl (fun _ => rfl) rfl (c_node w (mO m [(10, y1014), (11, y1016), (28, (m.1 28)), (69, (m.1 69)), (70, (m.1 70)), (71, (m.1 71)), (72, (m.1 72))] [(65, (m.2 65)), (66, (m.2 66)), (67, (m.2 67)), (68, (m.2 68)), (80, upI (m.2 80) jj (-1))]) c N D (by omega) (Ty_mO hT rfl rfl ⟨g1015, g1017, f28, f69, f70, f71, f72, trivial⟩ ⟨(hT.2.1 65), (hT.2.1 66), (hT.2.1 67), (hT.2.1 68), G1021, trivial⟩) ((m.2 80) jj) (((m.2 81) jj) + (m.1 69)) (m.1 69) 0 B (1 + lh (m.2 79) (m.2 80) (m.1 73)) (r32 (by omega) (by omega)) (r32 (by omega) (by omega)) (r32 (by omega) (by omega)) ⟨by decide, by decide⟩ (fun (h : y1014 = 0) => absurd h (by omega))) (fun rr1022 k1023 => ?_)
            obtain ⟨y1024, y1026, y1028, F1030, F1032, F1034, F1036, g1025, g1027, g1029, G1031, G1033, G1035, G1037, h1038, c1039, rfl⟩ := k1023
            refine ⟨_, _, rfl, ?_⟩
            refine T_nf (st' := []) (l' := [(10, y1024), (11, y1026), (28, y1028), (69, (m.1 69)), (70, (m.1 70)), (71, (m.1 71)), (72, (m.1 72))]) (a' := [(65, F1030), (66, F1032), (67, F1034), (68, F1036), (80, upI (m.2 80) jj (-1))]) rfl rfl rfl rfl rfl ?_
            replace h1038 : y1024 = 0 → y1014 = 0 := h1038
            have hf1040 : 1 ≤ y1024 := by omega
            clear c1039
            clear h1038
            clear g1015 g1017 hf1020
            refine T_ld 279 (.ref 189) rfl (fun _ => rfl) ?_
            refine T_ld 280 (.int (i32 (((m.2 81) jj) + (m.1 69)))) rfl (fun _ => rfl) ?_
            refine T_ld 281 (.int (i32 ((m.2 82) jj))) rfl (fun _ => rfl) ?_
            refine T_call 284 250 [.ref 189, .int (i32 (((m.2 81) jj) + (m.1 69))), .int (i32 ((m.2 82) jj))] [] rfl (fun _ => rfl) rfl (c_unit w (mO m [(10, y1024), (11, y1026), (28, y1028), (69, (m.1 69)), (70, (m.1 70)), (71, (m.1 71)), (72, (m.1 72))] [(65, F1030), (66, F1032), (67, F1034), (68, F1036), (80, upI (m.2 80) jj (-1))]) c N D (by omega) (Ty_mO hT rfl rfl ⟨g1025, g1027, g1029, f69, f70, f71, f72, trivial⟩ ⟨G1031, G1033, G1035, G1037, G1021, trivial⟩) (((m.2 81) jj) + (m.1 69)) ((m.2 82) jj) (r32 (by omega) (by omega)) (r32 (by omega) (by omega)) (show 0 ≤ (((m.2 81) jj) + (m.1 69)) ∧ (((m.2 81) jj) + (m.1 69)) ≤ 1024 by omega) (show 0 ≤ ((m.2 82) jj) ∧ ((m.2 82) jj) ≤ 4000 by omega)) (fun rr1041 k1042 => ?_)
            obtain ⟨y1043, y1045, y1047, y1049, g1044, g1046, g1048, g1050, h1051, rfl⟩ := k1042
            refine ⟨_, _, rfl, ?_⟩
            refine T_nf (st' := []) (l' := [(10, y1024), (11, y1026), (28, y1028), (69, y1043), (70, y1045), (71, y1047), (72, y1049)]) (a' := [(65, F1030), (66, F1032), (67, F1034), (68, F1036), (80, upI (m.2 80) jj (-1))]) rfl rfl rfl rfl rfl ?_
            replace h1051 : y1043 = (((m.2 81) jj) + (m.1 69)) := h1051
            refine T_ret rfl (fun _ => rfl) ?_
            exact ⟨y1024, y1026, y1028, y1043, y1045, y1047, y1049, F1030, F1032, F1034, F1036, upI (m.2 80) jj (-1), g1025, g1027, g1029, g1044, g1046, g1048, g1050, G1031, G1033, G1035, G1037, G1021, (by omega), (by omega), (fun h => absurd h (by omega)), rfl⟩
          · skip
            refine T_ld 186 (.int (i32 1)) rfl (fun _ => rfl) ?_
            refine T_goto 190 rfl (fun _ => rfl) ?_
            refine T_gf 194 (.int (i32 (m.1 70))) rfl rfl rfl rfl rfl rfl ?_
            refine T_call 197 256 [.ref 189, .int (i32 1), .int (i32 (m.1 70))] [] rfl (fun _ => rfl) rfl (c_want w (mO m [(10, y1004), (11, y1006), (28, (m.1 28)), (69, (m.1 69)), (70, (m.1 70)), (71, (m.1 71)), (72, (m.1 72))] [(65, (m.2 65)), (66, (m.2 66)), (67, (m.2 67)), (68, (m.2 68)), (80, (m.2 80))]) c N D (by omega) (Ty_mO hT rfl rfl ⟨g1005, g1007, f28, f69, f70, f71, f72, trivial⟩ ⟨(hT.2.1 65), (hT.2.1 66), (hT.2.1 67), (hT.2.1 68), (hT.2.1 80), trivial⟩) 1 (m.1 70) ⟨by decide, by decide⟩ (r32 (by omega) (by omega)) (show 0 ≤ (m.1 70) ∧ (m.1 70) ≤ 4000 by omega) (fun (h : y1004 = 0) => absurd h (by omega))) (fun rr1052 k1053 => ?_)
            obtain ⟨y1054, y1056, g1055, g1057, h1058, c1059, rfl⟩ := k1053
            refine ⟨_, _, rfl, ?_⟩
            refine T_nf (st' := []) (l' := [(10, y1054), (11, y1056), (28, (m.1 28)), (69, (m.1 69)), (70, (m.1 70)), (71, (m.1 71)), (72, (m.1 72))]) (a' := [(65, (m.2 65)), (66, (m.2 66)), (67, (m.2 67)), (68, (m.2 68)), (80, (m.2 80))]) rfl rfl rfl rfl rfl ?_
            replace h1058 : y1054 = 0 → y1004 = 0 := h1058
            have hf1060 : 1 ≤ y1054 := by omega
            clear c1059
            clear h1058
            clear g1005 g1007 hf1010
            refine T_ld 198 (.int (i32 ((m.2 81) jj))) rfl (fun _ => rfl) ?_
            refine T_gf 202 (.int (i32 (m.1 69))) rfl rfl rfl rfl rfl rfl ?_
            refine T_iadd 203 rfl rfl ?_
            refine T_sto 204 [(2, .int (i32 (((m.2 81) jj) + (m.1 69)))), (5, .int (i32 (m.1 69))), (4, .int (i32 ((m.2 80) jj))), (3, .int (i32 ((m.2 82) jj))), (0, .ref 189), (1, .int (i32 jj))] rfl (fun _ => rfl) ?_
            refine T_goto 261 rfl (fun _ => rfl) ?_
            refine T_gf 265 (.ref 242) rfl rfl rfl rfl rfl rfl ?_
            refine T_ld 266 (.int (i32 jj)) rfl (fun _ => rfl) ?_
            refine T_ld 267 (.int (i32 (-1))) rfl (fun _ => rfl) ?_
            have G1061 : ∀ j, (-1) ≤ (upI (m.2 80) jj (-1)) j ∧ (upI (m.2 80) jj (-1)) j ≤ 330 := upI_rg (hT.2.1 80) ⟨by omega, by omega⟩
            refine T_iast (a' := [(65, (m.2 65)), (66, (m.2 66)), (67, (m.2 67)), (68, (m.2 68)), (80, upI (m.2 80) jj (-1))]) 268 80 (m.2 80) rfl rfl rfl (by omega) (show jj < (540 : Int) by omega) rfl rfl ?_
            refine T_ld 269 (.ref 189) rfl (fun _ => rfl) ?_
            refine T_ld 271 (.int (i32 ((m.2 80) jj))) rfl (fun _ => rfl) ?_
            refine T_ld 272 (.int (i32 (((m.2 81) jj) + (m.1 69)))) rfl (fun _ => rfl) ?_
            refine T_ld 274 (.int (i32 (m.1 69))) rfl (fun _ => rfl) ?_
            refine T_ld 275 (.long (i64 0)) rfl (fun _ => rfl) ?_
            refine T_call 278 248 [.ref 189, .int (i32 ((m.2 80) jj)), .int (i32 (((m.2 81) jj) + (m.1 69))), .int (i32 (m.1 69)), .long (i64 0)] [] rfl (fun _ => rfl) rfl (c_node w (mO m [(10, y1054), (11, y1056), (28, (m.1 28)), (69, (m.1 69)), (70, (m.1 70)), (71, (m.1 71)), (72, (m.1 72))] [(65, (m.2 65)), (66, (m.2 66)), (67, (m.2 67)), (68, (m.2 68)), (80, upI (m.2 80) jj (-1))]) c N D (by omega) (Ty_mO hT rfl rfl ⟨g1055, g1057, f28, f69, f70, f71, f72, trivial⟩ ⟨(hT.2.1 65), (hT.2.1 66), (hT.2.1 67), (hT.2.1 68), G1061, trivial⟩) ((m.2 80) jj) (((m.2 81) jj) + (m.1 69)) (m.1 69) 0 B (1 + lh (m.2 79) (m.2 80) (m.1 73)) (r32 (by omega) (by omega)) (r32 (by omega) (by omega)) (r32 (by omega) (by omega)) ⟨by decide, by decide⟩ (fun (h : y1054 = 0) => absurd h (by omega))) (fun rr1062 k1063 => ?_)
            obtain ⟨y1064, y1066, y1068, F1070, F1072, F1074, F1076, g1065, g1067, g1069, G1071, G1073, G1075, G1077, h1078, c1079, rfl⟩ := k1063
            refine ⟨_, _, rfl, ?_⟩
            refine T_nf (st' := []) (l' := [(10, y1064), (11, y1066), (28, y1068), (69, (m.1 69)), (70, (m.1 70)), (71, (m.1 71)), (72, (m.1 72))]) (a' := [(65, F1070), (66, F1072), (67, F1074), (68, F1076), (80, upI (m.2 80) jj (-1))]) rfl rfl rfl rfl rfl ?_
            replace h1078 : y1064 = 0 → y1054 = 0 := h1078
            have hf1080 : 1 ≤ y1064 := by omega
            clear c1079
            clear h1078
            clear g1055 g1057 hf1060
            refine T_ld 279 (.ref 189) rfl (fun _ => rfl) ?_
            refine T_ld 280 (.int (i32 (((m.2 81) jj) + (m.1 69)))) rfl (fun _ => rfl) ?_
            refine T_ld 281 (.int (i32 ((m.2 82) jj))) rfl (fun _ => rfl) ?_
            refine T_call 284 250 [.ref 189, .int (i32 (((m.2 81) jj) + (m.1 69))), .int (i32 ((m.2 82) jj))] [] rfl (fun _ => rfl) rfl (c_unit w (mO m [(10, y1064), (11, y1066), (28, y1068), (69, (m.1 69)), (70, (m.1 70)), (71, (m.1 71)), (72, (m.1 72))] [(65, F1070), (66, F1072), (67, F1074), (68, F1076), (80, upI (m.2 80) jj (-1))]) c N D (by omega) (Ty_mO hT rfl rfl ⟨g1065, g1067, g1069, f69, f70, f71, f72, trivial⟩ ⟨G1071, G1073, G1075, G1077, G1061, trivial⟩) (((m.2 81) jj) + (m.1 69)) ((m.2 82) jj) (r32 (by omega) (by omega)) (r32 (by omega) (by omega)) (show 0 ≤ (((m.2 81) jj) + (m.1 69)) ∧ (((m.2 81) jj) + (m.1 69)) ≤ 1024 by omega) (show 0 ≤ ((m.2 82) jj) ∧ ((m.2 82) jj) ≤ 4000 by omega)) (fun rr1081 k1082 => ?_)
            obtain ⟨y1083, y1085, y1087, y1089, g1084, g1086, g1088, g1090, h1091, rfl⟩ := k1082
            refine ⟨_, _, rfl, ?_⟩
            refine T_nf (st' := []) (l' := [(10, y1064), (11, y1066), (28, y1068), (69, y1083), (70, y1085), (71, y1087), (72, y1089)]) (a' := [(65, F1070), (66, F1072), (67, F1074), (68, F1076), (80, upI (m.2 80) jj (-1))]) rfl rfl rfl rfl rfl ?_
            replace h1091 : y1083 = (((m.2 81) jj) + (m.1 69)) := h1091
            refine T_ret rfl (fun _ => rfl) ?_
            exact ⟨y1064, y1066, y1068, y1083, y1085, y1087, y1089, F1070, F1072, F1074, F1076, upI (m.2 80) jj (-1), g1065, g1067, g1069, g1084, g1086, g1088, g1090, G1071, G1073, G1075, G1077, G1061, (by omega), (by omega), (fun h => absurd h (by omega)), rfl⟩
    by_cases h1092 : x534 = 2
    · skip
      refine T_cast 2 h1092 ?_
      refine T_pop 207 rfl (fun _ => rfl) ?_
      exact T207_590
    by_cases h1093 : x534 = 3
    · skip
      refine T_cast 3 h1093 ?_
      refine T_pop 207 rfl (fun _ => rfl) ?_
      exact T207_590
    by_cases h1094 : x534 = 4
    · skip
      refine T_cast 4 h1094 ?_
      refine T_pop 207 rfl (fun _ => rfl) ?_
      exact T207_590
    by_cases h1095 : x534 = 5
    · skip
      refine T_cast 5 h1095 ?_
      refine T_pop 207 rfl (fun _ => rfl) ?_
      exact T207_590
    by_cases h1096 : x534 = 7
    · skip
      refine T_cast 7 h1096 ?_
      refine T_pop 207 rfl (fun _ => rfl) ?_
      exact T207_590
    refine T_tsd 207 rfl rfl (r32 (by omega) (by omega)) (by omega) ?_
    exact T207_590
