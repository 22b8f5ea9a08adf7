def Q_level (m : mR) (c : Nat → Option am_C) (N : Nat) (x : Int) : ag_Re af_T → Prop := fun R => ∃ (r : Int), ((-1) ≤ r ∧ r ≤ 8) ∧ (0 ≤ r → 4 ≤ x ∧ x ≤ 124) ∧ R = (.inl (some (.int (i32 r))), (mhp m c, N), 0, 0)
set_option maxHeartbeats 3000000 in
theorem c_level (w : wX) (m : mR) (c : Nat → Option am_C) (N D : Nat) (hD : 1 ≤ D) (hT : Ty m) (x : Int) (qx : R32 x) : TC w D 259 [.int (i32 x)] (mhp m c, N) (Q_level m c N x) := by
  obtain ⟨D, rfl⟩ : ∃ k, D = k + 1 := ⟨D - 1, by omega⟩
  obtain ⟨qxa, qxb⟩ := id qx
  refine Tc_of rfl ?_
  show TT w D pm_259 (0, [(0, .int (i32 x))], [], (mhp (mO m [] []) c, N), 0, 0) (Q_level m c N x)
  refine T_ld 1 (.int (i32 x)) rfl (fun _ => rfl) ?_
  have T144_1 : (x = 4 ∨ x = 5 ∨ x = 6 ∨ x = 7 ∨ x = 60 ∨ x = 62) → TT w D pm_259 (144, [(0, .int (i32 x))], [], (mhp (mO m [] []) c, N), 0, 0) (Q_level m c N x) := by
    intro ht2
    refine T_ld 145 (.int (i32 2)) rfl (fun _ => rfl) ?_
    refine T_ret rfl (fun _ => rfl) ?_
    exact ⟨2, ⟨by omega, by omega⟩, (show 0 ≤ (2 : Int) → 4 ≤ x ∧ x ≤ 124 by omega), rfl⟩
  have T152_3 : (x = 11 ∨ x = 12) → TT w D pm_259 (152, [(0, .int (i32 x))], [], (mhp (mO m [] []) c, N), 0, 0) (Q_level m c N x) := by
    intro ht4
    refine T_ld 154 (.int (i32 6)) rfl (fun _ => rfl) ?_
    refine T_ret rfl (fun _ => rfl) ?_
    exact ⟨6, ⟨by omega, by omega⟩, (show 0 ≤ (6 : Int) → 4 ≤ x ∧ x ≤ 124 by omega), rfl⟩
  have T155_5 : (x = 43 ∨ x = 45) → TT w D pm_259 (155, [(0, .int (i32 x))], [], (mhp (mO m [] []) c, N), 0, 0) (Q_level m c N x) := by
    intro ht6
    refine T_ld 157 (.int (i32 7)) rfl (fun _ => rfl) ?_
    refine T_ret rfl (fun _ => rfl) ?_
    exact ⟨7, ⟨by omega, by omega⟩, (show 0 ≤ (7 : Int) → 4 ≤ x ∧ x ≤ 124 by omega), rfl⟩
  by_cases h7 : x = 4
  · skip
    refine T_cast 4 h7 ?_
    refine T_pop 144 rfl (fun _ => rfl) ?_
    exact T144_1 (by omega)
  by_cases h8 : x = 5
  · skip
    refine T_cast 5 h8 ?_
    refine T_pop 144 rfl (fun _ => rfl) ?_
    exact T144_1 (by omega)
  by_cases h9 : x = 6
  · skip
    refine T_cast 6 h9 ?_
    refine T_pop 144 rfl (fun _ => rfl) ?_
    exact T144_1 (by omega)
  by_cases h10 : x = 7
  · skip
    refine T_cast 7 h10 ?_
    refine T_pop 144 rfl (fun _ => rfl) ?_
    exact T144_1 (by omega)
  by_cases h11 : x = 8
  · skip
    refine T_cast 8 h11 ?_
    refine T_pop 158 rfl (fun _ => rfl) ?_
    refine T_ld 160 (.int (i32 8)) rfl (fun _ => rfl) ?_
    refine T_ret rfl (fun _ => rfl) ?_
    exact ⟨8, ⟨by omega, by omega⟩, (show 0 ≤ (8 : Int) → 4 ≤ x ∧ x ≤ 124 by omega), rfl⟩
  by_cases h12 : x = 9
  · skip
    refine T_cast 9 h12 ?_
    refine T_pop 142 rfl (fun _ => rfl) ?_
    refine T_ld 143 (.int (i32 1)) rfl (fun _ => rfl) ?_
    refine T_ret rfl (fun _ => rfl) ?_
    exact ⟨1, ⟨by omega, by omega⟩, (show 0 ≤ (1 : Int) → 4 ≤ x ∧ x ≤ 124 by omega), rfl⟩
  by_cases h13 : x = 10
  · skip
    refine T_cast 10 h13 ?_
    refine T_pop 140 rfl (fun _ => rfl) ?_
    refine T_ld 141 (.int (i32 0)) rfl (fun _ => rfl) ?_
    refine T_ret rfl (fun _ => rfl) ?_
    exact ⟨0, ⟨by omega, by omega⟩, (show 0 ≤ (0 : Int) → 4 ≤ x ∧ x ≤ 124 by omega), rfl⟩
  by_cases h14 : x = 11
  · skip
    refine T_cast 11 h14 ?_
    refine T_pop 152 rfl (fun _ => rfl) ?_
    exact T152_3 (by omega)
  by_cases h15 : x = 12
  · skip
    refine T_cast 12 h15 ?_
    refine T_pop 152 rfl (fun _ => rfl) ?_
    exact T152_3 (by omega)
  by_cases h16 : x = 38
  · skip
    refine T_cast 38 h16 ?_
    refine T_pop 150 rfl (fun _ => rfl) ?_
    refine T_ld 151 (.int (i32 5)) rfl (fun _ => rfl) ?_
    refine T_ret rfl (fun _ => rfl) ?_
    exact ⟨5, ⟨by omega, by omega⟩, (show 0 ≤ (5 : Int) → 4 ≤ x ∧ x ≤ 124 by omega), rfl⟩
  by_cases h17 : x = 43
  · skip
    refine T_cast 43 h17 ?_
    refine T_pop 155 rfl (fun _ => rfl) ?_
    exact T155_5 (by omega)
  by_cases h18 : x = 45
  · skip
    refine T_cast 45 h18 ?_
    refine T_pop 155 rfl (fun _ => rfl) ?_
    exact T155_5 (by omega)
  by_cases h19 : x = 60
  · skip
    refine T_cast 60 h19 ?_
    refine T_pop 144 rfl (fun _ => rfl) ?_
    exact T144_1 (by omega)
  by_cases h20 : x = 62
  · skip
    refine T_cast 62 h20 ?_
    refine T_pop 144 rfl (fun _ => rfl) ?_
    exact T144_1 (by omega)
  by_cases h21 : x = 94
  · skip
    refine T_cast 94 h21 ?_
    refine T_pop 148 rfl (fun _ => rfl) ?_
    refine T_ld 149 (.int (i32 4)) rfl (fun _ => rfl) ?_
    refine T_ret rfl (fun _ => rfl) ?_
    exact ⟨4, ⟨by omega, by omega⟩, (show 0 ≤ (4 : Int) → 4 ≤ x ∧ x ≤ 124 by omega), rfl⟩
  by_cases h22 : x = 124
  · skip
    refine T_cast 124 h22 ?_
    refine T_pop 146 rfl (fun _ => rfl) ?_
    refine T_ld 147 (.int (i32 3)) rfl (fun _ => rfl) ?_
    refine T_ret rfl (fun _ => rfl) ?_
    exact ⟨3, ⟨by omega, by omega⟩, (show 0 ≤ (3 : Int) → 4 ≤ x ∧ x ≤ 124 by omega), rfl⟩
  refine T_lkd 161 rfl rfl (r32 (by omega) (by omega)) (by simp [Op.lookupswitch.offset, show ¬ ((4 : Int) = x) by omega, show ¬ ((5 : Int) = x) by omega, show ¬ ((6 : Int) = x) by omega, show ¬ ((7 : Int) = x) by omega, show ¬ ((8 : Int) = x) by omega, show ¬ ((9 : Int) = x) by omega, show ¬ ((10 : Int) = x) by omega, show ¬ ((11 : Int) = x) by omega, show ¬ ((12 : Int) = x) by omega, show ¬ ((38 : Int) = x) by omega, show ¬ ((43 : Int) = x) by omega, show ¬ ((45 : Int) = x) by omega, show ¬ ((60 : Int) = x) by omega, show ¬ ((62 : Int) = x) by omega, show ¬ ((94 : Int) = x) by omega, show ¬ ((124 : Int) = x) by omega]) ?_
  refine T_ld 162 (.int (i32 (-1))) rfl (fun _ => rfl) ?_
  refine T_ret rfl (fun _ => rfl) ?_
  exact ⟨(-1), ⟨by omega, by omega⟩, (show 0 ≤ (-1 : Int) → 4 ≤ x ∧ x ≤ 124 by omega), rfl⟩
def fF_join : List Nat := [10, 11, 28, 69, 70, 71, 72]
def fA_join : List Nat := [65, 66, 67, 68, 80]
def Q_join (m : mR) (c : Nat → Option am_C) (N : Nat) (jj : Int) (B : Int) : ag_Re af_T → Prop := fun R => ∃ (M : mR), Ty M ∧ fr fF_join fA_join m M ∧ ((M.1 10) = 0 → (m.1 10) = 0) ∧ ((M.1 69) ≤ (m.1 69) + 64) ∧ (M.1 10 = 0 → ((M.1 69) ≤ 64) ∧ ((M.1 28) = (m.1 28) + 1) ∧ (XS (M.2 65) (M.2 67) (m.2 76) (m.2 78) (m.2 79) (M.2 80) B (M.1 28) (m.1 73) (m.1 74) 1) ∧ (agr (m.2 65) (M.2 65) (m.1 28)) ∧ ((M.2 80) = upI (m.2 80) jj (-1))) ∧ R = (.inl (none), (mhp M c, N), 0, 0)
set_option maxHeartbeats 3000000 in
theorem c_join (w : wX) (m : mR) (c : Nat → Option am_C) (N D : Nat) (hD : 4 ≤ D) (hT : Ty m) (jj : Int) (B : Int) (qjj : R32 jj) (p0 : 0 ≤ jj ∧ jj ≤ 539) (p1 : (m.1 69) ≤ 900) (hC : m.1 10 = 0 → (XS (m.2 65) (m.2 67) (m.2 76) (m.2 78) (m.2 79) (m.2 80) B (m.1 28) (m.1 73) (m.1 74) 1) ∧ ((m.1 69) ≤ 64) ∧ (1 ≤ (m.1 73)) ∧ (9 * ((m.1 73) - 1) ≤ jj ∧ jj < 9 * (m.1 73)) ∧ (0 ≤ (m.2 80) jj)) : TC w D 260 [.ref 189, .int (i32 jj)] (mhp m c, N) (Q_join m c N jj B) := by
  obtain ⟨D, rfl⟩ : ∃ k, D = k + 1 := ⟨D - 1, by omega⟩
  obtain ⟨qjja, qjjb⟩ := id qjj
  have f10 : 0 ≤ m.1 10 ∧ m.1 10 ≤ 8 := hT.1 10
  have f28 : 0 ≤ m.1 28 ∧ m.1 28 ≤ 800 := hT.1 28
  have f69 : 0 ≤ m.1 69 ∧ m.1 69 ≤ 1024 := hT.1 69
  have f70 : 0 ≤ m.1 70 ∧ m.1 70 ≤ 4000 := hT.1 70
  have f71 : 0 ≤ m.1 71 ∧ m.1 71 ≤ 1 := hT.1 71
  have f72 : (-9223372036854775808) ≤ m.1 72 ∧ m.1 72 ≤ 9223372036854775807 := hT.1 72
  have f74 : 0 ≤ m.1 74 ∧ m.1 74 ≤ 24 := hT.1 74
  have f73 : 0 ≤ m.1 73 ∧ m.1 73 ≤ 60 := hT.1 73
  refine Tc_of rfl ?_
  show TT w D pm_260 (0, [(0, .ref 189), (1, .int (i32 jj))], [], (mhp (mO m [] []) c, N), 0, 0) (Q_join m c N jj B)
  by_cases hf0 : m.1 10 = 0
  · skip
    obtain ⟨hXS, c1, c2, c3, c4⟩ := hC hf0
    have hEX := hXS.1.1
    have hl1 := lh_ws (st := (m.2 79)) (ws := (m.2 80)) (hi := (m.1 73)) (i := jj) (by omega) (by omega) (by omega) (by omega)
    have hl0 : 0 ≤ lh (m.2 79) (upI (m.2 80) jj (-1)) (m.1 73) := lh_0 (hT.2.1 79) _ _
    have ha2 := ar_2 (s := (m.2 80) jj) (by have := hT.2.1 80 jj; have e : (m.2 80) jj ≤ 330 := this.2; omega)
    refine T_gf 4 (.ref 243) rfl rfl rfl rfl rfl rfl ?_
    refine T_ld 5 (.int (i32 jj)) rfl (fun _ => rfl) ?_
    refine T_iald 6 81 (m.2 81) rfl rfl rfl (by omega) (show jj < (540 : Int) by omega) rfl ?_
    have e5 : 0 ≤ m.2 81 jj ∧ m.2 81 jj ≤ 64 := hT.2.1 81 jj
    refine T_sto 7 [(2, .int (i32 ((m.2 81) jj))), (0, .ref 189), (1, .int (i32 jj))] rfl (fun _ => rfl) ?_
    refine T_gf 11 (.ref 244) rfl rfl rfl rfl rfl rfl ?_
    refine T_ld 12 (.int (i32 jj)) rfl (fun _ => rfl) ?_
    refine T_iald 13 82 (m.2 82) rfl rfl rfl (by omega) (show jj < (540 : Int) by omega) rfl ?_
    have e6 : 0 ≤ m.2 82 jj ∧ m.2 82 jj ≤ 4000 := hT.2.1 82 jj
    refine T_sto 14 [(3, .int (i32 ((m.2 82) jj))), (2, .int (i32 ((m.2 81) jj))), (0, .ref 189), (1, .int (i32 jj))] rfl (fun _ => rfl) ?_
    refine T_gf 18 (.ref 242) rfl rfl rfl rfl rfl rfl ?_
    refine T_ld 19 (.int (i32 jj)) rfl (fun _ => rfl) ?_
    refine T_iald 20 80 (m.2 80) rfl rfl rfl (by omega) (show jj < (540 : Int) by omega) rfl ?_
    have e7 : (-1) ≤ (m.2 80) jj ∧ (m.2 80) jj ≤ 330 := (hT.2.1 80) jj
    refine T_sto 22 [(4, .int (i32 ((m.2 80) jj))), (3, .int (i32 ((m.2 82) jj))), (2, .int (i32 ((m.2 81) jj))), (0, .ref 189), (1, .int (i32 jj))] rfl (fun _ => rfl) ?_
    refine T_gf 26 (.int (i32 (m.1 69))) rfl rfl rfl rfl rfl rfl ?_
    refine T_sto 28 [(5, .int (i32 (m.1 69))), (4, .int (i32 ((m.2 80) jj))), (3, .int (i32 ((m.2 82) jj))), (2, .int (i32 ((m.2 81) jj))), (0, .ref 189), (1, .int (i32 jj))] rfl (fun _ => rfl) ?_
    have J261_10 : ∀ (v8 : Int) (m9 : mR), (R32 v8) → Ty m9 → fr [10, 11] [] (mO m [] []) m9 → (0 ≤ v8 ∧ v8 ≤ (m.1 69) + 64) → ((m9.1 10) = 0 → (v8 ≤ 64)) → TT w D pm_260 (261, [(0, .ref 189), (1, .int (i32 jj)), (2, .int (i32 v8)), (3, .int (i32 ((m.2 82) jj))), (4, .int (i32 ((m.2 80) jj))), (5, .int (i32 (m.1 69)))], [], (mhp (mO m9 [] []) c, N), 0, 0) (Q_join m c N jj B) := by
      intro v8 m9 q12 Tm9 Fm9 ic11 c14
      obtain ⟨q12a, q12b⟩ := id q12
      have q13_10 : 0 ≤ m9.1 10 ∧ m9.1 10 ≤ 8 := Tm9.1 10
      by_cases hf15 : (m9.1 10) = 0
      · skip
        have c16 := c14 hf15
        clear c14
        refine T_gf 265 (.ref 242) rfl rfl rfl rfl rfl rfl ?_
        refine T_ld 266 (.int (i32 jj)) rfl (fun _ => rfl) ?_
        refine T_ld 267 (.int (i32 (-1))) rfl (fun _ => rfl) ?_
        have G17 : ∀ j, (-1) ≤ (upI (m.2 80) jj (-1)) j ∧ (upI (m.2 80) jj (-1)) j ≤ 330 := upI_rg (hT.2.1 80) ⟨by omega, by omega⟩
        refine T_iast (a' := [(80, upI (m.2 80) jj (-1))]) 268 80 (m.2 80) rfl rfl rfl (by omega) (show jj < (540 : Int) by omega) (show (m9.2 80) = (m.2 80) from (fr2 Fm9 80 rfl)) rfl ?_
        have hAr : ar ((m.2 80) jj) ≤ 1 + lh (m.2 79) (m.2 80) (m.1 73) := by omega
        have hCk : CNk ((m.2 80) jj) (m.1 69) := by refine ⟨?_, ?_, ?_, ?_⟩ <;> omega
        refine T_ld 269 (.ref 189) rfl (fun _ => rfl) ?_
        refine T_ld 271 (.int (i32 ((m.2 80) jj))) rfl (fun _ => rfl) ?_
        refine T_ld 272 (.int (i32 v8)) rfl (fun _ => rfl) ?_
        refine T_ld 274 (.int (i32 (m.1 69))) rfl (fun _ => rfl) ?_
        refine T_ld 275 (.long (i64 0)) rfl (fun _ => rfl) ?_
        refine T_call 278 248 [.ref 189, .int (i32 ((m.2 80) jj)), .int (i32 v8), .int (i32 (m.1 69)), .long (i64 0)] [] rfl (fun _ => rfl) rfl (c_node w (mO m9 [] [(80, upI (m.2 80) jj (-1))]) c N D (by omega) (Ty_mO Tm9 rfl rfl trivial ⟨G17, trivial⟩) ((m.2 80) jj) v8 (m.1 69) 0 B (1 + lh (m.2 79) (m.2 80) (m.1 73)) (r32 (by omega) (by omega)) (r32 (by omega) (by omega)) (r32 (by omega) (by omega)) ⟨by decide, by decide⟩ (fun _ => ⟨(show 0 ≤ ((m.2 80) jj) ∧ ((m.2 80) jj) ≤ 408 by first | omega | decide), (show 0 ≤ v8 ∧ v8 ≤ 64 by first | omega | decide), (show 0 ≤ (m.1 69) ∧ (m.1 69) ≤ 191 by first | omega | decide), (show CNk ((m.2 80) jj) (m.1 69) by first | exact hCk | (refine ⟨?_, ?_, ?_, ?_⟩ <;> omega)), (show ar ((m.2 80) jj) ≤ (1 + lh (m.2 79) (m.2 80) (m.1 73)) by first | exact hAr | omega), (show EX (m9.2 65) (m9.2 67) B (m9.1 28) (1 + lh (m.2 79) (m.2 80) (m.1 73)) by rewrite [(show (m9.2 65) = (m.2 65) from (fr2 Fm9 65 rfl)), (show (m9.2 67) = (m.2 67) from (fr2 Fm9 67 rfl)), (show (m9.1 28) = (m.1 28) from (fr1 Fm9 28 rfl))]; first | exact hEX | assumption)⟩)) (fun rr18 k19 => ?_)
        obtain ⟨m20, Tm20, Fm20, h21, c22, rfl⟩ := k19
        refine ⟨_, _, rfl, ?_⟩
        refine T_nb (st' := []) rfl ?_
        have g23 : 0 ≤ m20.1 10 ∧ m20.1 10 ≤ 8 := Tm20.1 10
        have g24 : 0 ≤ m20.1 28 ∧ m20.1 28 ≤ 800 := Tm20.1 28
        by_cases hf25 : (m20.1 10) = 0
        · skip
          replace h21 : (m9.1 10) = 0 := h21 hf25
          obtain ⟨c26, c27, c28⟩ := c22 hf25
          replace c26 : (m20.1 28) = (m9.1 28) + 1 := c26
          rewrite [(show (m9.1 28) = (m.1 28) from (fr1 Fm9 28 rfl))] at c26
          replace c27 : EX (m20.2 65) (m20.2 67) B (m20.1 28) ((1 + lh (m.2 79) (m.2 80) (m.1 73)) + 1 - ar ((m.2 80) jj)) := c27
          have hEX := c27
          replace c28 : agr (m9.2 65) (m20.2 65) (m9.1 28) := c28
          rewrite [(show (m9.2 65) = (m.2 65) from (fr2 Fm9 65 rfl)), (show (m9.1 28) = (m.1 28) from (fr1 Fm9 28 rfl))] at c28
          have hAg := c28
          clear c22
          clear q13_10 h21
          have hXE : XS (m20.2 65) (m20.2 67) (m.2 76) (m.2 78) (m.2 79) (upI (m.2 80) jj (-1)) B (m20.1 28) (m.1 73) (m.1 74) 1 := XS_of (XS_ws (x := -1) (U' := 1) hXS (by omega) (by omega) (by omega) (by rw [if_neg (by omega)]; have := cn1_0 (m.2 80) jj; omega)) hEX (by omega)
          refine T_ld 279 (.ref 189) rfl (fun _ => rfl) ?_
          refine T_ld 280 (.int (i32 v8)) rfl (fun _ => rfl) ?_
          refine T_ld 281 (.int (i32 ((m.2 82) jj))) rfl (fun _ => rfl) ?_
          refine T_call 284 250 [.ref 189, .int (i32 v8), .int (i32 ((m.2 82) jj))] [] rfl (fun _ => rfl) rfl (c_unit w (mO m20 [] []) c N D (by omega) Tm20 v8 ((m.2 82) jj) (r32 (by omega) (by omega)) (r32 (by omega) (by omega)) (show 0 ≤ v8 ∧ v8 ≤ 1024 by omega) (show 0 ≤ ((m.2 82) jj) ∧ ((m.2 82) jj) ≤ 4000 by omega)) (fun rr29 k30 => ?_)
          obtain ⟨m31, Tm31, Fm31, h32, rfl⟩ := k30
          refine ⟨_, _, rfl, ?_⟩
          refine T_nb (st' := []) rfl ?_
          have g33 : 0 ≤ m31.1 69 ∧ m31.1 69 ≤ 1024 := Tm31.1 69
          have g34 : 0 ≤ m31.1 70 ∧ m31.1 70 ≤ 4000 := Tm31.1 70
          have g35 : 0 ≤ m31.1 71 ∧ m31.1 71 ≤ 1 := Tm31.1 71
          have g36 : (-9223372036854775808) ≤ m31.1 72 ∧ m31.1 72 ≤ 9223372036854775807 := Tm31.1 72
          replace h32 : (m31.1 69) = v8 := h32
          refine T_ret rfl (fun _ => rfl) ?_
          exact ⟨(mO m31 [] []), Tm31, (fr_m (fr_s Fm31 (fr_m (fr_s Fm20 (fr_m (fr_s Fm9 (fr_m fr_0 rfl rfl) rfl rfl) rfl rfl) rfl rfl) rfl rfl) rfl rfl) rfl rfl), (show (m31.1 10) = 0 → (m.1 10) = 0 by rewrite [(show (m31.1 10) = (m20.1 10) from (fr1 Fm31 10 rfl))]; omega), (show (m31.1 69) ≤ (m.1 69) + 64 by omega), (fun _ => ⟨(show (m31.1 69) ≤ 64 by omega), (show (m31.1 28) = (m.1 28) + 1 by rewrite [(show (m31.1 28) = (m20.1 28) from (fr1 Fm31 28 rfl))]; omega), (show XS (m31.2 65) (m31.2 67) (m.2 76) (m.2 78) (m.2 79) (m31.2 80) B (m31.1 28) (m.1 73) (m.1 74) 1 by rewrite [(show (m31.2 65) = (m20.2 65) from (fr2 Fm31 65 rfl)), (show (m31.2 67) = (m20.2 67) from (fr2 Fm31 67 rfl)), (show (m31.2 80) = (upI (m.2 80) jj (-1)) from ((fr2 Fm31 80 rfl).trans (fr2 Fm20 80 rfl))), (show (m31.1 28) = (m20.1 28) from (fr1 Fm31 28 rfl))]; first | (exact hXE) | (exfalso; omega)), (show agr (m.2 65) (m31.2 65) (m.1 28) by rewrite [(show (m31.2 65) = (m20.2 65) from (fr2 Fm31 65 rfl))]; first | (exact hAg) | (exfalso; omega)), (show (m31.2 80) = upI (m.2 80) jj (-1) by rewrite [(show (m31.2 80) = (upI (m.2 80) jj (-1)) from ((fr2 Fm31 80 rfl).trans (fr2 Fm20 80 rfl)))]; rfl)⟩), rfl⟩
        · skip
          clear c22
          clear h21
          have hf37 : 1 ≤ (m20.1 10) := by omega
          clear q13_10
          refine T_ld 279 (.ref 189) rfl (fun _ => rfl) ?_
          refine T_ld 280 (.int (i32 v8)) rfl (fun _ => rfl) ?_
          refine T_ld 281 (.int (i32 ((m.2 82) jj))) rfl (fun _ => rfl) ?_
          refine T_call 284 250 [.ref 189, .int (i32 v8), .int (i32 ((m.2 82) jj))] [] rfl (fun _ => rfl) rfl (c_unit w (mO m20 [] []) c N D (by omega) Tm20 v8 ((m.2 82) jj) (r32 (by omega) (by omega)) (r32 (by omega) (by omega)) (show 0 ≤ v8 ∧ v8 ≤ 1024 by omega) (show 0 ≤ ((m.2 82) jj) ∧ ((m.2 82) jj) ≤ 4000 by omega)) (fun rr38 k39 => ?_)
          obtain ⟨m40, Tm40, Fm40, h41, rfl⟩ := k39
          refine ⟨_, _, rfl, ?_⟩
          refine T_nb (st' := []) rfl ?_
          have g42 : 0 ≤ m40.1 69 ∧ m40.1 69 ≤ 1024 := Tm40.1 69
          have g43 : 0 ≤ m40.1 70 ∧ m40.1 70 ≤ 4000 := Tm40.1 70
          have g44 : 0 ≤ m40.1 71 ∧ m40.1 71 ≤ 1 := Tm40.1 71
          have g45 : (-9223372036854775808) ≤ m40.1 72 ∧ m40.1 72 ≤ 9223372036854775807 := Tm40.1 72
          replace h41 : (m40.1 69) = v8 := h41
          refine T_ret rfl (fun _ => rfl) ?_
          exact ⟨(mO m40 [] []), Tm40, (fr_m (fr_s Fm40 (fr_m (fr_s Fm20 (fr_m (fr_s Fm9 (fr_m fr_0 rfl rfl) rfl rfl) rfl rfl) rfl rfl) rfl rfl) rfl rfl) rfl rfl), (show (m40.1 10) = 0 → (m.1 10) = 0 by rewrite [(show (m40.1 10) = (m20.1 10) from (fr1 Fm40 10 rfl))]; omega), (show (m40.1 69) ≤ (m.1 69) + 64 by omega), (fun (h : (m40.1 10) = 0) => absurd ((show (m40.1 10) = (m20.1 10) from (fr1 Fm40 10 rfl)).symm.trans h) (by omega)), rfl⟩
      · skip
        clear c14
        have hf46 : 1 ≤ (m9.1 10) := by omega
        refine T_gf 265 (.ref 242) rfl rfl rfl rfl rfl rfl ?_
        refine T_ld 266 (.int (i32 jj)) rfl (fun _ => rfl) ?_
        refine T_ld 267 (.int (i32 (-1))) rfl (fun _ => rfl) ?_
        have G47 : ∀ j, (-1) ≤ (upI (m.2 80) jj (-1)) j ∧ (upI (m.2 80) jj (-1)) j ≤ 330 := upI_rg (hT.2.1 80) ⟨by omega, by omega⟩
        refine T_iast (a' := [(80, upI (m.2 80) jj (-1))]) 268 80 (m.2 80) rfl rfl rfl (by omega) (show jj < (540 : Int) by omega) (show (m9.2 80) = (m.2 80) from (fr2 Fm9 80 rfl)) rfl ?_
        refine T_ld 269 (.ref 189) rfl (fun _ => rfl) ?_
        refine T_ld 271 (.int (i32 ((m.2 80) jj))) rfl (fun _ => rfl) ?_
        refine T_ld 272 (.int (i32 v8)) rfl (fun _ => rfl) ?_
        refine T_ld 274 (.int (i32 (m.1 69))) rfl (fun _ => rfl) ?_
        refine T_ld 275 (.long (i64 0)) rfl (fun _ => rfl) ?_
        refine T_call 278 248 [.ref 189, .int (i32 ((m.2 80) jj)), .int (i32 v8), .int (i32 (m.1 69)), .long (i64 0)] [] rfl (fun _ => rfl) rfl (c_node w (mO m9 [] [(80, upI (m.2 80) jj (-1))]) c N D (by omega) (Ty_mO Tm9 rfl rfl trivial ⟨G47, trivial⟩) ((m.2 80) jj) v8 (m.1 69) 0 B (1 + lh (m.2 79) (m.2 80) (m.1 73)) (r32 (by omega) (by omega)) (r32 (by omega) (by omega)) (r32 (by omega) (by omega)) ⟨by decide, by decide⟩ (fun (h : (m9.1 10) = 0) => absurd h (by omega))) (fun rr48 k49 => ?_)
        obtain ⟨m50, Tm50, Fm50, h51, c52, rfl⟩ := k49
        refine ⟨_, _, rfl, ?_⟩
        refine T_nb (st' := []) rfl ?_
        have g53 : 0 ≤ m50.1 10 ∧ m50.1 10 ≤ 8 := Tm50.1 10
        have g54 : 0 ≤ m50.1 28 ∧ m50.1 28 ≤ 800 := Tm50.1 28
        replace h51 : (m50.1 10) = 0 → (m9.1 10) = 0 := h51
        have hf55 : 1 ≤ (m50.1 10) := by omega
        clear c52
        clear h51
        clear q13_10 hf46
        refine T_ld 279 (.ref 189) rfl (fun _ => rfl) ?_
        refine T_ld 280 (.int (i32 v8)) rfl (fun _ => rfl) ?_
        refine T_ld 281 (.int (i32 ((m.2 82) jj))) rfl (fun _ => rfl) ?_
        refine T_call 284 250 [.ref 189, .int (i32 v8), .int (i32 ((m.2 82) jj))] [] rfl (fun _ => rfl) rfl (c_unit w (mO m50 [] []) c N D (by omega) Tm50 v8 ((m.2 82) jj) (r32 (by omega) (by omega)) (r32 (by omega) (by omega)) (show 0 ≤ v8 ∧ v8 ≤ 1024 by omega) (show 0 ≤ ((m.2 82) jj) ∧ ((m.2 82) jj) ≤ 4000 by omega)) (fun rr56 k57 => ?_)
        obtain ⟨m58, Tm58, Fm58, h59, rfl⟩ := k57
        refine ⟨_, _, rfl, ?_⟩
        refine T_nb (st' := []) rfl ?_
        have g60 : 0 ≤ m58.1 69 ∧ m58.1 69 ≤ 1024 := Tm58.1 69
        have g61 : 0 ≤ m58.1 70 ∧ m58.1 70 ≤ 4000 := Tm58.1 70
        have g62 : 0 ≤ m58.1 71 ∧ m58.1 71 ≤ 1 := Tm58.1 71
        have g63 : (-9223372036854775808) ≤ m58.1 72 ∧ m58.1 72 ≤ 9223372036854775807 := Tm58.1 72
        replace h59 : (m58.1 69) = v8 := h59
        refine T_ret rfl (fun _ => rfl) ?_
        exact ⟨(mO m58 [] []), Tm58, (fr_m (fr_s Fm58 (fr_m (fr_s Fm50 (fr_m (fr_s Fm9 (fr_m fr_0 rfl rfl) rfl rfl) rfl rfl) rfl rfl) rfl rfl) rfl rfl) rfl rfl), (show (m58.1 10) = 0 → (m.1 10) = 0 by rewrite [(show (m58.1 10) = (m50.1 10) from (fr1 Fm58 10 rfl))]; omega), (show (m58.1 69) ≤ (m.1 69) + 64 by omega), (fun (h : (m58.1 10) = 0) => absurd ((show (m58.1 10) = (m50.1 10) from (fr1 Fm58 10 rfl)).symm.trans h) (by omega)), rfl⟩
    refine T_gf 32 (.ref 242) rfl rfl rfl rfl rfl rfl ?_
    refine T_ld 33 (.int (i32 jj)) rfl (fun _ => rfl) ?_
    refine T_iald 34 80 (m.2 80) rfl rfl rfl (by omega) (show jj < (540 : Int) by omega) rfl ?_
    have e64 : (-1) ≤ (m.2 80) jj ∧ (m.2 80) jj ≤ 330 := (hT.2.1 80) jj
    refine T_call 37 259 [.int (i32 ((m.2 80) jj))] [] rfl (fun _ => rfl) rfl (c_level w (mO m [] []) c N D (by omega) hT ((m.2 80) jj) (r32 (by omega) (by omega))) (fun rr65 k66 => ?_)
    obtain ⟨x67, g68, h69, rfl⟩ := k66
    refine ⟨_, _, rfl, ?_⟩
    refine T_ns (st' := [.int (i32 x67)]) rfl ?_
    obtain ⟨g68a, g68b⟩ := g68
    replace h69 : 0 ≤ x67 → 4 ≤ ((m.2 80) jj) ∧ ((m.2 80) jj) ≤ 124 := h69
    have T88_70 : (x67 = 0 ∨ x67 = 1) → TT w D pm_260 (88, [(5, .int (i32 (m.1 69))), (4, .int (i32 ((m.2 80) jj))), (3, .int (i32 ((m.2 82) jj))), (2, .int (i32 ((m.2 81) jj))), (0, .ref 189), (1, .int (i32 jj))], [], (mhp (mO m [] []) c, N), 0, 0) (Q_join m c N jj B) := by
      intro ht71
      refine T_ld 89 (.ref 189) rfl (fun _ => rfl) ?_
      refine T_ld 90 (.int (i32 ((m.2 81) jj))) rfl (fun _ => rfl) ?_
      refine T_gf 94 (.ref 245) rfl rfl rfl rfl rfl rfl ?_
      refine T_ld 95 (.int (i32 jj)) rfl (fun _ => rfl) ?_
      refine T_bald 96 83 (m.2 83) rfl rfl rfl (by omega) (show jj < (540 : Int) by omega) rfl ?_
      have e72 : 0 ≤ m.2 83 jj ∧ m.2 83 jj ≤ 1 := hT.2.1 83 jj
      refine T_gf 100 (.ref 246) rfl rfl rfl rfl rfl rfl ?_
      refine T_ld 101 (.int (i32 jj)) rfl (fun _ => rfl) ?_
      refine T_lald 102 84 (m.2 84) rfl rfl rfl (by omega) (show jj < (540 : Int) by omega) rfl ?_
      have e73 : (-9223372036854775808) ≤ m.2 84 jj ∧ m.2 84 jj ≤ 9223372036854775807 := hT.2.1 84 jj
      refine T_ld 103 (.int (i32 ((m.2 82) jj))) rfl (fun _ => rfl) ?_
      refine T_call 106 258 [.ref 189, .int (i32 ((m.2 81) jj)), .int (i32 ((m.2 83) jj)), .long (i64 ((m.2 84) jj)), .int (i32 ((m.2 82) jj))] [] rfl (fun _ => rfl) rfl (c_wantBit w (mO m [] []) c N D (by omega) hT ((m.2 81) jj) ((m.2 83) jj) ((m.2 84) jj) ((m.2 82) jj) (r32 (by omega) (by omega)) (r32 (by omega) (by omega)) (r64 (by omega) (by omega)) (r32 (by omega) (by omega)) (show 0 ≤ ((m.2 82) jj) ∧ ((m.2 82) jj) ≤ 4000 by omega) (fun _ => trivial)) (fun rr74 k75 => ?_)
      obtain ⟨m76, Tm76, Fm76, h77, c78, rfl⟩ := k75
      refine ⟨_, _, rfl, ?_⟩
      refine T_nb (st' := []) rfl ?_
      have g79 : 0 ≤ m76.1 10 ∧ m76.1 10 ≤ 8 := Tm76.1 10
      by_cases hf80 : (m76.1 10) = 0
      · skip
        replace h77 : (m.1 10) = 0 := h77 hf80
        clear c78
        clear g68a g68b h69
        refine T_ld 107 (.ref 189) rfl (fun _ => rfl) ?_
        refine T_gf 111 (.int (i32 (m.1 69))) rfl rfl rfl rfl (mfv_c (F := fun x => .int (i32 x)) rfl (show (m76.1 69) = (m.1 69) from (fr1 Fm76 69 rfl))) rfl ?_
        refine T_gf 115 (.int (i32 (m.1 71))) rfl rfl rfl rfl (mfv_c (F := fun x => .int (i32 x)) rfl (show (m76.1 71) = (m.1 71) from (fr1 Fm76 71 rfl))) rfl ?_
        refine T_gf 119 (.long (i64 (m.1 72))) rfl rfl rfl rfl (mfv_c (F := fun x => .long (i64 x)) rfl (show (m76.1 72) = (m.1 72) from (fr1 Fm76 72 rfl))) rfl ?_
        refine T_gf 123 (.int (i32 (m.1 70))) rfl rfl rfl rfl (mfv_c (F := fun x => .int (i32 x)) rfl (show (m76.1 70) = (m.1 70) from (fr1 Fm76 70 rfl))) rfl ?_
        refine T_call 126 258 [.ref 189, .int (i32 (m.1 69)), .int (i32 (m.1 71)), .long (i64 (m.1 72)), .int (i32 (m.1 70))] [] rfl (fun _ => rfl) rfl (c_wantBit w (mO m76 [] []) c N D (by omega) Tm76 (m.1 69) (m.1 71) (m.1 72) (m.1 70) (r32 (by omega) (by omega)) (r32 (by omega) (by omega)) (r64 (by omega) (by omega)) (r32 (by omega) (by omega)) (show 0 ≤ (m.1 70) ∧ (m.1 70) ≤ 4000 by omega) (fun _ => trivial)) (fun rr81 k82 => ?_)
        obtain ⟨m83, Tm83, Fm83, h84, c85, rfl⟩ := k82
        refine ⟨_, _, rfl, ?_⟩
        refine T_nb (st' := []) rfl ?_
        have g86 : 0 ≤ m83.1 10 ∧ m83.1 10 ≤ 8 := Tm83.1 10
        by_cases hf87 : (m83.1 10) = 0
        · skip
          replace h84 : (m76.1 10) = 0 := h84 hf87
          clear c85
          clear g79 h84
          refine T_ld 127 (.int (i32 1)) rfl (fun _ => rfl) ?_
          refine T_sto 128 [(2, .int (i32 1)), (5, .int (i32 (m.1 69))), (4, .int (i32 ((m.2 80) jj))), (3, .int (i32 ((m.2 82) jj))), (0, .ref 189), (1, .int (i32 jj))] rfl (fun _ => rfl) ?_
          refine T_goto 261 rfl (fun _ => rfl) ?_
          refine Tm_lv (a := [(0, .ref 189), (1, .int (i32 jj)), (2, .int (i32 1)), (3, .int (i32 ((m.2 82) jj))), (4, .int (i32 ((m.2 80) jj))), (5, .int (i32 (m.1 69)))]) rfl rfl ⟨rfl, rfl, rfl, rfl, rfl, rfl, trivial⟩ ?_
          exact J261_10 1 (mO m83 [] []) ⟨by decide, by decide⟩ Tm83 (fr_m (fr_s Fm83 (fr_m (fr_s Fm76 (fr_m fr_0 rfl rfl) rfl rfl) rfl rfl) rfl rfl) rfl rfl) (show 0 ≤ (1 : Int) ∧ (1 : Int) ≤ (m.1 69) + 64 by omega) (fun _ => (show (1 : Int) ≤ 64 by omega))
        · skip
          clear c85
          clear h84
          have hf88 : 1 ≤ (m83.1 10) := by omega
          clear g79
          refine T_ld 127 (.int (i32 1)) rfl (fun _ => rfl) ?_
          refine T_sto 128 [(2, .int (i32 1)), (5, .int (i32 (m.1 69))), (4, .int (i32 ((m.2 80) jj))), (3, .int (i32 ((m.2 82) jj))), (0, .ref 189), (1, .int (i32 jj))] rfl (fun _ => rfl) ?_
          refine T_goto 261 rfl (fun _ => rfl) ?_
          refine Tm_lv (a := [(0, .ref 189), (1, .int (i32 jj)), (2, .int (i32 1)), (3, .int (i32 ((m.2 82) jj))), (4, .int (i32 ((m.2 80) jj))), (5, .int (i32 (m.1 69)))]) rfl rfl ⟨rfl, rfl, rfl, rfl, rfl, rfl, trivial⟩ ?_
          exact J261_10 1 (mO m83 [] []) ⟨by decide, by decide⟩ Tm83 (fr_m (fr_s Fm83 (fr_m (fr_s Fm76 (fr_m fr_0 rfl rfl) rfl rfl) rfl rfl) rfl rfl) rfl rfl) (show 0 ≤ (1 : Int) ∧ (1 : Int) ≤ (m.1 69) + 64 by omega) (fun (h : (m83.1 10) = 0) => absurd h (by omega))
      · skip
        clear c78
        clear h77
        have hf89 : 1 ≤ (m76.1 10) := by omega
        clear g68a g68b h69
        refine T_ld 107 (.ref 189) rfl (fun _ => rfl) ?_
        refine T_gf 111 (.int (i32 (m.1 69))) rfl rfl rfl rfl (mfv_c (F := fun x => .int (i32 x)) rfl (show (m76.1 69) = (m.1 69) from (fr1 Fm76 69 rfl))) rfl ?_
        refine T_gf 115 (.int (i32 (m.1 71))) rfl rfl rfl rfl (mfv_c (F := fun x => .int (i32 x)) rfl (show (m76.1 71) = (m.1 71) from (fr1 Fm76 71 rfl))) rfl ?_
        refine T_gf 119 (.long (i64 (m.1 72))) rfl rfl rfl rfl (mfv_c (F := fun x => .long (i64 x)) rfl (show (m76.1 72) = (m.1 72) from (fr1 Fm76 72 rfl))) rfl ?_
        refine T_gf 123 (.int (i32 (m.1 70))) rfl rfl rfl rfl (mfv_c (F := fun x => .int (i32 x)) rfl (show (m76.1 70) = (m.1 70) from (fr1 Fm76 70 rfl))) rfl ?_
        refine T_call 126 258 [.ref 189, .int (i32 (m.1 69)), .int (i32 (m.1 71)), .long (i64 (m.1 72)), .int (i32 (m.1 70))] [] rfl (fun _ => rfl) rfl (c_wantBit w (mO m76 [] []) c N D (by omega) Tm76 (m.1 69) (m.1 71) (m.1 72) (m.1 70) (r32 (by omega) (by omega)) (r32 (by omega) (by omega)) (r64 (by omega) (by omega)) (r32 (by omega) (by omega)) (show 0 ≤ (m.1 70) ∧ (m.1 70) ≤ 4000 by omega) (fun (h : (m76.1 10) = 0) => absurd h (by omega))) (fun rr90 k91 => ?_)
        obtain ⟨m92, Tm92, Fm92, h93, c94, rfl⟩ := k91
        refine ⟨_, _, rfl, ?_⟩
        refine T_nb (st' := []) rfl ?_
        have g95 : 0 ≤ m92.1 10 ∧ m92.1 10 ≤ 8 := Tm92.1 10
        replace h93 : (m92.1 10) = 0 → (m76.1 10) = 0 := h93
        have hf96 : 1 ≤ (m92.1 10) := by omega
        clear c94
        clear h93
        clear g79 hf89
        refine T_ld 127 (.int (i32 1)) rfl (fun _ => rfl) ?_
        refine T_sto 128 [(2, .int (i32 1)), (5, .int (i32 (m.1 69))), (4, .int (i32 ((m.2 80) jj))), (3, .int (i32 ((m.2 82) jj))), (0, .ref 189), (1, .int (i32 jj))] rfl (fun _ => rfl) ?_
        refine T_goto 261 rfl (fun _ => rfl) ?_
        refine Tm_lv (a := [(0, .ref 189), (1, .int (i32 jj)), (2, .int (i32 1)), (3, .int (i32 ((m.2 82) jj))), (4, .int (i32 ((m.2 80) jj))), (5, .int (i32 (m.1 69)))]) rfl rfl ⟨rfl, rfl, rfl, rfl, rfl, rfl, trivial⟩ ?_
        exact J261_10 1 (mO m92 [] []) ⟨by decide, by decide⟩ Tm92 (fr_m (fr_s Fm92 (fr_m (fr_s Fm76 (fr_m fr_0 rfl rfl) rfl rfl) rfl rfl) rfl rfl) rfl rfl) (show 0 ≤ (1 : Int) ∧ (1 : Int) ≤ (m.1 69) + 64 by omega) (fun (h : (m92.1 10) = 0) => absurd h (by omega))
    have T207_97 : TT w D pm_260 (207, [(5, .int (i32 (m.1 69))), (4, .int (i32 ((m.2 80) jj))), (3, .int (i32 ((m.2 82) jj))), (2, .int (i32 ((m.2 81) jj))), (0, .ref 189), (1, .int (i32 jj))], [], (mhp (mO m [] []) c, N), 0, 0) (Q_join m c N jj B) := by
      refine T_ld 208 (.ref 189) rfl (fun _ => rfl) ?_
      refine T_ld 209 (.int (i32 ((m.2 81) jj))) rfl (fun _ => rfl) ?_
      refine T_gf 213 (.ref 245) rfl rfl rfl rfl rfl rfl ?_
      refine T_ld 214 (.int (i32 jj)) rfl (fun _ => rfl) ?_
      refine T_bald 215 83 (m.2 83) rfl rfl rfl (by omega) (show jj < (540 : Int) by omega) rfl ?_
      have e99 : 0 ≤ m.2 83 jj ∧ m.2 83 jj ≤ 1 := hT.2.1 83 jj
      refine T_gf 219 (.ref 246) rfl rfl rfl rfl rfl rfl ?_
      refine T_ld 220 (.int (i32 jj)) rfl (fun _ => rfl) ?_
      refine T_lald 221 84 (m.2 84) rfl rfl rfl (by omega) (show jj < (540 : Int) by omega) rfl ?_
      have e100 : (-9223372036854775808) ≤ m.2 84 jj ∧ m.2 84 jj ≤ 9223372036854775807 := hT.2.1 84 jj
      refine T_ld 222 (.int (i32 ((m.2 82) jj))) rfl (fun _ => rfl) ?_
      refine T_gf 226 (.int (i32 (m.1 69))) rfl rfl rfl rfl rfl rfl ?_
      refine T_gf 230 (.int (i32 (m.1 71))) rfl rfl rfl rfl rfl rfl ?_
      refine T_gf 234 (.long (i64 (m.1 72))) rfl rfl rfl rfl rfl rfl ?_
      refine T_gf 238 (.int (i32 (m.1 70))) rfl rfl rfl rfl rfl rfl ?_
      refine T_call 241 261 [.ref 189, .int (i32 ((m.2 81) jj)), .int (i32 ((m.2 83) jj)), .long (i64 ((m.2 84) jj)), .int (i32 ((m.2 82) jj)), .int (i32 (m.1 69)), .int (i32 (m.1 71)), .long (i64 (m.1 72)), .int (i32 (m.1 70))] [] rfl (fun _ => rfl) rfl (c_common w (mO m [] []) c N D (by omega) hT ((m.2 81) jj) ((m.2 83) jj) ((m.2 84) jj) ((m.2 82) jj) (m.1 69) (m.1 71) (m.1 72) (m.1 70) (r32 (by omega) (by omega)) (r32 (by omega) (by omega)) (r64 (by omega) (by omega)) (r32 (by omega) (by omega)) (r32 (by omega) (by omega)) (r32 (by omega) (by omega)) (r64 (by omega) (by omega)) (r32 (by omega) (by omega)) (show 0 ≤ ((m.2 82) jj) ∧ ((m.2 82) jj) ≤ 4000 by omega) (show 0 ≤ (m.1 70) ∧ (m.1 70) ≤ 4000 by omega) (show 0 ≤ ((m.2 81) jj) ∧ ((m.2 81) jj) ≤ 1024 by omega) (show 0 ≤ (m.1 69) ∧ (m.1 69) ≤ 1024 by omega) (fun _ => trivial)) (fun rr101 k102 => ?_)
      obtain ⟨m103, x104, Tm103, Fm103, g105, h106, h107, c108, rfl⟩ := k102
      refine ⟨_, _, rfl, ?_⟩
      refine T_nb (st' := [.int (i32 x104)]) rfl ?_
      obtain ⟨g105a, g105b⟩ := g105
      have g109 : 0 ≤ m103.1 10 ∧ m103.1 10 ≤ 8 := Tm103.1 10
      by_cases hf110 : (m103.1 10) = 0
      · skip
        replace h106 : (m.1 10) = 0 := h106 hf110
        replace h107 : x104 = 64 ∨ x104 = ((m.2 81) jj) ∨ x104 = (m.1 69) := h107
        clear c108
        clear g68a g68b h69
        refine T_sto 242 [(2, .int (i32 x104)), (5, .int (i32 (m.1 69))), (4, .int (i32 ((m.2 80) jj))), (3, .int (i32 ((m.2 82) jj))), (0, .ref 189), (1, .int (i32 jj))] rfl (fun _ => rfl) ?_
        refine T_gf 246 (.ref 242) rfl rfl rfl rfl rfl rfl ?_
        refine T_ld 247 (.int (i32 jj)) rfl (fun _ => rfl) ?_
        refine T_iald 248 80 (m.2 80) rfl rfl rfl (by omega) (show jj < (540 : Int) by omega) (show (m103.2 80) = (m.2 80) from (fr2 Fm103 80 rfl)) ?_
        have e111 : (-1) ≤ (m.2 80) jj ∧ (m.2 80) jj ≤ 330 := (hT.2.1 80) jj
        refine T_call 251 259 [.int (i32 ((m.2 80) jj))] [] rfl (fun _ => rfl) rfl (c_level w (mO m103 [] []) c N D (by omega) Tm103 ((m.2 80) jj) (r32 (by omega) (by omega))) (fun rr112 k113 => ?_)
        obtain ⟨x114, g115, h116, rfl⟩ := k113
        refine ⟨_, _, rfl, ?_⟩
        refine T_ns (st' := [.int (i32 x114)]) rfl ?_
        obtain ⟨g115a, g115b⟩ := g115
        replace h116 : 0 ≤ x114 → 4 ≤ ((m.2 80) jj) ∧ ((m.2 80) jj) ≤ 124 := h116
        refine T_ld 252 (.int (i32 2)) rfl (fun _ => rfl) ?_
        refine T_icmp 259 255 rfl rfl rfl (r32 (by omega) (by omega)) ⟨by decide, by decide⟩ (fun (h117 : x114 ≠ 2) => ?_) (fun (h117 : ¬ (x114 ≠ 2)) => ?_)
        · skip
          refine T_ld 260 (.int (i32 x104)) rfl (fun _ => rfl) ?_
          refine T_sto 261 [(2, .int (i32 x104)), (5, .int (i32 (m.1 69))), (4, .int (i32 ((m.2 80) jj))), (3, .int (i32 ((m.2 82) jj))), (0, .ref 189), (1, .int (i32 jj))] rfl (fun _ => rfl) ?_
          refine Tm_lv (a := [(0, .ref 189), (1, .int (i32 jj)), (2, .int (i32 x104)), (3, .int (i32 ((m.2 82) jj))), (4, .int (i32 ((m.2 80) jj))), (5, .int (i32 (m.1 69)))]) rfl rfl ⟨rfl, rfl, rfl, rfl, rfl, rfl, trivial⟩ ?_
          exact J261_10 x104 (mO m103 [] []) (r32 (by omega) (by omega)) Tm103 (fr_m (fr_s Fm103 (fr_m fr_0 rfl rfl) rfl rfl) rfl rfl) (show 0 ≤ x104 ∧ x104 ≤ (m.1 69) + 64 by omega) (fun _ => (show x104 ≤ 64 by omega))
        · skip
          refine T_ld 256 (.int (i32 1)) rfl (fun _ => rfl) ?_
          refine T_goto 260 rfl (fun _ => rfl) ?_
          refine T_sto 261 [(2, .int (i32 1)), (5, .int (i32 (m.1 69))), (4, .int (i32 ((m.2 80) jj))), (3, .int (i32 ((m.2 82) jj))), (0, .ref 189), (1, .int (i32 jj))] rfl (fun _ => rfl) ?_
          refine Tm_lv (a := [(0, .ref 189), (1, .int (i32 jj)), (2, .int (i32 1)), (3, .int (i32 ((m.2 82) jj))), (4, .int (i32 ((m.2 80) jj))), (5, .int (i32 (m.1 69)))]) rfl rfl ⟨rfl, rfl, rfl, rfl, rfl, rfl, trivial⟩ ?_
          exact J261_10 1 (mO m103 [] []) ⟨by decide, by decide⟩ Tm103 (fr_m (fr_s Fm103 (fr_m fr_0 rfl rfl) rfl rfl) rfl rfl) (show 0 ≤ (1 : Int) ∧ (1 : Int) ≤ (m.1 69) + 64 by omega) (fun _ => (show (1 : Int) ≤ 64 by omega))
      · skip
        clear c108
        clear h106
        replace h107 : x104 = 64 ∨ x104 = ((m.2 81) jj) ∨ x104 = (m.1 69) := h107
        have hf118 : 1 ≤ (m103.1 10) := by omega
        clear g68a g68b h69
        refine T_sto 242 [(2, .int (i32 x104)), (5, .int (i32 (m.1 69))), (4, .int (i32 ((m.2 80) jj))), (3, .int (i32 ((m.2 82) jj))), (0, .ref 189), (1, .int (i32 jj))] rfl (fun _ => rfl) ?_
        refine T_gf 246 (.ref 242) rfl rfl rfl rfl rfl rfl ?_
        refine T_ld 247 (.int (i32 jj)) rfl (fun _ => rfl) ?_
        refine T_iald 248 80 (m.2 80) rfl rfl rfl (by omega) (show jj < (540 : Int) by omega) (show (m103.2 80) = (m.2 80) from (fr2 Fm103 80 rfl)) ?_
        have e119 : (-1) ≤ (m.2 80) jj ∧ (m.2 80) jj ≤ 330 := (hT.2.1 80) jj
        refine T_call 251 259 [.int (i32 ((m.2 80) jj))] [] rfl (fun _ => rfl) rfl (c_level w (mO m103 [] []) c N D (by omega) Tm103 ((m.2 80) jj) (r32 (by omega) (by omega))) (fun rr120 k121 => ?_)
        obtain ⟨x122, g123, h124, rfl⟩ := k121
        refine ⟨_, _, rfl, ?_⟩
        refine T_ns (st' := [.int (i32 x122)]) rfl ?_
        obtain ⟨g123a, g123b⟩ := g123
        replace h124 : 0 ≤ x122 → 4 ≤ ((m.2 80) jj) ∧ ((m.2 80) jj) ≤ 124 := h124
        refine T_ld 252 (.int (i32 2)) rfl (fun _ => rfl) ?_
        refine T_icmp 259 255 rfl rfl rfl (r32 (by omega) (by omega)) ⟨by decide, by decide⟩ (fun (h125 : x122 ≠ 2) => ?_) (fun (h125 : ¬ (x122 ≠ 2)) => ?_)
        · skip
          refine T_ld 260 (.int (i32 x104)) rfl (fun _ => rfl) ?_
          refine T_sto 261 [(2, .int (i32 x104)), (5, .int (i32 (m.1 69))), (4, .int (i32 ((m.2 80) jj))), (3, .int (i32 ((m.2 82) jj))), (0, .ref 189), (1, .int (i32 jj))] rfl (fun _ => rfl) ?_
          refine Tm_lv (a := [(0, .ref 189), (1, .int (i32 jj)), (2, .int (i32 x104)), (3, .int (i32 ((m.2 82) jj))), (4, .int (i32 ((m.2 80) jj))), (5, .int (i32 (m.1 69)))]) rfl rfl ⟨rfl, rfl, rfl, rfl, rfl, rfl, trivial⟩ ?_
          exact J261_10 x104 (mO m103 [] []) (r32 (by omega) (by omega)) Tm103 (fr_m (fr_s Fm103 (fr_m fr_0 rfl rfl) rfl rfl) rfl rfl) (show 0 ≤ x104 ∧ x104 ≤ (m.1 69) + 64 by omega) (fun (h : (m103.1 10) = 0) => absurd h (by omega))
        · skip
          refine T_ld 256 (.int (i32 1)) rfl (fun _ => rfl) ?_
          refine T_goto 260 rfl (fun _ => rfl) ?_
          refine T_sto 261 [(2, .int (i32 1)), (5, .int (i32 (m.1 69))), (4, .int (i32 ((m.2 80) jj))), (3, .int (i32 ((m.2 82) jj))), (0, .ref 189), (1, .int (i32 jj))] rfl (fun _ => rfl) ?_
          refine Tm_lv (a := [(0, .ref 189), (1, .int (i32 jj)), (2, .int (i32 1)), (3, .int (i32 ((m.2 82) jj))), (4, .int (i32 ((m.2 80) jj))), (5, .int (i32 (m.1 69)))]) rfl rfl ⟨rfl, rfl, rfl, rfl, rfl, rfl, trivial⟩ ?_
          exact J261_10 1 (mO m103 [] []) ⟨by decide, by decide⟩ Tm103 (fr_m (fr_s Fm103 (fr_m fr_0 rfl rfl) rfl rfl) rfl rfl) (show 0 ≤ (1 : Int) ∧ (1 : Int) ≤ (m.1 69) + 64 by omega) (fun (h : (m103.1 10) = 0) => absurd h (by omega))
    by_cases h126 : x67 = 0
    · skip
      refine T_cast 0 h126 ?_
      refine T_pop 88 rfl (fun _ => rfl) ?_
      exact T88_70 (by omega)
    by_cases h127 : x67 = 1
    · skip
      refine T_cast 1 h127 ?_
      refine T_pop 88 rfl (fun _ => rfl) ?_
      exact T88_70 (by omega)
    by_cases h128 : x67 = 6
    · skip
      refine T_cast 6 h128 ?_
      refine T_pop 131 rfl (fun _ => rfl) ?_
      refine T_goto 261 rfl (fun _ => rfl) ?_
      refine Tm_lv (a := [(0, .ref 189), (1, .int (i32 jj)), (2, .int (i32 ((m.2 81) jj))), (3, .int (i32 ((m.2 82) jj))), (4, .int (i32 ((m.2 80) jj))), (5, .int (i32 (m.1 69)))]) rfl rfl ⟨rfl, rfl, rfl, rfl, rfl, rfl, trivial⟩ ?_
      exact J261_10 ((m.2 81) jj) (mO m [] []) (r32 (by omega) (by omega)) hT (fr_m fr_0 rfl rfl) (show 0 ≤ ((m.2 81) jj) ∧ ((m.2 81) jj) ≤ (m.1 69) + 64 by omega) (fun _ => (show ((m.2 81) jj) ≤ 64 by omega))
    by_cases h129 : x67 = 8
    · skip
      refine T_cast 8 h129 ?_
      refine T_pop 134 rfl (fun _ => rfl) ?_
      refine T_ld 135 (.ref 189) rfl (fun _ => rfl) ?_
      refine T_gf 139 (.ref 245) rfl rfl rfl rfl rfl rfl ?_
      refine T_ld 140 (.int (i32 jj)) rfl (fun _ => rfl) ?_
      refine T_bald 141 83 (m.2 83) rfl rfl rfl (by omega) (show jj < (540 : Int) by omega) rfl ?_
      have e130 : 0 ≤ m.2 83 jj ∧ m.2 83 jj ≤ 1 := hT.2.1 83 jj
      refine T_if 148 144 rfl rfl rfl (r32 (by omega) (by omega)) (fun (h131 : (m.2 83) jj ≠ 0) => ?_) (fun (h131 : ¬ ((m.2 83) jj ≠ 0)) => ?_)
      · skip
        refine T_ld 149 (.int (i32 0)) rfl (fun _ => rfl) ?_
        refine T_ld 150 (.int (i32 ((m.2 82) jj))) rfl (fun _ => rfl) ?_
        refine T_call 153 256 [.ref 189, .int (i32 0), .int (i32 ((m.2 82) jj))] [] rfl (fun _ => rfl) rfl (c_want w (mO m [] []) c N D (by omega) hT 0 ((m.2 82) jj) ⟨by decide, by decide⟩ (r32 (by omega) (by omega)) (show 0 ≤ ((m.2 82) jj) ∧ ((m.2 82) jj) ≤ 4000 by omega) (fun _ => trivial)) (fun rr132 k133 => ?_)
        obtain ⟨m134, Tm134, Fm134, h135, c136, rfl⟩ := k133
        refine ⟨_, _, rfl, ?_⟩
        refine T_nb (st' := []) rfl ?_
        have g137 : 0 ≤ m134.1 10 ∧ m134.1 10 ≤ 8 := Tm134.1 10
        by_cases hf138 : (m134.1 10) = 0
        · skip
          replace h135 : (m.1 10) = 0 := h135 hf138
          have c139 := c136 hf138
          replace c139 : (0 : Int) ≠ 0 := c139
          clear c136
          clear g68a g68b h69
          refine T_ld 154 (.ref 189) rfl (fun _ => rfl) ?_
          refine T_gf 158 (.int (i32 (m.1 71))) rfl rfl rfl rfl (mfv_c (F := fun x => .int (i32 x)) rfl (show (m134.1 71) = (m.1 71) from (fr1 Fm134 71 rfl))) rfl ?_
          refine T_if 165 161 rfl rfl rfl (r32 (by omega) (by omega)) (fun (h140 : (m.1 71) ≠ 0) => ?_) (fun (h140 : ¬ ((m.1 71) ≠ 0)) => ?_)
          · skip
            refine T_ld 166 (.int (i32 0)) rfl (fun _ => rfl) ?_
            refine T_gf 170 (.int (i32 (m.1 70))) rfl rfl rfl rfl (mfv_c (F := fun x => .int (i32 x)) rfl (show (m134.1 70) = (m.1 70) from (fr1 Fm134 70 rfl))) rfl ?_
            refine T_call 173 256 [.ref 189, .int (i32 0), .int (i32 (m.1 70))] [] rfl (fun _ => rfl) rfl (c_want w (mO m134 [] []) c N D (by omega) Tm134 0 (m.1 70) ⟨by decide, by decide⟩ (r32 (by omega) (by omega)) (show 0 ≤ (m.1 70) ∧ (m.1 70) ≤ 4000 by omega) (fun _ => trivial)) (fun rr141 k142 => ?_)
            obtain ⟨m143, Tm143, Fm143, h144, c145, rfl⟩ := k142
            refine ⟨_, _, rfl, ?_⟩
            refine T_nb (st' := []) rfl ?_
            have g146 : 0 ≤ m143.1 10 ∧ m143.1 10 ≤ 8 := Tm143.1 10
            by_cases hf147 : (m143.1 10) = 0
            · skip
              replace h144 : (m134.1 10) = 0 := h144 hf147
              have c148 := c145 hf147
              replace c148 : (0 : Int) ≠ 0 := c148
              clear c145
              clear g137 h144
              refine T_ld 174 (.ref 189) rfl (fun _ => rfl) ?_
              refine T_ld 175 (.int (i32 ((m.2 81) jj))) rfl (fun _ => rfl) ?_
              refine T_gf 179 (.int (i32 (m.1 69))) rfl rfl rfl rfl (mfv_c (F := fun x => .int (i32 x)) rfl (show (m143.1 69) = (m.1 69) from ((fr1 Fm143 69 rfl).trans (fr1 Fm134 69 rfl)))) rfl ?_
              refine T_iadd 180 rfl rfl ?_
              refine T_ld 182 (.int (i32 64)) rfl (fun _ => rfl) ?_
              refine T_icmp 189 185 rfl rfl rfl (r32 (by omega) (by omega)) ⟨by decide, by decide⟩ (fun (h149 : (64 : Int) < ((m.2 81) jj) + (m.1 69)) => ?_) (fun (h149 : ¬ ((64 : Int) < ((m.2 81) jj) + (m.1 69))) => ?_)
              · skip
                refine T_ld 190 (.int (i32 0)) rfl (fun _ => rfl) ?_
                refine T_gf 194 (.int (i32 (m.1 70))) rfl rfl rfl rfl (mfv_c (F := fun x => .int (i32 x)) rfl (show (m143.1 70) = (m.1 70) from ((fr1 Fm143 70 rfl).trans (fr1 Fm134 70 rfl)))) rfl ?_
                refine T_call 197 256 [.ref 189, .int (i32 0), .int (i32 (m.1 70))] [] rfl (fun _ => rfl) rfl (c_want w (mO m143 [] []) c N D (by omega) Tm143 0 (m.1 70) ⟨by decide, by decide⟩ (r32 (by omega) (by omega)) (show 0 ≤ (m.1 70) ∧ (m.1 70) ≤ 4000 by omega) (fun _ => trivial)) (fun rr150 k151 => ?_)
                obtain ⟨m152, Tm152, Fm152, h153, c154, rfl⟩ := k151
                refine ⟨_, _, rfl, ?_⟩
                refine T_nb (st' := []) rfl ?_
                have g155 : 0 ≤ m152.1 10 ∧ m152.1 10 ≤ 8 := Tm152.1 10
                by_cases hf156 : (m152.1 10) = 0
                · skip
                  replace h153 : (m143.1 10) = 0 := h153 hf156
                  have c157 := c154 hf156
                  replace c157 : (0 : Int) ≠ 0 := c157
                  clear c154
                  clear g146 h153
                  refine T_ld 198 (.int (i32 ((m.2 81) jj))) rfl (fun _ => rfl) ?_
                  refine T_gf 202 (.int (i32 (m.1 69))) rfl rfl rfl rfl (mfv_c (F := fun x => .int (i32 x)) rfl (show (m152.1 69) = (m.1 69) from ((fr1 Fm152 69 rfl).trans ((fr1 Fm143 69 rfl).trans (fr1 Fm134 69 rfl))))) rfl ?_
                  refine T_iadd 203 rfl rfl ?_
                  refine T_sto 204 [(2, .int (i32 (((m.2 81) jj) + (m.1 69)))), (5, .int (i32 (m.1 69))), (4, .int (i32 ((m.2 80) jj))), (3, .int (i32 ((m.2 82) jj))), (0, .ref 189), (1, .int (i32 jj))] rfl (fun _ => rfl) ?_
                  refine T_goto 261 rfl (fun _ => rfl) ?_
                  refine Tm_lv (a := [(0, .ref 189), (1, .int (i32 jj)), (2, .int (i32 (((m.2 81) jj) + (m.1 69)))), (3, .int (i32 ((m.2 82) jj))), (4, .int (i32 ((m.2 80) jj))), (5, .int (i32 (m.1 69)))]) rfl rfl ⟨rfl, rfl, rfl, rfl, rfl, rfl, trivial⟩ ?_
                  exact J261_10 (((m.2 81) jj) + (m.1 69)) (mO m152 [] []) (r32 (by omega) (by omega)) Tm152 (fr_m (fr_s Fm152 (fr_m (fr_s Fm143 (fr_m (fr_s Fm134 (fr_m fr_0 rfl rfl) rfl rfl) rfl rfl) rfl rfl) rfl rfl) rfl rfl) rfl rfl) (show 0 ≤ (((m.2 81) jj) + (m.1 69)) ∧ (((m.2 81) jj) + (m.1 69)) ≤ (m.1 69) + 64 by omega) (fun _ => (show (((m.2 81) jj) + (m.1 69)) ≤ 64 by omega))
                · skip
                  clear c154
                  clear h153
                  have hf158 : 1 ≤ (m152.1 10) := by omega
                  clear g146
                  refine T_ld 198 (.int (i32 ((m.2 81) jj))) rfl (fun _ => rfl) ?_
                  refine T_gf 202 (.int (i32 (m.1 69))) rfl rfl rfl rfl (mfv_c (F := fun x => .int (i32 x)) rfl (show (m152.1 69) = (m.1 69) from ((fr1 Fm152 69 rfl).trans ((fr1 Fm143 69 rfl).trans (fr1 Fm134 69 rfl))))) rfl ?_
                  refine T_iadd 203 rfl rfl ?_
                  refine T_sto 204 [(2, .int (i32 (((m.2 81) jj) + (m.1 69)))), (5, .int (i32 (m.1 69))), (4, .int (i32 ((m.2 80) jj))), (3, .int (i32 ((m.2 82) jj))), (0, .ref 189), (1, .int (i32 jj))] rfl (fun _ => rfl) ?_
                  refine T_goto 261 rfl (fun _ => rfl) ?_
                  refine Tm_lv (a := [(0, .ref 189), (1, .int (i32 jj)), (2, .int (i32 (((m.2 81) jj) + (m.1 69)))), (3, .int (i32 ((m.2 82) jj))), (4, .int (i32 ((m.2 80) jj))), (5, .int (i32 (m.1 69)))]) rfl rfl ⟨rfl, rfl, rfl, rfl, rfl, rfl, trivial⟩ ?_
                  exact J261_10 (((m.2 81) jj) + (m.1 69)) (mO m152 [] []) (r32 (by omega) (by omega)) Tm152 (fr_m (fr_s Fm152 (fr_m (fr_s Fm143 (fr_m (fr_s Fm134 (fr_m fr_0 rfl rfl) rfl rfl) rfl rfl) rfl rfl) rfl rfl) rfl rfl) rfl rfl) (show 0 ≤ (((m.2 81) jj) + (m.1 69)) ∧ (((m.2 81) jj) + (m.1 69)) ≤ (m.1 69) + 64 by omega) (fun (h : (m152.1 10) = 0) => absurd h (by omega))
              · skip
                refine T_ld 186 (.int (i32 1)) rfl (fun _ => rfl) ?_
                refine T_goto 190 rfl (fun _ => rfl) ?_
                refine T_gf 194 (.int (i32 (m.1 70))) rfl rfl rfl rfl (mfv_c (F := fun x => .int (i32 x)) rfl (show (m143.1 70) = (m.1 70) from ((fr1 Fm143 70 rfl).trans (fr1 Fm134 70 rfl)))) rfl ?_
                refine T_call 197 256 [.ref 189, .int (i32 1), .int (i32 (m.1 70))] [] rfl (fun _ => rfl) rfl (c_want w (mO m143 [] []) c N D (by omega) Tm143 1 (m.1 70) ⟨by decide, by decide⟩ (r32 (by omega) (by omega)) (show 0 ≤ (m.1 70) ∧ (m.1 70) ≤ 4000 by omega) (fun _ => trivial)) (fun rr159 k160 => ?_)
                obtain ⟨m161, Tm161, Fm161, h162, c163, rfl⟩ := k160
                refine ⟨_, _, rfl, ?_⟩
                refine T_nb (st' := []) rfl ?_
                have g164 : 0 ≤ m161.1 10 ∧ m161.1 10 ≤ 8 := Tm161.1 10
                by_cases hf165 : (m161.1 10) = 0
                · skip
                  replace h162 : (m143.1 10) = 0 := h162 hf165
                  have c166 := c163 hf165
                  replace c166 : (1 : Int) ≠ 0 := c166
                  clear c163
                  clear g146 h162
                  refine T_ld 198 (.int (i32 ((m.2 81) jj))) rfl (fun _ => rfl) ?_
                  refine T_gf 202 (.int (i32 (m.1 69))) rfl rfl rfl rfl (mfv_c (F := fun x => .int (i32 x)) rfl (show (m161.1 69) = (m.1 69) from ((fr1 Fm161 69 rfl).trans ((fr1 Fm143 69 rfl).trans (fr1 Fm134 69 rfl))))) rfl ?_
                  refine T_iadd 203 rfl rfl ?_
                  refine T_sto 204 [(2, .int (i32 (((m.2 81) jj) + (m.1 69)))), (5, .int (i32 (m.1 69))), (4, .int (i32 ((m.2 80) jj))), (3, .int (i32 ((m.2 82) jj))), (0, .ref 189), (1, .int (i32 jj))] rfl (fun _ => rfl) ?_
                  refine T_goto 261 rfl (fun _ => rfl) ?_
                  refine Tm_lv (a := [(0, .ref 189), (1, .int (i32 jj)), (2, .int (i32 (((m.2 81) jj) + (m.1 69)))), (3, .int (i32 ((m.2 82) jj))), (4, .int (i32 ((m.2 80) jj))), (5, .int (i32 (m.1 69)))]) rfl rfl ⟨rfl, rfl, rfl, rfl, rfl, rfl, trivial⟩ ?_
                  exact J261_10 (((m.2 81) jj) + (m.1 69)) (mO m161 [] []) (r32 (by omega) (by omega)) Tm161 (fr_m (fr_s Fm161 (fr_m (fr_s Fm143 (fr_m (fr_s Fm134 (fr_m fr_0 rfl rfl) rfl rfl) rfl rfl) rfl rfl) rfl rfl) rfl rfl) rfl rfl) (show 0 ≤ (((m.2 81) jj) + (m.1 69)) ∧ (((m.2 81) jj) + (m.1 69)) ≤ (m.1 69) + 64 by omega) (fun _ => (show (((m.2 81) jj) + (m.1 69)) ≤ 64 by omega))
                · skip
                  clear c163
                  clear h162
                  have hf167 : 1 ≤ (m161.1 10) := by omega
                  clear g146
                  refine T_ld 198 (.int (i32 ((m.2 81) jj))) rfl (fun _ => rfl) ?_
                  refine T_gf 202 (.int (i32 (m.1 69))) rfl rfl rfl rfl (mfv_c (F := fun x => .int (i32 x)) rfl (show (m161.1 69) = (m.1 69) from ((fr1 Fm161 69 rfl).trans ((fr1 Fm143 69 rfl).trans (fr1 Fm134 69 rfl))))) rfl ?_
                  refine T_iadd 203 rfl rfl ?_
                  refine T_sto 204 [(2, .int (i32 (((m.2 81) jj) + (m.1 69)))), (5, .int (i32 (m.1 69))), (4, .int (i32 ((m.2 80) jj))), (3, .int (i32 ((m.2 82) jj))), (0, .ref 189), (1, .int (i32 jj))] rfl (fun _ => rfl) ?_
                  refine T_goto 261 rfl (fun _ => rfl) ?_
                  refine Tm_lv (a := [(0, .ref 189), (1, .int (i32 jj)), (2, .int (i32 (((m.2 81) jj) + (m.1 69)))), (3, .int (i32 ((m.2 82) jj))), (4, .int (i32 ((m.2 80) jj))), (5, .int (i32 (m.1 69)))]) rfl rfl ⟨rfl, rfl, rfl, rfl, rfl, rfl, trivial⟩ ?_
                  exact J261_10 (((m.2 81) jj) + (m.1 69)) (mO m161 [] []) (r32 (by omega) (by omega)) Tm161 (fr_m (fr_s Fm161 (fr_m (fr_s Fm143 (fr_m (fr_s Fm134 (fr_m fr_0 rfl rfl) rfl rfl) rfl rfl) rfl rfl) rfl rfl) rfl rfl) rfl rfl) (show 0 ≤ (((m.2 81) jj) + (m.1 69)) ∧ (((m.2 81) jj) + (m.1 69)) ≤ (m.1 69) + 64 by omega) (fun (h : (m161.1 10) = 0) => absurd h (by omega))
            · skip
              clear c145
              clear h144
              have hf168 : 1 ≤ (m143.1 10) := by omega
              clear g137
              refine T_ld 174 (.ref 189) rfl (fun _ => rfl) ?_
              refine T_ld 175 (.int (i32 ((m.2 81) jj))) rfl (fun _ => rfl) ?_
              refine T_gf 179 (.int (i32 (m.1 69))) rfl rfl rfl rfl (mfv_c (F := fun x => .int (i32 x)) rfl (show (m143.1 69) = (m.1 69) from ((fr1 Fm143 69 rfl).trans (fr1 Fm134 69 rfl)))) rfl ?_
              refine T_iadd 180 rfl rfl ?_
              refine T_ld 182 (.int (i32 64)) rfl (fun _ => rfl) ?_
              refine T_icmp 189 185 rfl rfl rfl (r32 (by omega) (by omega)) ⟨by decide, by decide⟩ (fun (h169 : (64 : Int) < ((m.2 81) jj) + (m.1 69)) => ?_) (fun (h169 : ¬ ((64 : Int) < ((m.2 81) jj) + (m.1 69))) => ?_)
              · skip
                refine T_ld 190 (.int (i32 0)) rfl (fun _ => rfl) ?_
                refine T_gf 194 (.int (i32 (m.1 70))) rfl rfl rfl rfl (mfv_c (F := fun x => .int (i32 x)) rfl (show (m143.1 70) = (m.1 70) from ((fr1 Fm143 70 rfl).trans (fr1 Fm134 70 rfl)))) rfl ?_
                refine T_call 197 256 [.ref 189, .int (i32 0), .int (i32 (m.1 70))] [] rfl (fun _ => rfl) rfl (c_want w (mO m143 [] []) c N D (by omega) Tm143 0 (m.1 70) ⟨by decide, by decide⟩ (r32 (by omega) (by omega)) (show 0 ≤ (m.1 70) ∧ (m.1 70) ≤ 4000 by omega) (fun (h : (m143.1 10) = 0) => absurd h (by omega))) (fun rr170 k171 => ?_)
                obtain ⟨m172, Tm172, Fm172, h173, c174, rfl⟩ := k171
                refine ⟨_, _, rfl, ?_⟩
                refine T_nb (st' := []) rfl ?_
                have g175 : 0 ≤ m172.1 10 ∧ m172.1 10 ≤ 8 := Tm172.1 10
                replace h173 : (m172.1 10) = 0 → (m143.1 10) = 0 := h173
                have hf176 : 1 ≤ (m172.1 10) := by omega
                clear c174
                clear h173
                clear g146 hf168
                refine T_ld 198 (.int (i32 ((m.2 81) jj))) rfl (fun _ => rfl) ?_
                refine T_gf 202 (.int (i32 (m.1 69))) rfl rfl rfl rfl (mfv_c (F := fun x => .int (i32 x)) rfl (show (m172.1 69) = (m.1 69) from ((fr1 Fm172 69 rfl).trans ((fr1 Fm143 69 rfl).trans (fr1 Fm134 69 rfl))))) rfl ?_
                refine T_iadd 203 rfl rfl ?_
                refine T_sto 204 [(2, .int (i32 (((m.2 81) jj) + (m.1 69)))), (5, .int (i32 (m.1 69))), (4, .int (i32 ((m.2 80) jj))), (3, .int (i32 ((m.2 82) jj))), (0, .ref 189), (1, .int (i32 jj))] rfl (fun _ => rfl) ?_
                refine T_goto 261 rfl (fun _ => rfl) ?_
                refine Tm_lv (a := [(0, .ref 189), (1, .int (i32 jj)), (2, .int (i32 (((m.2 81) jj) + (m.1 69)))), (3, .int (i32 ((m.2 82) jj))), (4, .int (i32 ((m.2 80) jj))), (5, .int (i32 (m.1 69)))]) rfl rfl ⟨rfl, rfl, rfl, rfl, rfl, rfl, trivial⟩ ?_
                exact J261_10 (((m.2 81) jj) + (m.1 69)) (mO m172 [] []) (r32 (by omega) (by omega)) Tm172 (fr_m (fr_s Fm172 (fr_m (fr_s Fm143 (fr_m (fr_s Fm134 (fr_m fr_0 rfl rfl) rfl rfl) rfl rfl) rfl rfl) rfl rfl) rfl rfl) rfl rfl) (show 0 ≤ (((m.2 81) jj) + (m.1 69)) ∧ (((m.2 81) jj) + (m.1 69)) ≤ (m.1 69) + 64 by omega) (fun (h : (m172.1 10) = 0) => absurd h (by omega))
              · skip
                refine T_ld 186 (.int (i32 1)) rfl (fun _ => rfl) ?_
                refine T_goto 190 rfl (fun _ => rfl) ?_
                refine T_gf 194 (.int (i32 (m.1 70))) rfl rfl rfl rfl (mfv_c (F := fun x => .int (i32 x)) rfl (show (m143.1 70) = (m.1 70) from ((fr1 Fm143 70 rfl).trans (fr1 Fm134 70 rfl)))) rfl ?_
                refine T_call 197 256 [.ref 189, .int (i32 1), .int (i32 (m.1 70))] [] rfl (fun _ => rfl) rfl (c_want w (mO m143 [] []) c N D (by omega) Tm143 1 (m.1 70) ⟨by decide, by decide⟩ (r32 (by omega) (by omega)) (show 0 ≤ (m.1 70) ∧ (m.1 70) ≤ 4000 by omega) (fun (h : (m143.1 10) = 0) => absurd h (by omega))) (fun rr177 k178 => ?_)
                obtain ⟨m179, Tm179, Fm179, h180, c181, rfl⟩ := k178
                refine ⟨_, _, rfl, ?_⟩
                refine T_nb (st' := []) rfl ?_
                have g182 : 0 ≤ m179.1 10 ∧ m179.1 10 ≤ 8 := Tm179.1 10
                replace h180 : (m179.1 10) = 0 → (m143.1 10) = 0 := h180
                have hf183 : 1 ≤ (m179.1 10) := by omega
                clear c181
                clear h180
                clear g146 hf168
                refine T_ld 198 (.int (i32 ((m.2 81) jj))) rfl (fun _ => rfl) ?_
                refine T_gf 202 (.int (i32 (m.1 69))) rfl rfl rfl rfl (mfv_c (F := fun x => .int (i32 x)) rfl (show (m179.1 69) = (m.1 69) from ((fr1 Fm179 69 rfl).trans ((fr1 Fm143 69 rfl).trans (fr1 Fm134 69 rfl))))) rfl ?_
                refine T_iadd 203 rfl rfl ?_
                refine T_sto 204 [(2, .int (i32 (((m.2 81) jj) + (m.1 69)))), (5, .int (i32 (m.1 69))), (4, .int (i32 ((m.2 80) jj))), (3, .int (i32 ((m.2 82) jj))), (0, .ref 189), (1, .int (i32 jj))] rfl (fun _ => rfl) ?_
                refine T_goto 261 rfl (fun _ => rfl) ?_
                refine Tm_lv (a := [(0, .ref 189), (1, .int (i32 jj)), (2, .int (i32 (((m.2 81) jj) + (m.1 69)))), (3, .int (i32 ((m.2 82) jj))), (4, .int (i32 ((m.2 80) jj))), (5, .int (i32 (m.1 69)))]) rfl rfl ⟨rfl, rfl, rfl, rfl, rfl, rfl, trivial⟩ ?_
                exact J261_10 (((m.2 81) jj) + (m.1 69)) (mO m179 [] []) (r32 (by omega) (by omega)) Tm179 (fr_m (fr_s Fm179 (fr_m (fr_s Fm143 (fr_m (fr_s Fm134 (fr_m fr_0 rfl rfl) rfl rfl) rfl rfl) rfl rfl) rfl rfl) rfl rfl) rfl rfl) (show 0 ≤ (((m.2 81) jj) + (m.1 69)) ∧ (((m.2 81) jj) + (m.1 69)) ≤ (m.1 69) + 64 by omega) (fun (h : (m179.1 10) = 0) => absurd h (by omega))
          · skip
            refine T_ld 162 (.int (i32 1)) rfl (fun _ => rfl) ?_
            refine T_goto 166 rfl (fun _ => rfl) ?_
            refine T_gf 170 (.int (i32 (m.1 70))) rfl rfl rfl rfl (mfv_c (F := fun x => .int (i32 x)) rfl (show (m134.1 70) = (m.1 70) from (fr1 Fm134 70 rfl))) rfl ?_
            refine T_call 173 256 [.ref 189, .int (i32 1), .int (i32 (m.1 70))] [] rfl (fun _ => rfl) rfl (c_want w (mO m134 [] []) c N D (by omega) Tm134 1 (m.1 70) ⟨by decide, by decide⟩ (r32 (by omega) (by omega)) (show 0 ≤ (m.1 70) ∧ (m.1 70) ≤ 4000 by omega) (fun _ => trivial)) (fun rr184 k185 => ?_)
            obtain ⟨m186, Tm186, Fm186, h187, c188, rfl⟩ := k185
            refine ⟨_, _, rfl, ?_⟩
            refine T_nb (st' := []) rfl ?_
            have g189 : 0 ≤ m186.1 10 ∧ m186.1 10 ≤ 8 := Tm186.1 10
            by_cases hf190 : (m186.1 10) = 0
            · skip
              replace h187 : (m134.1 10) = 0 := h187 hf190
              have c191 := c188 hf190
              replace c191 : (1 : Int) ≠ 0 := c191
              clear c188
              clear g137 h187
              refine T_ld 174 (.ref 189) rfl (fun _ => rfl) ?_
              refine T_ld 175 (.int (i32 ((m.2 81) jj))) rfl (fun _ => rfl) ?_
              refine T_gf 179 (.int (i32 (m.1 69))) rfl rfl rfl rfl (mfv_c (F := fun x => .int (i32 x)) rfl (show (m186.1 69) = (m.1 69) from ((fr1 Fm186 69 rfl).trans (fr1 Fm134 69 rfl)))) rfl ?_
              refine T_iadd 180 rfl rfl ?_
              refine T_ld 182 (.int (i32 64)) rfl (fun _ => rfl) ?_
              refine T_icmp 189 185 rfl rfl rfl (r32 (by omega) (by omega)) ⟨by decide, by decide⟩ (fun (h192 : (64 : Int) < ((m.2 81) jj) + (m.1 69)) => ?_) (fun (h192 : ¬ ((64 : Int) < ((m.2 81) jj) + (m.1 69))) => ?_)
              · skip
                refine T_ld 190 (.int (i32 0)) rfl (fun _ => rfl) ?_
                refine T_gf 194 (.int (i32 (m.1 70))) rfl rfl rfl rfl (mfv_c (F := fun x => .int (i32 x)) rfl (show (m186.1 70) = (m.1 70) from ((fr1 Fm186 70 rfl).trans (fr1 Fm134 70 rfl)))) rfl ?_
                refine T_call 197 256 [.ref 189, .int (i32 0), .int (i32 (m.1 70))] [] rfl (fun _ => rfl) rfl (c_want w (mO m186 [] []) c N D (by omega) Tm186 0 (m.1 70) ⟨by decide, by decide⟩ (r32 (by omega) (by omega)) (show 0 ≤ (m.1 70) ∧ (m.1 70) ≤ 4000 by omega) (fun _ => trivial)) (fun rr193 k194 => ?_)
                obtain ⟨m195, Tm195, Fm195, h196, c197, rfl⟩ := k194
                refine ⟨_, _, rfl, ?_⟩
                refine T_nb (st' := []) rfl ?_
                have g198 : 0 ≤ m195.1 10 ∧ m195.1 10 ≤ 8 := Tm195.1 10
                by_cases hf199 : (m195.1 10) = 0
                · skip
                  replace h196 : (m186.1 10) = 0 := h196 hf199
                  have c200 := c197 hf199
                  replace c200 : (0 : Int) ≠ 0 := c200
                  clear c197
                  clear g189 h196
                  refine T_ld 198 (.int (i32 ((m.2 81) jj))) rfl (fun _ => rfl) ?_
                  refine T_gf 202 (.int (i32 (m.1 69))) rfl rfl rfl rfl (mfv_c (F := fun x => .int (i32 x)) rfl (show (m195.1 69) = (m.1 69) from ((fr1 Fm195 69 rfl).trans ((fr1 Fm186 69 rfl).trans (fr1 Fm134 69 rfl))))) rfl ?_
                  refine T_iadd 203 rfl rfl ?_
                  refine T_sto 204 [(2, .int (i32 (((m.2 81) jj) + (m.1 69)))), (5, .int (i32 (m.1 69))), (4, .int (i32 ((m.2 80) jj))), (3, .int (i32 ((m.2 82) jj))), (0, .ref 189), (1, .int (i32 jj))] rfl (fun _ => rfl) ?_
                  refine T_goto 261 rfl (fun _ => rfl) ?_
                  refine Tm_lv (a := [(0, .ref 189), (1, .int (i32 jj)), (2, .int (i32 (((m.2 81) jj) + (m.1 69)))), (3, .int (i32 ((m.2 82) jj))), (4, .int (i32 ((m.2 80) jj))), (5, .int (i32 (m.1 69)))]) rfl rfl ⟨rfl, rfl, rfl, rfl, rfl, rfl, trivial⟩ ?_
                  exact J261_10 (((m.2 81) jj) + (m.1 69)) (mO m195 [] []) (r32 (by omega) (by omega)) Tm195 (fr_m (fr_s Fm195 (fr_m (fr_s Fm186 (fr_m (fr_s Fm134 (fr_m fr_0 rfl rfl) rfl rfl) rfl rfl) rfl rfl) rfl rfl) rfl rfl) rfl rfl) (show 0 ≤ (((m.2 81) jj) + (m.1 69)) ∧ (((m.2 81) jj) + (m.1 69)) ≤ (m.1 69) + 64 by omega) (fun _ => (show (((m.2 81) jj) + (m.1 69)) ≤ 64 by omega))
                · skip
                  clear c197
                  clear h196
                  have hf201 : 1 ≤ (m195.1 10) := by omega
                  clear g189
                  refine T_ld 198 (.int (i32 ((m.2 81) jj))) rfl (fun _ => rfl) ?_
                  refine T_gf 202 (.int (i32 (m.1 69))) rfl rfl rfl rfl (mfv_c (F := fun x => .int (i32 x)) rfl (show (m195.1 69) = (m.1 69) from ((fr1 Fm195 69 rfl).trans ((fr1 Fm186 69 rfl).trans (fr1 Fm134 69 rfl))))) rfl ?_
                  refine T_iadd 203 rfl rfl ?_
                  refine T_sto 204 [(2, .int (i32 (((m.2 81) jj) + (m.1 69)))), (5, .int (i32 (m.1 69))), (4, .int (i32 ((m.2 80) jj))), (3, .int (i32 ((m.2 82) jj))), (0, .ref 189), (1, .int (i32 jj))] rfl (fun _ => rfl) ?_
                  refine T_goto 261 rfl (fun _ => rfl) ?_
                  refine Tm_lv (a := [(0, .ref 189), (1, .int (i32 jj)), (2, .int (i32 (((m.2 81) jj) + (m.1 69)))), (3, .int (i32 ((m.2 82) jj))), (4, .int (i32 ((m.2 80) jj))), (5, .int (i32 (m.1 69)))]) rfl rfl ⟨rfl, rfl, rfl, rfl, rfl, rfl, trivial⟩ ?_
                  exact J261_10 (((m.2 81) jj) + (m.1 69)) (mO m195 [] []) (r32 (by omega) (by omega)) Tm195 (fr_m (fr_s Fm195 (fr_m (fr_s Fm186 (fr_m (fr_s Fm134 (fr_m fr_0 rfl rfl) rfl rfl) rfl rfl) rfl rfl) rfl rfl) rfl rfl) rfl rfl) (show 0 ≤ (((m.2 81) jj) + (m.1 69)) ∧ (((m.2 81) jj) + (m.1 69)) ≤ (m.1 69) + 64 by omega) (fun (h : (m195.1 10) = 0) => absurd h (by omega))
              · skip
                refine T_ld 186 (.int (i32 1)) rfl (fun _ => rfl) ?_
                refine T_goto 190 rfl (fun _ => rfl) ?_
                refine T_gf 194 (.int (i32 (m.1 70))) rfl rfl rfl rfl (mfv_c (F := fun x => .int (i32 x)) rfl (show (m186.1 70) = (m.1 70) from ((fr1 Fm186 70 rfl).trans (fr1 Fm134 70 rfl)))) rfl ?_
                refine T_call 197 256 [.ref 189, .int (i32 1), .int (i32 (m.1 70))] [] rfl (fun _ => rfl) rfl (c_want w (mO m186 [] []) c N D (by omega) Tm186 1 (m.1 70) ⟨by decide, by decide⟩ (r32 (by omega) (by omega)) (show 0 ≤ (m.1 70) ∧ (m.1 70) ≤ 4000 by omega) (fun _ => trivial)) (fun rr202 k203 => ?_)
                obtain ⟨m204, Tm204, Fm204, h205, c206, rfl⟩ := k203
                refine ⟨_, _, rfl, ?_⟩
                refine T_nb (st' := []) rfl ?_
                have g207 : 0 ≤ m204.1 10 ∧ m204.1 10 ≤ 8 := Tm204.1 10
                by_cases hf208 : (m204.1 10) = 0
                · skip
                  replace h205 : (m186.1 10) = 0 := h205 hf208
                  have c209 := c206 hf208
                  replace c209 : (1 : Int) ≠ 0 := c209
                  clear c206
                  clear g189 h205
                  refine T_ld 198 (.int (i32 ((m.2 81) jj))) rfl (fun _ => rfl) ?_
                  refine T_gf 202 (.int (i32 (m.1 69))) rfl rfl rfl rfl (mfv_c (F := fun x => .int (i32 x)) rfl (show (m204.1 69) = (m.1 69) from ((fr1 Fm204 69 rfl).trans ((fr1 Fm186 69 rfl).trans (fr1 Fm134 69 rfl))))) rfl ?_
                  refine T_iadd 203 rfl rfl ?_
                  refine T_sto 204 [(2, .int (i32 (((m.2 81) jj) + (m.1 69)))), (5, .int (i32 (m.1 69))), (4, .int (i32 ((m.2 80) jj))), (3, .int (i32 ((m.2 82) jj))), (0, .ref 189), (1, .int (i32 jj))] rfl (fun _ => rfl) ?_
                  refine T_goto 261 rfl (fun _ => rfl) ?_
                  refine Tm_lv (a := [(0, .ref 189), (1, .int (i32 jj)), (2, .int (i32 (((m.2 81) jj) + (m.1 69)))), (3, .int (i32 ((m.2 82) jj))), (4, .int (i32 ((m.2 80) jj))), (5, .int (i32 (m.1 69)))]) rfl rfl ⟨rfl, rfl, rfl, rfl, rfl, rfl, trivial⟩ ?_
                  exact J261_10 (((m.2 81) jj) + (m.1 69)) (mO m204 [] []) (r32 (by omega) (by omega)) Tm204 (fr_m (fr_s Fm204 (fr_m (fr_s Fm186 (fr_m (fr_s Fm134 (fr_m fr_0 rfl rfl) rfl rfl) rfl rfl) rfl rfl) rfl rfl) rfl rfl) rfl rfl) (show 0 ≤ (((m.2 81) jj) + (m.1 69)) ∧ (((m.2 81) jj) + (m.1 69)) ≤ (m.1 69) + 64 by omega) (fun _ => (show (((m.2 81) jj) + (m.1 69)) ≤ 64 by omega))
                · skip
                  clear c206
                  clear h205
                  have hf210 : 1 ≤ (m204.1 10) := by omega
                  clear g189
                  refine T_ld 198 (.int (i32 ((m.2 81) jj))) rfl (fun _ => rfl) ?_
                  refine T_gf 202 (.int (i32 (m.1 69))) rfl rfl rfl rfl (mfv_c (F := fun x => .int (i32 x)) rfl (show (m204.1 69) = (m.1 69) from ((fr1 Fm204 69 rfl).trans ((fr1 Fm186 69 rfl).trans (fr1 Fm134 69 rfl))))) rfl ?_
                  refine T_iadd 203 rfl rfl ?_
                  refine T_sto 204 [(2, .int (i32 (((m.2 81) jj) + (m.1 69)))), (5, .int (i32 (m.1 69))), (4, .int (i32 ((m.2 80) jj))), (3, .int (i32 ((m.2 82) jj))), (0, .ref 189), (1, .int (i32 jj))] rfl (fun _ => rfl) ?_
                  refine T_goto 261 rfl (fun _ => rfl) ?_
                  refine Tm_lv (a := [(0, .ref 189), (1, .int (i32 jj)), (2, .int (i32 (((m.2 81) jj) + (m.1 69)))), (3, .int (i32 ((m.2 82) jj))), (4, .int (i32 ((m.2 80) jj))), (5, .int (i32 (m.1 69)))]) rfl rfl ⟨rfl, rfl, rfl, rfl, rfl, rfl, trivial⟩ ?_
                  exact J261_10 (((m.2 81) jj) + (m.1 69)) (mO m204 [] []) (r32 (by omega) (by omega)) Tm204 (fr_m (fr_s Fm204 (fr_m (fr_s Fm186 (fr_m (fr_s Fm134 (fr_m fr_0 rfl rfl) rfl rfl) rfl rfl) rfl rfl) rfl rfl) rfl rfl) rfl rfl) (show 0 ≤ (((m.2 81) jj) + (m.1 69)) ∧ (((m.2 81) jj) + (m.1 69)) ≤ (m.1 69) + 64 by omega) (fun (h : (m204.1 10) = 0) => absurd h (by omega))
            · skip
              clear c188
              clear h187
              have hf211 : 1 ≤ (m186.1 10) := by omega
              clear g137
              refine T_ld 174 (.ref 189) rfl (fun _ => rfl) ?_
              refine T_ld 175 (.int (i32 ((m.2 81) jj))) rfl (fun _ => rfl) ?_
              refine T_gf 179 (.int (i32 (m.1 69))) rfl rfl rfl rfl (mfv_c (F := fun x => .int (i32 x)) rfl (show (m186.1 69) = (m.1 69) from ((fr1 Fm186 69 rfl).trans (fr1 Fm134 69 rfl)))) rfl ?_
              refine T_iadd 180 rfl rfl ?_
              refine T_ld 182 (.int (i32 64)) rfl (fun _ => rfl) ?_
              refine T_icmp 189 185 rfl rfl rfl (r32 (by omega) (by omega)) ⟨by decide, by decide⟩ (fun (h212 : (64 : Int) < ((m.2 81) jj) + (m.1 69)) => ?_) (fun (h212 : ¬ ((64 : Int) < ((m.2 81) jj) + (m.1 69))) => ?_)
              · skip
                refine T_ld 190 (.int (i32 0)) rfl (fun _ => rfl) ?_
                refine T_gf 194 (.int (i32 (m.1 70))) rfl rfl rfl rfl (mfv_c (F := fun x => .int (i32 x)) rfl (show (m186.1 70) = (m.1 70) from ((fr1 Fm186 70 rfl).trans (fr1 Fm134 70 rfl)))) rfl ?_
                refine T_call 197 256 [.ref 189, .int (i32 0), .int (i32 (m.1 70))] [] rfl (fun _ => rfl) rfl (c_want w (mO m186 [] []) c N D (by omega) Tm186 0 (m.1 70) ⟨by decide, by decide⟩ (r32 (by omega) (by omega)) (show 0 ≤ (m.1 70) ∧ (m.1 70) ≤ 4000 by omega) (fun (h : (m186.1 10) = 0) => absurd h (by omega))) (fun rr213 k214 => ?_)
                obtain ⟨m215, Tm215, Fm215, h216, c217, rfl⟩ := k214
                refine ⟨_, _, rfl, ?_⟩
                refine T_nb (st' := []) rfl ?_
                have g218 : 0 ≤ m215.1 10 ∧ m215.1 10 ≤ 8 := Tm215.1 10
                replace h216 : (m215.1 10) = 0 → (m186.1 10) = 0 := h216
                have hf219 : 1 ≤ (m215.1 10) := by omega
                clear c217
                clear h216
                clear g189 hf211
                refine T_ld 198 (.int (i32 ((m.2 81) jj))) rfl (fun _ => rfl) ?_
                refine T_gf 202 (.int (i32 (m.1 69))) rfl rfl rfl rfl (mfv_c (F := fun x => .int (i32 x)) rfl (show (m215.1 69) = (m.1 69) from ((fr1 Fm215 69 rfl).trans ((fr1 Fm186 69 rfl).trans (fr1 Fm134 69 rfl))))) rfl ?_
                refine T_iadd 203 rfl rfl ?_
                refine T_sto 204 [(2, .int (i32 (((m.2 81) jj) + (m.1 69)))), (5, .int (i32 (m.1 69))), (4, .int (i32 ((m.2 80) jj))), (3, .int (i32 ((m.2 82) jj))), (0, .ref 189), (1, .int (i32 jj))] rfl (fun _ => rfl) ?_
                refine T_goto 261 rfl (fun _ => rfl) ?_
                refine Tm_lv (a := [(0, .ref 189), (1, .int (i32 jj)), (2, .int (i32 (((m.2 81) jj) + (m.1 69)))), (3, .int (i32 ((m.2 82) jj))), (4, .int (i32 ((m.2 80) jj))), (5, .int (i32 (m.1 69)))]) rfl rfl ⟨rfl, rfl, rfl, rfl, rfl, rfl, trivial⟩ ?_
                exact J261_10 (((m.2 81) jj) + (m.1 69)) (mO m215 [] []) (r32 (by omega) (by omega)) Tm215 (fr_m (fr_s Fm215 (fr_m (fr_s Fm186 (fr_m (fr_s Fm134 (fr_m fr_0 rfl rfl) rfl rfl) rfl rfl) rfl rfl) rfl rfl) rfl rfl) rfl rfl) (show 0 ≤ (((m.2 81) jj) + (m.1 69)) ∧ (((m.2 81) jj) + (m.1 69)) ≤ (m.1 69) + 64 by omega) (fun (h : (m215.1 10) = 0) => absurd h (by omega))
              · skip
                refine T_ld 186 (.int (i32 1)) rfl (fun _ => rfl) ?_
                refine T_goto 190 rfl (fun _ => rfl) ?_
                refine T_gf 194 (.int (i32 (m.1 70))) rfl rfl rfl rfl (mfv_c (F := fun x => .int (i32 x)) rfl (show (m186.1 70) = (m.1 70) from ((fr1 Fm186 70 rfl).trans (fr1 Fm134 70 rfl)))) rfl ?_
                refine T_call 197 256 [.ref 189, .int (i32 1), .int (i32 (m.1 70))] [] rfl (fun _ => rfl) rfl (c_want w (mO m186 [] []) c N D (by omega) Tm186 1 (m.1 70) ⟨by decide, by decide⟩ (r32 (by omega) (by omega)) (show 0 ≤ (m.1 70) ∧ (m.1 70) ≤ 4000 by omega) (fun (h : (m186.1 10) = 0) => absurd h (by omega))) (fun rr220 k221 => ?_)
                obtain ⟨m222, Tm222, Fm222, h223, c224, rfl⟩ := k221
                refine ⟨_, _, rfl, ?_⟩
                refine T_nb (st' := []) rfl ?_
                have g225 : 0 ≤ m222.1 10 ∧ m222.1 10 ≤ 8 := Tm222.1 10
                replace h223 : (m222.1 10) = 0 → (m186.1 10) = 0 := h223
                have hf226 : 1 ≤ (m222.1 10) := by omega
                clear c224
                clear h223
                clear g189 hf211
                refine T_ld 198 (.int (i32 ((m.2 81) jj))) rfl (fun _ => rfl) ?_
                refine T_gf 202 (.int (i32 (m.1 69))) rfl rfl rfl rfl (mfv_c (F := fun x => .int (i32 x)) rfl (show (m222.1 69) = (m.1 69) from ((fr1 Fm222 69 rfl).trans ((fr1 Fm186 69 rfl).trans (fr1 Fm134 69 rfl))))) rfl ?_
                refine T_iadd 203 rfl rfl ?_
                refine T_sto 204 [(2, .int (i32 (((m.2 81) jj) + (m.1 69)))), (5, .int (i32 (m.1 69))), (4, .int (i32 ((m.2 80) jj))), (3, .int (i32 ((m.2 82) jj))), (0, .ref 189), (1, .int (i32 jj))] rfl (fun _ => rfl) ?_
                refine T_goto 261 rfl (fun _ => rfl) ?_
                refine Tm_lv (a := [(0, .ref 189), (1, .int (i32 jj)), (2, .int (i32 (((m.2 81) jj) + (m.1 69)))), (3, .int (i32 ((m.2 82) jj))), (4, .int (i32 ((m.2 80) jj))), (5, .int (i32 (m.1 69)))]) rfl rfl ⟨rfl, rfl, rfl, rfl, rfl, rfl, trivial⟩ ?_
                exact J261_10 (((m.2 81) jj) + (m.1 69)) (mO m222 [] []) (r32 (by omega) (by omega)) Tm222 (fr_m (fr_s Fm222 (fr_m (fr_s Fm186 (fr_m (fr_s Fm134 (fr_m fr_0 rfl rfl) rfl rfl) rfl rfl) rfl rfl) rfl rfl) rfl rfl) rfl rfl) (show 0 ≤ (((m.2 81) jj) + (m.1 69)) ∧ (((m.2 81) jj) + (m.1 69)) ≤ (m.1 69) + 64 by omega) (fun (h : (m222.1 10) = 0) => absurd h (by omega))
        · skip
          clear c136
          clear h135
          have hf227 : 1 ≤ (m134.1 10) := by omega
          clear g68a g68b h69
          refine T_ld 154 (.ref 189) rfl (fun _ => rfl) ?_
          refine T_gf 158 (.int (i32 (m.1 71))) rfl rfl rfl rfl (mfv_c (F := fun x => .int (i32 x)) rfl (show (m134.1 71) = (m.1 71) from (fr1 Fm134 71 rfl))) rfl ?_
          refine T_if 165 161 rfl rfl rfl (r32 (by omega) (by omega)) (fun (h228 : (m.1 71) ≠ 0) => ?_) (fun (h228 : ¬ ((m.1 71) ≠ 0)) => ?_)
          · skip
            refine T_ld 166 (.int (i32 0)) rfl (fun _ => rfl) ?_
            refine T_gf 170 (.int (i32 (m.1 70))) rfl rfl rfl rfl (mfv_c (F := fun x => .int (i32 x)) rfl (show (m134.1 70) = (m.1 70) from (fr1 Fm134 70 rfl))) rfl ?_
            refine T_call 173 256 [.ref 189, .int (i32 0), .int (i32 (m.1 70))] [] rfl (fun _ => rfl) rfl (c_want w (mO m134 [] []) c N D (by omega) Tm134 0 (m.1 70) ⟨by decide, by decide⟩ (r32 (by omega) (by omega)) (show 0 ≤ (m.1 70) ∧ (m.1 70) ≤ 4000 by omega) (fun (h : (m134.1 10) = 0) => absurd h (by omega))) (fun rr229 k230 => ?_)
            obtain ⟨m231, Tm231, Fm231, h232, c233, rfl⟩ := k230
            refine ⟨_, _, rfl, ?_⟩
            refine T_nb (st' := []) rfl ?_
            have g234 : 0 ≤ m231.1 10 ∧ m231.1 10 ≤ 8 := Tm231.1 10
            replace h232 : (m231.1 10) = 0 → (m134.1 10) = 0 := h232
            have hf235 : 1 ≤ (m231.1 10) := by omega
            clear c233
            clear h232
            clear g137 hf227
            refine T_ld 174 (.ref 189) rfl (fun _ => rfl) ?_
            refine T_ld 175 (.int (i32 ((m.2 81) jj))) rfl (fun _ => rfl) ?_
            refine T_gf 179 (.int (i32 (m.1 69))) rfl rfl rfl rfl (mfv_c (F := fun x => .int (i32 x)) rfl (show (m231.1 69) = (m.1 69) from ((fr1 Fm231 69 rfl).trans (fr1 Fm134 69 rfl)))) rfl ?_
            refine T_iadd 180 rfl rfl ?_
            refine T_ld 182 (.int (i32 64)) rfl (fun _ => rfl) ?_
            refine T_icmp 189 185 rfl rfl rfl (r32 (by omega) (by omega)) ⟨by decide, by decide⟩ (fun (h236 : (64 : Int) < ((m.2 81) jj) + (m.1 69)) => ?_) (fun (h236 : ¬ ((64 : Int) < ((m.2 81) jj) + (m.1 69))) => ?_)
            · skip
              refine T_ld 190 (.int (i32 0)) rfl (fun _ => rfl) ?_
              refine T_gf 194 (.int (i32 (m.1 70))) rfl rfl rfl rfl (mfv_c (F := fun x => .int (i32 x)) rfl (show (m231.1 70) = (m.1 70) from ((fr1 Fm231 70 rfl).trans (fr1 Fm134 70 rfl)))) rfl ?_
              refine T_call 197 256 [.ref 189, .int (i32 0), .int (i32 (m.1 70))] [] rfl (fun _ => rfl) rfl (c_want w (mO m231 [] []) c N D (by omega) Tm231 0 (m.1 70) ⟨by decide, by decide⟩ (r32 (by omega) (by omega)) (show 0 ≤ (m.1 70) ∧ (m.1 70) ≤ 4000 by omega) (fun (h : (m231.1 10) = 0) => absurd h (by omega))) (fun rr237 k238 => ?_)
              obtain ⟨m239, Tm239, Fm239, h240, c241, rfl⟩ := k238
              refine ⟨_, _, rfl, ?_⟩
              refine T_nb (st' := []) rfl ?_
              have g242 : 0 ≤ m239.1 10 ∧ m239.1 10 ≤ 8 := Tm239.1 10
              replace h240 : (m239.1 10) = 0 → (m231.1 10) = 0 := h240
              have hf243 : 1 ≤ (m239.1 10) := by omega
              clear c241
              clear h240
              clear g234 hf235
              refine T_ld 198 (.int (i32 ((m.2 81) jj))) rfl (fun _ => rfl) ?_
              refine T_gf 202 (.int (i32 (m.1 69))) rfl rfl rfl rfl (mfv_c (F := fun x => .int (i32 x)) rfl (show (m239.1 69) = (m.1 69) from ((fr1 Fm239 69 rfl).trans ((fr1 Fm231 69 rfl).trans (fr1 Fm134 69 rfl))))) rfl ?_
              refine T_iadd 203 rfl rfl ?_
              refine T_sto 204 [(2, .int (i32 (((m.2 81) jj) + (m.1 69)))), (5, .int (i32 (m.1 69))), (4, .int (i32 ((m.2 80) jj))), (3, .int (i32 ((m.2 82) jj))), (0, .ref 189), (1, .int (i32 jj))] rfl (fun _ => rfl) ?_
              refine T_goto 261 rfl (fun _ => rfl) ?_
              refine Tm_lv (a := [(0, .ref 189), (1, .int (i32 jj)), (2, .int (i32 (((m.2 81) jj) + (m.1 69)))), (3, .int (i32 ((m.2 82) jj))), (4, .int (i32 ((m.2 80) jj))), (5, .int (i32 (m.1 69)))]) rfl rfl ⟨rfl, rfl, rfl, rfl, rfl, rfl, trivial⟩ ?_
              exact J261_10 (((m.2 81) jj) + (m.1 69)) (mO m239 [] []) (r32 (by omega) (by omega)) Tm239 (fr_m (fr_s Fm239 (fr_m (fr_s Fm231 (fr_m (fr_s Fm134 (fr_m fr_0 rfl rfl) rfl rfl) rfl rfl) rfl rfl) rfl rfl) rfl rfl) rfl rfl) (show 0 ≤ (((m.2 81) jj) + (m.1 69)) ∧ (((m.2 81) jj) + (m.1 69)) ≤ (m.1 69) + 64 by omega) (fun (h : (m239.1 10) = 0) => absurd h (by omega))
            · skip
              refine T_ld 186 (.int (i32 1)) rfl (fun _ => rfl) ?_
              refine T_goto 190 rfl (fun _ => rfl) ?_
              refine T_gf 194 (.int (i32 (m.1 70))) rfl rfl rfl rfl (mfv_c (F := fun x => .int (i32 x)) rfl (show (m231.1 70) = (m.1 70) from ((fr1 Fm231 70 rfl).trans (fr1 Fm134 70 rfl)))) rfl ?_
              refine T_call 197 256 [.ref 189, .int (i32 1), .int (i32 (m.1 70))] [] rfl (fun _ => rfl) rfl (c_want w (mO m231 [] []) c N D (by omega) Tm231 1 (m.1 70) ⟨by decide, by decide⟩ (r32 (by omega) (by omega)) (show 0 ≤ (m.1 70) ∧ (m.1 70) ≤ 4000 by omega) (fun (h : (m231.1 10) = 0) => absurd h (by omega))) (fun rr244 k245 => ?_)
              obtain ⟨m246, Tm246, Fm246, h247, c248, rfl⟩ := k245
              refine ⟨_, _, rfl, ?_⟩
              refine T_nb (st' := []) rfl ?_
              have g249 : 0 ≤ m246.1 10 ∧ m246.1 10 ≤ 8 := Tm246.1 10
              replace h247 : (m246.1 10) = 0 → (m231.1 10) = 0 := h247
              have hf250 : 1 ≤ (m246.1 10) := by omega
              clear c248
              clear h247
              clear g234 hf235
              refine T_ld 198 (.int (i32 ((m.2 81) jj))) rfl (fun _ => rfl) ?_
              refine T_gf 202 (.int (i32 (m.1 69))) rfl rfl rfl rfl (mfv_c (F := fun x => .int (i32 x)) rfl (show (m246.1 69) = (m.1 69) from ((fr1 Fm246 69 rfl).trans ((fr1 Fm231 69 rfl).trans (fr1 Fm134 69 rfl))))) rfl ?_
              refine T_iadd 203 rfl rfl ?_
              refine T_sto 204 [(2, .int (i32 (((m.2 81) jj) + (m.1 69)))), (5, .int (i32 (m.1 69))), (4, .int (i32 ((m.2 80) jj))), (3, .int (i32 ((m.2 82) jj))), (0, .ref 189), (1, .int (i32 jj))] rfl (fun _ => rfl) ?_
              refine T_goto 261 rfl (fun _ => rfl) ?_
              refine Tm_lv (a := [(0, .ref 189), (1, .int (i32 jj)), (2, .int (i32 (((m.2 81) jj) + (m.1 69)))), (3, .int (i32 ((m.2 82) jj))), (4, .int (i32 ((m.2 80) jj))), (5, .int (i32 (m.1 69)))]) rfl rfl ⟨rfl, rfl, rfl, rfl, rfl, rfl, trivial⟩ ?_
              exact J261_10 (((m.2 81) jj) + (m.1 69)) (mO m246 [] []) (r32 (by omega) (by omega)) Tm246 (fr_m (fr_s Fm246 (fr_m (fr_s Fm231 (fr_m (fr_s Fm134 (fr_m fr_0 rfl rfl) rfl rfl) rfl rfl) rfl rfl) rfl rfl) rfl rfl) rfl rfl) (show 0 ≤ (((m.2 81) jj) + (m.1 69)) ∧ (((m.2 81) jj) + (m.1 69)) ≤ (m.1 69) + 64 by omega) (fun (h : (m246.1 10) = 0) => absurd h (by omega))
          · skip
            refine T_ld 162 (.int (i32 1)) rfl (fun _ => rfl) ?_
            refine T_goto 166 rfl (fun _ => rfl) ?_
            refine T_gf 170 (.int (i32 (m.1 70))) rfl rfl rfl rfl (mfv_c (F := fun x => .int (i32 x)) rfl (show (m134.1 70) = (m.1 70) from (fr1 Fm134 70 rfl))) rfl ?_
            refine T_call 173 256 [.ref 189, .int (i32 1), .int (i32 (m.1 70))] [] rfl (fun _ => rfl) rfl (c_want w (mO m134 [] []) c N D (by omega) Tm134 1 (m.1 70) ⟨by decide, by decide⟩ (r32 (by omega) (by omega)) (show 0 ≤ (m.1 70) ∧ (m.1 70) ≤ 4000 by omega) (fun (h : (m134.1 10) = 0) => absurd h (by omega))) (fun rr251 k252 => ?_)
            obtain ⟨m253, Tm253, Fm253, h254, c255, rfl⟩ := k252
            refine ⟨_, _, rfl, ?_⟩
            refine T_nb (st' := []) rfl ?_
            have g256 : 0 ≤ m253.1 10 ∧ m253.1 10 ≤ 8 := Tm253.1 10
            replace h254 : (m253.1 10) = 0 → (m134.1 10) = 0 := h254
            have hf257 : 1 ≤ (m253.1 10) := by omega
            clear c255
            clear h254
            clear g137 hf227
            refine T_ld 174 (.ref 189) rfl (fun _ => rfl) ?_
            refine T_ld 175 (.int (i32 ((m.2 81) jj))) rfl (fun _ => rfl) ?_
            refine T_gf 179 (.int (i32 (m.1 69))) rfl rfl rfl rfl (mfv_c (F := fun x => .int (i32 x)) rfl (show (m253.1 69) = (m.1 69) from ((fr1 Fm253 69 rfl).trans (fr1 Fm134 69 rfl)))) rfl ?_
            refine T_iadd 180 rfl rfl ?_
            refine T_ld 182 (.int (i32 64)) rfl (fun _ => rfl) ?_
            refine T_icmp 189 185 rfl rfl rfl (r32 (by omega) (by omega)) ⟨by decide, by decide⟩ (fun (h258 : (64 : Int) < ((m.2 81) jj) + (m.1 69)) => ?_) (fun (h258 : ¬ ((64 : Int) < ((m.2 81) jj) + (m.1 69))) => ?_)
            · skip
              refine T_ld 190 (.int (i32 0)) rfl (fun _ => rfl) ?_
              refine T_gf 194 (.int (i32 (m.1 70))) rfl rfl rfl rfl (mfv_c (F := fun x => .int (i32 x)) rfl (show (m253.1 70) = (m.1 70) from ((fr1 Fm253 70 rfl).trans (fr1 Fm134 70 rfl)))) rfl ?_
              refine T_call 197 256 [.ref 189, .int (i32 0), .int (i32 (m.1 70))] [] rfl (fun _ => rfl) rfl (c_want w (mO m253 [] []) c N D (by omega) Tm253 0 (m.1 70) ⟨by decide, by decide⟩ (r32 (by omega) (by omega)) (show 0 ≤ (m.1 70) ∧ (m.1 70) ≤ 4000 by omega) (fun (h : (m253.1 10) = 0) => absurd h (by omega))) (fun rr259 k260 => ?_)
              obtain ⟨m261, Tm261, Fm261, h262, c263, rfl⟩ := k260
              refine ⟨_, _, rfl, ?_⟩
              refine T_nb (st' := []) rfl ?_
              have g264 : 0 ≤ m261.1 10 ∧ m261.1 10 ≤ 8 := Tm261.1 10
              replace h262 : (m261.1 10) = 0 → (m253.1 10) = 0 := h262
              have hf265 : 1 ≤ (m261.1 10) := by omega
              clear c263
              clear h262
              clear g256 hf257
              refine T_ld 198 (.int (i32 ((m.2 81) jj))) rfl (fun _ => rfl) ?_
              refine T_gf 202 (.int (i32 (m.1 69))) rfl rfl rfl rfl (mfv_c (F := fun x => .int (i32 x)) rfl (show (m261.1 69) = (m.1 69) from ((fr1 Fm261 69 rfl).trans ((fr1 Fm253 69 rfl).trans (fr1 Fm134 69 rfl))))) rfl ?_
              refine T_iadd 203 rfl rfl ?_
              refine T_sto 204 [(2, .int (i32 (((m.2 81) jj) + (m.1 69)))), (5, .int (i32 (m.1 69))), (4, .int (i32 ((m.2 80) jj))), (3, .int (i32 ((m.2 82) jj))), (0, .ref 189), (1, .int (i32 jj))] rfl (fun _ => rfl) ?_
              refine T_goto 261 rfl (fun _ => rfl) ?_
              refine Tm_lv (a := [(0, .ref 189), (1, .int (i32 jj)), (2, .int (i32 (((m.2 81) jj) + (m.1 69)))), (3, .int (i32 ((m.2 82) jj))), (4, .int (i32 ((m.2 80) jj))), (5, .int (i32 (m.1 69)))]) rfl rfl ⟨rfl, rfl, rfl, rfl, rfl, rfl, trivial⟩ ?_
              exact J261_10 (((m.2 81) jj) + (m.1 69)) (mO m261 [] []) (r32 (by omega) (by omega)) Tm261 (fr_m (fr_s Fm261 (fr_m (fr_s Fm253 (fr_m (fr_s Fm134 (fr_m fr_0 rfl rfl) rfl rfl) rfl rfl) rfl rfl) rfl rfl) rfl rfl) rfl rfl) (show 0 ≤ (((m.2 81) jj) + (m.1 69)) ∧ (((m.2 81) jj) + (m.1 69)) ≤ (m.1 69) + 64 by omega) (fun (h : (m261.1 10) = 0) => absurd h (by omega))
            · skip
              refine T_ld 186 (.int (i32 1)) rfl (fun _ => rfl) ?_
              refine T_goto 190 rfl (fun _ => rfl) ?_
              refine T_gf 194 (.int (i32 (m.1 70))) rfl rfl rfl rfl (mfv_c (F := fun x => .int (i32 x)) rfl (show (m253.1 70) = (m.1 70) from ((fr1 Fm253 70 rfl).trans (fr1 Fm134 70 rfl)))) rfl ?_
              refine T_call 197 256 [.ref 189, .int (i32 1), .int (i32 (m.1 70))] [] rfl (fun _ => rfl) rfl (c_want w (mO m253 [] []) c N D (by omega) Tm253 1 (m.1 70) ⟨by decide, by decide⟩ (r32 (by omega) (by omega)) (show 0 ≤ (m.1 70) ∧ (m.1 70) ≤ 4000 by omega) (fun (h : (m253.1 10) = 0) => absurd h (by omega))) (fun rr266 k267 => ?_)
              obtain ⟨m268, Tm268, Fm268, h269, c270, rfl⟩ := k267
              refine ⟨_, _, rfl, ?_⟩
              refine T_nb (st' := []) rfl ?_
              have g271 : 0 ≤ m268.1 10 ∧ m268.1 10 ≤ 8 := Tm268.1 10
              replace h269 : (m268.1 10) = 0 → (m253.1 10) = 0 := h269
              have hf272 : 1 ≤ (m268.1 10) := by omega
              clear c270
              clear h269
              clear g256 hf257
              refine T_ld 198 (.int (i32 ((m.2 81) jj))) rfl (fun _ => rfl) ?_
              refine T_gf 202 (.int (i32 (m.1 69))) rfl rfl rfl rfl (mfv_c (F := fun x => .int (i32 x)) rfl (show (m268.1 69) = (m.1 69) from ((fr1 Fm268 69 rfl).trans ((fr1 Fm253 69 rfl).trans (fr1 Fm134 69 rfl))))) rfl ?_
              refine T_iadd 203 rfl rfl ?_
              refine T_sto 204 [(2, .int (i32 (((m.2 81) jj) + (m.1 69)))), (5, .int (i32 (m.1 69))), (4, .int (i32 ((m.2 80) jj))), (3, .int (i32 ((m.2 82) jj))), (0, .ref 189), (1, .int (i32 jj))] rfl (fun _ => rfl) ?_
              refine T_goto 261 rfl (fun _ => rfl) ?_
              refine Tm_lv (a := [(0, .ref 189), (1, .int (i32 jj)), (2, .int (i32 (((m.2 81) jj) + (m.1 69)))), (3, .int (i32 ((m.2 82) jj))), (4, .int (i32 ((m.2 80) jj))), (5, .int (i32 (m.1 69)))]) rfl rfl ⟨rfl, rfl, rfl, rfl, rfl, rfl, trivial⟩ ?_
              exact J261_10 (((m.2 81) jj) + (m.1 69)) (mO m268 [] []) (r32 (by omega) (by omega)) Tm268 (fr_m (fr_s Fm268 (fr_m (fr_s Fm253 (fr_m (fr_s Fm134 (fr_m fr_0 rfl rfl) rfl rfl) rfl rfl) rfl rfl) rfl rfl) rfl rfl) rfl rfl) (show 0 ≤ (((m.2 81) jj) + (m.1 69)) ∧ (((m.2 81) jj) + (m.1 69)) ≤ (m.1 69) + 64 by omega) (fun (h : (m268.1 10) = 0) => absurd h (by omega))
      · skip
        refine T_ld 145 (.int (i32 1)) rfl (fun _ => rfl) ?_
        refine T_goto 149 rfl (fun _ => rfl) ?_
        refine T_ld 150 (.int (i32 ((m.2 82) jj))) rfl (fun _ => rfl) ?_
        refine T_call 153 256 [.ref 189, .int (i32 1), .int (i32 ((m.2 82) jj))] [] rfl (fun _ => rfl) rfl (c_want w (mO m [] []) c N D (by omega) hT 1 ((m.2 82) jj) ⟨by decide, by decide⟩ (r32 (by omega) (by omega)) (show 0 ≤ ((m.2 82) jj) ∧ ((m.2 82) jj) ≤ 4000 by omega) (fun _ => trivial)) (fun rr273 k274 => ?_)
        obtain ⟨m275, Tm275, Fm275, h276, c277, rfl⟩ := k274
        refine ⟨_, _, rfl, ?_⟩
        refine T_nb (st' := []) rfl ?_
        have g278 : 0 ≤ m275.1 10 ∧ m275.1 10 ≤ 8 := Tm275.1 10
        by_cases hf279 : (m275.1 10) = 0
        · skip
          replace h276 : (m.1 10) = 0 := h276 hf279
          have c280 := c277 hf279
          replace c280 : (1 : Int) ≠ 0 := c280
          clear c277
          clear g68a g68b h69
          refine T_ld 154 (.ref 189) rfl (fun _ => rfl) ?_
          refine T_gf 158 (.int (i32 (m.1 71))) rfl rfl rfl rfl (mfv_c (F := fun x => .int (i32 x)) rfl (show (m275.1 71) = (m.1 71) from (fr1 Fm275 71 rfl))) rfl ?_
          refine T_if 165 161 rfl rfl rfl (r32 (by omega) (by omega)) (fun (h281 : (m.1 71) ≠ 0) => ?_) (fun (h281 : ¬ ((m.1 71) ≠ 0)) => ?_)
          · skip
            refine T_ld 166 (.int (i32 0)) rfl (fun _ => rfl) ?_
            refine T_gf 170 (.int (i32 (m.1 70))) rfl rfl rfl rfl (mfv_c (F := fun x => .int (i32 x)) rfl (show (m275.1 70) = (m.1 70) from (fr1 Fm275 70 rfl))) rfl ?_
            refine T_call 173 256 [.ref 189, .int (i32 0), .int (i32 (m.1 70))] [] rfl (fun _ => rfl) rfl (c_want w (mO m275 [] []) c N D (by omega) Tm275 0 (m.1 70) ⟨by decide, by decide⟩ (r32 (by omega) (by omega)) (show 0 ≤ (m.1 70) ∧ (m.1 70) ≤ 4000 by omega) (fun _ => trivial)) (fun rr282 k283 => ?_)
            obtain ⟨m284, Tm284, Fm284, h285, c286, rfl⟩ := k283
            refine ⟨_, _, rfl, ?_⟩
            refine T_nb (st' := []) rfl ?_
            have g287 : 0 ≤ m284.1 10 ∧ m284.1 10 ≤ 8 := Tm284.1 10
            by_cases hf288 : (m284.1 10) = 0
            · skip
              replace h285 : (m275.1 10) = 0 := h285 hf288
              have c289 := c286 hf288
              replace c289 : (0 : Int) ≠ 0 := c289
              clear c286
              clear g278 h285
              refine T_ld 174 (.ref 189) rfl (fun _ => rfl) ?_
              refine T_ld 175 (.int (i32 ((m.2 81) jj))) rfl (fun _ => rfl) ?_
              refine T_gf 179 (.int (i32 (m.1 69))) rfl rfl rfl rfl (mfv_c (F := fun x => .int (i32 x)) rfl (show (m284.1 69) = (m.1 69) from ((fr1 Fm284 69 rfl).trans (fr1 Fm275 69 rfl)))) rfl ?_
              refine T_iadd 180 rfl rfl ?_
              refine T_ld 182 (.int (i32 64)) rfl (fun _ => rfl) ?_
              refine T_icmp 189 185 rfl rfl rfl (r32 (by omega) (by omega)) ⟨by decide, by decide⟩ (fun (h290 : (64 : Int) < ((m.2 81) jj) + (m.1 69)) => ?_) (fun (h290 : ¬ ((64 : Int) < ((m.2 81) jj) + (m.1 69))) => ?_)
              · skip
                refine T_ld 190 (.int (i32 0)) rfl (fun _ => rfl) ?_
                refine T_gf 194 (.int (i32 (m.1 70))) rfl rfl rfl rfl (mfv_c (F := fun x => .int (i32 x)) rfl (show (m284.1 70) = (m.1 70) from ((fr1 Fm284 70 rfl).trans (fr1 Fm275 70 rfl)))) rfl ?_
                refine T_call 197 256 [.ref 189, .int (i32 0), .int (i32 (m.1 70))] [] rfl (fun _ => rfl) rfl (c_want w (mO m284 [] []) c N D (by omega) Tm284 0 (m.1 70) ⟨by decide, by decide⟩ (r32 (by omega) (by omega)) (show 0 ≤ (m.1 70) ∧ (m.1 70) ≤ 4000 by omega) (fun _ => trivial)) (fun rr291 k292 => ?_)
                obtain ⟨m293, Tm293, Fm293, h294, c295, rfl⟩ := k292
                refine ⟨_, _, rfl, ?_⟩
                refine T_nb (st' := []) rfl ?_
                have g296 : 0 ≤ m293.1 10 ∧ m293.1 10 ≤ 8 := Tm293.1 10
                by_cases hf297 : (m293.1 10) = 0
                · skip
                  replace h294 : (m284.1 10) = 0 := h294 hf297
                  have c298 := c295 hf297
                  replace c298 : (0 : Int) ≠ 0 := c298
                  clear c295
                  clear g287 h294
                  refine T_ld 198 (.int (i32 ((m.2 81) jj))) rfl (fun _ => rfl) ?_
                  refine T_gf 202 (.int (i32 (m.1 69))) rfl rfl rfl rfl (mfv_c (F := fun x => .int (i32 x)) rfl (show (m293.1 69) = (m.1 69) from ((fr1 Fm293 69 rfl).trans ((fr1 Fm284 69 rfl).trans (fr1 Fm275 69 rfl))))) rfl ?_
                  refine T_iadd 203 rfl rfl ?_
                  refine T_sto 204 [(2, .int (i32 (((m.2 81) jj) + (m.1 69)))), (5, .int (i32 (m.1 69))), (4, .int (i32 ((m.2 80) jj))), (3, .int (i32 ((m.2 82) jj))), (0, .ref 189), (1, .int (i32 jj))] rfl (fun _ => rfl) ?_
                  refine T_goto 261 rfl (fun _ => rfl) ?_
                  refine Tm_lv (a := [(0, .ref 189), (1, .int (i32 jj)), (2, .int (i32 (((m.2 81) jj) + (m.1 69)))), (3, .int (i32 ((m.2 82) jj))), (4, .int (i32 ((m.2 80) jj))), (5, .int (i32 (m.1 69)))]) rfl rfl ⟨rfl, rfl, rfl, rfl, rfl, rfl, trivial⟩ ?_
                  exact J261_10 (((m.2 81) jj) + (m.1 69)) (mO m293 [] []) (r32 (by omega) (by omega)) Tm293 (fr_m (fr_s Fm293 (fr_m (fr_s Fm284 (fr_m (fr_s Fm275 (fr_m fr_0 rfl rfl) rfl rfl) rfl rfl) rfl rfl) rfl rfl) rfl rfl) rfl rfl) (show 0 ≤ (((m.2 81) jj) + (m.1 69)) ∧ (((m.2 81) jj) + (m.1 69)) ≤ (m.1 69) + 64 by omega) (fun _ => (show (((m.2 81) jj) + (m.1 69)) ≤ 64 by omega))
                · skip
                  clear c295
                  clear h294
                  have hf299 : 1 ≤ (m293.1 10) := by omega
                  clear g287
                  refine T_ld 198 (.int (i32 ((m.2 81) jj))) rfl (fun _ => rfl) ?_
                  refine T_gf 202 (.int (i32 (m.1 69))) rfl rfl rfl rfl (mfv_c (F := fun x => .int (i32 x)) rfl (show (m293.1 69) = (m.1 69) from ((fr1 Fm293 69 rfl).trans ((fr1 Fm284 69 rfl).trans (fr1 Fm275 69 rfl))))) rfl ?_
                  refine T_iadd 203 rfl rfl ?_
                  refine T_sto 204 [(2, .int (i32 (((m.2 81) jj) + (m.1 69)))), (5, .int (i32 (m.1 69))), (4, .int (i32 ((m.2 80) jj))), (3, .int (i32 ((m.2 82) jj))), (0, .ref 189), (1, .int (i32 jj))] rfl (fun _ => rfl) ?_
                  refine T_goto 261 rfl (fun _ => rfl) ?_
                  refine Tm_lv (a := [(0, .ref 189), (1, .int (i32 jj)), (2, .int (i32 (((m.2 81) jj) + (m.1 69)))), (3, .int (i32 ((m.2 82) jj))), (4, .int (i32 ((m.2 80) jj))), (5, .int (i32 (m.1 69)))]) rfl rfl ⟨rfl, rfl, rfl, rfl, rfl, rfl, trivial⟩ ?_
                  exact J261_10 (((m.2 81) jj) + (m.1 69)) (mO m293 [] []) (r32 (by omega) (by omega)) Tm293 (fr_m (fr_s Fm293 (fr_m (fr_s Fm284 (fr_m (fr_s Fm275 (fr_m fr_0 rfl rfl) rfl rfl) rfl rfl) rfl rfl) rfl rfl) rfl rfl) rfl rfl) (show 0 ≤ (((m.2 81) jj) + (m.1 69)) ∧ (((m.2 81) jj) + (m.1 69)) ≤ (m.1 69) + 64 by omega) (fun (h : (m293.1 10) = 0) => absurd h (by omega))
              · skip
                refine T_ld 186 (.int (i32 1)) rfl (fun _ => rfl) ?_
                refine T_goto 190 rfl (fun _ => rfl) ?_
                refine T_gf 194 (.int (i32 (m.1 70))) rfl rfl rfl rfl (mfv_c (F := fun x => .int (i32 x)) rfl (show (m284.1 70) = (m.1 70) from ((fr1 Fm284 70 rfl).trans (fr1 Fm275 70 rfl)))) rfl ?_
                refine T_call 197 256 [.ref 189, .int (i32 1), .int (i32 (m.1 70))] [] rfl (fun _ => rfl) rfl (c_want w (mO m284 [] []) c N D (by omega) Tm284 1 (m.1 70) ⟨by decide, by decide⟩ (r32 (by omega) (by omega)) (show 0 ≤ (m.1 70) ∧ (m.1 70) ≤ 4000 by omega) (fun _ => trivial)) (fun rr300 k301 => ?_)
                obtain ⟨m302, Tm302, Fm302, h303, c304, rfl⟩ := k301
                refine ⟨_, _, rfl, ?_⟩
                refine T_nb (st' := []) rfl ?_
                have g305 : 0 ≤ m302.1 10 ∧ m302.1 10 ≤ 8 := Tm302.1 10
                by_cases hf306 : (m302.1 10) = 0
                · skip
                  replace h303 : (m284.1 10) = 0 := h303 hf306
                  have c307 := c304 hf306
                  replace c307 : (1 : Int) ≠ 0 := c307
                  clear c304
                  clear g287 h303
                  refine T_ld 198 (.int (i32 ((m.2 81) jj))) rfl (fun _ => rfl) ?_
                  refine T_gf 202 (.int (i32 (m.1 69))) rfl rfl rfl rfl (mfv_c (F := fun x => .int (i32 x)) rfl (show (m302.1 69) = (m.1 69) from ((fr1 Fm302 69 rfl).trans ((fr1 Fm284 69 rfl).trans (fr1 Fm275 69 rfl))))) rfl ?_
                  refine T_iadd 203 rfl rfl ?_
                  refine T_sto 204 [(2, .int (i32 (((m.2 81) jj) + (m.1 69)))), (5, .int (i32 (m.1 69))), (4, .int (i32 ((m.2 80) jj))), (3, .int (i32 ((m.2 82) jj))), (0, .ref 189), (1, .int (i32 jj))] rfl (fun _ => rfl) ?_
                  refine T_goto 261 rfl (fun _ => rfl) ?_
                  refine Tm_lv (a := [(0, .ref 189), (1, .int (i32 jj)), (2, .int (i32 (((m.2 81) jj) + (m.1 69)))), (3, .int (i32 ((m.2 82) jj))), (4, .int (i32 ((m.2 80) jj))), (5, .int (i32 (m.1 69)))]) rfl rfl ⟨rfl, rfl, rfl, rfl, rfl, rfl, trivial⟩ ?_
                  exact J261_10 (((m.2 81) jj) + (m.1 69)) (mO m302 [] []) (r32 (by omega) (by omega)) Tm302 (fr_m (fr_s Fm302 (fr_m (fr_s Fm284 (fr_m (fr_s Fm275 (fr_m fr_0 rfl rfl) rfl rfl) rfl rfl) rfl rfl) rfl rfl) rfl rfl) rfl rfl) (show 0 ≤ (((m.2 81) jj) + (m.1 69)) ∧ (((m.2 81) jj) + (m.1 69)) ≤ (m.1 69) + 64 by omega) (fun _ => (show (((m.2 81) jj) + (m.1 69)) ≤ 64 by omega))
                · skip
                  clear c304
                  clear h303
                  have hf308 : 1 ≤ (m302.1 10) := by omega
                  clear g287
                  refine T_ld 198 (.int (i32 ((m.2 81) jj))) rfl (fun _ => rfl) ?_
                  refine T_gf 202 (.int (i32 (m.1 69))) rfl rfl rfl rfl (mfv_c (F := fun x => .int (i32 x)) rfl (show (m302.1 69) = (m.1 69) from ((fr1 Fm302 69 rfl).trans ((fr1 Fm284 69 rfl).trans (fr1 Fm275 69 rfl))))) rfl ?_
                  refine T_iadd 203 rfl rfl ?_
                  refine T_sto 204 [(2, .int (i32 (((m.2 81) jj) + (m.1 69)))), (5, .int (i32 (m.1 69))), (4, .int (i32 ((m.2 80) jj))), (3, .int (i32 ((m.2 82) jj))), (0, .ref 189), (1, .int (i32 jj))] rfl (fun _ => rfl) ?_
                  refine T_goto 261 rfl (fun _ => rfl) ?_
                  refine Tm_lv (a := [(0, .ref 189), (1, .int (i32 jj)), (2, .int (i32 (((m.2 81) jj) + (m.1 69)))), (3, .int (i32 ((m.2 82) jj))), (4, .int (i32 ((m.2 80) jj))), (5, .int (i32 (m.1 69)))]) rfl rfl ⟨rfl, rfl, rfl, rfl, rfl, rfl, trivial⟩ ?_
                  exact J261_10 (((m.2 81) jj) + (m.1 69)) (mO m302 [] []) (r32 (by omega) (by omega)) Tm302 (fr_m (fr_s Fm302 (fr_m (fr_s Fm284 (fr_m (fr_s Fm275 (fr_m fr_0 rfl rfl) rfl rfl) rfl rfl) rfl rfl) rfl rfl) rfl rfl) rfl rfl) (show 0 ≤ (((m.2 81) jj) + (m.1 69)) ∧ (((m.2 81) jj) + (m.1 69)) ≤ (m.1 69) + 64 by omega) (fun (h : (m302.1 10) = 0) => absurd h (by omega))
            · skip
              clear c286
              clear h285
              have hf309 : 1 ≤ (m284.1 10) := by omega
              clear g278
              refine T_ld 174 (.ref 189) rfl (fun _ => rfl) ?_
              refine T_ld 175 (.int (i32 ((m.2 81) jj))) rfl (fun _ => rfl) ?_
              refine T_gf 179 (.int (i32 (m.1 69))) rfl rfl rfl rfl (mfv_c (F := fun x => .int (i32 x)) rfl (show (m284.1 69) = (m.1 69) from ((fr1 Fm284 69 rfl).trans (fr1 Fm275 69 rfl)))) rfl ?_
              refine T_iadd 180 rfl rfl ?_
              refine T_ld 182 (.int (i32 64)) rfl (fun _ => rfl) ?_
              refine T_icmp 189 185 rfl rfl rfl (r32 (by omega) (by omega)) ⟨by decide, by decide⟩ (fun (h310 : (64 : Int) < ((m.2 81) jj) + (m.1 69)) => ?_) (fun (h310 : ¬ ((64 : Int) < ((m.2 81) jj) + (m.1 69))) => ?_)
              · skip
                refine T_ld 190 (.int (i32 0)) rfl (fun _ => rfl) ?_
                refine T_gf 194 (.int (i32 (m.1 70))) rfl rfl rfl rfl (mfv_c (F := fun x => .int (i32 x)) rfl (show (m284.1 70) = (m.1 70) from ((fr1 Fm284 70 rfl).trans (fr1 Fm275 70 rfl)))) rfl ?_
                refine T_call 197 256 [.ref 189, .int (i32 0), .int (i32 (m.1 70))] [] rfl (fun _ => rfl) rfl (c_want w (mO m284 [] []) c N D (by omega) Tm284 0 (m.1 70) ⟨by decide, by decide⟩ (r32 (by omega) (by omega)) (show 0 ≤ (m.1 70) ∧ (m.1 70) ≤ 4000 by omega) (fun (h : (m284.1 10) = 0) => absurd h (by omega))) (fun rr311 k312 => ?_)
                obtain ⟨m313, Tm313, Fm313, h314, c315, rfl⟩ := k312
                refine ⟨_, _, rfl, ?_⟩
                refine T_nb (st' := []) rfl ?_
                have g316 : 0 ≤ m313.1 10 ∧ m313.1 10 ≤ 8 := Tm313.1 10
                replace h314 : (m313.1 10) = 0 → (m284.1 10) = 0 := h314
                have hf317 : 1 ≤ (m313.1 10) := by omega
                clear c315
                clear h314
                clear g287 hf309
                refine T_ld 198 (.int (i32 ((m.2 81) jj))) rfl (fun _ => rfl) ?_
                refine T_gf 202 (.int (i32 (m.1 69))) rfl rfl rfl rfl (mfv_c (F := fun x => .int (i32 x)) rfl (show (m313.1 69) = (m.1 69) from ((fr1 Fm313 69 rfl).trans ((fr1 Fm284 69 rfl).trans (fr1 Fm275 69 rfl))))) rfl ?_
                refine T_iadd 203 rfl rfl ?_
                refine T_sto 204 [(2, .int (i32 (((m.2 81) jj) + (m.1 69)))), (5, .int (i32 (m.1 69))), (4, .int (i32 ((m.2 80) jj))), (3, .int (i32 ((m.2 82) jj))), (0, .ref 189), (1, .int (i32 jj))] rfl (fun _ => rfl) ?_
                refine T_goto 261 rfl (fun _ => rfl) ?_
                refine Tm_lv (a := [(0, .ref 189), (1, .int (i32 jj)), (2, .int (i32 (((m.2 81) jj) + (m.1 69)))), (3, .int (i32 ((m.2 82) jj))), (4, .int (i32 ((m.2 80) jj))), (5, .int (i32 (m.1 69)))]) rfl rfl ⟨rfl, rfl, rfl, rfl, rfl, rfl, trivial⟩ ?_
                exact J261_10 (((m.2 81) jj) + (m.1 69)) (mO m313 [] []) (r32 (by omega) (by omega)) Tm313 (fr_m (fr_s Fm313 (fr_m (fr_s Fm284 (fr_m (fr_s Fm275 (fr_m fr_0 rfl rfl) rfl rfl) rfl rfl) rfl rfl) rfl rfl) rfl rfl) rfl rfl) (show 0 ≤ (((m.2 81) jj) + (m.1 69)) ∧ (((m.2 81) jj) + (m.1 69)) ≤ (m.1 69) + 64 by omega) (fun (h : (m313.1 10) = 0) => absurd h (by omega))
              · skip
                refine T_ld 186 (.int (i32 1)) rfl (fun _ => rfl) ?_
                refine T_goto 190 rfl (fun _ => rfl) ?_
                refine T_gf 194 (.int (i32 (m.1 70))) rfl rfl rfl rfl (mfv_c (F := fun x => .int (i32 x)) rfl (show (m284.1 70) = (m.1 70) from ((fr1 Fm284 70 rfl).trans (fr1 Fm275 70 rfl)))) rfl ?_
                refine T_call 197 256 [.ref 189, .int (i32 1), .int (i32 (m.1 70))] [] rfl (fun _ => rfl) rfl (c_want w (mO m284 [] []) c N D (by omega) Tm284 1 (m.1 70) ⟨by decide, by decide⟩ (r32 (by omega) (by omega)) (show 0 ≤ (m.1 70) ∧ (m.1 70) ≤ 4000 by omega) (fun (h : (m284.1 10) = 0) => absurd h (by omega))) (fun rr318 k319 => ?_)
                obtain ⟨m320, Tm320, Fm320, h321, c322, rfl⟩ := k319
                refine ⟨_, _, rfl, ?_⟩
                refine T_nb (st' := []) rfl ?_
                have g323 : 0 ≤ m320.1 10 ∧ m320.1 10 ≤ 8 := Tm320.1 10
                replace h321 : (m320.1 10) = 0 → (m284.1 10) = 0 := h321
                have hf324 : 1 ≤ (m320.1 10) := by omega
                clear c322
                clear h321
                clear g287 hf309
                refine T_ld 198 (.int (i32 ((m.2 81) jj))) rfl (fun _ => rfl) ?_
                refine T_gf 202 (.int (i32 (m.1 69))) rfl rfl rfl rfl (mfv_c (F := fun x => .int (i32 x)) rfl (show (m320.1 69) = (m.1 69) from ((fr1 Fm320 69 rfl).trans ((fr1 Fm284 69 rfl).trans (fr1 Fm275 69 rfl))))) rfl ?_
                refine T_iadd 203 rfl rfl ?_
                refine T_sto 204 [(2, .int (i32 (((m.2 81) jj) + (m.1 69)))), (5, .int (i32 (m.1 69))), (4, .int (i32 ((m.2 80) jj))), (3, .int (i32 ((m.2 82) jj))), (0, .ref 189), (1, .int (i32 jj))] rfl (fun _ => rfl) ?_
                refine T_goto 261 rfl (fun _ => rfl) ?_
                refine Tm_lv (a := [(0, .ref 189), (1, .int (i32 jj)), (2, .int (i32 (((m.2 81) jj) + (m.1 69)))), (3, .int (i32 ((m.2 82) jj))), (4, .int (i32 ((m.2 80) jj))), (5, .int (i32 (m.1 69)))]) rfl rfl ⟨rfl, rfl, rfl, rfl, rfl, rfl, trivial⟩ ?_
                exact J261_10 (((m.2 81) jj) + (m.1 69)) (mO m320 [] []) (r32 (by omega) (by omega)) Tm320 (fr_m (fr_s Fm320 (fr_m (fr_s Fm284 (fr_m (fr_s Fm275 (fr_m fr_0 rfl rfl) rfl rfl) rfl rfl) rfl rfl) rfl rfl) rfl rfl) rfl rfl) (show 0 ≤ (((m.2 81) jj) + (m.1 69)) ∧ (((m.2 81) jj) + (m.1 69)) ≤ (m.1 69) + 64 by omega) (fun (h : (m320.1 10) = 0) => absurd h (by omega))
          · skip
            refine T_ld 162 (.int (i32 1)) rfl (fun _ => rfl) ?_
            refine T_goto 166 rfl (fun _ => rfl) ?_
            refine T_gf 170 (.int (i32 (m.1 70))) rfl rfl rfl rfl (mfv_c (F := fun x => .int (i32 x)) rfl (show (m275.1 70) = (m.1 70) from (fr1 Fm275 70 rfl))) rfl ?_
            refine T_call 173 256 [.ref 189, .int (i32 1), .int (i32 (m.1 70))] [] rfl (fun _ => rfl) rfl (c_want w (mO m275 [] []) c N D (by omega) Tm275 1 (m.1 70) ⟨by decide, by decide⟩ (r32 (by omega) (by omega)) (show 0 ≤ (m.1 70) ∧ (m.1 70) ≤ 4000 by omega) (fun _ => trivial)) (fun rr325 k326 => ?_)
            obtain ⟨m327, Tm327, Fm327, h328, c329, rfl⟩ := k326
            refine ⟨_, _, rfl, ?_⟩
            refine T_nb (st' := []) rfl ?_
            have g330 : 0 ≤ m327.1 10 ∧ m327.1 10 ≤ 8 := Tm327.1 10
            by_cases hf331 : (m327.1 10) = 0
            · skip
              replace h328 : (m275.1 10) = 0 := h328 hf331
              have c332 := c329 hf331
              replace c332 : (1 : Int) ≠ 0 := c332
              clear c329
              clear g278 h328
              refine T_ld 174 (.ref 189) rfl (fun _ => rfl) ?_
              refine T_ld 175 (.int (i32 ((m.2 81) jj))) rfl (fun _ => rfl) ?_
              refine T_gf 179 (.int (i32 (m.1 69))) rfl rfl rfl rfl (mfv_c (F := fun x => .int (i32 x)) rfl (show (m327.1 69) = (m.1 69) from ((fr1 Fm327 69 rfl).trans (fr1 Fm275 69 rfl)))) rfl ?_
              refine T_iadd 180 rfl rfl ?_
              refine T_ld 182 (.int (i32 64)) rfl (fun _ => rfl) ?_
              refine T_icmp 189 185 rfl rfl rfl (r32 (by omega) (by omega)) ⟨by decide, by decide⟩ (fun (h333 : (64 : Int) < ((m.2 81) jj) + (m.1 69)) => ?_) (fun (h333 : ¬ ((64 : Int) < ((m.2 81) jj) + (m.1 69))) => ?_)
              · skip
                refine T_ld 190 (.int (i32 0)) rfl (fun _ => rfl) ?_
                refine T_gf 194 (.int (i32 (m.1 70))) rfl rfl rfl rfl (mfv_c (F := fun x => .int (i32 x)) rfl (show (m327.1 70) = (m.1 70) from ((fr1 Fm327 70 rfl).trans (fr1 Fm275 70 rfl)))) rfl ?_
                refine T_call 197 256 [.ref 189, .int (i32 0), .int (i32 (m.1 70))] [] rfl (fun _ => rfl) rfl (c_want w (mO m327 [] []) c N D (by omega) Tm327 0 (m.1 70) ⟨by decide, by decide⟩ (r32 (by omega) (by omega)) (show 0 ≤ (m.1 70) ∧ (m.1 70) ≤ 4000 by omega) (fun _ => trivial)) (fun rr334 k335 => ?_)
                obtain ⟨m336, Tm336, Fm336, h337, c338, rfl⟩ := k335
                refine ⟨_, _, rfl, ?_⟩
                refine T_nb (st' := []) rfl ?_
                have g339 : 0 ≤ m336.1 10 ∧ m336.1 10 ≤ 8 := Tm336.1 10
                by_cases hf340 : (m336.1 10) = 0
                · skip
                  replace h337 : (m327.1 10) = 0 := h337 hf340
                  have c341 := c338 hf340
                  replace c341 : (0 : Int) ≠ 0 := c341
                  clear c338
                  clear g330 h337
                  refine T_ld 198 (.int (i32 ((m.2 81) jj))) rfl (fun _ => rfl) ?_
                  refine T_gf 202 (.int (i32 (m.1 69))) rfl rfl rfl rfl (mfv_c (F := fun x => .int (i32 x)) rfl (show (m336.1 69) = (m.1 69) from ((fr1 Fm336 69 rfl).trans ((fr1 Fm327 69 rfl).trans (fr1 Fm275 69 rfl))))) rfl ?_
                  refine T_iadd 203 rfl rfl ?_
                  refine T_sto 204 [(2, .int (i32 (((m.2 81) jj) + (m.1 69)))), (5, .int (i32 (m.1 69))), (4, .int (i32 ((m.2 80) jj))), (3, .int (i32 ((m.2 82) jj))), (0, .ref 189), (1, .int (i32 jj))] rfl (fun _ => rfl) ?_
                  refine T_goto 261 rfl (fun _ => rfl) ?_
                  refine Tm_lv (a := [(0, .ref 189), (1, .int (i32 jj)), (2, .int (i32 (((m.2 81) jj) + (m.1 69)))), (3, .int (i32 ((m.2 82) jj))), (4, .int (i32 ((m.2 80) jj))), (5, .int (i32 (m.1 69)))]) rfl rfl ⟨rfl, rfl, rfl, rfl, rfl, rfl, trivial⟩ ?_
                  exact J261_10 (((m.2 81) jj) + (m.1 69)) (mO m336 [] []) (r32 (by omega) (by omega)) Tm336 (fr_m (fr_s Fm336 (fr_m (fr_s Fm327 (fr_m (fr_s Fm275 (fr_m fr_0 rfl rfl) rfl rfl) rfl rfl) rfl rfl) rfl rfl) rfl rfl) rfl rfl) (show 0 ≤ (((m.2 81) jj) + (m.1 69)) ∧ (((m.2 81) jj) + (m.1 69)) ≤ (m.1 69) + 64 by omega) (fun _ => (show (((m.2 81) jj) + (m.1 69)) ≤ 64 by omega))
                · skip
                  clear c338
                  clear h337
                  have hf342 : 1 ≤ (m336.1 10) := by omega
                  clear g330
                  refine T_ld 198 (.int (i32 ((m.2 81) jj))) rfl (fun _ => rfl) ?_
                  refine T_gf 202 (.int (i32 (m.1 69))) rfl rfl rfl rfl (mfv_c (F := fun x => .int (i32 x)) rfl (show (m336.1 69) = (m.1 69) from ((fr1 Fm336 69 rfl).trans ((fr1 Fm327 69 rfl).trans (fr1 Fm275 69 rfl))))) rfl ?_
                  refine T_iadd 203 rfl rfl ?_
                  refine T_sto 204 [(2, .int (i32 (((m.2 81) jj) + (m.1 69)))), (5, .int (i32 (m.1 69))), (4, .int (i32 ((m.2 80) jj))), (3, .int (i32 ((m.2 82) jj))), (0, .ref 189), (1, .int (i32 jj))] rfl (fun _ => rfl) ?_
                  refine T_goto 261 rfl (fun _ => rfl) ?_
                  refine Tm_lv (a := [(0, .ref 189), (1, .int (i32 jj)), (2, .int (i32 (((m.2 81) jj) + (m.1 69)))), (3, .int (i32 ((m.2 82) jj))), (4, .int (i32 ((m.2 80) jj))), (5, .int (i32 (m.1 69)))]) rfl rfl ⟨rfl, rfl, rfl, rfl, rfl, rfl, trivial⟩ ?_
                  exact J261_10 (((m.2 81) jj) + (m.1 69)) (mO m336 [] []) (r32 (by omega) (by omega)) Tm336 (fr_m (fr_s Fm336 (fr_m (fr_s Fm327 (fr_m (fr_s Fm275 (fr_m fr_0 rfl rfl) rfl rfl) rfl rfl) rfl rfl) rfl rfl) rfl rfl) rfl rfl) (show 0 ≤ (((m.2 81) jj) + (m.1 69)) ∧ (((m.2 81) jj) + (m.1 69)) ≤ (m.1 69) + 64 by omega) (fun (h : (m336.1 10) = 0) => absurd h (by omega))
              · skip
                refine T_ld 186 (.int (i32 1)) rfl (fun _ => rfl) ?_
                refine T_goto 190 rfl (fun _ => rfl) ?_
                refine T_gf 194 (.int (i32 (m.1 70))) rfl rfl rfl rfl (mfv_c (F := fun x => .int (i32 x)) rfl (show (m327.1 70) = (m.1 70) from ((fr1 Fm327 70 rfl).trans (fr1 Fm275 70 rfl)))) rfl ?_
                refine T_call 197 256 [.ref 189, .int (i32 1), .int (i32 (m.1 70))] [] rfl (fun _ => rfl) rfl (c_want w (mO m327 [] []) c N D (by omega) Tm327 1 (m.1 70) ⟨by decide, by decide⟩ (r32 (by omega) (by omega)) (show 0 ≤ (m.1 70) ∧ (m.1 70) ≤ 4000 by omega) (fun _ => trivial)) (fun rr343 k344 => ?_)
                obtain ⟨m345, Tm345, Fm345, h346, c347, rfl⟩ := k344
                refine ⟨_, _, rfl, ?_⟩
                refine T_nb (st' := []) rfl ?_
                have g348 : 0 ≤ m345.1 10 ∧ m345.1 10 ≤ 8 := Tm345.1 10
                by_cases hf349 : (m345.1 10) = 0
                · skip
                  replace h346 : (m327.1 10) = 0 := h346 hf349
                  have c350 := c347 hf349
                  replace c350 : (1 : Int) ≠ 0 := c350
                  clear c347
                  clear g330 h346
                  refine T_ld 198 (.int (i32 ((m.2 81) jj))) rfl (fun _ => rfl) ?_
                  refine T_gf 202 (.int (i32 (m.1 69))) rfl rfl rfl rfl (mfv_c (F := fun x => .int (i32 x)) rfl (show (m345.1 69) = (m.1 69) from ((fr1 Fm345 69 rfl).trans ((fr1 Fm327 69 rfl).trans (fr1 Fm275 69 rfl))))) rfl ?_
                  refine T_iadd 203 rfl rfl ?_
                  refine T_sto 204 [(2, .int (i32 (((m.2 81) jj) + (m.1 69)))), (5, .int (i32 (m.1 69))), (4, .int (i32 ((m.2 80) jj))), (3, .int (i32 ((m.2 82) jj))), (0, .ref 189), (1, .int (i32 jj))] rfl (fun _ => rfl) ?_
                  refine T_goto 261 rfl (fun _ => rfl) ?_
                  refine Tm_lv (a := [(0, .ref 189), (1, .int (i32 jj)), (2, .int (i32 (((m.2 81) jj) + (m.1 69)))), (3, .int (i32 ((m.2 82) jj))), (4, .int (i32 ((m.2 80) jj))), (5, .int (i32 (m.1 69)))]) rfl rfl ⟨rfl, rfl, rfl, rfl, rfl, rfl, trivial⟩ ?_
                  exact J261_10 (((m.2 81) jj) + (m.1 69)) (mO m345 [] []) (r32 (by omega) (by omega)) Tm345 (fr_m (fr_s Fm345 (fr_m (fr_s Fm327 (fr_m (fr_s Fm275 (fr_m fr_0 rfl rfl) rfl rfl) rfl rfl) rfl rfl) rfl rfl) rfl rfl) rfl rfl) (show 0 ≤ (((m.2 81) jj) + (m.1 69)) ∧ (((m.2 81) jj) + (m.1 69)) ≤ (m.1 69) + 64 by omega) (fun _ => (show (((m.2 81) jj) + (m.1 69)) ≤ 64 by omega))
                · skip
                  clear c347
                  clear h346
                  have hf351 : 1 ≤ (m345.1 10) := by omega
                  clear g330
                  refine T_ld 198 (.int (i32 ((m.2 81) jj))) rfl (fun _ => rfl) ?_
                  refine T_gf 202 (.int (i32 (m.1 69))) rfl rfl rfl rfl (mfv_c (F := fun x => .int (i32 x)) rfl (show (m345.1 69) = (m.1 69) from ((fr1 Fm345 69 rfl).trans ((fr1 Fm327 69 rfl).trans (fr1 Fm275 69 rfl))))) rfl ?_
                  refine T_iadd 203 rfl rfl ?_
                  refine T_sto 204 [(2, .int (i32 (((m.2 81) jj) + (m.1 69)))), (5, .int (i32 (m.1 69))), (4, .int (i32 ((m.2 80) jj))), (3, .int (i32 ((m.2 82) jj))), (0, .ref 189), (1, .int (i32 jj))] rfl (fun _ => rfl) ?_
                  refine T_goto 261 rfl (fun _ => rfl) ?_
                  refine Tm_lv (a := [(0, .ref 189), (1, .int (i32 jj)), (2, .int (i32 (((m.2 81) jj) + (m.1 69)))), (3, .int (i32 ((m.2 82) jj))), (4, .int (i32 ((m.2 80) jj))), (5, .int (i32 (m.1 69)))]) rfl rfl ⟨rfl, rfl, rfl, rfl, rfl, rfl, trivial⟩ ?_
                  exact J261_10 (((m.2 81) jj) + (m.1 69)) (mO m345 [] []) (r32 (by omega) (by omega)) Tm345 (fr_m (fr_s Fm345 (fr_m (fr_s Fm327 (fr_m (fr_s Fm275 (fr_m fr_0 rfl rfl) rfl rfl) rfl rfl) rfl rfl) rfl rfl) rfl rfl) rfl rfl) (show 0 ≤ (((m.2 81) jj) + (m.1 69)) ∧ (((m.2 81) jj) + (m.1 69)) ≤ (m.1 69) + 64 by omega) (fun (h : (m345.1 10) = 0) => absurd h (by omega))
            · skip
              clear c329
              clear h328
              have hf352 : 1 ≤ (m327.1 10) := by omega
              clear g278
              refine T_ld 174 (.ref 189) rfl (fun _ => rfl) ?_
              refine T_ld 175 (.int (i32 ((m.2 81) jj))) rfl (fun _ => rfl) ?_
              refine T_gf 179 (.int (i32 (m.1 69))) rfl rfl rfl rfl (mfv_c (F := fun x => .int (i32 x)) rfl (show (m327.1 69) = (m.1 69) from ((fr1 Fm327 69 rfl).trans (fr1 Fm275 69 rfl)))) rfl ?_
              refine T_iadd 180 rfl rfl ?_
              refine T_ld 182 (.int (i32 64)) rfl (fun _ => rfl) ?_
              refine T_icmp 189 185 rfl rfl rfl (r32 (by omega) (by omega)) ⟨by decide, by decide⟩ (fun (h353 : (64 : Int) < ((m.2 81) jj) + (m.1 69)) => ?_) (fun (h353 : ¬ ((64 : Int) < ((m.2 81) jj) + (m.1 69))) => ?_)
              · skip
                refine T_ld 190 (.int (i32 0)) rfl (fun _ => rfl) ?_
                refine T_gf 194 (.int (i32 (m.1 70))) rfl rfl rfl rfl (mfv_c (F := fun x => .int (i32 x)) rfl (show (m327.1 70) = (m.1 70) from ((fr1 Fm327 70 rfl).trans (fr1 Fm275 70 rfl)))) rfl ?_
                refine T_call 197 256 [.ref 189, .int (i32 0), .int (i32 (m.1 70))] [] rfl (fun _ => rfl) rfl (c_want w (mO m327 [] []) c N D (by omega) Tm327 0 (m.1 70) ⟨by decide, by decide⟩ (r32 (by omega) (by omega)) (show 0 ≤ (m.1 70) ∧ (m.1 70) ≤ 4000 by omega) (fun (h : (m327.1 10) = 0) => absurd h (by omega))) (fun rr354 k355 => ?_)
                obtain ⟨m356, Tm356, Fm356, h357, c358, rfl⟩ := k355
                refine ⟨_, _, rfl, ?_⟩
                refine T_nb (st' := []) rfl ?_
                have g359 : 0 ≤ m356.1 10 ∧ m356.1 10 ≤ 8 := Tm356.1 10
                replace h357 : (m356.1 10) = 0 → (m327.1 10) = 0 := h357
                have hf360 : 1 ≤ (m356.1 10) := by omega
                clear c358
                clear h357
                clear g330 hf352
                refine T_ld 198 (.int (i32 ((m.2 81) jj))) rfl (fun _ => rfl) ?_
                refine T_gf 202 (.int (i32 (m.1 69))) rfl rfl rfl rfl (mfv_c (F := fun x => .int (i32 x)) rfl (show (m356.1 69) = (m.1 69) from ((fr1 Fm356 69 rfl).trans ((fr1 Fm327 69 rfl).trans (fr1 Fm275 69 rfl))))) rfl ?_
                refine T_iadd 203 rfl rfl ?_
                refine T_sto 204 [(2, .int (i32 (((m.2 81) jj) + (m.1 69)))), (5, .int (i32 (m.1 69))), (4, .int (i32 ((m.2 80) jj))), (3, .int (i32 ((m.2 82) jj))), (0, .ref 189), (1, .int (i32 jj))] rfl (fun _ => rfl) ?_
                refine T_goto 261 rfl (fun _ => rfl) ?_
                refine Tm_lv (a := [(0, .ref 189), (1, .int (i32 jj)), (2, .int (i32 (((m.2 81) jj) + (m.1 69)))), (3, .int (i32 ((m.2 82) jj))), (4, .int (i32 ((m.2 80) jj))), (5, .int (i32 (m.1 69)))]) rfl rfl ⟨rfl, rfl, rfl, rfl, rfl, rfl, trivial⟩ ?_
                exact J261_10 (((m.2 81) jj) + (m.1 69)) (mO m356 [] []) (r32 (by omega) (by omega)) Tm356 (fr_m (fr_s Fm356 (fr_m (fr_s Fm327 (fr_m (fr_s Fm275 (fr_m fr_0 rfl rfl) rfl rfl) rfl rfl) rfl rfl) rfl rfl) rfl rfl) rfl rfl) (show 0 ≤ (((m.2 81) jj) + (m.1 69)) ∧ (((m.2 81) jj) + (m.1 69)) ≤ (m.1 69) + 64 by omega) (fun (h : (m356.1 10) = 0) => absurd h (by omega))
              · skip
                refine T_ld 186 (.int (i32 1)) rfl (fun _ => rfl) ?_
                refine T_goto 190 rfl (fun _ => rfl) ?_
                refine T_gf 194 (.int (i32 (m.1 70))) rfl rfl rfl rfl (mfv_c (F := fun x => .int (i32 x)) rfl (show (m327.1 70) = (m.1 70) from ((fr1 Fm327 70 rfl).trans (fr1 Fm275 70 rfl)))) rfl ?_
                refine T_call 197 256 [.ref 189, .int (i32 1), .int (i32 (m.1 70))] [] rfl (fun _ => rfl) rfl (c_want w (mO m327 [] []) c N D (by omega) Tm327 1 (m.1 70) ⟨by decide, by decide⟩ (r32 (by omega) (by omega)) (show 0 ≤ (m.1 70) ∧ (m.1 70) ≤ 4000 by omega) (fun (h : (m327.1 10) = 0) => absurd h (by omega))) (fun rr361 k362 => ?_)
                obtain ⟨m363, Tm363, Fm363, h364, c365, rfl⟩ := k362
                refine ⟨_, _, rfl, ?_⟩
                refine T_nb (st' := []) rfl ?_
                have g366 : 0 ≤ m363.1 10 ∧ m363.1 10 ≤ 8 := Tm363.1 10
                replace h364 : (m363.1 10) = 0 → (m327.1 10) = 0 := h364
                have hf367 : 1 ≤ (m363.1 10) := by omega
                clear c365
                clear h364
                clear g330 hf352
                refine T_ld 198 (.int (i32 ((m.2 81) jj))) rfl (fun _ => rfl) ?_
                refine T_gf 202 (.int (i32 (m.1 69))) rfl rfl rfl rfl (mfv_c (F := fun x => .int (i32 x)) rfl (show (m363.1 69) = (m.1 69) from ((fr1 Fm363 69 rfl).trans ((fr1 Fm327 69 rfl).trans (fr1 Fm275 69 rfl))))) rfl ?_
                refine T_iadd 203 rfl rfl ?_
                refine T_sto 204 [(2, .int (i32 (((m.2 81) jj) + (m.1 69)))), (5, .int (i32 (m.1 69))), (4, .int (i32 ((m.2 80) jj))), (3, .int (i32 ((m.2 82) jj))), (0, .ref 189), (1, .int (i32 jj))] rfl (fun _ => rfl) ?_
                refine T_goto 261 rfl (fun _ => rfl) ?_
                refine Tm_lv (a := [(0, .ref 189), (1, .int (i32 jj)), (2, .int (i32 (((m.2 81) jj) + (m.1 69)))), (3, .int (i32 ((m.2 82) jj))), (4, .int (i32 ((m.2 80) jj))), (5, .int (i32 (m.1 69)))]) rfl rfl ⟨rfl, rfl, rfl, rfl, rfl, rfl, trivial⟩ ?_
                exact J261_10 (((m.2 81) jj) + (m.1 69)) (mO m363 [] []) (r32 (by omega) (by omega)) Tm363 (fr_m (fr_s Fm363 (fr_m (fr_s Fm327 (fr_m (fr_s Fm275 (fr_m fr_0 rfl rfl) rfl rfl) rfl rfl) rfl rfl) rfl rfl) rfl rfl) rfl rfl) (show 0 ≤ (((m.2 81) jj) + (m.1 69)) ∧ (((m.2 81) jj) + (m.1 69)) ≤ (m.1 69) + 64 by omega) (fun (h : (m363.1 10) = 0) => absurd h (by omega))
        · skip
          clear c277
          clear h276
          have hf368 : 1 ≤ (m275.1 10) := by omega
          clear g68a g68b h69
          refine T_ld 154 (.ref 189) rfl (fun _ => rfl) ?_
          refine T_gf 158 (.int (i32 (m.1 71))) rfl rfl rfl rfl (mfv_c (F := fun x => .int (i32 x)) rfl (show (m275.1 71) = (m.1 71) from (fr1 Fm275 71 rfl))) rfl ?_
          refine T_if 165 161 rfl rfl rfl (r32 (by omega) (by omega)) (fun (h369 : (m.1 71) ≠ 0) => ?_) (fun (h369 : ¬ ((m.1 71) ≠ 0)) => ?_)
          · skip
            refine T_ld 166 (.int (i32 0)) rfl (fun _ => rfl) ?_
            refine T_gf 170 (.int (i32 (m.1 70))) rfl rfl rfl rfl (mfv_c (F := fun x => .int (i32 x)) rfl (show (m275.1 70) = (m.1 70) from (fr1 Fm275 70 rfl))) rfl ?_
            refine T_call 173 256 [.ref 189, .int (i32 0), .int (i32 (m.1 70))] [] rfl (fun _ => rfl) rfl (c_want w (mO m275 [] []) c N D (by omega) Tm275 0 (m.1 70) ⟨by decide, by decide⟩ (r32 (by omega) (by omega)) (show 0 ≤ (m.1 70) ∧ (m.1 70) ≤ 4000 by omega) (fun (h : (m275.1 10) = 0) => absurd h (by omega))) (fun rr370 k371 => ?_)
            obtain ⟨m372, Tm372, Fm372, h373, c374, rfl⟩ := k371
            refine ⟨_, _, rfl, ?_⟩
            refine T_nb (st' := []) rfl ?_
            have g375 : 0 ≤ m372.1 10 ∧ m372.1 10 ≤ 8 := Tm372.1 10
            replace h373 : (m372.1 10) = 0 → (m275.1 10) = 0 := h373
            have hf376 : 1 ≤ (m372.1 10) := by omega
            clear c374
            clear h373
            clear g278 hf368
            refine T_ld 174 (.ref 189) rfl (fun _ => rfl) ?_
            refine T_ld 175 (.int (i32 ((m.2 81) jj))) rfl (fun _ => rfl) ?_
            refine T_gf 179 (.int (i32 (m.1 69))) rfl rfl rfl rfl (mfv_c (F := fun x => .int (i32 x)) rfl (show (m372.1 69) = (m.1 69) from ((fr1 Fm372 69 rfl).trans (fr1 Fm275 69 rfl)))) rfl ?_
            refine T_iadd 180 rfl rfl ?_
            refine T_ld 182 (.int (i32 64)) rfl (fun _ => rfl) ?_
            refine T_icmp 189 185 rfl rfl rfl (r32 (by omega) (by omega)) ⟨by decide, by decide⟩ (fun (h377 : (64 : Int) < ((m.2 81) jj) + (m.1 69)) => ?_) (fun (h377 : ¬ ((64 : Int) < ((m.2 81) jj) + (m.1 69))) => ?_)
            · skip
              refine T_ld 190 (.int (i32 0)) rfl (fun _ => rfl) ?_
              refine T_gf 194 (.int (i32 (m.1 70))) rfl rfl rfl rfl (mfv_c (F := fun x => .int (i32 x)) rfl (show (m372.1 70) = (m.1 70) from ((fr1 Fm372 70 rfl).trans (fr1 Fm275 70 rfl)))) rfl ?_
              refine T_call 197 256 [.ref 189, .int (i32 0), .int (i32 (m.1 70))] [] rfl (fun _ => rfl) rfl (c_want w (mO m372 [] []) c N D (by omega) Tm372 0 (m.1 70) ⟨by decide, by decide⟩ (r32 (by omega) (by omega)) (show 0 ≤ (m.1 70) ∧ (m.1 70) ≤ 4000 by omega) (fun (h : (m372.1 10) = 0) => absurd h (by omega))) (fun rr378 k379 => ?_)
              obtain ⟨m380, Tm380, Fm380, h381, c382, rfl⟩ := k379
              refine ⟨_, _, rfl, ?_⟩
              refine T_nb (st' := []) rfl ?_
              have g383 : 0 ≤ m380.1 10 ∧ m380.1 10 ≤ 8 := Tm380.1 10
              replace h381 : (m380.1 10) = 0 → (m372.1 10) = 0 := h381
              have hf384 : 1 ≤ (m380.1 10) := by omega
              clear c382
              clear h381
              clear g375 hf376
              refine T_ld 198 (.int (i32 ((m.2 81) jj))) rfl (fun _ => rfl) ?_
              refine T_gf 202 (.int (i32 (m.1 69))) rfl rfl rfl rfl (mfv_c (F := fun x => .int (i32 x)) rfl (show (m380.1 69) = (m.1 69) from ((fr1 Fm380 69 rfl).trans ((fr1 Fm372 69 rfl).trans (fr1 Fm275 69 rfl))))) rfl ?_
              refine T_iadd 203 rfl rfl ?_
              refine T_sto 204 [(2, .int (i32 (((m.2 81) jj) + (m.1 69)))), (5, .int (i32 (m.1 69))), (4, .int (i32 ((m.2 80) jj))), (3, .int (i32 ((m.2 82) jj))), (0, .ref 189), (1, .int (i32 jj))] rfl (fun _ => rfl) ?_
              refine T_goto 261 rfl (fun _ => rfl) ?_
              refine Tm_lv (a := [(0, .ref 189), (1, .int (i32 jj)), (2, .int (i32 (((m.2 81) jj) + (m.1 69)))), (3, .int (i32 ((m.2 82) jj))), (4, .int (i32 ((m.2 80) jj))), (5, .int (i32 (m.1 69)))]) rfl rfl ⟨rfl, rfl, rfl, rfl, rfl, rfl, trivial⟩ ?_
              exact J261_10 (((m.2 81) jj) + (m.1 69)) (mO m380 [] []) (r32 (by omega) (by omega)) Tm380 (fr_m (fr_s Fm380 (fr_m (fr_s Fm372 (fr_m (fr_s Fm275 (fr_m fr_0 rfl rfl) rfl rfl) rfl rfl) rfl rfl) rfl rfl) rfl rfl) rfl rfl) (show 0 ≤ (((m.2 81) jj) + (m.1 69)) ∧ (((m.2 81) jj) + (m.1 69)) ≤ (m.1 69) + 64 by omega) (fun (h : (m380.1 10) = 0) => absurd h (by omega))
            · skip
              refine T_ld 186 (.int (i32 1)) rfl (fun _ => rfl) ?_
              refine T_goto 190 rfl (fun _ => rfl) ?_
              refine T_gf 194 (.int (i32 (m.1 70))) rfl rfl rfl rfl (mfv_c (F := fun x => .int (i32 x)) rfl (show (m372.1 70) = (m.1 70) from ((fr1 Fm372 70 rfl).trans (fr1 Fm275 70 rfl)))) rfl ?_
              refine T_call 197 256 [.ref 189, .int (i32 1), .int (i32 (m.1 70))] [] rfl (fun _ => rfl) rfl (c_want w (mO m372 [] []) c N D (by omega) Tm372 1 (m.1 70) ⟨by decide, by decide⟩ (r32 (by omega) (by omega)) (show 0 ≤ (m.1 70) ∧ (m.1 70) ≤ 4000 by omega) (fun (h : (m372.1 10) = 0) => absurd h (by omega))) (fun rr385 k386 => ?_)
              obtain ⟨m387, Tm387, Fm387, h388, c389, rfl⟩ := k386
              refine ⟨_, _, rfl, ?_⟩
              refine T_nb (st' := []) rfl ?_
              have g390 : 0 ≤ m387.1 10 ∧ m387.1 10 ≤ 8 := Tm387.1 10
              replace h388 : (m387.1 10) = 0 → (m372.1 10) = 0 := h388
              have hf391 : 1 ≤ (m387.1 10) := by omega
              clear c389
              clear h388
              clear g375 hf376
              refine T_ld 198 (.int (i32 ((m.2 81) jj))) rfl (fun _ => rfl) ?_
              refine T_gf 202 (.int (i32 (m.1 69))) rfl rfl rfl rfl (mfv_c (F := fun x => .int (i32 x)) rfl (show (m387.1 69) = (m.1 69) from ((fr1 Fm387 69 rfl).trans ((fr1 Fm372 69 rfl).trans (fr1 Fm275 69 rfl))))) rfl ?_
              refine T_iadd 203 rfl rfl ?_
              refine T_sto 204 [(2, .int (i32 (((m.2 81) jj) + (m.1 69)))), (5, .int (i32 (m.1 69))), (4, .int (i32 ((m.2 80) jj))), (3, .int (i32 ((m.2 82) jj))), (0, .ref 189), (1, .int (i32 jj))] rfl (fun _ => rfl) ?_
              refine T_goto 261 rfl (fun _ => rfl) ?_
              refine Tm_lv (a := [(0, .ref 189), (1, .int (i32 jj)), (2, .int (i32 (((m.2 81) jj) + (m.1 69)))), (3, .int (i32 ((m.2 82) jj))), (4, .int (i32 ((m.2 80) jj))), (5, .int (i32 (m.1 69)))]) rfl rfl ⟨rfl, rfl, rfl, rfl, rfl, rfl, trivial⟩ ?_
              exact J261_10 (((m.2 81) jj) + (m.1 69)) (mO m387 [] []) (r32 (by omega) (by omega)) Tm387 (fr_m (fr_s Fm387 (fr_m (fr_s Fm372 (fr_m (fr_s Fm275 (fr_m fr_0 rfl rfl) rfl rfl) rfl rfl) rfl rfl) rfl rfl) rfl rfl) rfl rfl) (show 0 ≤ (((m.2 81) jj) + (m.1 69)) ∧ (((m.2 81) jj) + (m.1 69)) ≤ (m.1 69) + 64 by omega) (fun (h : (m387.1 10) = 0) => absurd h (by omega))
          · skip
            refine T_ld 162 (.int (i32 1)) rfl (fun _ => rfl) ?_
            refine T_goto 166 rfl (fun _ => rfl) ?_
            refine T_gf 170 (.int (i32 (m.1 70))) rfl rfl rfl rfl (mfv_c (F := fun x => .int (i32 x)) rfl (show (m275.1 70) = (m.1 70) from (fr1 Fm275 70 rfl))) rfl ?_
            refine T_call 173 256 [.ref 189, .int (i32 1), .int (i32 (m.1 70))] [] rfl (fun _ => rfl) rfl (c_want w (mO m275 [] []) c N D (by omega) Tm275 1 (m.1 70) ⟨by decide, by decide⟩ (r32 (by omega) (by omega)) (show 0 ≤ (m.1 70) ∧ (m.1 70) ≤ 4000 by omega) (fun (h : (m275.1 10) = 0) => absurd h (by omega))) (fun rr392 k393 => ?_)
            obtain ⟨m394, Tm394, Fm394, h395, c396, rfl⟩ := k393
            refine ⟨_, _, rfl, ?_⟩
            refine T_nb (st' := []) rfl ?_
            have g397 : 0 ≤ m394.1 10 ∧ m394.1 10 ≤ 8 := Tm394.1 10
            replace h395 : (m394.1 10) = 0 → (m275.1 10) = 0 := h395
            have hf398 : 1 ≤ (m394.1 10) := by omega
            clear c396
            clear h395
            clear g278 hf368
            refine T_ld 174 (.ref 189) rfl (fun _ => rfl) ?_
            refine T_ld 175 (.int (i32 ((m.2 81) jj))) rfl (fun _ => rfl) ?_
            refine T_gf 179 (.int (i32 (m.1 69))) rfl rfl rfl rfl (mfv_c (F := fun x => .int (i32 x)) rfl (show (m394.1 69) = (m.1 69) from ((fr1 Fm394 69 rfl).trans (fr1 Fm275 69 rfl)))) rfl ?_
            refine T_iadd 180 rfl rfl ?_
            refine T_ld 182 (.int (i32 64)) rfl (fun _ => rfl) ?_
            refine T_icmp 189 185 rfl rfl rfl (r32 (by omega) (by omega)) ⟨by decide, by decide⟩ (fun (h399 : (64 : Int) < ((m.2 81) jj) + (m.1 69)) => ?_) (fun (h399 : ¬ ((64 : Int) < ((m.2 81) jj) + (m.1 69))) => ?_)
            · skip
              refine T_ld 190 (.int (i32 0)) rfl (fun _ => rfl) ?_
              refine T_gf 194 (.int (i32 (m.1 70))) rfl rfl rfl rfl (mfv_c (F := fun x => .int (i32 x)) rfl (show (m394.1 70) = (m.1 70) from ((fr1 Fm394 70 rfl).trans (fr1 Fm275 70 rfl)))) rfl ?_
              refine T_call 197 256 [.ref 189, .int (i32 0), .int (i32 (m.1 70))] [] rfl (fun _ => rfl) rfl (c_want w (mO m394 [] []) c N D (by omega) Tm394 0 (m.1 70) ⟨by decide, by decide⟩ (r32 (by omega) (by omega)) (show 0 ≤ (m.1 70) ∧ (m.1 70) ≤ 4000 by omega) (fun (h : (m394.1 10) = 0) => absurd h (by omega))) (fun rr400 k401 => ?_)
              obtain ⟨m402, Tm402, Fm402, h403, c404, rfl⟩ := k401
              refine ⟨_, _, rfl, ?_⟩
              refine T_nb (st' := []) rfl ?_
              have g405 : 0 ≤ m402.1 10 ∧ m402.1 10 ≤ 8 := Tm402.1 10
              replace h403 : (m402.1 10) = 0 → (m394.1 10) = 0 := h403
              have hf406 : 1 ≤ (m402.1 10) := by omega
              clear c404
              clear h403
              clear g397 hf398
              refine T_ld 198 (.int (i32 ((m.2 81) jj))) rfl (fun _ => rfl) ?_
              refine T_gf 202 (.int (i32 (m.1 69))) rfl rfl rfl rfl (mfv_c (F := fun x => .int (i32 x)) rfl (show (m402.1 69) = (m.1 69) from ((fr1 Fm402 69 rfl).trans ((fr1 Fm394 69 rfl).trans (fr1 Fm275 69 rfl))))) rfl ?_
              refine T_iadd 203 rfl rfl ?_
              refine T_sto 204 [(2, .int (i32 (((m.2 81) jj) + (m.1 69)))), (5, .int (i32 (m.1 69))), (4, .int (i32 ((m.2 80) jj))), (3, .int (i32 ((m.2 82) jj))), (0, .ref 189), (1, .int (i32 jj))] rfl (fun _ => rfl) ?_
              refine T_goto 261 rfl (fun _ => rfl) ?_
              refine Tm_lv (a := [(0, .ref 189), (1, .int (i32 jj)), (2, .int (i32 (((m.2 81) jj) + (m.1 69)))), (3, .int (i32 ((m.2 82) jj))), (4, .int (i32 ((m.2 80) jj))), (5, .int (i32 (m.1 69)))]) rfl rfl ⟨rfl, rfl, rfl, rfl, rfl, rfl, trivial⟩ ?_
              exact J261_10 (((m.2 81) jj) + (m.1 69)) (mO m402 [] []) (r32 (by omega) (by omega)) Tm402 (fr_m (fr_s Fm402 (fr_m (fr_s Fm394 (fr_m (fr_s Fm275 (fr_m fr_0 rfl rfl) rfl rfl) rfl rfl) rfl rfl) rfl rfl) rfl rfl) rfl rfl) (show 0 ≤ (((m.2 81) jj) + (m.1 69)) ∧ (((m.2 81) jj) + (m.1 69)) ≤ (m.1 69) + 64 by omega) (fun (h : (m402.1 10) = 0) => absurd h (by omega))
            · skip
              refine T_ld 186 (.int (i32 1)) rfl (fun _ => rfl) ?_
              refine T_goto 190 rfl (fun _ => rfl) ?_
              refine T_gf 194 (.int (i32 (m.1 70))) rfl rfl rfl rfl (mfv_c (F := fun x => .int (i32 x)) rfl (show (m394.1 70) = (m.1 70) from ((fr1 Fm394 70 rfl).trans (fr1 Fm275 70 rfl)))) rfl ?_
              refine T_call 197 256 [.ref 189, .int (i32 1), .int (i32 (m.1 70))] [] rfl (fun _ => rfl) rfl (c_want w (mO m394 [] []) c N D (by omega) Tm394 1 (m.1 70) ⟨by decide, by decide⟩ (r32 (by omega) (by omega)) (show 0 ≤ (m.1 70) ∧ (m.1 70) ≤ 4000 by omega) (fun (h : (m394.1 10) = 0) => absurd h (by omega))) (fun rr407 k408 => ?_)
              obtain ⟨m409, Tm409, Fm409, h410, c411, rfl⟩ := k408
              refine ⟨_, _, rfl, ?_⟩
              refine T_nb (st' := []) rfl ?_
              have g412 : 0 ≤ m409.1 10 ∧ m409.1 10 ≤ 8 := Tm409.1 10
              replace h410 : (m409.1 10) = 0 → (m394.1 10) = 0 := h410
              have hf413 : 1 ≤ (m409.1 10) := by omega
              clear c411
              clear h410
              clear g397 hf398
              refine T_ld 198 (.int (i32 ((m.2 81) jj))) rfl (fun _ => rfl) ?_
              refine T_gf 202 (.int (i32 (m.1 69))) rfl rfl rfl rfl (mfv_c (F := fun x => .int (i32 x)) rfl (show (m409.1 69) = (m.1 69) from ((fr1 Fm409 69 rfl).trans ((fr1 Fm394 69 rfl).trans (fr1 Fm275 69 rfl))))) rfl ?_
              refine T_iadd 203 rfl rfl ?_
              refine T_sto 204 [(2, .int (i32 (((m.2 81) jj) + (m.1 69)))), (5, .int (i32 (m.1 69))), (4, .int (i32 ((m.2 80) jj))), (3, .int (i32 ((m.2 82) jj))), (0, .ref 189), (1, .int (i32 jj))] rfl (fun _ => rfl) ?_
              refine T_goto 261 rfl (fun _ => rfl) ?_
              refine Tm_lv (a := [(0, .ref 189), (1, .int (i32 jj)), (2, .int (i32 (((m.2 81) jj) + (m.1 69)))), (3, .int (i32 ((m.2 82) jj))), (4, .int (i32 ((m.2 80) jj))), (5, .int (i32 (m.1 69)))]) rfl rfl ⟨rfl, rfl, rfl, rfl, rfl, rfl, trivial⟩ ?_
              exact J261_10 (((m.2 81) jj) + (m.1 69)) (mO m409 [] []) (r32 (by omega) (by omega)) Tm409 (fr_m (fr_s Fm409 (fr_m (fr_s Fm394 (fr_m (fr_s Fm275 (fr_m fr_0 rfl rfl) rfl rfl) rfl rfl) rfl rfl) rfl rfl) rfl rfl) rfl rfl) (show 0 ≤ (((m.2 81) jj) + (m.1 69)) ∧ (((m.2 81) jj) + (m.1 69)) ≤ (m.1 69) + 64 by omega) (fun (h : (m409.1 10) = 0) => absurd h (by omega))
    by_cases h414 : x67 = 2
    · skip
      refine T_cast 2 h414 ?_
      refine T_pop 207 rfl (fun _ => rfl) ?_
      exact T207_97
    by_cases h415 : x67 = 3
    · skip
      refine T_cast 3 h415 ?_
      refine T_pop 207 rfl (fun _ => rfl) ?_
      exact T207_97
    by_cases h416 : x67 = 4
    · skip
      refine T_cast 4 h416 ?_
      refine T_pop 207 rfl (fun _ => rfl) ?_
      exact T207_97
    by_cases h417 : x67 = 5
    · skip
      refine T_cast 5 h417 ?_
      refine T_pop 207 rfl (fun _ => rfl) ?_
      exact T207_97
    by_cases h418 : x67 = 7
    · skip
      refine T_cast 7 h418 ?_
      refine T_pop 207 rfl (fun _ => rfl) ?_
      exact T207_97
    refine T_tsd 207 rfl rfl (r32 (by omega) (by omega)) (by omega) ?_
    exact T207_97
  · skip
    clear hC
    refine T_gf 4 (.ref 243) rfl rfl rfl rfl rfl rfl ?_
    refine T_ld 5 (.int (i32 jj)) rfl (fun _ => rfl) ?_
    refine T_iald 6 81 (m.2 81) rfl rfl rfl (by omega) (show jj < (540 : Int) by omega) rfl ?_
    have e419 : 0 ≤ m.2 81 jj ∧ m.2 81 jj ≤ 64 := hT.2.1 81 jj
    refine T_sto 7 [(2, .int (i32 ((m.2 81) jj))), (0, .ref 189), (1, .int (i32 jj))] rfl (fun _ => rfl) ?_
    refine T_gf 11 (.ref 244) rfl rfl rfl rfl rfl rfl ?_
    refine T_ld 12 (.int (i32 jj)) rfl (fun _ => rfl) ?_
    refine T_iald 13 82 (m.2 82) rfl rfl rfl (by omega) (show jj < (540 : Int) by omega) rfl ?_
    have e420 : 0 ≤ m.2 82 jj ∧ m.2 82 jj ≤ 4000 := hT.2.1 82 jj
    refine T_sto 14 [(3, .int (i32 ((m.2 82) jj))), (2, .int (i32 ((m.2 81) jj))), (0, .ref 189), (1, .int (i32 jj))] rfl (fun _ => rfl) ?_
    refine T_gf 18 (.ref 242) rfl rfl rfl rfl rfl rfl ?_
    refine T_ld 19 (.int (i32 jj)) rfl (fun _ => rfl) ?_
    refine T_iald 20 80 (m.2 80) rfl rfl rfl (by omega) (show jj < (540 : Int) by omega) rfl ?_
    have e421 : (-1) ≤ (m.2 80) jj ∧ (m.2 80) jj ≤ 330 := (hT.2.1 80) jj
    refine T_sto 22 [(4, .int (i32 ((m.2 80) jj))), (3, .int (i32 ((m.2 82) jj))), (2, .int (i32 ((m.2 81) jj))), (0, .ref 189), (1, .int (i32 jj))] rfl (fun _ => rfl) ?_
    refine T_gf 26 (.int (i32 (m.1 69))) rfl rfl rfl rfl rfl rfl ?_
    refine T_sto 28 [(5, .int (i32 (m.1 69))), (4, .int (i32 ((m.2 80) jj))), (3, .int (i32 ((m.2 82) jj))), (2, .int (i32 ((m.2 81) jj))), (0, .ref 189), (1, .int (i32 jj))] rfl (fun _ => rfl) ?_
    refine T_gf 32 (.ref 242) rfl rfl rfl rfl rfl rfl ?_
    refine T_ld 33 (.int (i32 jj)) rfl (fun _ => rfl) ?_
    refine T_iald 34 80 (m.2 80) rfl rfl rfl (by omega) (show jj < (540 : Int) by omega) rfl ?_
    have e422 : (-1) ≤ (m.2 80) jj ∧ (m.2 80) jj ≤ 330 := (hT.2.1 80) jj
    refine T_call 37 259 [.int (i32 ((m.2 80) jj))] [] rfl (fun _ => rfl) rfl (c_level w (mO m [] []) c N D (by omega) hT ((m.2 80) jj) (r32 (by omega) (by omega))) (fun rr423 k424 => ?_)
    obtain ⟨x425, g426, h427, rfl⟩ := k424
    refine ⟨_, _, rfl, ?_⟩
    refine T_ns (st' := [.int (i32 x425)]) rfl ?_
    obtain ⟨g426a, g426b⟩ := g426
    replace h427 : 0 ≤ x425 → 4 ≤ ((m.2 80) jj) ∧ ((m.2 80) jj) ≤ 124 := h427
    have T88_428 : (x425 = 0 ∨ x425 = 1) → TT w D pm_260 (88, [(5, .int (i32 (m.1 69))), (4, .int (i32 ((m.2 80) jj))), (3, .int (i32 ((m.2 82) jj))), (2, .int (i32 ((m.2 81) jj))), (0, .ref 189), (1, .int (i32 jj))], [], (mhp (mO m [] []) c, N), 0, 0) (Q_join m c N jj B) := by
      intro ht429
      refine T_ld 89 (.ref 189) rfl (fun _ => rfl) ?_
      refine T_ld 90 (.int (i32 ((m.2 81) jj))) rfl (fun _ => rfl) ?_
      refine T_gf 94 (.ref 245) rfl rfl rfl rfl rfl rfl ?_
      refine T_ld 95 (.int (i32 jj)) rfl (fun _ => rfl) ?_
      refine T_bald 96 83 (m.2 83) rfl rfl rfl (by omega) (show jj < (540 : Int) by omega) rfl ?_
      have e430 : 0 ≤ m.2 83 jj ∧ m.2 83 jj ≤ 1 := hT.2.1 83 jj
      refine T_gf 100 (.ref 246) rfl rfl rfl rfl rfl rfl ?_
      refine T_ld 101 (.int (i32 jj)) rfl (fun _ => rfl) ?_
      refine T_lald 102 84 (m.2 84) rfl rfl rfl (by omega) (show jj < (540 : Int) by omega) rfl ?_
      have e431 : (-9223372036854775808) ≤ m.2 84 jj ∧ m.2 84 jj ≤ 9223372036854775807 := hT.2.1 84 jj
      refine T_ld 103 (.int (i32 ((m.2 82) jj))) rfl (fun _ => rfl) ?_
      refine T_call 106 258 [.ref 189, .int (i32 ((m.2 81) jj)), .int (i32 ((m.2 83) jj)), .long (i64 ((m.2 84) jj)), .int (i32 ((m.2 82) jj))] [] rfl (fun _ => rfl) rfl (c_wantBit w (mO m [] []) c N D (by omega) hT ((m.2 81) jj) ((m.2 83) jj) ((m.2 84) jj) ((m.2 82) jj) (r32 (by omega) (by omega)) (r32 (by omega) (by omega)) (r64 (by omega) (by omega)) (r32 (by omega) (by omega)) (show 0 ≤ ((m.2 82) jj) ∧ ((m.2 82) jj) ≤ 4000 by omega) (fun (h : (m.1 10) = 0) => absurd h (by omega))) (fun rr432 k433 => ?_)
      obtain ⟨m434, Tm434, Fm434, h435, c436, rfl⟩ := k433
      refine ⟨_, _, rfl, ?_⟩
      refine T_nb (st' := []) rfl ?_
      have g437 : 0 ≤ m434.1 10 ∧ m434.1 10 ≤ 8 := Tm434.1 10
      replace h435 : (m434.1 10) = 0 → (m.1 10) = 0 := h435
      have hf438 : 1 ≤ (m434.1 10) := by omega
      clear c436
      clear h435
      clear g426a g426b h427
      refine T_ld 107 (.ref 189) rfl (fun _ => rfl) ?_
      refine T_gf 111 (.int (i32 (m.1 69))) rfl rfl rfl rfl (mfv_c (F := fun x => .int (i32 x)) rfl (show (m434.1 69) = (m.1 69) from (fr1 Fm434 69 rfl))) rfl ?_
      refine T_gf 115 (.int (i32 (m.1 71))) rfl rfl rfl rfl (mfv_c (F := fun x => .int (i32 x)) rfl (show (m434.1 71) = (m.1 71) from (fr1 Fm434 71 rfl))) rfl ?_
      refine T_gf 119 (.long (i64 (m.1 72))) rfl rfl rfl rfl (mfv_c (F := fun x => .long (i64 x)) rfl (show (m434.1 72) = (m.1 72) from (fr1 Fm434 72 rfl))) rfl ?_
      refine T_gf 123 (.int (i32 (m.1 70))) rfl rfl rfl rfl (mfv_c (F := fun x => .int (i32 x)) rfl (show (m434.1 70) = (m.1 70) from (fr1 Fm434 70 rfl))) rfl ?_
      refine T_call 126 258 [.ref 189, .int (i32 (m.1 69)), .int (i32 (m.1 71)), .long (i64 (m.1 72)), .int (i32 (m.1 70))] [] rfl (fun _ => rfl) rfl (c_wantBit w (mO m434 [] []) c N D (by omega) Tm434 (m.1 69) (m.1 71) (m.1 72) (m.1 70) (r32 (by omega) (by omega)) (r32 (by omega) (by omega)) (r64 (by omega) (by omega)) (r32 (by omega) (by omega)) (show 0 ≤ (m.1 70) ∧ (m.1 70) ≤ 4000 by omega) (fun (h : (m434.1 10) = 0) => absurd h (by omega))) (fun rr439 k440 => ?_)
      obtain ⟨m441, Tm441, Fm441, h442, c443, rfl⟩ := k440
      refine ⟨_, _, rfl, ?_⟩
      refine T_nb (st' := []) rfl ?_
      have g444 : 0 ≤ m441.1 10 ∧ m441.1 10 ≤ 8 := Tm441.1 10
      replace h442 : (m441.1 10) = 0 → (m434.1 10) = 0 := h442
      have hf445 : 1 ≤ (m441.1 10) := by omega
      clear c443
      clear h442
      clear g437 hf438
      refine T_ld 127 (.int (i32 1)) rfl (fun _ => rfl) ?_
      refine T_sto 128 [(2, .int (i32 1)), (5, .int (i32 (m.1 69))), (4, .int (i32 ((m.2 80) jj))), (3, .int (i32 ((m.2 82) jj))), (0, .ref 189), (1, .int (i32 jj))] rfl (fun _ => rfl) ?_
      refine T_goto 261 rfl (fun _ => rfl) ?_
      refine T_gf 265 (.ref 242) rfl rfl rfl rfl rfl rfl ?_
      refine T_ld 266 (.int (i32 jj)) rfl (fun _ => rfl) ?_
      refine T_ld 267 (.int (i32 (-1))) rfl (fun _ => rfl) ?_
      have G446 : ∀ j, (-1) ≤ (upI (m.2 80) jj (-1)) j ∧ (upI (m.2 80) jj (-1)) j ≤ 330 := upI_rg (hT.2.1 80) ⟨by omega, by omega⟩
      refine T_iast (a' := [(80, upI (m.2 80) jj (-1))]) 268 80 (m.2 80) rfl rfl rfl (by omega) (show jj < (540 : Int) by omega) (show (m441.2 80) = (m.2 80) from ((fr2 Fm441 80 rfl).trans (fr2 Fm434 80 rfl))) rfl ?_
      refine T_ld 269 (.ref 189) rfl (fun _ => rfl) ?_
      refine T_ld 271 (.int (i32 ((m.2 80) jj))) rfl (fun _ => rfl) ?_
      refine T_ld 272 (.int (i32 1)) rfl (fun _ => rfl) ?_
      refine T_ld 274 (.int (i32 (m.1 69))) rfl (fun _ => rfl) ?_
      refine T_ld 275 (.long (i64 0)) rfl (fun _ => rfl) ?_
      refine T_call 278 248 [.ref 189, .int (i32 ((m.2 80) jj)), .int (i32 1), .int (i32 (m.1 69)), .long (i64 0)] [] rfl (fun _ => rfl) rfl (c_node w (mO m441 [] [(80, upI (m.2 80) jj (-1))]) c N D (by omega) (Ty_mO Tm441 rfl rfl trivial ⟨G446, trivial⟩) ((m.2 80) jj) 1 (m.1 69) 0 B (1 + lh (m.2 79) (m.2 80) (m.1 73)) (r32 (by omega) (by omega)) ⟨by decide, by decide⟩ (r32 (by omega) (by omega)) ⟨by decide, by decide⟩ (fun (h : (m441.1 10) = 0) => absurd h (by omega))) (fun rr447 k448 => ?_)
      obtain ⟨m449, Tm449, Fm449, h450, c451, rfl⟩ := k448
      refine ⟨_, _, rfl, ?_⟩
      refine T_nb (st' := []) rfl ?_
      have g452 : 0 ≤ m449.1 10 ∧ m449.1 10 ≤ 8 := Tm449.1 10
      have g453 : 0 ≤ m449.1 28 ∧ m449.1 28 ≤ 800 := Tm449.1 28
      replace h450 : (m449.1 10) = 0 → (m441.1 10) = 0 := h450
      have hf454 : 1 ≤ (m449.1 10) := by omega
      clear c451
      clear h450
      clear g444 hf445
      refine T_ld 279 (.ref 189) rfl (fun _ => rfl) ?_
      refine T_ld 280 (.int (i32 1)) rfl (fun _ => rfl) ?_
      refine T_ld 281 (.int (i32 ((m.2 82) jj))) rfl (fun _ => rfl) ?_
      refine T_call 284 250 [.ref 189, .int (i32 1), .int (i32 ((m.2 82) jj))] [] rfl (fun _ => rfl) rfl (c_unit w (mO m449 [] []) c N D (by omega) Tm449 1 ((m.2 82) jj) ⟨by decide, by decide⟩ (r32 (by omega) (by omega)) (show 0 ≤ (1 : Int) ∧ (1 : Int) ≤ 1024 by omega) (show 0 ≤ ((m.2 82) jj) ∧ ((m.2 82) jj) ≤ 4000 by omega)) (fun rr455 k456 => ?_)
      obtain ⟨m457, Tm457, Fm457, h458, rfl⟩ := k456
      refine ⟨_, _, rfl, ?_⟩
      refine T_nb (st' := []) rfl ?_
      have g459 : 0 ≤ m457.1 69 ∧ m457.1 69 ≤ 1024 := Tm457.1 69
      have g460 : 0 ≤ m457.1 70 ∧ m457.1 70 ≤ 4000 := Tm457.1 70
      have g461 : 0 ≤ m457.1 71 ∧ m457.1 71 ≤ 1 := Tm457.1 71
      have g462 : (-9223372036854775808) ≤ m457.1 72 ∧ m457.1 72 ≤ 9223372036854775807 := Tm457.1 72
      replace h458 : (m457.1 69) = (1 : Int) := h458
      refine T_ret rfl (fun _ => rfl) ?_
      exact ⟨(mO m457 [] []), Tm457, (fr_m (fr_s Fm457 (fr_m (fr_s Fm449 (fr_m (fr_s Fm441 (fr_m (fr_s Fm434 (fr_m fr_0 rfl rfl) rfl rfl) rfl rfl) rfl rfl) rfl rfl) rfl rfl) rfl rfl) rfl rfl) rfl rfl), (show (m457.1 10) = 0 → (m.1 10) = 0 by rewrite [(show (m457.1 10) = (m449.1 10) from (fr1 Fm457 10 rfl))]; omega), (show (m457.1 69) ≤ (m.1 69) + 64 by omega), (fun (h : (m457.1 10) = 0) => absurd ((show (m457.1 10) = (m449.1 10) from (fr1 Fm457 10 rfl)).symm.trans h) (by omega)), rfl⟩
    have T207_463 : TT w D pm_260 (207, [(5, .int (i32 (m.1 69))), (4, .int (i32 ((m.2 80) jj))), (3, .int (i32 ((m.2 82) jj))), (2, .int (i32 ((m.2 81) jj))), (0, .ref 189), (1, .int (i32 jj))], [], (mhp (mO m [] []) c, N), 0, 0) (Q_join m c N jj B) := by
      refine T_ld 208 (.ref 189) rfl (fun _ => rfl) ?_
      refine T_ld 209 (.int (i32 ((m.2 81) jj))) rfl (fun _ => rfl) ?_
      refine T_gf 213 (.ref 245) rfl rfl rfl rfl rfl rfl ?_
      refine T_ld 214 (.int (i32 jj)) rfl (fun _ => rfl) ?_
      refine T_bald 215 83 (m.2 83) rfl rfl rfl (by omega) (show jj < (540 : Int) by omega) rfl ?_
      have e465 : 0 ≤ m.2 83 jj ∧ m.2 83 jj ≤ 1 := hT.2.1 83 jj
      refine T_gf 219 (.ref 246) rfl rfl rfl rfl rfl rfl ?_
      refine T_ld 220 (.int (i32 jj)) rfl (fun _ => rfl) ?_
      refine T_lald 221 84 (m.2 84) rfl rfl rfl (by omega) (show jj < (540 : Int) by omega) rfl ?_
      have e466 : (-9223372036854775808) ≤ m.2 84 jj ∧ m.2 84 jj ≤ 9223372036854775807 := hT.2.1 84 jj
      refine T_ld 222 (.int (i32 ((m.2 82) jj))) rfl (fun _ => rfl) ?_
      refine T_gf 226 (.int (i32 (m.1 69))) rfl rfl rfl rfl rfl rfl ?_
      refine T_gf 230 (.int (i32 (m.1 71))) rfl rfl rfl rfl rfl rfl ?_
      refine T_gf 234 (.long (i64 (m.1 72))) rfl rfl rfl rfl rfl rfl ?_
      refine T_gf 238 (.int (i32 (m.1 70))) rfl rfl rfl rfl rfl rfl ?_
      refine T_call 241 261 [.ref 189, .int (i32 ((m.2 81) jj)), .int (i32 ((m.2 83) jj)), .long (i64 ((m.2 84) jj)), .int (i32 ((m.2 82) jj)), .int (i32 (m.1 69)), .int (i32 (m.1 71)), .long (i64 (m.1 72)), .int (i32 (m.1 70))] [] rfl (fun _ => rfl) rfl (c_common w (mO m [] []) c N D (by omega) hT ((m.2 81) jj) ((m.2 83) jj) ((m.2 84) jj) ((m.2 82) jj) (m.1 69) (m.1 71) (m.1 72) (m.1 70) (r32 (by omega) (by omega)) (r32 (by omega) (by omega)) (r64 (by omega) (by omega)) (r32 (by omega) (by omega)) (r32 (by omega) (by omega)) (r32 (by omega) (by omega)) (r64 (by omega) (by omega)) (r32 (by omega) (by omega)) (show 0 ≤ ((m.2 82) jj) ∧ ((m.2 82) jj) ≤ 4000 by omega) (show 0 ≤ (m.1 70) ∧ (m.1 70) ≤ 4000 by omega) (show 0 ≤ ((m.2 81) jj) ∧ ((m.2 81) jj) ≤ 1024 by omega) (show 0 ≤ (m.1 69) ∧ (m.1 69) ≤ 1024 by omega) (fun (h : (m.1 10) = 0) => absurd h (by omega))) (fun rr467 k468 => ?_)
      obtain ⟨m469, x470, Tm469, Fm469, g471, h472, h473, c474, rfl⟩ := k468
      refine ⟨_, _, rfl, ?_⟩
      refine T_nb (st' := [.int (i32 x470)]) rfl ?_
      obtain ⟨g471a, g471b⟩ := g471
      have g475 : 0 ≤ m469.1 10 ∧ m469.1 10 ≤ 8 := Tm469.1 10
      replace h472 : (m469.1 10) = 0 → (m.1 10) = 0 := h472
      replace h473 : x470 = 64 ∨ x470 = ((m.2 81) jj) ∨ x470 = (m.1 69) := h473
      have hf476 : 1 ≤ (m469.1 10) := by omega
      clear c474
      clear h472
      clear g426a g426b h427
      refine T_sto 242 [(2, .int (i32 x470)), (5, .int (i32 (m.1 69))), (4, .int (i32 ((m.2 80) jj))), (3, .int (i32 ((m.2 82) jj))), (0, .ref 189), (1, .int (i32 jj))] rfl (fun _ => rfl) ?_
      refine T_gf 246 (.ref 242) rfl rfl rfl rfl rfl rfl ?_
      refine T_ld 247 (.int (i32 jj)) rfl (fun _ => rfl) ?_
      refine T_iald 248 80 (m.2 80) rfl rfl rfl (by omega) (show jj < (540 : Int) by omega) (show (m469.2 80) = (m.2 80) from (fr2 Fm469 80 rfl)) ?_
      have e477 : (-1) ≤ (m.2 80) jj ∧ (m.2 80) jj ≤ 330 := (hT.2.1 80) jj
      refine T_call 251 259 [.int (i32 ((m.2 80) jj))] [] rfl (fun _ => rfl) rfl (c_level w (mO m469 [] []) c N D (by omega) Tm469 ((m.2 80) jj) (r32 (by omega) (by omega))) (fun rr478 k479 => ?_)
      obtain ⟨x480, g481, h482, rfl⟩ := k479
      refine ⟨_, _, rfl, ?_⟩
      refine T_ns (st' := [.int (i32 x480)]) rfl ?_
      obtain ⟨g481a, g481b⟩ := g481
      replace h482 : 0 ≤ x480 → 4 ≤ ((m.2 80) jj) ∧ ((m.2 80) jj) ≤ 124 := h482
      refine T_ld 252 (.int (i32 2)) rfl (fun _ => rfl) ?_
      refine T_icmp 259 255 rfl rfl rfl (r32 (by omega) (by omega)) ⟨by decide, by decide⟩ (fun (h483 : x480 ≠ 2) => ?_) (fun (h483 : ¬ (x480 ≠ 2)) => ?_)
      · skip
        refine T_ld 260 (.int (i32 x470)) rfl (fun _ => rfl) ?_
        refine T_sto 261 [(2, .int (i32 x470)), (5, .int (i32 (m.1 69))), (4, .int (i32 ((m.2 80) jj))), (3, .int (i32 ((m.2 82) jj))), (0, .ref 189), (1, .int (i32 jj))] rfl (fun _ => rfl) ?_
        refine T_gf 265 (.ref 242) rfl rfl rfl rfl rfl rfl ?_
        refine T_ld 266 (.int (i32 jj)) rfl (fun _ => rfl) ?_
        refine T_ld 267 (.int (i32 (-1))) rfl (fun _ => rfl) ?_
        have G484 : ∀ j, (-1) ≤ (upI (m.2 80) jj (-1)) j ∧ (upI (m.2 80) jj (-1)) j ≤ 330 := upI_rg (hT.2.1 80) ⟨by omega, by omega⟩
        refine T_iast (a' := [(80, upI (m.2 80) jj (-1))]) 268 80 (m.2 80) rfl rfl rfl (by omega) (show jj < (540 : Int) by omega) (show (m469.2 80) = (m.2 80) from (fr2 Fm469 80 rfl)) rfl ?_
        refine T_ld 269 (.ref 189) rfl (fun _ => rfl) ?_
        refine T_ld 271 (.int (i32 ((m.2 80) jj))) rfl (fun _ => rfl) ?_
        refine T_ld 272 (.int (i32 x470)) rfl (fun _ => rfl) ?_
        refine T_ld 274 (.int (i32 (m.1 69))) rfl (fun _ => rfl) ?_
        refine T_ld 275 (.long (i64 0)) rfl (fun _ => rfl) ?_
        refine T_call 278 248 [.ref 189, .int (i32 ((m.2 80) jj)), .int (i32 x470), .int (i32 (m.1 69)), .long (i64 0)] [] rfl (fun _ => rfl) rfl (c_node w (mO m469 [] [(80, upI (m.2 80) jj (-1))]) c N D (by omega) (Ty_mO Tm469 rfl rfl trivial ⟨G484, trivial⟩) ((m.2 80) jj) x470 (m.1 69) 0 B (1 + lh (m.2 79) (m.2 80) (m.1 73)) (r32 (by omega) (by omega)) (r32 (by omega) (by omega)) (r32 (by omega) (by omega)) ⟨by decide, by decide⟩ (fun (h : (m469.1 10) = 0) => absurd h (by omega))) (fun rr485 k486 => ?_)
        obtain ⟨m487, Tm487, Fm487, h488, c489, rfl⟩ := k486
        refine ⟨_, _, rfl, ?_⟩
        refine T_nb (st' := []) rfl ?_
        have g490 : 0 ≤ m487.1 10 ∧ m487.1 10 ≤ 8 := Tm487.1 10
        have g491 : 0 ≤ m487.1 28 ∧ m487.1 28 ≤ 800 := Tm487.1 28
        replace h488 : (m487.1 10) = 0 → (m469.1 10) = 0 := h488
        have hf492 : 1 ≤ (m487.1 10) := by omega
        clear c489
        clear h488
        clear g475 hf476 g481a g481b h482 h483
        refine T_ld 279 (.ref 189) rfl (fun _ => rfl) ?_
        refine T_ld 280 (.int (i32 x470)) rfl (fun _ => rfl) ?_
        refine T_ld 281 (.int (i32 ((m.2 82) jj))) rfl (fun _ => rfl) ?_
        refine T_call 284 250 [.ref 189, .int (i32 x470), .int (i32 ((m.2 82) jj))] [] rfl (fun _ => rfl) rfl (c_unit w (mO m487 [] []) c N D (by omega) Tm487 x470 ((m.2 82) jj) (r32 (by omega) (by omega)) (r32 (by omega) (by omega)) (show 0 ≤ x470 ∧ x470 ≤ 1024 by omega) (show 0 ≤ ((m.2 82) jj) ∧ ((m.2 82) jj) ≤ 4000 by omega)) (fun rr493 k494 => ?_)
        obtain ⟨m495, Tm495, Fm495, h496, rfl⟩ := k494
        refine ⟨_, _, rfl, ?_⟩
        refine T_nb (st' := []) rfl ?_
        have g497 : 0 ≤ m495.1 69 ∧ m495.1 69 ≤ 1024 := Tm495.1 69
        have g498 : 0 ≤ m495.1 70 ∧ m495.1 70 ≤ 4000 := Tm495.1 70
        have g499 : 0 ≤ m495.1 71 ∧ m495.1 71 ≤ 1 := Tm495.1 71
        have g500 : (-9223372036854775808) ≤ m495.1 72 ∧ m495.1 72 ≤ 9223372036854775807 := Tm495.1 72
        replace h496 : (m495.1 69) = x470 := h496
        refine T_ret rfl (fun _ => rfl) ?_
        exact ⟨(mO m495 [] []), Tm495, (fr_m (fr_s Fm495 (fr_m (fr_s Fm487 (fr_m (fr_s Fm469 (fr_m fr_0 rfl rfl) rfl rfl) rfl rfl) rfl rfl) rfl rfl) rfl rfl) rfl rfl), (show (m495.1 10) = 0 → (m.1 10) = 0 by rewrite [(show (m495.1 10) = (m487.1 10) from (fr1 Fm495 10 rfl))]; omega), (show (m495.1 69) ≤ (m.1 69) + 64 by omega), (fun (h : (m495.1 10) = 0) => absurd ((show (m495.1 10) = (m487.1 10) from (fr1 Fm495 10 rfl)).symm.trans h) (by omega)), rfl⟩
      · skip
        refine T_ld 256 (.int (i32 1)) rfl (fun _ => rfl) ?_
        refine T_goto 260 rfl (fun _ => rfl) ?_
        refine T_sto 261 [(2, .int (i32 1)), (5, .int (i32 (m.1 69))), (4, .int (i32 ((m.2 80) jj))), (3, .int (i32 ((m.2 82) jj))), (0, .ref 189), (1, .int (i32 jj))] rfl (fun _ => rfl) ?_
        refine T_gf 265 (.ref 242) rfl rfl rfl rfl rfl rfl ?_
        refine T_ld 266 (.int (i32 jj)) rfl (fun _ => rfl) ?_
        refine T_ld 267 (.int (i32 (-1))) rfl (fun _ => rfl) ?_
        have G501 : ∀ j, (-1) ≤ (upI (m.2 80) jj (-1)) j ∧ (upI (m.2 80) jj (-1)) j ≤ 330 := upI_rg (hT.2.1 80) ⟨by omega, by omega⟩
        refine T_iast (a' := [(80, upI (m.2 80) jj (-1))]) 268 80 (m.2 80) rfl rfl rfl (by omega) (show jj < (540 : Int) by omega) (show (m469.2 80) = (m.2 80) from (fr2 Fm469 80 rfl)) rfl ?_
        refine T_ld 269 (.ref 189) rfl (fun _ => rfl) ?_
        refine T_ld 271 (.int (i32 ((m.2 80) jj))) rfl (fun _ => rfl) ?_
        refine T_ld 272 (.int (i32 1)) rfl (fun _ => rfl) ?_
        refine T_ld 274 (.int (i32 (m.1 69))) rfl (fun _ => rfl) ?_
        refine T_ld 275 (.long (i64 0)) rfl (fun _ => rfl) ?_
        refine T_call 278 248 [.ref 189, .int (i32 ((m.2 80) jj)), .int (i32 1), .int (i32 (m.1 69)), .long (i64 0)] [] rfl (fun _ => rfl) rfl (c_node w (mO m469 [] [(80, upI (m.2 80) jj (-1))]) c N D (by omega) (Ty_mO Tm469 rfl rfl trivial ⟨G501, trivial⟩) ((m.2 80) jj) 1 (m.1 69) 0 B (1 + lh (m.2 79) (m.2 80) (m.1 73)) (r32 (by omega) (by omega)) ⟨by decide, by decide⟩ (r32 (by omega) (by omega)) ⟨by decide, by decide⟩ (fun (h : (m469.1 10) = 0) => absurd h (by omega))) (fun rr502 k503 => ?_)
        obtain ⟨m504, Tm504, Fm504, h505, c506, rfl⟩ := k503
        refine ⟨_, _, rfl, ?_⟩
        refine T_nb (st' := []) rfl ?_
        have g507 : 0 ≤ m504.1 10 ∧ m504.1 10 ≤ 8 := Tm504.1 10
        have g508 : 0 ≤ m504.1 28 ∧ m504.1 28 ≤ 800 := Tm504.1 28
        replace h505 : (m504.1 10) = 0 → (m469.1 10) = 0 := h505
        have hf509 : 1 ≤ (m504.1 10) := by omega
        clear c506
        clear h505
        clear g475 g471a g471b hf476 h473 g481a g481b h482 h483
        refine T_ld 279 (.ref 189) rfl (fun _ => rfl) ?_
        refine T_ld 280 (.int (i32 1)) rfl (fun _ => rfl) ?_
        refine T_ld 281 (.int (i32 ((m.2 82) jj))) rfl (fun _ => rfl) ?_
        refine T_call 284 250 [.ref 189, .int (i32 1), .int (i32 ((m.2 82) jj))] [] rfl (fun _ => rfl) rfl (c_unit w (mO m504 [] []) c N D (by omega) Tm504 1 ((m.2 82) jj) ⟨by decide, by decide⟩ (r32 (by omega) (by omega)) (show 0 ≤ (1 : Int) ∧ (1 : Int) ≤ 1024 by omega) (show 0 ≤ ((m.2 82) jj) ∧ ((m.2 82) jj) ≤ 4000 by omega)) (fun rr510 k511 => ?_)
        obtain ⟨m512, Tm512, Fm512, h513, rfl⟩ := k511
        refine ⟨_, _, rfl, ?_⟩
        refine T_nb (st' := []) rfl ?_
        have g514 : 0 ≤ m512.1 69 ∧ m512.1 69 ≤ 1024 := Tm512.1 69
        have g515 : 0 ≤ m512.1 70 ∧ m512.1 70 ≤ 4000 := Tm512.1 70
        have g516 : 0 ≤ m512.1 71 ∧ m512.1 71 ≤ 1 := Tm512.1 71
        have g517 : (-9223372036854775808) ≤ m512.1 72 ∧ m512.1 72 ≤ 9223372036854775807 := Tm512.1 72
        replace h513 : (m512.1 69) = (1 : Int) := h513
        refine T_ret rfl (fun _ => rfl) ?_
        exact ⟨(mO m512 [] []), Tm512, (fr_m (fr_s Fm512 (fr_m (fr_s Fm504 (fr_m (fr_s Fm469 (fr_m fr_0 rfl rfl) rfl rfl) rfl rfl) rfl rfl) rfl rfl) rfl rfl) rfl rfl), (show (m512.1 10) = 0 → (m.1 10) = 0 by rewrite [(show (m512.1 10) = (m504.1 10) from (fr1 Fm512 10 rfl))]; omega), (show (m512.1 69) ≤ (m.1 69) + 64 by omega), (fun (h : (m512.1 10) = 0) => absurd ((show (m512.1 10) = (m504.1 10) from (fr1 Fm512 10 rfl)).symm.trans h) (by omega)), rfl⟩
    by_cases h518 : x425 = 0
    · skip
      refine T_cast 0 h518 ?_
      refine T_pop 88 rfl (fun _ => rfl) ?_
      exact T88_428 (by omega)
    by_cases h519 : x425 = 1
    · skip
      refine T_cast 1 h519 ?_
      refine T_pop 88 rfl (fun _ => rfl) ?_
      exact T88_428 (by omega)
    by_cases h520 : x425 = 6
    · skip
      refine T_cast 6 h520 ?_
      refine T_pop 131 rfl (fun _ => rfl) ?_
      refine T_goto 261 rfl (fun _ => rfl) ?_
      refine T_gf 265 (.ref 242) rfl rfl rfl rfl rfl rfl ?_
      refine T_ld 266 (.int (i32 jj)) rfl (fun _ => rfl) ?_
      refine T_ld 267 (.int (i32 (-1))) rfl (fun _ => rfl) ?_
      have G521 : ∀ j, (-1) ≤ (upI (m.2 80) jj (-1)) j ∧ (upI (m.2 80) jj (-1)) j ≤ 330 := upI_rg (hT.2.1 80) ⟨by omega, by omega⟩
      refine T_iast (a' := [(80, upI (m.2 80) jj (-1))]) 268 80 (m.2 80) rfl rfl rfl (by omega) (show jj < (540 : Int) by omega) rfl rfl ?_
      refine T_ld 269 (.ref 189) rfl (fun _ => rfl) ?_
      refine T_ld 271 (.int (i32 ((m.2 80) jj))) rfl (fun _ => rfl) ?_
      refine T_ld 272 (.int (i32 ((m.2 81) jj))) rfl (fun _ => rfl) ?_
      refine T_ld 274 (.int (i32 (m.1 69))) rfl (fun _ => rfl) ?_
      refine T_ld 275 (.long (i64 0)) rfl (fun _ => rfl) ?_
      refine T_call 278 248 [.ref 189, .int (i32 ((m.2 80) jj)), .int (i32 ((m.2 81) jj)), .int (i32 (m.1 69)), .long (i64 0)] [] rfl (fun _ => rfl) rfl (c_node w (mO m [] [(80, upI (m.2 80) jj (-1))]) c N D (by omega) (Ty_mO hT rfl rfl trivial ⟨G521, trivial⟩) ((m.2 80) jj) ((m.2 81) jj) (m.1 69) 0 B (1 + lh (m.2 79) (m.2 80) (m.1 73)) (r32 (by omega) (by omega)) (r32 (by omega) (by omega)) (r32 (by omega) (by omega)) ⟨by decide, by decide⟩ (fun (h : (m.1 10) = 0) => absurd h (by omega))) (fun rr522 k523 => ?_)
      obtain ⟨m524, Tm524, Fm524, h525, c526, rfl⟩ := k523
      refine ⟨_, _, rfl, ?_⟩
      refine T_nb (st' := []) rfl ?_
      have g527 : 0 ≤ m524.1 10 ∧ m524.1 10 ≤ 8 := Tm524.1 10
      have g528 : 0 ≤ m524.1 28 ∧ m524.1 28 ≤ 800 := Tm524.1 28
      replace h525 : (m524.1 10) = 0 → (m.1 10) = 0 := h525
      have hf529 : 1 ≤ (m524.1 10) := by omega
      clear c526
      clear h525
      clear g426a g426b h427
      refine T_ld 279 (.ref 189) rfl (fun _ => rfl) ?_
      refine T_ld 280 (.int (i32 ((m.2 81) jj))) rfl (fun _ => rfl) ?_
      refine T_ld 281 (.int (i32 ((m.2 82) jj))) rfl (fun _ => rfl) ?_
      refine T_call 284 250 [.ref 189, .int (i32 ((m.2 81) jj)), .int (i32 ((m.2 82) jj))] [] rfl (fun _ => rfl) rfl (c_unit w (mO m524 [] []) c N D (by omega) Tm524 ((m.2 81) jj) ((m.2 82) jj) (r32 (by omega) (by omega)) (r32 (by omega) (by omega)) (show 0 ≤ ((m.2 81) jj) ∧ ((m.2 81) jj) ≤ 1024 by omega) (show 0 ≤ ((m.2 82) jj) ∧ ((m.2 82) jj) ≤ 4000 by omega)) (fun rr530 k531 => ?_)
      obtain ⟨m532, Tm532, Fm532, h533, rfl⟩ := k531
      refine ⟨_, _, rfl, ?_⟩
      refine T_nb (st' := []) rfl ?_
      have g534 : 0 ≤ m532.1 69 ∧ m532.1 69 ≤ 1024 := Tm532.1 69
      have g535 : 0 ≤ m532.1 70 ∧ m532.1 70 ≤ 4000 := Tm532.1 70
      have g536 : 0 ≤ m532.1 71 ∧ m532.1 71 ≤ 1 := Tm532.1 71
      have g537 : (-9223372036854775808) ≤ m532.1 72 ∧ m532.1 72 ≤ 9223372036854775807 := Tm532.1 72
      replace h533 : (m532.1 69) = ((m.2 81) jj) := h533
      refine T_ret rfl (fun _ => rfl) ?_
      exact ⟨(mO m532 [] []), Tm532, (fr_m (fr_s Fm532 (fr_m (fr_s Fm524 (fr_m fr_0 rfl rfl) rfl rfl) rfl rfl) rfl rfl) rfl rfl), (show (m532.1 10) = 0 → (m.1 10) = 0 by rewrite [(show (m532.1 10) = (m524.1 10) from (fr1 Fm532 10 rfl))]; omega), (show (m532.1 69) ≤ (m.1 69) + 64 by omega), (fun (h : (m532.1 10) = 0) => absurd ((show (m532.1 10) = (m524.1 10) from (fr1 Fm532 10 rfl)).symm.trans h) (by omega)), rfl⟩
    by_cases h538 : x425 = 8
    · skip
      refine T_cast 8 h538 ?_
      refine T_pop 134 rfl (fun _ => rfl) ?_
      refine T_ld 135 (.ref 189) rfl (fun _ => rfl) ?_
      refine T_gf 139 (.ref 245) rfl rfl rfl rfl rfl rfl ?_
      refine T_ld 140 (.int (i32 jj)) rfl (fun _ => rfl) ?_
      refine T_bald 141 83 (m.2 83) rfl rfl rfl (by omega) (show jj < (540 : Int) by omega) rfl ?_
      have e539 : 0 ≤ m.2 83 jj ∧ m.2 83 jj ≤ 1 := hT.2.1 83 jj
      refine T_if 148 144 rfl rfl rfl (r32 (by omega) (by omega)) (fun (h540 : (m.2 83) jj ≠ 0) => ?_) (fun (h540 : ¬ ((m.2 83) jj ≠ 0)) => ?_)
      · skip
        refine T_ld 149 (.int (i32 0)) rfl (fun _ => rfl) ?_
        refine T_ld 150 (.int (i32 ((m.2 82) jj))) rfl (fun _ => rfl) ?_
        refine T_call 153 256 [.ref 189, .int (i32 0), .int (i32 ((m.2 82) jj))] [] rfl (fun _ => rfl) rfl (c_want w (mO m [] []) c N D (by omega) hT 0 ((m.2 82) jj) ⟨by decide, by decide⟩ (r32 (by omega) (by omega)) (show 0 ≤ ((m.2 82) jj) ∧ ((m.2 82) jj) ≤ 4000 by omega) (fun (h : (m.1 10) = 0) => absurd h (by omega))) (fun rr541 k542 => ?_)
        obtain ⟨m543, Tm543, Fm543, h544, c545, rfl⟩ := k542
        refine ⟨_, _, rfl, ?_⟩
        refine T_nb (st' := []) rfl ?_
        have g546 : 0 ≤ m543.1 10 ∧ m543.1 10 ≤ 8 := Tm543.1 10
        replace h544 : (m543.1 10) = 0 → (m.1 10) = 0 := h544
        have hf547 : 1 ≤ (m543.1 10) := by omega
        clear c545
        clear h544
        clear g426a g426b h427
        refine T_ld 154 (.ref 189) rfl (fun _ => rfl) ?_
        refine T_gf 158 (.int (i32 (m.1 71))) rfl rfl rfl rfl (mfv_c (F := fun x => .int (i32 x)) rfl (show (m543.1 71) = (m.1 71) from (fr1 Fm543 71 rfl))) rfl ?_
        refine T_if 165 161 rfl rfl rfl (r32 (by omega) (by omega)) (fun (h548 : (m.1 71) ≠ 0) => ?_) (fun (h548 : ¬ ((m.1 71) ≠ 0)) => ?_)
        · skip
          refine T_ld 166 (.int (i32 0)) rfl (fun _ => rfl) ?_
          refine T_gf 170 (.int (i32 (m.1 70))) rfl rfl rfl rfl (mfv_c (F := fun x => .int (i32 x)) rfl (show (m543.1 70) = (m.1 70) from (fr1 Fm543 70 rfl))) rfl ?_
          refine T_call 173 256 [.ref 189, .int (i32 0), .int (i32 (m.1 70))] [] rfl (fun _ => rfl) rfl (c_want w (mO m543 [] []) c N D (by omega) Tm543 0 (m.1 70) ⟨by decide, by decide⟩ (r32 (by omega) (by omega)) (show 0 ≤ (m.1 70) ∧ (m.1 70) ≤ 4000 by omega) (fun (h : (m543.1 10) = 0) => absurd h (by omega))) (fun rr549 k550 => ?_)
          obtain ⟨m551, Tm551, Fm551, h552, c553, rfl⟩ := k550
          refine ⟨_, _, rfl, ?_⟩
          refine T_nb (st' := []) rfl ?_
          have g554 : 0 ≤ m551.1 10 ∧ m551.1 10 ≤ 8 := Tm551.1 10
          replace h552 : (m551.1 10) = 0 → (m543.1 10) = 0 := h552
          have hf555 : 1 ≤ (m551.1 10) := by omega
          clear c553
          clear h552
          clear g546 hf547
          refine T_ld 174 (.ref 189) rfl (fun _ => rfl) ?_
          refine T_ld 175 (.int (i32 ((m.2 81) jj))) rfl (fun _ => rfl) ?_
          refine T_gf 179 (.int (i32 (m.1 69))) rfl rfl rfl rfl (mfv_c (F := fun x => .int (i32 x)) rfl (show (m551.1 69) = (m.1 69) from ((fr1 Fm551 69 rfl).trans (fr1 Fm543 69 rfl)))) rfl ?_
          refine T_iadd 180 rfl rfl ?_
          refine T_ld 182 (.int (i32 64)) rfl (fun _ => rfl) ?_
          refine T_icmp 189 185 rfl rfl rfl (r32 (by omega) (by omega)) ⟨by decide, by decide⟩ (fun (h556 : (64 : Int) < ((m.2 81) jj) + (m.1 69)) => ?_) (fun (h556 : ¬ ((64 : Int) < ((m.2 81) jj) + (m.1 69))) => ?_)
          · skip
            refine T_ld 190 (.int (i32 0)) rfl (fun _ => rfl) ?_
            refine T_gf 194 (.int (i32 (m.1 70))) rfl rfl rfl rfl (mfv_c (F := fun x => .int (i32 x)) rfl (show (m551.1 70) = (m.1 70) from ((fr1 Fm551 70 rfl).trans (fr1 Fm543 70 rfl)))) rfl ?_
            refine T_call 197 256 [.ref 189, .int (i32 0), .int (i32 (m.1 70))] [] rfl (fun _ => rfl) rfl (c_want w (mO m551 [] []) c N D (by omega) Tm551 0 (m.1 70) ⟨by decide, by decide⟩ (r32 (by omega) (by omega)) (show 0 ≤ (m.1 70) ∧ (m.1 70) ≤ 4000 by omega) (fun (h : (m551.1 10) = 0) => absurd h (by omega))) (fun rr557 k558 => ?_)
            obtain ⟨m559, Tm559, Fm559, h560, c561, rfl⟩ := k558
            refine ⟨_, _, rfl, ?_⟩
            refine T_nb (st' := []) rfl ?_
            have g562 : 0 ≤ m559.1 10 ∧ m559.1 10 ≤ 8 := Tm559.1 10
            replace h560 : (m559.1 10) = 0 → (m551.1 10) = 0 := h560
            have hf563 : 1 ≤ (m559.1 10) := by omega
            clear c561
            clear h560
            clear g554 hf555
            refine T_ld 198 (.int (i32 ((m.2 81) jj))) rfl (fun _ => rfl) ?_
            refine T_gf 202 (.int (i32 (m.1 69))) rfl rfl rfl rfl (mfv_c (F := fun x => .int (i32 x)) rfl (show (m559.1 69) = (m.1 69) from ((fr1 Fm559 69 rfl).trans ((fr1 Fm551 69 rfl).trans (fr1 Fm543 69 rfl))))) rfl ?_
            refine T_iadd 203 rfl rfl ?_
            refine T_sto 204 [(2, .int (i32 (((m.2 81) jj) + (m.1 69)))), (5, .int (i32 (m.1 69))), (4, .int (i32 ((m.2 80) jj))), (3, .int (i32 ((m.2 82) jj))), (0, .ref 189), (1, .int (i32 jj))] rfl (fun _ => rfl) ?_
            refine T_goto 261 rfl (fun _ => rfl) ?_
            refine T_gf 265 (.ref 242) rfl rfl rfl rfl rfl rfl ?_
            refine T_ld 266 (.int (i32 jj)) rfl (fun _ => rfl) ?_
            refine T_ld 267 (.int (i32 (-1))) rfl (fun _ => rfl) ?_
            have G564 : ∀ j, (-1) ≤ (upI (m.2 80) jj (-1)) j ∧ (upI (m.2 80) jj (-1)) j ≤ 330 := upI_rg (hT.2.1 80) ⟨by omega, by omega⟩
            refine T_iast (a' := [(80, upI (m.2 80) jj (-1))]) 268 80 (m.2 80) rfl rfl rfl (by omega) (show jj < (540 : Int) by omega) (show (m559.2 80) = (m.2 80) from ((fr2 Fm559 80 rfl).trans ((fr2 Fm551 80 rfl).trans (fr2 Fm543 80 rfl)))) rfl ?_
            refine T_ld 269 (.ref 189) rfl (fun _ => rfl) ?_
            refine T_ld 271 (.int (i32 ((m.2 80) jj))) rfl (fun _ => rfl) ?_
            refine T_ld 272 (.int (i32 (((m.2 81) jj) + (m.1 69)))) rfl (fun _ => rfl) ?_
            refine T_ld 274 (.int (i32 (m.1 69))) rfl (fun _ => rfl) ?_
            refine T_ld 275 (.long (i64 0)) rfl (fun _ => rfl) ?_
            refine T_call 278 248 [.ref 189, .int (i32 ((m.2 80) jj)), .int (i32 (((m.2 81) jj) + (m.1 69))), .int (i32 (m.1 69)), .long (i64 0)] [] rfl (fun _ => rfl) rfl (c_node w (mO m559 [] [(80, upI (m.2 80) jj (-1))]) c N D (by omega) (Ty_mO Tm559 rfl rfl trivial ⟨G564, trivial⟩) ((m.2 80) jj) (((m.2 81) jj) + (m.1 69)) (m.1 69) 0 B (1 + lh (m.2 79) (m.2 80) (m.1 73)) (r32 (by omega) (by omega)) (r32 (by omega) (by omega)) (r32 (by omega) (by omega)) ⟨by decide, by decide⟩ (fun (h : (m559.1 10) = 0) => absurd h (by omega))) (fun rr565 k566 => ?_)
            obtain ⟨m567, Tm567, Fm567, h568, c569, rfl⟩ := k566
            refine ⟨_, _, rfl, ?_⟩
            refine T_nb (st' := []) rfl ?_
            have g570 : 0 ≤ m567.1 10 ∧ m567.1 10 ≤ 8 := Tm567.1 10
            have g571 : 0 ≤ m567.1 28 ∧ m567.1 28 ≤ 800 := Tm567.1 28
            replace h568 : (m567.1 10) = 0 → (m559.1 10) = 0 := h568
            have hf572 : 1 ≤ (m567.1 10) := by omega
            clear c569
            clear h568
            clear g562 hf563
            refine T_ld 279 (.ref 189) rfl (fun _ => rfl) ?_
            refine T_ld 280 (.int (i32 (((m.2 81) jj) + (m.1 69)))) rfl (fun _ => rfl) ?_
            refine T_ld 281 (.int (i32 ((m.2 82) jj))) rfl (fun _ => rfl) ?_
            refine T_call 284 250 [.ref 189, .int (i32 (((m.2 81) jj) + (m.1 69))), .int (i32 ((m.2 82) jj))] [] rfl (fun _ => rfl) rfl (c_unit w (mO m567 [] []) c N D (by omega) Tm567 (((m.2 81) jj) + (m.1 69)) ((m.2 82) jj) (r32 (by omega) (by omega)) (r32 (by omega) (by omega)) (show 0 ≤ (((m.2 81) jj) + (m.1 69)) ∧ (((m.2 81) jj) + (m.1 69)) ≤ 1024 by omega) (show 0 ≤ ((m.2 82) jj) ∧ ((m.2 82) jj) ≤ 4000 by omega)) (fun rr573 k574 => ?_)
            obtain ⟨m575, Tm575, Fm575, h576, rfl⟩ := k574
            refine ⟨_, _, rfl, ?_⟩
            refine T_nb (st' := []) rfl ?_
            have g577 : 0 ≤ m575.1 69 ∧ m575.1 69 ≤ 1024 := Tm575.1 69
            have g578 : 0 ≤ m575.1 70 ∧ m575.1 70 ≤ 4000 := Tm575.1 70
            have g579 : 0 ≤ m575.1 71 ∧ m575.1 71 ≤ 1 := Tm575.1 71
            have g580 : (-9223372036854775808) ≤ m575.1 72 ∧ m575.1 72 ≤ 9223372036854775807 := Tm575.1 72
            replace h576 : (m575.1 69) = (((m.2 81) jj) + (m.1 69)) := h576
            refine T_ret rfl (fun _ => rfl) ?_
            exact ⟨(mO m575 [] []), Tm575, (fr_m (fr_s Fm575 (fr_m (fr_s Fm567 (fr_m (fr_s Fm559 (fr_m (fr_s Fm551 (fr_m (fr_s Fm543 (fr_m fr_0 rfl rfl) rfl rfl) rfl rfl) rfl rfl) rfl rfl) rfl rfl) rfl rfl) rfl rfl) rfl rfl) rfl rfl) rfl rfl), (show (m575.1 10) = 0 → (m.1 10) = 0 by rewrite [(show (m575.1 10) = (m567.1 10) from (fr1 Fm575 10 rfl))]; omega), (show (m575.1 69) ≤ (m.1 69) + 64 by omega), (fun (h : (m575.1 10) = 0) => absurd ((show (m575.1 10) = (m567.1 10) from (fr1 Fm575 10 rfl)).symm.trans h) (by omega)), rfl⟩
          · skip
            refine T_ld 186 (.int (i32 1)) rfl (fun _ => rfl) ?_
            refine T_goto 190 rfl (fun _ => rfl) ?_
            refine T_gf 194 (.int (i32 (m.1 70))) rfl rfl rfl rfl (mfv_c (F := fun x => .int (i32 x)) rfl (show (m551.1 70) = (m.1 70) from ((fr1 Fm551 70 rfl).trans (fr1 Fm543 70 rfl)))) rfl ?_
            refine T_call 197 256 [.ref 189, .int (i32 1), .int (i32 (m.1 70))] [] rfl (fun _ => rfl) rfl (c_want w (mO m551 [] []) c N D (by omega) Tm551 1 (m.1 70) ⟨by decide, by decide⟩ (r32 (by omega) (by omega)) (show 0 ≤ (m.1 70) ∧ (m.1 70) ≤ 4000 by omega) (fun (h : (m551.1 10) = 0) => absurd h (by omega))) (fun rr581 k582 => ?_)
            obtain ⟨m583, Tm583, Fm583, h584, c585, rfl⟩ := k582
            refine ⟨_, _, rfl, ?_⟩
            refine T_nb (st' := []) rfl ?_
            have g586 : 0 ≤ m583.1 10 ∧ m583.1 10 ≤ 8 := Tm583.1 10
            replace h584 : (m583.1 10) = 0 → (m551.1 10) = 0 := h584
            have hf587 : 1 ≤ (m583.1 10) := by omega
            clear c585
            clear h584
            clear g554 hf555
            refine T_ld 198 (.int (i32 ((m.2 81) jj))) rfl (fun _ => rfl) ?_
            refine T_gf 202 (.int (i32 (m.1 69))) rfl rfl rfl rfl (mfv_c (F := fun x => .int (i32 x)) rfl (show (m583.1 69) = (m.1 69) from ((fr1 Fm583 69 rfl).trans ((fr1 Fm551 69 rfl).trans (fr1 Fm543 69 rfl))))) rfl ?_
            refine T_iadd 203 rfl rfl ?_
            refine T_sto 204 [(2, .int (i32 (((m.2 81) jj) + (m.1 69)))), (5, .int (i32 (m.1 69))), (4, .int (i32 ((m.2 80) jj))), (3, .int (i32 ((m.2 82) jj))), (0, .ref 189), (1, .int (i32 jj))] rfl (fun _ => rfl) ?_
            refine T_goto 261 rfl (fun _ => rfl) ?_
            refine T_gf 265 (.ref 242) rfl rfl rfl rfl rfl rfl ?_
            refine T_ld 266 (.int (i32 jj)) rfl (fun _ => rfl) ?_
            refine T_ld 267 (.int (i32 (-1))) rfl (fun _ => rfl) ?_
            have G588 : ∀ j, (-1) ≤ (upI (m.2 80) jj (-1)) j ∧ (upI (m.2 80) jj (-1)) j ≤ 330 := upI_rg (hT.2.1 80) ⟨by omega, by omega⟩
            refine T_iast (a' := [(80, upI (m.2 80) jj (-1))]) 268 80 (m.2 80) rfl rfl rfl (by omega) (show jj < (540 : Int) by omega) (show (m583.2 80) = (m.2 80) from ((fr2 Fm583 80 rfl).trans ((fr2 Fm551 80 rfl).trans (fr2 Fm543 80 rfl)))) rfl ?_
            refine T_ld 269 (.ref 189) rfl (fun _ => rfl) ?_
            refine T_ld 271 (.int (i32 ((m.2 80) jj))) rfl (fun _ => rfl) ?_
            refine T_ld 272 (.int (i32 (((m.2 81) jj) + (m.1 69)))) rfl (fun _ => rfl) ?_
            refine T_ld 274 (.int (i32 (m.1 69))) rfl (fun _ => rfl) ?_
            refine T_ld 275 (.long (i64 0)) rfl (fun _ => rfl) ?_
            refine T_call 278 248 [.ref 189, .int (i32 ((m.2 80) jj)), .int (i32 (((m.2 81) jj) + (m.1 69))), .int (i32 (m.1 69)), .long (i64 0)] [] rfl (fun _ => rfl) rfl (c_node w (mO m583 [] [(80, upI (m.2 80) jj (-1))]) c N D (by omega) (Ty_mO Tm583 rfl rfl trivial ⟨G588, trivial⟩) ((m.2 80) jj) (((m.2 81) jj) + (m.1 69)) (m.1 69) 0 B (1 + lh (m.2 79) (m.2 80) (m.1 73)) (r32 (by omega) (by omega)) (r32 (by omega) (by omega)) (r32 (by omega) (by omega)) ⟨by decide, by decide⟩ (fun (h : (m583.1 10) = 0) => absurd h (by omega))) (fun rr589 k590 => ?_)
            obtain ⟨m591, Tm591, Fm591, h592, c593, rfl⟩ := k590
            refine ⟨_, _, rfl, ?_⟩
            refine T_nb (st' := []) rfl ?_
            have g594 : 0 ≤ m591.1 10 ∧ m591.1 10 ≤ 8 := Tm591.1 10
            have g595 : 0 ≤ m591.1 28 ∧ m591.1 28 ≤ 800 := Tm591.1 28
            replace h592 : (m591.1 10) = 0 → (m583.1 10) = 0 := h592
            have hf596 : 1 ≤ (m591.1 10) := by omega
            clear c593
            clear h592
            clear g586 hf587
            refine T_ld 279 (.ref 189) rfl (fun _ => rfl) ?_
            refine T_ld 280 (.int (i32 (((m.2 81) jj) + (m.1 69)))) rfl (fun _ => rfl) ?_
            refine T_ld 281 (.int (i32 ((m.2 82) jj))) rfl (fun _ => rfl) ?_
            refine T_call 284 250 [.ref 189, .int (i32 (((m.2 81) jj) + (m.1 69))), .int (i32 ((m.2 82) jj))] [] rfl (fun _ => rfl) rfl (c_unit w (mO m591 [] []) c N D (by omega) Tm591 (((m.2 81) jj) + (m.1 69)) ((m.2 82) jj) (r32 (by omega) (by omega)) (r32 (by omega) (by omega)) (show 0 ≤ (((m.2 81) jj) + (m.1 69)) ∧ (((m.2 81) jj) + (m.1 69)) ≤ 1024 by omega) (show 0 ≤ ((m.2 82) jj) ∧ ((m.2 82) jj) ≤ 4000 by omega)) (fun rr597 k598 => ?_)
            obtain ⟨m599, Tm599, Fm599, h600, rfl⟩ := k598
            refine ⟨_, _, rfl, ?_⟩
            refine T_nb (st' := []) rfl ?_
            have g601 : 0 ≤ m599.1 69 ∧ m599.1 69 ≤ 1024 := Tm599.1 69
            have g602 : 0 ≤ m599.1 70 ∧ m599.1 70 ≤ 4000 := Tm599.1 70
            have g603 : 0 ≤ m599.1 71 ∧ m599.1 71 ≤ 1 := Tm599.1 71
            have g604 : (-9223372036854775808) ≤ m599.1 72 ∧ m599.1 72 ≤ 9223372036854775807 := Tm599.1 72
            replace h600 : (m599.1 69) = (((m.2 81) jj) + (m.1 69)) := h600
            refine T_ret rfl (fun _ => rfl) ?_
            exact ⟨(mO m599 [] []), Tm599, (fr_m (fr_s Fm599 (fr_m (fr_s Fm591 (fr_m (fr_s Fm583 (fr_m (fr_s Fm551 (fr_m (fr_s Fm543 (fr_m fr_0 rfl rfl) rfl rfl) rfl rfl) rfl rfl) rfl rfl) rfl rfl) rfl rfl) rfl rfl) rfl rfl) rfl rfl) rfl rfl), (show (m599.1 10) = 0 → (m.1 10) = 0 by rewrite [(show (m599.1 10) = (m591.1 10) from (fr1 Fm599 10 rfl))]; omega), (show (m599.1 69) ≤ (m.1 69) + 64 by omega), (fun (h : (m599.1 10) = 0) => absurd ((show (m599.1 10) = (m591.1 10) from (fr1 Fm599 10 rfl)).symm.trans h) (by omega)), rfl⟩
        · skip
          refine T_ld 162 (.int (i32 1)) rfl (fun _ => rfl) ?_
          refine T_goto 166 rfl (fun _ => rfl) ?_
          refine T_gf 170 (.int (i32 (m.1 70))) rfl rfl rfl rfl (mfv_c (F := fun x => .int (i32 x)) rfl (show (m543.1 70) = (m.1 70) from (fr1 Fm543 70 rfl))) rfl ?_
          refine T_call 173 256 [.ref 189, .int (i32 1), .int (i32 (m.1 70))] [] rfl (fun _ => rfl) rfl (c_want w (mO m543 [] []) c N D (by omega) Tm543 1 (m.1 70) ⟨by decide, by decide⟩ (r32 (by omega) (by omega)) (show 0 ≤ (m.1 70) ∧ (m.1 70) ≤ 4000 by omega) (fun (h : (m543.1 10) = 0) => absurd h (by omega))) (fun rr605 k606 => ?_)
          obtain ⟨m607, Tm607, Fm607, h608, c609, rfl⟩ := k606
          refine ⟨_, _, rfl, ?_⟩
          refine T_nb (st' := []) rfl ?_
          have g610 : 0 ≤ m607.1 10 ∧ m607.1 10 ≤ 8 := Tm607.1 10
          replace h608 : (m607.1 10) = 0 → (m543.1 10) = 0 := h608
          have hf611 : 1 ≤ (m607.1 10) := by omega
          clear c609
          clear h608
          clear g546 hf547
          refine T_ld 174 (.ref 189) rfl (fun _ => rfl) ?_
          refine T_ld 175 (.int (i32 ((m.2 81) jj))) rfl (fun _ => rfl) ?_
          refine T_gf 179 (.int (i32 (m.1 69))) rfl rfl rfl rfl (mfv_c (F := fun x => .int (i32 x)) rfl (show (m607.1 69) = (m.1 69) from ((fr1 Fm607 69 rfl).trans (fr1 Fm543 69 rfl)))) rfl ?_
          refine T_iadd 180 rfl rfl ?_
          refine T_ld 182 (.int (i32 64)) rfl (fun _ => rfl) ?_
          refine T_icmp 189 185 rfl rfl rfl (r32 (by omega) (by omega)) ⟨by decide, by decide⟩ (fun (h612 : (64 : Int) < ((m.2 81) jj) + (m.1 69)) => ?_) (fun (h612 : ¬ ((64 : Int) < ((m.2 81) jj) + (m.1 69))) => ?_)
          · skip
            refine T_ld 190 (.int (i32 0)) rfl (fun _ => rfl) ?_
            refine T_gf 194 (.int (i32 (m.1 70))) rfl rfl rfl rfl (mfv_c (F := fun x => .int (i32 x)) rfl (show (m607.1 70) = (m.1 70) from ((fr1 Fm607 70 rfl).trans (fr1 Fm543 70 rfl)))) rfl ?_
            refine T_call 197 256 [.ref 189, .int (i32 0), .int (i32 (m.1 70))] [] rfl (fun _ => rfl) rfl (c_want w (mO m607 [] []) c N D (by omega) Tm607 0 (m.1 70) ⟨by decide, by decide⟩ (r32 (by omega) (by omega)) (show 0 ≤ (m.1 70) ∧ (m.1 70) ≤ 4000 by omega) (fun (h : (m607.1 10) = 0) => absurd h (by omega))) (fun rr613 k614 => ?_)
            obtain ⟨m615, Tm615, Fm615, h616, c617, rfl⟩ := k614
            refine ⟨_, _, rfl, ?_⟩
            refine T_nb (st' := []) rfl ?_
            have g618 : 0 ≤ m615.1 10 ∧ m615.1 10 ≤ 8 := Tm615.1 10
            replace h616 : (m615.1 10) = 0 → (m607.1 10) = 0 := h616
            have hf619 : 1 ≤ (m615.1 10) := by omega
            clear c617
            clear h616
            clear g610 hf611
            refine T_ld 198 (.int (i32 ((m.2 81) jj))) rfl (fun _ => rfl) ?_
            refine T_gf 202 (.int (i32 (m.1 69))) rfl rfl rfl rfl (mfv_c (F := fun x => .int (i32 x)) rfl (show (m615.1 69) = (m.1 69) from ((fr1 Fm615 69 rfl).trans ((fr1 Fm607 69 rfl).trans (fr1 Fm543 69 rfl))))) rfl ?_
            refine T_iadd 203 rfl rfl ?_
            refine T_sto 204 [(2, .int (i32 (((m.2 81) jj) + (m.1 69)))), (5, .int (i32 (m.1 69))), (4, .int (i32 ((m.2 80) jj))), (3, .int (i32 ((m.2 82) jj))), (0, .ref 189), (1, .int (i32 jj))] rfl (fun _ => rfl) ?_
            refine T_goto 261 rfl (fun _ => rfl) ?_
            refine T_gf 265 (.ref 242) rfl rfl rfl rfl rfl rfl ?_
            refine T_ld 266 (.int (i32 jj)) rfl (fun _ => rfl) ?_
            refine T_ld 267 (.int (i32 (-1))) rfl (fun _ => rfl) ?_
            have G620 : ∀ j, (-1) ≤ (upI (m.2 80) jj (-1)) j ∧ (upI (m.2 80) jj (-1)) j ≤ 330 := upI_rg (hT.2.1 80) ⟨by omega, by omega⟩
            refine T_iast (a' := [(80, upI (m.2 80) jj (-1))]) 268 80 (m.2 80) rfl rfl rfl (by omega) (show jj < (540 : Int) by omega) (show (m615.2 80) = (m.2 80) from ((fr2 Fm615 80 rfl).trans ((fr2 Fm607 80 rfl).trans (fr2 Fm543 80 rfl)))) rfl ?_
            refine T_ld 269 (.ref 189) rfl (fun _ => rfl) ?_
            refine T_ld 271 (.int (i32 ((m.2 80) jj))) rfl (fun _ => rfl) ?_
            refine T_ld 272 (.int (i32 (((m.2 81) jj) + (m.1 69)))) rfl (fun _ => rfl) ?_
            refine T_ld 274 (.int (i32 (m.1 69))) rfl (fun _ => rfl) ?_
            refine T_ld 275 (.long (i64 0)) rfl (fun _ => rfl) ?_
            refine T_call 278 248 [.ref 189, .int (i32 ((m.2 80) jj)), .int (i32 (((m.2 81) jj) + (m.1 69))), .int (i32 (m.1 69)), .long (i64 0)] [] rfl (fun _ => rfl) rfl (c_node w (mO m615 [] [(80, upI (m.2 80) jj (-1))]) c N D (by omega) (Ty_mO Tm615 rfl rfl trivial ⟨G620, trivial⟩) ((m.2 80) jj) (((m.2 81) jj) + (m.1 69)) (m.1 69) 0 B (1 + lh (m.2 79) (m.2 80) (m.1 73)) (r32 (by omega) (by omega)) (r32 (by omega) (by omega)) (r32 (by omega) (by omega)) ⟨by decide, by decide⟩ (fun (h : (m615.1 10) = 0) => absurd h (by omega))) (fun rr621 k622 => ?_)
            obtain ⟨m623, Tm623, Fm623, h624, c625, rfl⟩ := k622
            refine ⟨_, _, rfl, ?_⟩
            refine T_nb (st' := []) rfl ?_
            have g626 : 0 ≤ m623.1 10 ∧ m623.1 10 ≤ 8 := Tm623.1 10
            have g627 : 0 ≤ m623.1 28 ∧ m623.1 28 ≤ 800 := Tm623.1 28
            replace h624 : (m623.1 10) = 0 → (m615.1 10) = 0 := h624
            have hf628 : 1 ≤ (m623.1 10) := by omega
            clear c625
            clear h624
            clear g618 hf619
            refine T_ld 279 (.ref 189) rfl (fun _ => rfl) ?_
            refine T_ld 280 (.int (i32 (((m.2 81) jj) + (m.1 69)))) rfl (fun _ => rfl) ?_
            refine T_ld 281 (.int (i32 ((m.2 82) jj))) rfl (fun _ => rfl) ?_
            refine T_call 284 250 [.ref 189, .int (i32 (((m.2 81) jj) + (m.1 69))), .int (i32 ((m.2 82) jj))] [] rfl (fun _ => rfl) rfl (c_unit w (mO m623 [] []) c N D (by omega) Tm623 (((m.2 81) jj) + (m.1 69)) ((m.2 82) jj) (r32 (by omega) (by omega)) (r32 (by omega) (by omega)) (show 0 ≤ (((m.2 81) jj) + (m.1 69)) ∧ (((m.2 81) jj) + (m.1 69)) ≤ 1024 by omega) (show 0 ≤ ((m.2 82) jj) ∧ ((m.2 82) jj) ≤ 4000 by omega)) (fun rr629 k630 => ?_)
            obtain ⟨m631, Tm631, Fm631, h632, rfl⟩ := k630
            refine ⟨_, _, rfl, ?_⟩
            refine T_nb (st' := []) rfl ?_
            have g633 : 0 ≤ m631.1 69 ∧ m631.1 69 ≤ 1024 := Tm631.1 69
            have g634 : 0 ≤ m631.1 70 ∧ m631.1 70 ≤ 4000 := Tm631.1 70
            have g635 : 0 ≤ m631.1 71 ∧ m631.1 71 ≤ 1 := Tm631.1 71
            have g636 : (-9223372036854775808) ≤ m631.1 72 ∧ m631.1 72 ≤ 9223372036854775807 := Tm631.1 72
            replace h632 : (m631.1 69) = (((m.2 81) jj) + (m.1 69)) := h632
            refine T_ret rfl (fun _ => rfl) ?_
            exact ⟨(mO m631 [] []), Tm631, (fr_m (fr_s Fm631 (fr_m (fr_s Fm623 (fr_m (fr_s Fm615 (fr_m (fr_s Fm607 (fr_m (fr_s Fm543 (fr_m fr_0 rfl rfl) rfl rfl) rfl rfl) rfl rfl) rfl rfl) rfl rfl) rfl rfl) rfl rfl) rfl rfl) rfl rfl) rfl rfl), (show (m631.1 10) = 0 → (m.1 10) = 0 by rewrite [(show (m631.1 10) = (m623.1 10) from (fr1 Fm631 10 rfl))]; omega), (show (m631.1 69) ≤ (m.1 69) + 64 by omega), (fun (h : (m631.1 10) = 0) => absurd ((show (m631.1 10) = (m623.1 10) from (fr1 Fm631 10 rfl)).symm.trans h) (by omega)), rfl⟩
          · skip
            refine T_ld 186 (.int (i32 1)) rfl (fun _ => rfl) ?_
            refine T_goto 190 rfl (fun _ => rfl) ?_
            refine T_gf 194 (.int (i32 (m.1 70))) rfl rfl rfl rfl (mfv_c (F := fun x => .int (i32 x)) rfl (show (m607.1 70) = (m.1 70) from ((fr1 Fm607 70 rfl).trans (fr1 Fm543 70 rfl)))) rfl ?_
            refine T_call 197 256 [.ref 189, .int (i32 1), .int (i32 (m.1 70))] [] rfl (fun _ => rfl) rfl (c_want w (mO m607 [] []) c N D (by omega) Tm607 1 (m.1 70) ⟨by decide, by decide⟩ (r32 (by omega) (by omega)) (show 0 ≤ (m.1 70) ∧ (m.1 70) ≤ 4000 by omega) (fun (h : (m607.1 10) = 0) => absurd h (by omega))) (fun rr637 k638 => ?_)
            obtain ⟨m639, Tm639, Fm639, h640, c641, rfl⟩ := k638
            refine ⟨_, _, rfl, ?_⟩
            refine T_nb (st' := []) rfl ?_
            have g642 : 0 ≤ m639.1 10 ∧ m639.1 10 ≤ 8 := Tm639.1 10
            replace h640 : (m639.1 10) = 0 → (m607.1 10) = 0 := h640
            have hf643 : 1 ≤ (m639.1 10) := by omega
            clear c641
            clear h640
            clear g610 hf611
            refine T_ld 198 (.int (i32 ((m.2 81) jj))) rfl (fun _ => rfl) ?_
            refine T_gf 202 (.int (i32 (m.1 69))) rfl rfl rfl rfl (mfv_c (F := fun x => .int (i32 x)) rfl (show (m639.1 69) = (m.1 69) from ((fr1 Fm639 69 rfl).trans ((fr1 Fm607 69 rfl).trans (fr1 Fm543 69 rfl))))) rfl ?_
            refine T_iadd 203 rfl rfl ?_
            refine T_sto 204 [(2, .int (i32 (((m.2 81) jj) + (m.1 69)))), (5, .int (i32 (m.1 69))), (4, .int (i32 ((m.2 80) jj))), (3, .int (i32 ((m.2 82) jj))), (0, .ref 189), (1, .int (i32 jj))] rfl (fun _ => rfl) ?_
            refine T_goto 261 rfl (fun _ => rfl) ?_
            refine T_gf 265 (.ref 242) rfl rfl rfl rfl rfl rfl ?_
            refine T_ld 266 (.int (i32 jj)) rfl (fun _ => rfl) ?_
            refine T_ld 267 (.int (i32 (-1))) rfl (fun _ => rfl) ?_
            have G644 : ∀ j, (-1) ≤ (upI (m.2 80) jj (-1)) j ∧ (upI (m.2 80) jj (-1)) j ≤ 330 := upI_rg (hT.2.1 80) ⟨by omega, by omega⟩
            refine T_iast (a' := [(80, upI (m.2 80) jj (-1))]) 268 80 (m.2 80) rfl rfl rfl (by omega) (show jj < (540 : Int) by omega) (show (m639.2 80) = (m.2 80) from ((fr2 Fm639 80 rfl).trans ((fr2 Fm607 80 rfl).trans (fr2 Fm543 80 rfl)))) rfl ?_
            refine T_ld 269 (.ref 189) rfl (fun _ => rfl) ?_
            refine T_ld 271 (.int (i32 ((m.2 80) jj))) rfl (fun _ => rfl) ?_
            refine T_ld 272 (.int (i32 (((m.2 81) jj) + (m.1 69)))) rfl (fun _ => rfl) ?_
            refine T_ld 274 (.int (i32 (m.1 69))) rfl (fun _ => rfl) ?_
            refine T_ld 275 (.long (i64 0)) rfl (fun _ => rfl) ?_
            refine T_call 278 248 [.ref 189, .int (i32 ((m.2 80) jj)), .int (i32 (((m.2 81) jj) + (m.1 69))), .int (i32 (m.1 69)), .long (i64 0)] [] rfl (fun _ => rfl) rfl (c_node w (mO m639 [] [(80, upI (m.2 80) jj (-1))]) c N D (by omega) (Ty_mO Tm639 rfl rfl trivial ⟨G644, trivial⟩) ((m.2 80) jj) (((m.2 81) jj) + (m.1 69)) (m.1 69) 0 B (1 + lh (m.2 79) (m.2 80) (m.1 73)) (r32 (by omega) (by omega)) (r32 (by omega) (by omega)) (r32 (by omega) (by omega)) ⟨by decide, by decide⟩ (fun (h : (m639.1 10) = 0) => absurd h (by omega))) (fun rr645 k646 => ?_)
            obtain ⟨m647, Tm647, Fm647, h648, c649, rfl⟩ := k646
            refine ⟨_, _, rfl, ?_⟩
            refine T_nb (st' := []) rfl ?_
            have g650 : 0 ≤ m647.1 10 ∧ m647.1 10 ≤ 8 := Tm647.1 10
            have g651 : 0 ≤ m647.1 28 ∧ m647.1 28 ≤ 800 := Tm647.1 28
            replace h648 : (m647.1 10) = 0 → (m639.1 10) = 0 := h648
            have hf652 : 1 ≤ (m647.1 10) := by omega
            clear c649
            clear h648
            clear g642 hf643
            refine T_ld 279 (.ref 189) rfl (fun _ => rfl) ?_
            refine T_ld 280 (.int (i32 (((m.2 81) jj) + (m.1 69)))) rfl (fun _ => rfl) ?_
            refine T_ld 281 (.int (i32 ((m.2 82) jj))) rfl (fun _ => rfl) ?_
            refine T_call 284 250 [.ref 189, .int (i32 (((m.2 81) jj) + (m.1 69))), .int (i32 ((m.2 82) jj))] [] rfl (fun _ => rfl) rfl (c_unit w (mO m647 [] []) c N D (by omega) Tm647 (((m.2 81) jj) + (m.1 69)) ((m.2 82) jj) (r32 (by omega) (by omega)) (r32 (by omega) (by omega)) (show 0 ≤ (((m.2 81) jj) + (m.1 69)) ∧ (((m.2 81) jj) + (m.1 69)) ≤ 1024 by omega) (show 0 ≤ ((m.2 82) jj) ∧ ((m.2 82) jj) ≤ 4000 by omega)) (fun rr653 k654 => ?_)
            obtain ⟨m655, Tm655, Fm655, h656, rfl⟩ := k654
            refine ⟨_, _, rfl, ?_⟩
            refine T_nb (st' := []) rfl ?_
            have g657 : 0 ≤ m655.1 69 ∧ m655.1 69 ≤ 1024 := Tm655.1 69
            have g658 : 0 ≤ m655.1 70 ∧ m655.1 70 ≤ 4000 := Tm655.1 70
            have g659 : 0 ≤ m655.1 71 ∧ m655.1 71 ≤ 1 := Tm655.1 71
            have g660 : (-9223372036854775808) ≤ m655.1 72 ∧ m655.1 72 ≤ 9223372036854775807 := Tm655.1 72
            replace h656 : (m655.1 69) = (((m.2 81) jj) + (m.1 69)) := h656
            refine T_ret rfl (fun _ => rfl) ?_
            exact ⟨(mO m655 [] []), Tm655, (fr_m (fr_s Fm655 (fr_m (fr_s Fm647 (fr_m (fr_s Fm639 (fr_m (fr_s Fm607 (fr_m (fr_s Fm543 (fr_m fr_0 rfl rfl) rfl rfl) rfl rfl) rfl rfl) rfl rfl) rfl rfl) rfl rfl) rfl rfl) rfl rfl) rfl rfl) rfl rfl), (show (m655.1 10) = 0 → (m.1 10) = 0 by rewrite [(show (m655.1 10) = (m647.1 10) from (fr1 Fm655 10 rfl))]; omega), (show (m655.1 69) ≤ (m.1 69) + 64 by omega), (fun (h : (m655.1 10) = 0) => absurd ((show (m655.1 10) = (m647.1 10) from (fr1 Fm655 10 rfl)).symm.trans h) (by omega)), rfl⟩
      · skip
        refine T_ld 145 (.int (i32 1)) rfl (fun _ => rfl) ?_
        refine T_goto 149 rfl (fun _ => rfl) ?_
        refine T_ld 150 (.int (i32 ((m.2 82) jj))) rfl (fun _ => rfl) ?_
        refine T_call 153 256 [.ref 189, .int (i32 1), .int (i32 ((m.2 82) jj))] [] rfl (fun _ => rfl) rfl (c_want w (mO m [] []) c N D (by omega) hT 1 ((m.2 82) jj) ⟨by decide, by decide⟩ (r32 (by omega) (by omega)) (show 0 ≤ ((m.2 82) jj) ∧ ((m.2 82) jj) ≤ 4000 by omega) (fun (h : (m.1 10) = 0) => absurd h (by omega))) (fun rr661 k662 => ?_)
        obtain ⟨m663, Tm663, Fm663, h664, c665, rfl⟩ := k662
        refine ⟨_, _, rfl, ?_⟩
        refine T_nb (st' := []) rfl ?_
        have g666 : 0 ≤ m663.1 10 ∧ m663.1 10 ≤ 8 := Tm663.1 10
        replace h664 : (m663.1 10) = 0 → (m.1 10) = 0 := h664
        have hf667 : 1 ≤ (m663.1 10) := by omega
        clear c665
        clear h664
        clear g426a g426b h427
        refine T_ld 154 (.ref 189) rfl (fun _ => rfl) ?_
        refine T_gf 158 (.int (i32 (m.1 71))) rfl rfl rfl rfl (mfv_c (F := fun x => .int (i32 x)) rfl (show (m663.1 71) = (m.1 71) from (fr1 Fm663 71 rfl))) rfl ?_
        refine T_if 165 161 rfl rfl rfl (r32 (by omega) (by omega)) (fun (h668 : (m.1 71) ≠ 0) => ?_) (fun (h668 : ¬ ((m.1 71) ≠ 0)) => ?_)
        · skip
          refine T_ld 166 (.int (i32 0)) rfl (fun _ => rfl) ?_
          refine T_gf 170 (.int (i32 (m.1 70))) rfl rfl rfl rfl (mfv_c (F := fun x => .int (i32 x)) rfl (show (m663.1 70) = (m.1 70) from (fr1 Fm663 70 rfl))) rfl ?_
          refine T_call 173 256 [.ref 189, .int (i32 0), .int (i32 (m.1 70))] [] rfl (fun _ => rfl) rfl (c_want w (mO m663 [] []) c N D (by omega) Tm663 0 (m.1 70) ⟨by decide, by decide⟩ (r32 (by omega) (by omega)) (show 0 ≤ (m.1 70) ∧ (m.1 70) ≤ 4000 by omega) (fun (h : (m663.1 10) = 0) => absurd h (by omega))) (fun rr669 k670 => ?_)
          obtain ⟨m671, Tm671, Fm671, h672, c673, rfl⟩ := k670
          refine ⟨_, _, rfl, ?_⟩
          refine T_nb (st' := []) rfl ?_
          have g674 : 0 ≤ m671.1 10 ∧ m671.1 10 ≤ 8 := Tm671.1 10
          replace h672 : (m671.1 10) = 0 → (m663.1 10) = 0 := h672
          have hf675 : 1 ≤ (m671.1 10) := by omega
          clear c673
          clear h672
          clear g666 hf667
          refine T_ld 174 (.ref 189) rfl (fun _ => rfl) ?_
          refine T_ld 175 (.int (i32 ((m.2 81) jj))) rfl (fun _ => rfl) ?_
          refine T_gf 179 (.int (i32 (m.1 69))) rfl rfl rfl rfl (mfv_c (F := fun x => .int (i32 x)) rfl (show (m671.1 69) = (m.1 69) from ((fr1 Fm671 69 rfl).trans (fr1 Fm663 69 rfl)))) rfl ?_
          refine T_iadd 180 rfl rfl ?_
          refine T_ld 182 (.int (i32 64)) rfl (fun _ => rfl) ?_
          refine T_icmp 189 185 rfl rfl rfl (r32 (by omega) (by omega)) ⟨by decide, by decide⟩ (fun (h676 : (64 : Int) < ((m.2 81) jj) + (m.1 69)) => ?_) (fun (h676 : ¬ ((64 : Int) < ((m.2 81) jj) + (m.1 69))) => ?_)
          · skip
            refine T_ld 190 (.int (i32 0)) rfl (fun _ => rfl) ?_
            refine T_gf 194 (.int (i32 (m.1 70))) rfl rfl rfl rfl (mfv_c (F := fun x => .int (i32 x)) rfl (show (m671.1 70) = (m.1 70) from ((fr1 Fm671 70 rfl).trans (fr1 Fm663 70 rfl)))) rfl ?_
            refine T_call 197 256 [.ref 189, .int (i32 0), .int (i32 (m.1 70))] [] rfl (fun _ => rfl) rfl (c_want w (mO m671 [] []) c N D (by omega) Tm671 0 (m.1 70) ⟨by decide, by decide⟩ (r32 (by omega) (by omega)) (show 0 ≤ (m.1 70) ∧ (m.1 70) ≤ 4000 by omega) (fun (h : (m671.1 10) = 0) => absurd h (by omega))) (fun rr677 k678 => ?_)
            obtain ⟨m679, Tm679, Fm679, h680, c681, rfl⟩ := k678
            refine ⟨_, _, rfl, ?_⟩
            refine T_nb (st' := []) rfl ?_
            have g682 : 0 ≤ m679.1 10 ∧ m679.1 10 ≤ 8 := Tm679.1 10
            replace h680 : (m679.1 10) = 0 → (m671.1 10) = 0 := h680
            have hf683 : 1 ≤ (m679.1 10) := by omega
            clear c681
            clear h680
            clear g674 hf675
            refine T_ld 198 (.int (i32 ((m.2 81) jj))) rfl (fun _ => rfl) ?_
            refine T_gf 202 (.int (i32 (m.1 69))) rfl rfl rfl rfl (mfv_c (F := fun x => .int (i32 x)) rfl (show (m679.1 69) = (m.1 69) from ((fr1 Fm679 69 rfl).trans ((fr1 Fm671 69 rfl).trans (fr1 Fm663 69 rfl))))) rfl ?_
            refine T_iadd 203 rfl rfl ?_
            refine T_sto 204 [(2, .int (i32 (((m.2 81) jj) + (m.1 69)))), (5, .int (i32 (m.1 69))), (4, .int (i32 ((m.2 80) jj))), (3, .int (i32 ((m.2 82) jj))), (0, .ref 189), (1, .int (i32 jj))] rfl (fun _ => rfl) ?_
            refine T_goto 261 rfl (fun _ => rfl) ?_
            refine T_gf 265 (.ref 242) rfl rfl rfl rfl rfl rfl ?_
            refine T_ld 266 (.int (i32 jj)) rfl (fun _ => rfl) ?_
            refine T_ld 267 (.int (i32 (-1))) rfl (fun _ => rfl) ?_
            have G684 : ∀ j, (-1) ≤ (upI (m.2 80) jj (-1)) j ∧ (upI (m.2 80) jj (-1)) j ≤ 330 := upI_rg (hT.2.1 80) ⟨by omega, by omega⟩
            refine T_iast (a' := [(80, upI (m.2 80) jj (-1))]) 268 80 (m.2 80) rfl rfl rfl (by omega) (show jj < (540 : Int) by omega) (show (m679.2 80) = (m.2 80) from ((fr2 Fm679 80 rfl).trans ((fr2 Fm671 80 rfl).trans (fr2 Fm663 80 rfl)))) rfl ?_
            refine T_ld 269 (.ref 189) rfl (fun _ => rfl) ?_
            refine T_ld 271 (.int (i32 ((m.2 80) jj))) rfl (fun _ => rfl) ?_
            refine T_ld 272 (.int (i32 (((m.2 81) jj) + (m.1 69)))) rfl (fun _ => rfl) ?_
            refine T_ld 274 (.int (i32 (m.1 69))) rfl (fun _ => rfl) ?_
            refine T_ld 275 (.long (i64 0)) rfl (fun _ => rfl) ?_
            refine T_call 278 248 [.ref 189, .int (i32 ((m.2 80) jj)), .int (i32 (((m.2 81) jj) + (m.1 69))), .int (i32 (m.1 69)), .long (i64 0)] [] rfl (fun _ => rfl) rfl (c_node w (mO m679 [] [(80, upI (m.2 80) jj (-1))]) c N D (by omega) (Ty_mO Tm679 rfl rfl trivial ⟨G684, trivial⟩) ((m.2 80) jj) (((m.2 81) jj) + (m.1 69)) (m.1 69) 0 B (1 + lh (m.2 79) (m.2 80) (m.1 73)) (r32 (by omega) (by omega)) (r32 (by omega) (by omega)) (r32 (by omega) (by omega)) ⟨by decide, by decide⟩ (fun (h : (m679.1 10) = 0) => absurd h (by omega))) (fun rr685 k686 => ?_)
            obtain ⟨m687, Tm687, Fm687, h688, c689, rfl⟩ := k686
            refine ⟨_, _, rfl, ?_⟩
            refine T_nb (st' := []) rfl ?_
            have g690 : 0 ≤ m687.1 10 ∧ m687.1 10 ≤ 8 := Tm687.1 10
            have g691 : 0 ≤ m687.1 28 ∧ m687.1 28 ≤ 800 := Tm687.1 28
            replace h688 : (m687.1 10) = 0 → (m679.1 10) = 0 := h688
            have hf692 : 1 ≤ (m687.1 10) := by omega
            clear c689
            clear h688
            clear g682 hf683
            refine T_ld 279 (.ref 189) rfl (fun _ => rfl) ?_
            refine T_ld 280 (.int (i32 (((m.2 81) jj) + (m.1 69)))) rfl (fun _ => rfl) ?_
            refine T_ld 281 (.int (i32 ((m.2 82) jj))) rfl (fun _ => rfl) ?_
            refine T_call 284 250 [.ref 189, .int (i32 (((m.2 81) jj) + (m.1 69))), .int (i32 ((m.2 82) jj))] [] rfl (fun _ => rfl) rfl (c_unit w (mO m687 [] []) c N D (by omega) Tm687 (((m.2 81) jj) + (m.1 69)) ((m.2 82) jj) (r32 (by omega) (by omega)) (r32 (by omega) (by omega)) (show 0 ≤ (((m.2 81) jj) + (m.1 69)) ∧ (((m.2 81) jj) + (m.1 69)) ≤ 1024 by omega) (show 0 ≤ ((m.2 82) jj) ∧ ((m.2 82) jj) ≤ 4000 by omega)) (fun rr693 k694 => ?_)
            obtain ⟨m695, Tm695, Fm695, h696, rfl⟩ := k694
            refine ⟨_, _, rfl, ?_⟩
            refine T_nb (st' := []) rfl ?_
            have g697 : 0 ≤ m695.1 69 ∧ m695.1 69 ≤ 1024 := Tm695.1 69
            have g698 : 0 ≤ m695.1 70 ∧ m695.1 70 ≤ 4000 := Tm695.1 70
            have g699 : 0 ≤ m695.1 71 ∧ m695.1 71 ≤ 1 := Tm695.1 71
            have g700 : (-9223372036854775808) ≤ m695.1 72 ∧ m695.1 72 ≤ 9223372036854775807 := Tm695.1 72
            replace h696 : (m695.1 69) = (((m.2 81) jj) + (m.1 69)) := h696
            refine T_ret rfl (fun _ => rfl) ?_
            exact ⟨(mO m695 [] []), Tm695, (fr_m (fr_s Fm695 (fr_m (fr_s Fm687 (fr_m (fr_s Fm679 (fr_m (fr_s Fm671 (fr_m (fr_s Fm663 (fr_m fr_0 rfl rfl) rfl rfl) rfl rfl) rfl rfl) rfl rfl) rfl rfl) rfl rfl) rfl rfl) rfl rfl) rfl rfl) rfl rfl), (show (m695.1 10) = 0 → (m.1 10) = 0 by rewrite [(show (m695.1 10) = (m687.1 10) from (fr1 Fm695 10 rfl))]; omega), (show (m695.1 69) ≤ (m.1 69) + 64 by omega), (fun (h : (m695.1 10) = 0) => absurd ((show (m695.1 10) = (m687.1 10) from (fr1 Fm695 10 rfl)).symm.trans h) (by omega)), rfl⟩
          · skip
            refine T_ld 186 (.int (i32 1)) rfl (fun _ => rfl) ?_
            refine T_goto 190 rfl (fun _ => rfl) ?_
            refine T_gf 194 (.int (i32 (m.1 70))) rfl rfl rfl rfl (mfv_c (F := fun x => .int (i32 x)) rfl (show (m671.1 70) = (m.1 70) from ((fr1 Fm671 70 rfl).trans (fr1 Fm663 70 rfl)))) rfl ?_
            refine T_call 197 256 [.ref 189, .int (i32 1), .int (i32 (m.1 70))] [] rfl (fun _ => rfl) rfl (c_want w (mO m671 [] []) c N D (by omega) Tm671 1 (m.1 70) ⟨by decide, by decide⟩ (r32 (by omega) (by omega)) (show 0 ≤ (m.1 70) ∧ (m.1 70) ≤ 4000 by omega) (fun (h : (m671.1 10) = 0) => absurd h (by omega))) (fun rr701 k702 => ?_)
            obtain ⟨m703, Tm703, Fm703, h704, c705, rfl⟩ := k702
            refine ⟨_, _, rfl, ?_⟩
            refine T_nb (st' := []) rfl ?_
            have g706 : 0 ≤ m703.1 10 ∧ m703.1 10 ≤ 8 := Tm703.1 10
            replace h704 : (m703.1 10) = 0 → (m671.1 10) = 0 := h704
            have hf707 : 1 ≤ (m703.1 10) := by omega
            clear c705
            clear h704
            clear g674 hf675
            refine T_ld 198 (.int (i32 ((m.2 81) jj))) rfl (fun _ => rfl) ?_
            refine T_gf 202 (.int (i32 (m.1 69))) rfl rfl rfl rfl (mfv_c (F := fun x => .int (i32 x)) rfl (show (m703.1 69) = (m.1 69) from ((fr1 Fm703 69 rfl).trans ((fr1 Fm671 69 rfl).trans (fr1 Fm663 69 rfl))))) rfl ?_
            refine T_iadd 203 rfl rfl ?_
            refine T_sto 204 [(2, .int (i32 (((m.2 81) jj) + (m.1 69)))), (5, .int (i32 (m.1 69))), (4, .int (i32 ((m.2 80) jj))), (3, .int (i32 ((m.2 82) jj))), (0, .ref 189), (1, .int (i32 jj))] rfl (fun _ => rfl) ?_
            refine T_goto 261 rfl (fun _ => rfl) ?_
            refine T_gf 265 (.ref 242) rfl rfl rfl rfl rfl rfl ?_
            refine T_ld 266 (.int (i32 jj)) rfl (fun _ => rfl) ?_
            refine T_ld 267 (.int (i32 (-1))) rfl (fun _ => rfl) ?_
            have G708 : ∀ j, (-1) ≤ (upI (m.2 80) jj (-1)) j ∧ (upI (m.2 80) jj (-1)) j ≤ 330 := upI_rg (hT.2.1 80) ⟨by omega, by omega⟩
            refine T_iast (a' := [(80, upI (m.2 80) jj (-1))]) 268 80 (m.2 80) rfl rfl rfl (by omega) (show jj < (540 : Int) by omega) (show (m703.2 80) = (m.2 80) from ((fr2 Fm703 80 rfl).trans ((fr2 Fm671 80 rfl).trans (fr2 Fm663 80 rfl)))) rfl ?_
            refine T_ld 269 (.ref 189) rfl (fun _ => rfl) ?_
            refine T_ld 271 (.int (i32 ((m.2 80) jj))) rfl (fun _ => rfl) ?_
            refine T_ld 272 (.int (i32 (((m.2 81) jj) + (m.1 69)))) rfl (fun _ => rfl) ?_
            refine T_ld 274 (.int (i32 (m.1 69))) rfl (fun _ => rfl) ?_
            refine T_ld 275 (.long (i64 0)) rfl (fun _ => rfl) ?_
            refine T_call 278 248 [.ref 189, .int (i32 ((m.2 80) jj)), .int (i32 (((m.2 81) jj) + (m.1 69))), .int (i32 (m.1 69)), .long (i64 0)] [] rfl (fun _ => rfl) rfl (c_node w (mO m703 [] [(80, upI (m.2 80) jj (-1))]) c N D (by omega) (Ty_mO Tm703 rfl rfl trivial ⟨G708, trivial⟩) ((m.2 80) jj) (((m.2 81) jj) + (m.1 69)) (m.1 69) 0 B (1 + lh (m.2 79) (m.2 80) (m.1 73)) (r32 (by omega) (by omega)) (r32 (by omega) (by omega)) (r32 (by omega) (by omega)) ⟨by decide, by decide⟩ (fun (h : (m703.1 10) = 0) => absurd h (by omega))) (fun rr709 k710 => ?_)
            obtain ⟨m711, Tm711, Fm711, h712, c713, rfl⟩ := k710
            refine ⟨_, _, rfl, ?_⟩
            refine T_nb (st' := []) rfl ?_
            have g714 : 0 ≤ m711.1 10 ∧ m711.1 10 ≤ 8 := Tm711.1 10
            have g715 : 0 ≤ m711.1 28 ∧ m711.1 28 ≤ 800 := Tm711.1 28
            replace h712 : (m711.1 10) = 0 → (m703.1 10) = 0 := h712
            have hf716 : 1 ≤ (m711.1 10) := by omega
            clear c713
            clear h712
            clear g706 hf707
            refine T_ld 279 (.ref 189) rfl (fun _ => rfl) ?_
            refine T_ld 280 (.int (i32 (((m.2 81) jj) + (m.1 69)))) rfl (fun _ => rfl) ?_
            refine T_ld 281 (.int (i32 ((m.2 82) jj))) rfl (fun _ => rfl) ?_
            refine T_call 284 250 [.ref 189, .int (i32 (((m.2 81) jj) + (m.1 69))), .int (i32 ((m.2 82) jj))] [] rfl (fun _ => rfl) rfl (c_unit w (mO m711 [] []) c N D (by omega) Tm711 (((m.2 81) jj) + (m.1 69)) ((m.2 82) jj) (r32 (by omega) (by omega)) (r32 (by omega) (by omega)) (show 0 ≤ (((m.2 81) jj) + (m.1 69)) ∧ (((m.2 81) jj) + (m.1 69)) ≤ 1024 by omega) (show 0 ≤ ((m.2 82) jj) ∧ ((m.2 82) jj) ≤ 4000 by omega)) (fun rr717 k718 => ?_)
            obtain ⟨m719, Tm719, Fm719, h720, rfl⟩ := k718
            refine ⟨_, _, rfl, ?_⟩
            refine T_nb (st' := []) rfl ?_
            have g721 : 0 ≤ m719.1 69 ∧ m719.1 69 ≤ 1024 := Tm719.1 69
            have g722 : 0 ≤ m719.1 70 ∧ m719.1 70 ≤ 4000 := Tm719.1 70
            have g723 : 0 ≤ m719.1 71 ∧ m719.1 71 ≤ 1 := Tm719.1 71
            have g724 : (-9223372036854775808) ≤ m719.1 72 ∧ m719.1 72 ≤ 9223372036854775807 := Tm719.1 72
            replace h720 : (m719.1 69) = (((m.2 81) jj) + (m.1 69)) := h720
            refine T_ret rfl (fun _ => rfl) ?_
            exact ⟨(mO m719 [] []), Tm719, (fr_m (fr_s Fm719 (fr_m (fr_s Fm711 (fr_m (fr_s Fm703 (fr_m (fr_s Fm671 (fr_m (fr_s Fm663 (fr_m fr_0 rfl rfl) rfl rfl) rfl rfl) rfl rfl) rfl rfl) rfl rfl) rfl rfl) rfl rfl) rfl rfl) rfl rfl) rfl rfl), (show (m719.1 10) = 0 → (m.1 10) = 0 by rewrite [(show (m719.1 10) = (m711.1 10) from (fr1 Fm719 10 rfl))]; omega), (show (m719.1 69) ≤ (m.1 69) + 64 by omega), (fun (h : (m719.1 10) = 0) => absurd ((show (m719.1 10) = (m711.1 10) from (fr1 Fm719 10 rfl)).symm.trans h) (by omega)), rfl⟩
        · skip
          refine T_ld 162 (.int (i32 1)) rfl (fun _ => rfl) ?_
          refine T_goto 166 rfl (fun _ => rfl) ?_
          refine T_gf 170 (.int (i32 (m.1 70))) rfl rfl rfl rfl (mfv_c (F := fun x => .int (i32 x)) rfl (show (m663.1 70) = (m.1 70) from (fr1 Fm663 70 rfl))) rfl ?_
          refine T_call 173 256 [.ref 189, .int (i32 1), .int (i32 (m.1 70))] [] rfl (fun _ => rfl) rfl (c_want w (mO m663 [] []) c N D (by omega) Tm663 1 (m.1 70) ⟨by decide, by decide⟩ (r32 (by omega) (by omega)) (show 0 ≤ (m.1 70) ∧ (m.1 70) ≤ 4000 by omega) (fun (h : (m663.1 10) = 0) => absurd h (by omega))) (fun rr725 k726 => ?_)
          obtain ⟨m727, Tm727, Fm727, h728, c729, rfl⟩ := k726
          refine ⟨_, _, rfl, ?_⟩
          refine T_nb (st' := []) rfl ?_
          have g730 : 0 ≤ m727.1 10 ∧ m727.1 10 ≤ 8 := Tm727.1 10
          replace h728 : (m727.1 10) = 0 → (m663.1 10) = 0 := h728
          have hf731 : 1 ≤ (m727.1 10) := by omega
          clear c729
          clear h728
          clear g666 hf667
          refine T_ld 174 (.ref 189) rfl (fun _ => rfl) ?_
          refine T_ld 175 (.int (i32 ((m.2 81) jj))) rfl (fun _ => rfl) ?_
          refine T_gf 179 (.int (i32 (m.1 69))) rfl rfl rfl rfl (mfv_c (F := fun x => .int (i32 x)) rfl (show (m727.1 69) = (m.1 69) from ((fr1 Fm727 69 rfl).trans (fr1 Fm663 69 rfl)))) rfl ?_
          refine T_iadd 180 rfl rfl ?_
          refine T_ld 182 (.int (i32 64)) rfl (fun _ => rfl) ?_
          refine T_icmp 189 185 rfl rfl rfl (r32 (by omega) (by omega)) ⟨by decide, by decide⟩ (fun (h732 : (64 : Int) < ((m.2 81) jj) + (m.1 69)) => ?_) (fun (h732 : ¬ ((64 : Int) < ((m.2 81) jj) + (m.1 69))) => ?_)
          · skip
            refine T_ld 190 (.int (i32 0)) rfl (fun _ => rfl) ?_
            refine T_gf 194 (.int (i32 (m.1 70))) rfl rfl rfl rfl (mfv_c (F := fun x => .int (i32 x)) rfl (show (m727.1 70) = (m.1 70) from ((fr1 Fm727 70 rfl).trans (fr1 Fm663 70 rfl)))) rfl ?_
            refine T_call 197 256 [.ref 189, .int (i32 0), .int (i32 (m.1 70))] [] rfl (fun _ => rfl) rfl (c_want w (mO m727 [] []) c N D (by omega) Tm727 0 (m.1 70) ⟨by decide, by decide⟩ (r32 (by omega) (by omega)) (show 0 ≤ (m.1 70) ∧ (m.1 70) ≤ 4000 by omega) (fun (h : (m727.1 10) = 0) => absurd h (by omega))) (fun rr733 k734 => ?_)
            obtain ⟨m735, Tm735, Fm735, h736, c737, rfl⟩ := k734
            refine ⟨_, _, rfl, ?_⟩
            refine T_nb (st' := []) rfl ?_
            have g738 : 0 ≤ m735.1 10 ∧ m735.1 10 ≤ 8 := Tm735.1 10
            replace h736 : (m735.1 10) = 0 → (m727.1 10) = 0 := h736
            have hf739 : 1 ≤ (m735.1 10) := by omega
            clear c737
            clear h736
            clear g730 hf731
            refine T_ld 198 (.int (i32 ((m.2 81) jj))) rfl (fun _ => rfl) ?_
            refine T_gf 202 (.int (i32 (m.1 69))) rfl rfl rfl rfl (mfv_c (F := fun x => .int (i32 x)) rfl (show (m735.1 69) = (m.1 69) from ((fr1 Fm735 69 rfl).trans ((fr1 Fm727 69 rfl).trans (fr1 Fm663 69 rfl))))) rfl ?_
            refine T_iadd 203 rfl rfl ?_
            refine T_sto 204 [(2, .int (i32 (((m.2 81) jj) + (m.1 69)))), (5, .int (i32 (m.1 69))), (4, .int (i32 ((m.2 80) jj))), (3, .int (i32 ((m.2 82) jj))), (0, .ref 189), (1, .int (i32 jj))] rfl (fun _ => rfl) ?_
            refine T_goto 261 rfl (fun _ => rfl) ?_
            refine T_gf 265 (.ref 242) rfl rfl rfl rfl rfl rfl ?_
            refine T_ld 266 (.int (i32 jj)) rfl (fun _ => rfl) ?_
            refine T_ld 267 (.int (i32 (-1))) rfl (fun _ => rfl) ?_
            have G740 : ∀ j, (-1) ≤ (upI (m.2 80) jj (-1)) j ∧ (upI (m.2 80) jj (-1)) j ≤ 330 := upI_rg (hT.2.1 80) ⟨by omega, by omega⟩
            refine T_iast (a' := [(80, upI (m.2 80) jj (-1))]) 268 80 (m.2 80) rfl rfl rfl (by omega) (show jj < (540 : Int) by omega) (show (m735.2 80) = (m.2 80) from ((fr2 Fm735 80 rfl).trans ((fr2 Fm727 80 rfl).trans (fr2 Fm663 80 rfl)))) rfl ?_
            refine T_ld 269 (.ref 189) rfl (fun _ => rfl) ?_
            refine T_ld 271 (.int (i32 ((m.2 80) jj))) rfl (fun _ => rfl) ?_
            refine T_ld 272 (.int (i32 (((m.2 81) jj) + (m.1 69)))) rfl (fun _ => rfl) ?_
            refine T_ld 274 (.int (i32 (m.1 69))) rfl (fun _ => rfl) ?_
            refine T_ld 275 (.long (i64 0)) rfl (fun _ => rfl) ?_
            refine T_call 278 248 [.ref 189, .int (i32 ((m.2 80) jj)), .int (i32 (((m.2 81) jj) + (m.1 69))), .int (i32 (m.1 69)), .long (i64 0)] [] rfl (fun _ => rfl) rfl (c_node w (mO m735 [] [(80, upI (m.2 80) jj (-1))]) c N D (by omega) (Ty_mO Tm735 rfl rfl trivial ⟨G740, trivial⟩) ((m.2 80) jj) (((m.2 81) jj) + (m.1 69)) (m.1 69) 0 B (1 + lh (m.2 79) (m.2 80) (m.1 73)) (r32 (by omega) (by omega)) (r32 (by omega) (by omega)) (r32 (by omega) (by omega)) ⟨by decide, by decide⟩ (fun (h : (m735.1 10) = 0) => absurd h (by omega))) (fun rr741 k742 => ?_)
            obtain ⟨m743, Tm743, Fm743, h744, c745, rfl⟩ := k742
            refine ⟨_, _, rfl, ?_⟩
            refine T_nb (st' := []) rfl ?_
            have g746 : 0 ≤ m743.1 10 ∧ m743.1 10 ≤ 8 := Tm743.1 10
            have g747 : 0 ≤ m743.1 28 ∧ m743.1 28 ≤ 800 := Tm743.1 28
            replace h744 : (m743.1 10) = 0 → (m735.1 10) = 0 := h744
            have hf748 : 1 ≤ (m743.1 10) := by omega
            clear c745
            clear h744
            clear g738 hf739
            refine T_ld 279 (.ref 189) rfl (fun _ => rfl) ?_
            refine T_ld 280 (.int (i32 (((m.2 81) jj) + (m.1 69)))) rfl (fun _ => rfl) ?_
            refine T_ld 281 (.int (i32 ((m.2 82) jj))) rfl (fun _ => rfl) ?_
            refine T_call 284 250 [.ref 189, .int (i32 (((m.2 81) jj) + (m.1 69))), .int (i32 ((m.2 82) jj))] [] rfl (fun _ => rfl) rfl (c_unit w (mO m743 [] []) c N D (by omega) Tm743 (((m.2 81) jj) + (m.1 69)) ((m.2 82) jj) (r32 (by omega) (by omega)) (r32 (by omega) (by omega)) (show 0 ≤ (((m.2 81) jj) + (m.1 69)) ∧ (((m.2 81) jj) + (m.1 69)) ≤ 1024 by omega) (show 0 ≤ ((m.2 82) jj) ∧ ((m.2 82) jj) ≤ 4000 by omega)) (fun rr749 k750 => ?_)
            obtain ⟨m751, Tm751, Fm751, h752, rfl⟩ := k750
            refine ⟨_, _, rfl, ?_⟩
            refine T_nb (st' := []) rfl ?_
            have g753 : 0 ≤ m751.1 69 ∧ m751.1 69 ≤ 1024 := Tm751.1 69
            have g754 : 0 ≤ m751.1 70 ∧ m751.1 70 ≤ 4000 := Tm751.1 70
            have g755 : 0 ≤ m751.1 71 ∧ m751.1 71 ≤ 1 := Tm751.1 71
            have g756 : (-9223372036854775808) ≤ m751.1 72 ∧ m751.1 72 ≤ 9223372036854775807 := Tm751.1 72
            replace h752 : (m751.1 69) = (((m.2 81) jj) + (m.1 69)) := h752
            refine T_ret rfl (fun _ => rfl) ?_
            exact ⟨(mO m751 [] []), Tm751, (fr_m (fr_s Fm751 (fr_m (fr_s Fm743 (fr_m (fr_s Fm735 (fr_m (fr_s Fm727 (fr_m (fr_s Fm663 (fr_m fr_0 rfl rfl) rfl rfl) rfl rfl) rfl rfl) rfl rfl) rfl rfl) rfl rfl) rfl rfl) rfl rfl) rfl rfl) rfl rfl), (show (m751.1 10) = 0 → (m.1 10) = 0 by rewrite [(show (m751.1 10) = (m743.1 10) from (fr1 Fm751 10 rfl))]; omega), (show (m751.1 69) ≤ (m.1 69) + 64 by omega), (fun (h : (m751.1 10) = 0) => absurd ((show (m751.1 10) = (m743.1 10) from (fr1 Fm751 10 rfl)).symm.trans h) (by omega)), rfl⟩
          · skip
            refine T_ld 186 (.int (i32 1)) rfl (fun _ => rfl) ?_
            refine T_goto 190 rfl (fun _ => rfl) ?_
            refine T_gf 194 (.int (i32 (m.1 70))) rfl rfl rfl rfl (mfv_c (F := fun x => .int (i32 x)) rfl (show (m727.1 70) = (m.1 70) from ((fr1 Fm727 70 rfl).trans (fr1 Fm663 70 rfl)))) rfl ?_
            refine T_call 197 256 [.ref 189, .int (i32 1), .int (i32 (m.1 70))] [] rfl (fun _ => rfl) rfl (c_want w (mO m727 [] []) c N D (by omega) Tm727 1 (m.1 70) ⟨by decide, by decide⟩ (r32 (by omega) (by omega)) (show 0 ≤ (m.1 70) ∧ (m.1 70) ≤ 4000 by omega) (fun (h : (m727.1 10) = 0) => absurd h (by omega))) (fun rr757 k758 => ?_)
            obtain ⟨m759, Tm759, Fm759, h760, c761, rfl⟩ := k758
            refine ⟨_, _, rfl, ?_⟩
            refine T_nb (st' := []) rfl ?_
            have g762 : 0 ≤ m759.1 10 ∧ m759.1 10 ≤ 8 := Tm759.1 10
            replace h760 : (m759.1 10) = 0 → (m727.1 10) = 0 := h760
            have hf763 : 1 ≤ (m759.1 10) := by omega
            clear c761
            clear h760
            clear g730 hf731
            refine T_ld 198 (.int (i32 ((m.2 81) jj))) rfl (fun _ => rfl) ?_
            refine T_gf 202 (.int (i32 (m.1 69))) rfl rfl rfl rfl (mfv_c (F := fun x => .int (i32 x)) rfl (show (m759.1 69) = (m.1 69) from ((fr1 Fm759 69 rfl).trans ((fr1 Fm727 69 rfl).trans (fr1 Fm663 69 rfl))))) rfl ?_
            refine T_iadd 203 rfl rfl ?_
            refine T_sto 204 [(2, .int (i32 (((m.2 81) jj) + (m.1 69)))), (5, .int (i32 (m.1 69))), (4, .int (i32 ((m.2 80) jj))), (3, .int (i32 ((m.2 82) jj))), (0, .ref 189), (1, .int (i32 jj))] rfl (fun _ => rfl) ?_
            refine T_goto 261 rfl (fun _ => rfl) ?_
            refine T_gf 265 (.ref 242) rfl rfl rfl rfl rfl rfl ?_
            refine T_ld 266 (.int (i32 jj)) rfl (fun _ => rfl) ?_
            refine T_ld 267 (.int (i32 (-1))) rfl (fun _ => rfl) ?_
            have G764 : ∀ j, (-1) ≤ (upI (m.2 80) jj (-1)) j ∧ (upI (m.2 80) jj (-1)) j ≤ 330 := upI_rg (hT.2.1 80) ⟨by omega, by omega⟩
            refine T_iast (a' := [(80, upI (m.2 80) jj (-1))]) 268 80 (m.2 80) rfl rfl rfl (by omega) (show jj < (540 : Int) by omega) (show (m759.2 80) = (m.2 80) from ((fr2 Fm759 80 rfl).trans ((fr2 Fm727 80 rfl).trans (fr2 Fm663 80 rfl)))) rfl ?_
            refine T_ld 269 (.ref 189) rfl (fun _ => rfl) ?_
            refine T_ld 271 (.int (i32 ((m.2 80) jj))) rfl (fun _ => rfl) ?_
            refine T_ld 272 (.int (i32 (((m.2 81) jj) + (m.1 69)))) rfl (fun _ => rfl) ?_
            refine T_ld 274 (.int (i32 (m.1 69))) rfl (fun _ => rfl) ?_
            refine T_ld 275 (.long (i64 0)) rfl (fun _ => rfl) ?_
            refine T_call 278 248 [.ref 189, .int (i32 ((m.2 80) jj)), .int (i32 (((m.2 81) jj) + (m.1 69))), .int (i32 (m.1 69)), .long (i64 0)] [] rfl (fun _ => rfl) rfl (c_node w (mO m759 [] [(80, upI (m.2 80) jj (-1))]) c N D (by omega) (Ty_mO Tm759 rfl rfl trivial ⟨G764, trivial⟩) ((m.2 80) jj) (((m.2 81) jj) + (m.1 69)) (m.1 69) 0 B (1 + lh (m.2 79) (m.2 80) (m.1 73)) (r32 (by omega) (by omega)) (r32 (by omega) (by omega)) (r32 (by omega) (by omega)) ⟨by decide, by decide⟩ (fun (h : (m759.1 10) = 0) => absurd h (by omega))) (fun rr765 k766 => ?_)
            obtain ⟨m767, Tm767, Fm767, h768, c769, rfl⟩ := k766
            refine ⟨_, _, rfl, ?_⟩
            refine T_nb (st' := []) rfl ?_
            have g770 : 0 ≤ m767.1 10 ∧ m767.1 10 ≤ 8 := Tm767.1 10
            have g771 : 0 ≤ m767.1 28 ∧ m767.1 28 ≤ 800 := Tm767.1 28
            replace h768 : (m767.1 10) = 0 → (m759.1 10) = 0 := h768
            have hf772 : 1 ≤ (m767.1 10) := by omega
            clear c769
            clear h768
            clear g762 hf763
            refine T_ld 279 (.ref 189) rfl (fun _ => rfl) ?_
            refine T_ld 280 (.int (i32 (((m.2 81) jj) + (m.1 69)))) rfl (fun _ => rfl) ?_
            refine T_ld 281 (.int (i32 ((m.2 82) jj))) rfl (fun _ => rfl) ?_
            refine T_call 284 250 [.ref 189, .int (i32 (((m.2 81) jj) + (m.1 69))), .int (i32 ((m.2 82) jj))] [] rfl (fun _ => rfl) rfl (c_unit w (mO m767 [] []) c N D (by omega) Tm767 (((m.2 81) jj) + (m.1 69)) ((m.2 82) jj) (r32 (by omega) (by omega)) (r32 (by omega) (by omega)) (show 0 ≤ (((m.2 81) jj) + (m.1 69)) ∧ (((m.2 81) jj) + (m.1 69)) ≤ 1024 by omega) (show 0 ≤ ((m.2 82) jj) ∧ ((m.2 82) jj) ≤ 4000 by omega)) (fun rr773 k774 => ?_)
            obtain ⟨m775, Tm775, Fm775, h776, rfl⟩ := k774
            refine ⟨_, _, rfl, ?_⟩
            refine T_nb (st' := []) rfl ?_
            have g777 : 0 ≤ m775.1 69 ∧ m775.1 69 ≤ 1024 := Tm775.1 69
            have g778 : 0 ≤ m775.1 70 ∧ m775.1 70 ≤ 4000 := Tm775.1 70
            have g779 : 0 ≤ m775.1 71 ∧ m775.1 71 ≤ 1 := Tm775.1 71
            have g780 : (-9223372036854775808) ≤ m775.1 72 ∧ m775.1 72 ≤ 9223372036854775807 := Tm775.1 72
            replace h776 : (m775.1 69) = (((m.2 81) jj) + (m.1 69)) := h776
            refine T_ret rfl (fun _ => rfl) ?_
            exact ⟨(mO m775 [] []), Tm775, (fr_m (fr_s Fm775 (fr_m (fr_s Fm767 (fr_m (fr_s Fm759 (fr_m (fr_s Fm727 (fr_m (fr_s Fm663 (fr_m fr_0 rfl rfl) rfl rfl) rfl rfl) rfl rfl) rfl rfl) rfl rfl) rfl rfl) rfl rfl) rfl rfl) rfl rfl) rfl rfl), (show (m775.1 10) = 0 → (m.1 10) = 0 by rewrite [(show (m775.1 10) = (m767.1 10) from (fr1 Fm775 10 rfl))]; omega), (show (m775.1 69) ≤ (m.1 69) + 64 by omega), (fun (h : (m775.1 10) = 0) => absurd ((show (m775.1 10) = (m767.1 10) from (fr1 Fm775 10 rfl)).symm.trans h) (by omega)), rfl⟩
    by_cases h781 : x425 = 2
    · skip
      refine T_cast 2 h781 ?_
      refine T_pop 207 rfl (fun _ => rfl) ?_
      exact T207_463
    by_cases h782 : x425 = 3
    · skip
      refine T_cast 3 h782 ?_
      refine T_pop 207 rfl (fun _ => rfl) ?_
      exact T207_463
    by_cases h783 : x425 = 4
    · skip
      refine T_cast 4 h783 ?_
      refine T_pop 207 rfl (fun _ => rfl) ?_
      exact T207_463
    by_cases h784 : x425 = 5
    · skip
      refine T_cast 5 h784 ?_
      refine T_pop 207 rfl (fun _ => rfl) ?_
      exact T207_463
    by_cases h785 : x425 = 7
    · skip
      refine T_cast 7 h785 ?_
      refine T_pop 207 rfl (fun _ => rfl) ?_
      exact T207_463
    refine T_tsd 207 rfl rfl (r32 (by omega) (by omega)) (by omega) ?_
    exact T207_463
