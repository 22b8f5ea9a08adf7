def Q_level (m : mR) (c : Nat → Option am_C) (N : Nat) (x : Int) : ag_Re af_T → Prop := fun R => ∃ (r : Int), ((-1) ≤ r ∧ r ≤ 8) ∧ (0 ≤ r → 4 ≤ x ∧ x ≤ 124) ∧ R = (.inl (some (.int (i32 r))), (mhp m c, N), 0, 0)
set_option maxHeartbeats 3000000 in
theorem c_level (w : wX) (m : mR) (c : Nat → Option am_C) (N D : Nat) (hD : 1 ≤ D) (hT : Ty m) (x : Int) (qx : R32 x) : TC w D 259 [.int (i32 x)] (mhp m c, N) (Q_level m c N x) := by
  obtain ⟨D, rfl⟩ : ∃ k, D = k + 1 := ⟨D - 1, by omega⟩
  obtain ⟨qxa, qxb⟩ := id qx
  refine Tc_of rfl ?_
  show TT w D pm_259 (0, [(0, .int (i32 x))], [], (mhp (mO m [] []) c, N), 0, 0) (Q_level m c N x)
  refine T_ld 1 (.int (i32 x)) rfl (fun _ => rfl) ?_
  have T144_1 : (x = 4 ∨ x = 5 ∨ x = 6 ∨ x = 7 ∨ x = 60 ∨ x = 62) → TT w D pm_259 (144, [(0, .int (i32 x))], [], (mhp (mO m [] []) c, N), 0, 0) (Q_level m c N x) := by
    intro ht2
    refine T_ld 145 (.int (i32 2)) rfl (fun _ => rfl) ?_
    refine T_ret rfl (fun _ => rfl) ?_
    exact ⟨2, ⟨by omega, by omega⟩, (show 0 ≤ (2 : Int) → 4 ≤ x ∧ x ≤ 124 by omega), rfl⟩
  have T152_3 : (x = 11 ∨ x = 12) → TT w D pm_259 (152, [(0, .int (i32 x))], [], (mhp (mO m [] []) c, N), 0, 0) (Q_level m c N x) := by
    intro ht4
    refine T_ld 154 (.int (i32 6)) rfl (fun _ => rfl) ?_
    refine T_ret rfl (fun _ => rfl) ?_
    exact ⟨6, ⟨by omega, by omega⟩, (show 0 ≤ (6 : Int) → 4 ≤ x ∧ x ≤ 124 by omega), rfl⟩
  have T155_5 : (x = 43 ∨ x = 45) → TT w D pm_259 (155, [(0, .int (i32 x))], [], (mhp (mO m [] []) c, N), 0, 0) (Q_level m c N x) := by
    intro ht6
    refine T_ld 157 (.int (i32 7)) rfl (fun _ => rfl) ?_
    refine T_ret rfl (fun _ => rfl) ?_
    exact ⟨7, ⟨by omega, by omega⟩, (show 0 ≤ (7 : Int) → 4 ≤ x ∧ x ≤ 124 by omega), rfl⟩
  by_cases h7 : x = 4
  · skip
    refine T_cast 4 h7 ?_
    refine T_pop 144 rfl (fun _ => rfl) ?_
    exact T144_1 (by omega)
  by_cases h8 : x = 5
  · skip
    refine T_cast 5 h8 ?_
    refine T_pop 144 rfl (fun _ => rfl) ?_
    exact T144_1 (by omega)
  by_cases h9 : x = 6
  · skip
    refine T_cast 6 h9 ?_
    refine T_pop 144 rfl (fun _ => rfl) ?_
    exact T144_1 (by omega)
  by_cases h10 : x = 7
  · skip
    refine T_cast 7 h10 ?_
    refine T_pop 144 rfl (fun _ => rfl) ?_
    exact T144_1 (by omega)
  by_cases h11 : x = 8
  · skip
    refine T_cast 8 h11 ?_
    refine T_pop 158 rfl (fun _ => rfl) ?_
    refine T_ld 160 (.int (i32 8)) rfl (fun _ => rfl) ?_
    refine T_ret rfl (fun _ => rfl) ?_
    exact ⟨8, ⟨by omega, by omega⟩, (show 0 ≤ (8 : Int) → 4 ≤ x ∧ x ≤ 124 by omega), rfl⟩
  by_cases h12 : x = 9
  · skip
    refine T_cast 9 h12 ?_
    refine T_pop 142 rfl (fun _ => rfl) ?_
    refine T_ld 143 (.int (i32 1)) rfl (fun _ => rfl) ?_
    refine T_ret rfl (fun _ => rfl) ?_
    exact ⟨1, ⟨by omega, by omega⟩, (show 0 ≤ (1 : Int) → 4 ≤ x ∧ x ≤ 124 by omega), rfl⟩
  by_cases h13 : x = 10
  · skip
    refine T_cast 10 h13 ?_
    refine T_pop 140 rfl (fun _ => rfl) ?_
    refine T_ld 141 (.int (i32 0)) rfl (fun _ => rfl) ?_
    refine T_ret rfl (fun _ => rfl) ?_
    exact ⟨0, ⟨by omega, by omega⟩, (show 0 ≤ (0 : Int) → 4 ≤ x ∧ x ≤ 124 by omega), rfl⟩
  by_cases h14 : x = 11
  · skip
    refine T_cast 11 h14 ?_
    refine T_pop 152 rfl (fun _ => rfl) ?_
    exact T152_3 (by omega)
  by_cases h15 : x = 12
  · skip
    refine T_cast 12 h15 ?_
    refine T_pop 152 rfl (fun _ => rfl) ?_
    exact T152_3 (by omega)
  by_cases h16 : x = 38
  · skip
    refine T_cast 38 h16 ?_
    refine T_pop 150 rfl (fun _ => rfl) ?_
    refine T_ld 151 (.int (i32 5)) rfl (fun _ => rfl) ?_
    refine T_ret rfl (fun _ => rfl) ?_
    exact ⟨5, ⟨by omega, by omega⟩, (show 0 ≤ (5 : Int) → 4 ≤ x ∧ x ≤ 124 by omega), rfl⟩
  by_cases h17 : x = 43
  · skip
    refine T_cast 43 h17 ?_
    refine T_pop 155 rfl (fun _ => rfl) ?_
    exact T155_5 (by omega)
  by_cases h18 : x = 45
  · skip
    refine T_cast 45 h18 ?_
    refine T_pop 155 rfl (fun _ => rfl) ?_
    exact T155_5 (by omega)
  by_cases h19 : x = 60
  · skip
    refine T_cast 60 h19 ?_
    refine T_pop 144 rfl (fun _ => rfl) ?_
    exact T144_1 (by omega)
  by_cases h20 : x = 62
  · skip
    refine T_cast 62 h20 ?_
    refine T_pop 144 rfl (fun _ => rfl) ?_
    exact T144_1 (by omega)
  by_cases h21 : x = 94
  · skip
    refine T_cast 94 h21 ?_
    refine T_pop 148 rfl (fun _ => rfl) ?_
    refine T_ld 149 (.int (i32 4)) rfl (fun _ => rfl) ?_
    refine T_ret rfl (fun _ => rfl) ?_
    exact ⟨4, ⟨by omega, by omega⟩, (show 0 ≤ (4 : Int) → 4 ≤ x ∧ x ≤ 124 by omega), rfl⟩
  by_cases h22 : x = 124
  · skip
    refine T_cast 124 h22 ?_
    refine T_pop 146 rfl (fun _ => rfl) ?_
    refine T_ld 147 (.int (i32 3)) rfl (fun _ => rfl) ?_
    refine T_ret rfl (fun _ => rfl) ?_
    exact ⟨3, ⟨by omega, by omega⟩, (show 0 ≤ (3 : Int) → 4 ≤ x ∧ x ≤ 124 by omega), rfl⟩
  refine T_lkd 161 rfl rfl (r32 (by omega) (by omega)) (by simp [Op.lookupswitch.offset, show ¬ ((4 : Int) = x) by omega, show ¬ ((5 : Int) = x) by omega, show ¬ ((6 : Int) = x) by omega, show ¬ ((7 : Int) = x) by omega, show ¬ ((8 : Int) = x) by omega, show ¬ ((9 : Int) = x) by omega, show ¬ ((10 : Int) = x) by omega, show ¬ ((11 : Int) = x) by omega, show ¬ ((12 : Int) = x) by omega, show ¬ ((38 : Int) = x) by omega, show ¬ ((43 : Int) = x) by omega, show ¬ ((45 : Int) = x) by omega, show ¬ ((60 : Int) = x) by omega, show ¬ ((62 : Int) = x) by omega, show ¬ ((94 : Int) = x) by omega, show ¬ ((124 : Int) = x) by omega]) ?_
  refine T_ld 162 (.int (i32 (-1))) rfl (fun _ => rfl) ?_
  refine T_ret rfl (fun _ => rfl) ?_
  exact ⟨(-1), ⟨by omega, by omega⟩, (show 0 ≤ (-1 : Int) → 4 ≤ x ∧ x ≤ 124 by omega), rfl⟩
def fF_join : List Nat := [10, 11, 28, 69, 70, 71, 72]
def fA_join : List Nat := [65, 66, 67, 68, 80]
def Q_join (m : mR) (c : Nat → Option am_C) (N : Nat) (jj : Int) (B : Int) : ag_Re af_T → Prop := fun R => ∃ (M : mR), Ty M ∧ fr fF_join fA_join m M ∧ ((M.1 10) = 0 → (m.1 10) = 0) ∧ ((M.1 69) ≤ (m.1 69) + 64) ∧ (M.1 10 = 0 → ((M.1 69) ≤ 64) ∧ ((M.1 28) = (m.1 28) + 1) ∧ (XS (M.2 65) (M.2 67) (m.2 76) (m.2 78) (m.2 79) (M.2 80) B (M.1 28) (m.1 73) (m.1 74) 1) ∧ (agr (m.2 65) (M.2 65) (m.1 28)) ∧ ((M.2 80) = upI (m.2 80) jj (-1))) ∧ R = (.inl (none), (mhp M c, N), 0, 0)
set_option maxHeartbeats 3000000 in
theorem c_join (w : wX) (m : mR) (c : Nat → Option am_C) (N D : Nat) (hD : 4 ≤ D) (hT : Ty m) (jj : Int) (B : Int) (qjj : R32 jj) (p0 : 0 ≤ jj ∧ jj ≤ 539) (p1 : (m.1 69) ≤ 900) (hC : m.1 10 = 0 → (XS (m.2 65) (m.2 67) (m.2 76) (m.2 78) (m.2 79) (m.2 80) B (m.1 28) (m.1 73) (m.1 74) 1) ∧ ((m.1 69) ≤ 64) ∧ (1 ≤ (m.1 73)) ∧ (9 * ((m.1 73) - 1) ≤ jj ∧ jj < 9 * (m.1 73)) ∧ (0 ≤ (m.2 80) jj)) : TC w D 260 [.ref 189, .int (i32 jj)] (mhp m c, N) (Q_join m c N jj B) := by
  obtain ⟨D, rfl⟩ : ∃ k, D = k + 1 := ⟨D - 1, by omega⟩
  obtain ⟨qjja, qjjb⟩ := id qjj
  have f10 : 0 ≤ m.1 10 ∧ m.1 10 ≤ 8 := hT.1 10
  have f28 : 0 ≤ m.1 28 ∧ m.1 28 ≤ 800 := hT.1 28
  have f69 : 0 ≤ m.1 69 ∧ m.1 69 ≤ 1024 := hT.1 69
  have f70 : 0 ≤ m.1 70 ∧ m.1 70 ≤ 4000 := hT.1 70
  have f71 : 0 ≤ m.1 71 ∧ m.1 71 ≤ 1 := hT.1 71
  have f72 : (-9223372036854775808) ≤ m.1 72 ∧ m.1 72 ≤ 9223372036854775807 := hT.1 72
  have f74 : 0 ≤ m.1 74 ∧ m.1 74 ≤ 24 := hT.1 74
  have f73 : 0 ≤ m.1 73 ∧ m.1 73 ≤ 60 := hT.1 73
  refine Tc_of rfl ?_
  show TT w D pm_260 (0, [(0, .ref 189), (1, .int (i32 jj))], [], (mhp (mO m [] []) c, N), 0, 0) (Q_join m c N jj B)
  by_cases hf0 : m.1 10 = 0
  · skip
    obtain ⟨hXS, c1, c2, c3, c4⟩ := hC hf0
    have hEX := hXS.1.1
    have hl1 := lh_ws (st := (m.2 79)) (ws := (m.2 80)) (hi := (m.1 73)) (i := jj) (by omega) (by omega) (by omega) (by omega)
    have hl0 : 0 ≤ lh (m.2 79) (upI (m.2 80) jj (-1)) (m.1 73) := lh_0 (hT.2.1 79) _ _
    have ha2 := ar_2 (s := (m.2 80) jj) (by have := hT.2.1 80 jj; have e : (m.2 80) jj ≤ 330 := this.2; omega)
    refine T_gf 4 (.ref 243) rfl rfl rfl rfl rfl rfl ?_
    refine T_ld 5 (.int (i32 jj)) rfl (fun _ => rfl) ?_
    refine T_iald 6 81 (m.2 81) rfl rfl rfl (by omega) (show jj < (540 : Int) by omega) rfl ?_
    have e5 : 0 ≤ m.2 81 jj ∧ m.2 81 jj ≤ 64 := hT.2.1 81 jj
    refine T_sto 7 [(2, .int (i32 ((m.2 81) jj))), (0, .ref 189), (1, .int (i32 jj))] rfl (fun _ => rfl) ?_
    refine T_gf 11 (.ref 244) rfl rfl rfl rfl rfl rfl ?_
    refine T_ld 12 (.int (i32 jj)) rfl (fun _ => rfl) ?_
    refine T_iald 13 82 (m.2 82) rfl rfl rfl (by omega) (show jj < (540 : Int) by omega) rfl ?_
    have e6 : 0 ≤ m.2 82 jj ∧ m.2 82 jj ≤ 4000 := hT.2.1 82 jj
    refine T_sto 14 [(3, .int (i32 ((m.2 82) jj))), (2, .int (i32 ((m.2 81) jj))), (0, .ref 189), (1, .int (i32 jj))] rfl (fun _ => rfl) ?_
    refine T_gf 18 (.ref 242) rfl rfl rfl rfl rfl rfl ?_
    refine T_ld 19 (.int (i32 jj)) rfl (fun _ => rfl) ?_
    refine T_iald 20 80 (m.2 80) rfl rfl rfl (by omega) (show jj < (540 : Int) by omega) rfl ?_
    have e7 : (-1) ≤ (m.2 80) jj ∧ (m.2 80) jj ≤ 330 := (hT.2.1 80) jj
    refine T_sto 22 [(4, .int (i32 ((m.2 80) jj))), (3, .int (i32 ((m.2 82) jj))), (2, .int (i32 ((m.2 81) jj))), (0, .ref 189), (1, .int (i32 jj))] rfl (fun _ => rfl) ?_
    refine T_gf 26 (.int (i32 (m.1 69))) rfl rfl rfl rfl rfl rfl ?_
    refine T_sto 28 [(5, .int (i32 (m.1 69))), (4, .int (i32 ((m.2 80) jj))), (3, .int (i32 ((m.2 82) jj))), (2, .int (i32 ((m.2 81) jj))), (0, .ref 189), (1, .int (i32 jj))] rfl (fun _ => rfl) ?_
    have J261_10 : ∀ (v8 : Int) (m9 : mR), (R32 v8) → Ty m9 → fr [10, 11] [] (mO m [] []) m9 → (0 ≤ v8 ∧ v8 ≤ (m.1 69) + 64) → ((m9.1 10) = 0 → (v8 ≤ 64)) → TT w D pm_260 (261, [(0, .ref 189), (1, .int (i32 jj)), (2, .int (i32 v8)), (3, .int (i32 ((m.2 82) jj))), (4, .int (i32 ((m.2 80) jj))), (5, .int (i32 (m.1 69)))], [], (mhp (mO m9 [] []) c, N), 0, 0) (Q_join m c N jj B) := by
      intro v8 m9 q12 Tm9 Fm9 ic11 c14
      obtain ⟨q12a, q12b⟩ := id q12
      have q13_10 : 0 ≤ m9.1 10 ∧ m9.1 10 ≤ 8 := Tm9.1 10
      by_cases hf16 : (m9.1 10) = 0
      · skip
        have c17 := c14 hf16
        clear c14
        refine T_gf 265 (.ref 242) rfl rfl rfl rfl rfl rfl ?_
        refine T_ld 266 (.int (i32 jj)) rfl (fun _ => rfl) ?_
        refine T_ld 267 (.int (i32 (-1))) rfl (fun _ => rfl) ?_
        have G18 : ∀ j, (-1) ≤ (upI (m.2 80) jj (-1)) j ∧ (upI (m.2 80) jj (-1)) j ≤ 330 := upI_rg (hT.2.1 80) ⟨by omega, by omega⟩
        refine T_iast (a' := [(80, upI (m.2 80) jj (-1))]) 268 80 (m.2 80) rfl rfl rfl (by omega) (show jj < (540 : Int) by omega) (show (m9.2 80) = (m.2 80) from (fr2 Fm9 80 rfl)) rfl ?_
        have hAr : ar ((m.2 80) jj) ≤ 1 + lh (m.2 79) (m.2 80) (m.1 73) := by omega
        have hCk : CNk ((m.2 80) jj) (m.1 69) := by refine ⟨?_, ?_, ?_, ?_⟩ <;> omega
        refine T_ld 269 (.ref 189) rfl (fun _ => rfl) ?_
        refine T_ld 271 (.int (i32 ((m.2 80) jj))) rfl (fun _ => rfl) ?_
        refine T_ld 272 (.int (i32 v8)) rfl (fun _ => rfl) ?_
        refine T_ld 274 (.int (i32 (m.1 69))) rfl (fun _ => rfl) ?_
        refine T_ld 275 (.long (i64 0)) rfl (fun _ => rfl) ?_
        refine T_call 278 248 [.ref 189, .int (i32 ((m.2 80) jj)), .int (i32 v8), .int (i32 (m.1 69)), .long (i64 0)] [] rfl (fun _ => rfl) rfl (c_node w (mO m9 [] [(80, upI (m.2 80) jj (-1))]) c N D (by omega) (Ty_mO Tm9 rfl rfl trivial ⟨G18, trivial⟩) ((m.2 80) jj) v8 (m.1 69) 0 B (1 + lh (m.2 79) (m.2 80) (m.1 73)) (r32 (by omega) (by omega)) (r32 (by omega) (by omega)) (r32 (by omega) (by omega)) ⟨by decide, by decide⟩ (fun _ => ⟨(show 0 ≤ ((m.2 80) jj) ∧ ((m.2 80) jj) ≤ 408 by first | omega | decide), (show 0 ≤ v8 ∧ v8 ≤ 64 by first | omega | decide), (show 0 ≤ (m.1 69) ∧ (m.1 69) ≤ 191 by first | omega | decide), (show CNk ((m.2 80) jj) (m.1 69) by first | exact hCk | (refine ⟨?_, ?_, ?_, ?_⟩ <;> omega)), (show ar ((m.2 80) jj) ≤ (1 + lh (m.2 79) (m.2 80) (m.1 73)) by first | exact hAr | omega), (show EX (m9.2 65) (m9.2 67) B (m9.1 28) (1 + lh (m.2 79) (m.2 80) (m.1 73)) by rewrite [(show (m9.2 65) = (m.2 65) from (fr2 Fm9 65 rfl)), (show (m9.2 67) = (m.2 67) from (fr2 Fm9 67 rfl)), (show (m9.1 28) = (m.1 28) from (fr1 Fm9 28 rfl))]; first | exact hEX | assumption)⟩)) (fun rr19 k20 => ?_)
        obtain ⟨m21, Tm21, Fm21, h22, c23, rfl⟩ := k20
        refine ⟨_, _, rfl, ?_⟩
        refine T_nb (st' := []) rfl ?_
        have g24 : 0 ≤ m21.1 10 ∧ m21.1 10 ≤ 8 := Tm21.1 10
        have g25 : 0 ≤ m21.1 28 ∧ m21.1 28 ≤ 800 := Tm21.1 28
        by_cases hf26 : (m21.1 10) = 0
        · skip
          replace h22 : (m9.1 10) = 0 := h22 hf26
          obtain ⟨c27, c28, c29⟩ := c23 hf26
          replace c27 : (m21.1 28) = (m9.1 28) + 1 := c27
          rewrite [(show (m9.1 28) = (m.1 28) from (fr1 Fm9 28 rfl))] at c27
          replace c28 : EX (m21.2 65) (m21.2 67) B (m21.1 28) ((1 + lh (m.2 79) (m.2 80) (m.1 73)) + 1 - ar ((m.2 80) jj)) := c28
          have hEX := c28
          replace c29 : agr (m9.2 65) (m21.2 65) (m9.1 28) := c29
          rewrite [(show (m9.2 65) = (m.2 65) from (fr2 Fm9 65 rfl)), (show (m9.1 28) = (m.1 28) from (fr1 Fm9 28 rfl))] at c29
          have hAg := c29
          clear c23
          clear q13_10 h22
          have hXE : XS (m21.2 65) (m21.2 67) (m.2 76) (m.2 78) (m.2 79) (upI (m.2 80) jj (-1)) B (m21.1 28) (m.1 73) (m.1 74) 1 := XS_of (XS_ws (x := -1) (U' := 1) hXS (by omega) (by omega) (by omega) (by rw [if_neg (by omega)]; have := cn1_0 (m.2 80) jj; omega)) hEX (by omega)
          refine T_ld 279 (.ref 189) rfl (fun _ => rfl) ?_
          refine T_ld 280 (.int (i32 v8)) rfl (fun _ => rfl) ?_
          refine T_ld 281 (.int (i32 ((m.2 82) jj))) rfl (fun _ => rfl) ?_
          refine T_call 284 250 [.ref 189, .int (i32 v8), .int (i32 ((m.2 82) jj))] [] rfl (fun _ => rfl) rfl (c_unit w (mO m21 [] []) c N D (by omega) Tm21 v8 ((m.2 82) jj) (r32 (by omega) (by omega)) (r32 (by omega) (by omega)) (show 0 ≤ v8 ∧ v8 ≤ 1024 by omega) (show 0 ≤ ((m.2 82) jj) ∧ ((m.2 82) jj) ≤ 4000 by omega)) (fun rr30 k31 => ?_)
          obtain ⟨m32, Tm32, Fm32, h33, rfl⟩ := k31
          refine ⟨_, _, rfl, ?_⟩
          refine T_nb (st' := []) rfl ?_
          have g34 : 0 ≤ m32.1 69 ∧ m32.1 69 ≤ 1024 := Tm32.1 69
          have g35 : 0 ≤ m32.1 70 ∧ m32.1 70 ≤ 4000 := Tm32.1 70
          have g36 : 0 ≤ m32.1 71 ∧ m32.1 71 ≤ 1 := Tm32.1 71
          have g37 : (-9223372036854775808) ≤ m32.1 72 ∧ m32.1 72 ≤ 9223372036854775807 := Tm32.1 72
          replace h33 : (m32.1 69) = v8 := h33
          refine T_ret rfl (fun _ => rfl) ?_
          exact ⟨(mO m32 [] []), Tm32, (fr_m (fr_s Fm32 (fr_m (fr_s Fm21 (fr_m (fr_s Fm9 (fr_m fr_0 rfl rfl) rfl rfl) rfl rfl) rfl rfl) rfl rfl) rfl rfl) rfl rfl), (show (m32.1 10) = 0 → (m.1 10) = 0 by rewrite [(show (m32.1 10) = (m21.1 10) from (fr1 Fm32 10 rfl))]; omega), (show (m32.1 69) ≤ (m.1 69) + 64 by omega), (fun _ => ⟨(show (m32.1 69) ≤ 64 by omega), (show (m32.1 28) = (m.1 28) + 1 by rewrite [(show (m32.1 28) = (m21.1 28) from (fr1 Fm32 28 rfl))]; omega), (show XS (m32.2 65) (m32.2 67) (m.2 76) (m.2 78) (m.2 79) (m32.2 80) B (m32.1 28) (m.1 73) (m.1 74) 1 by rewrite [(show (m32.2 65) = (m21.2 65) from (fr2 Fm32 65 rfl)), (show (m32.2 67) = (m21.2 67) from (fr2 Fm32 67 rfl)), (show (m32.2 80) = (upI (m.2 80) jj (-1)) from ((fr2 Fm32 80 rfl).trans (fr2 Fm21 80 rfl))), (show (m32.1 28) = (m21.1 28) from (fr1 Fm32 28 rfl))]; first | (exact hXE) | (exfalso; omega)), (show agr (m.2 65) (m32.2 65) (m.1 28) by rewrite [(show (m32.2 65) = (m21.2 65) from (fr2 Fm32 65 rfl))]; first | (exact hAg) | (exfalso; omega)), (show (m32.2 80) = upI (m.2 80) jj (-1) by rewrite [(show (m32.2 80) = (upI (m.2 80) jj (-1)) from ((fr2 Fm32 80 rfl).trans (fr2 Fm21 80 rfl)))]; rfl)⟩), rfl⟩
        · skip
          clear c23
          clear h22
          have hf38 : 1 ≤ (m21.1 10) := by omega
          clear q13_10
          refine T_ld 279 (.ref 189) rfl (fun _ => rfl) ?_
          refine T_ld 280 (.int (i32 v8)) rfl (fun _ => rfl) ?_
          refine T_ld 281 (.int (i32 ((m.2 82) jj))) rfl (fun _ => rfl) ?_
          refine T_call 284 250 [.ref 189, .int (i32 v8), .int (i32 ((m.2 82) jj))] [] rfl (fun _ => rfl) rfl (c_unit w (mO m21 [] []) c N D (by omega) Tm21 v8 ((m.2 82) jj) (r32 (by omega) (by omega)) (r32 (by omega) (by omega)) (show 0 ≤ v8 ∧ v8 ≤ 1024 by omega) (show 0 ≤ ((m.2 82) jj) ∧ ((m.2 82) jj) ≤ 4000 by omega)) (fun rr39 k40 => ?_)
          obtain ⟨m41, Tm41, Fm41, h42, rfl⟩ := k40
          refine ⟨_, _, rfl, ?_⟩
          refine T_nb (st' := []) rfl ?_
          have g43 : 0 ≤ m41.1 69 ∧ m41.1 69 ≤ 1024 := Tm41.1 69
          have g44 : 0 ≤ m41.1 70 ∧ m41.1 70 ≤ 4000 := Tm41.1 70
          have g45 : 0 ≤ m41.1 71 ∧ m41.1 71 ≤ 1 := Tm41.1 71
          have g46 : (-9223372036854775808) ≤ m41.1 72 ∧ m41.1 72 ≤ 9223372036854775807 := Tm41.1 72
          replace h42 : (m41.1 69) = v8 := h42
          refine T_ret rfl (fun _ => rfl) ?_
          exact ⟨(mO m41 [] []), Tm41, (fr_m (fr_s Fm41 (fr_m (fr_s Fm21 (fr_m (fr_s Fm9 (fr_m fr_0 rfl rfl) rfl rfl) rfl rfl) rfl rfl) rfl rfl) rfl rfl) rfl rfl), (show (m41.1 10) = 0 → (m.1 10) = 0 by rewrite [(show (m41.1 10) = (m21.1 10) from (fr1 Fm41 10 rfl))]; omega), (show (m41.1 69) ≤ (m.1 69) + 64 by omega), (fun (h : (m41.1 10) = 0) => absurd ((show (m41.1 10) = (m21.1 10) from (fr1 Fm41 10 rfl)).symm.trans h) (by omega)), rfl⟩
      · skip
        clear c14
        have hf47 : 1 ≤ (m9.1 10) := by omega
        refine T_gf 265 (.ref 242) rfl rfl rfl rfl rfl rfl ?_
        refine T_ld 266 (.int (i32 jj)) rfl (fun _ => rfl) ?_
        refine T_ld 267 (.int (i32 (-1))) rfl (fun _ => rfl) ?_
        have G48 : ∀ j, (-1) ≤ (upI (m.2 80) jj (-1)) j ∧ (upI (m.2 80) jj (-1)) j ≤ 330 := upI_rg (hT.2.1 80) ⟨by omega, by omega⟩
        refine T_iast (a' := [(80, upI (m.2 80) jj (-1))]) 268 80 (m.2 80) rfl rfl rfl (by omega) (show jj < (540 : Int) by omega) (show (m9.2 80) = (m.2 80) from (fr2 Fm9 80 rfl)) rfl ?_
        refine T_ld 269 (.ref 189) rfl (fun _ => rfl) ?_
        refine T_ld 271 (.int (i32 ((m.2 80) jj))) rfl (fun _ => rfl) ?_
        refine T_ld 272 (.int (i32 v8)) rfl (fun _ => rfl) ?_
        refine T_ld 274 (.int (i32 (m.1 69))) rfl (fun _ => rfl) ?_
        refine T_ld 275 (.long (i64 0)) rfl (fun _ => rfl) ?_
        refine T_call 278 248 [.ref 189, .int (i32 ((m.2 80) jj)), .int (i32 v8), .int (i32 (m.1 69)), .long (i64 0)] [] rfl (fun _ => rfl) rfl (c_node w (mO m9 [] [(80, upI (m.2 80) jj (-1))]) c N D (by omega) (Ty_mO Tm9 rfl rfl trivial ⟨G48, trivial⟩) ((m.2 80) jj) v8 (m.1 69) 0 B (1 + lh (m.2 79) (m.2 80) (m.1 73)) (r32 (by omega) (by omega)) (r32 (by omega) (by omega)) (r32 (by omega) (by omega)) ⟨by decide, by decide⟩ (fun (h : (m9.1 10) = 0) => absurd h (by omega))) (fun rr49 k50 => ?_)
        obtain ⟨m51, Tm51, Fm51, h52, c53, rfl⟩ := k50
        refine ⟨_, _, rfl, ?_⟩
        refine T_nb (st' := []) rfl ?_
        have g54 : 0 ≤ m51.1 10 ∧ m51.1 10 ≤ 8 := Tm51.1 10
        have g55 : 0 ≤ m51.1 28 ∧ m51.1 28 ≤ 800 := Tm51.1 28
        replace h52 : (m51.1 10) = 0 → (m9.1 10) = 0 := h52
        have hf56 : 1 ≤ (m51.1 10) := by omega
        clear c53
        clear h52
        clear q13_10 hf47
        refine T_ld 279 (.ref 189) rfl (fun _ => rfl) ?_
        refine T_ld 280 (.int (i32 v8)) rfl (fun _ => rfl) ?_
        refine T_ld 281 (.int (i32 ((m.2 82) jj))) rfl (fun _ => rfl) ?_
        refine T_call 284 250 [.ref 189, .int (i32 v8), .int (i32 ((m.2 82) jj))] [] rfl (fun _ => rfl) rfl (c_unit w (mO m51 [] []) c N D (by omega) Tm51 v8 ((m.2 82) jj) (r32 (by omega) (by omega)) (r32 (by omega) (by omega)) (show 0 ≤ v8 ∧ v8 ≤ 1024 by omega) (show 0 ≤ ((m.2 82) jj) ∧ ((m.2 82) jj) ≤ 4000 by omega)) (fun rr57 k58 => ?_)
        obtain ⟨m59, Tm59, Fm59, h60, rfl⟩ := k58
        refine ⟨_, _, rfl, ?_⟩
        refine T_nb (st' := []) rfl ?_
        have g61 : 0 ≤ m59.1 69 ∧ m59.1 69 ≤ 1024 := Tm59.1 69
        have g62 : 0 ≤ m59.1 70 ∧ m59.1 70 ≤ 4000 := Tm59.1 70
        have g63 : 0 ≤ m59.1 71 ∧ m59.1 71 ≤ 1 := Tm59.1 71
        have g64 : (-9223372036854775808) ≤ m59.1 72 ∧ m59.1 72 ≤ 9223372036854775807 := Tm59.1 72
        replace h60 : (m59.1 69) = v8 := h60
        refine T_ret rfl (fun _ => rfl) ?_
        exact ⟨(mO m59 [] []), Tm59, (fr_m (fr_s Fm59 (fr_m (fr_s Fm51 (fr_m (fr_s Fm9 (fr_m fr_0 rfl rfl) rfl rfl) rfl rfl) rfl rfl) rfl rfl) rfl rfl) rfl rfl), (show (m59.1 10) = 0 → (m.1 10) = 0 by rewrite [(show (m59.1 10) = (m51.1 10) from (fr1 Fm59 10 rfl))]; omega), (show (m59.1 69) ≤ (m.1 69) + 64 by omega), (fun (h : (m59.1 10) = 0) => absurd ((show (m59.1 10) = (m51.1 10) from (fr1 Fm59 10 rfl)).symm.trans h) (by omega)), rfl⟩
    refine T_gf 32 (.ref 242) rfl rfl rfl rfl rfl rfl ?_
    refine T_ld 33 (.int (i32 jj)) rfl (fun _ => rfl) ?_
    refine T_iald 34 80 (m.2 80) rfl rfl rfl (by omega) (show jj < (540 : Int) by omega) rfl ?_
    have e65 : (-1) ≤ (m.2 80) jj ∧ (m.2 80) jj ≤ 330 := (hT.2.1 80) jj
    refine T_call 37 259 [.int (i32 ((m.2 80) jj))] [] rfl (fun _ => rfl) rfl (c_level w (mO m [] []) c N D (by omega) hT ((m.2 80) jj) (r32 (by omega) (by omega))) (fun rr66 k67 => ?_)
    obtain ⟨x68, g69, h70, rfl⟩ := k67
    refine ⟨_, _, rfl, ?_⟩
    refine T_ns (st' := [.int (i32 x68)]) rfl ?_
    obtain ⟨g69a, g69b⟩ := g69
    replace h70 : 0 ≤ x68 → 4 ≤ ((m.2 80) jj) ∧ ((m.2 80) jj) ≤ 124 := h70
    have T88_71 : (x68 = 0 ∨ x68 = 1) → TT w D pm_260 (88, [(5, .int (i32 (m.1 69))), (4, .int (i32 ((m.2 80) jj))), (3, .int (i32 ((m.2 82) jj))), (2, .int (i32 ((m.2 81) jj))), (0, .ref 189), (1, .int (i32 jj))], [], (mhp (mO m [] []) c, N), 0, 0) (Q_join m c N jj B) := by
      intro ht72
      refine T_ld 89 (.ref 189) rfl (fun _ => rfl) ?_
      refine T_ld 90 (.int (i32 ((m.2 81) jj))) rfl (fun _ => rfl) ?_
      refine T_gf 94 (.ref 245) rfl rfl rfl rfl rfl rfl ?_
      refine T_ld 95 (.int (i32 jj)) rfl (fun _ => rfl) ?_
      refine T_bald 96 83 (m.2 83) rfl rfl rfl (by omega) (show jj < (540 : Int) by omega) rfl ?_
      have e73 : 0 ≤ m.2 83 jj ∧ m.2 83 jj ≤ 1 := hT.2.1 83 jj
      refine T_gf 100 (.ref 246) rfl rfl rfl rfl rfl rfl ?_
      refine T_ld 101 (.int (i32 jj)) rfl (fun _ => rfl) ?_
      refine T_lald 102 84 (m.2 84) rfl rfl rfl (by omega) (show jj < (540 : Int) by omega) rfl ?_
      have e74 : (-9223372036854775808) ≤ m.2 84 jj ∧ m.2 84 jj ≤ 9223372036854775807 := hT.2.1 84 jj
      refine T_ld 103 (.int (i32 ((m.2 82) jj))) rfl (fun _ => rfl) ?_
      refine T_call 106 258 [.ref 189, .int (i32 ((m.2 81) jj)), .int (i32 ((m.2 83) jj)), .long (i64 ((m.2 84) jj)), .int (i32 ((m.2 82) jj))] [] rfl (fun _ => rfl) rfl (c_wantBit w (mO m [] []) c N D (by omega) hT ((m.2 81) jj) ((m.2 83) jj) ((m.2 84) jj) ((m.2 82) jj) (r32 (by omega) (by omega)) (r32 (by omega) (by omega)) (r64 (by omega) (by omega)) (r32 (by omega) (by omega)) (show 0 ≤ ((m.2 82) jj) ∧ ((m.2 82) jj) ≤ 4000 by omega) (fun _ => trivial)) (fun rr75 k76 => ?_)
      obtain ⟨m77, Tm77, Fm77, h78, c79, rfl⟩ := k76
      refine ⟨_, _, rfl, ?_⟩
      refine T_nb (st' := []) rfl ?_
      have g80 : 0 ≤ m77.1 10 ∧ m77.1 10 ≤ 8 := Tm77.1 10
      by_cases hf81 : (m77.1 10) = 0
      · skip
        replace h78 : (m.1 10) = 0 := h78 hf81
        clear c79
        clear g69a g69b h70
        refine T_ld 107 (.ref 189) rfl (fun _ => rfl) ?_
        refine T_gf 111 (.int (i32 (m.1 69))) rfl rfl rfl rfl (mfv_c (F := fun x => .int (i32 x)) rfl (show (m77.1 69) = (m.1 69) from (fr1 Fm77 69 rfl))) rfl ?_
        refine T_gf 115 (.int (i32 (m.1 71))) rfl rfl rfl rfl (mfv_c (F := fun x => .int (i32 x)) rfl (show (m77.1 71) = (m.1 71) from (fr1 Fm77 71 rfl))) rfl ?_
        refine T_gf 119 (.long (i64 (m.1 72))) rfl rfl rfl rfl (mfv_c (F := fun x => .long (i64 x)) rfl (show (m77.1 72) = (m.1 72) from (fr1 Fm77 72 rfl))) rfl ?_
        refine T_gf 123 (.int (i32 (m.1 70))) rfl rfl rfl rfl (mfv_c (F := fun x => .int (i32 x)) rfl (show (m77.1 70) = (m.1 70) from (fr1 Fm77 70 rfl))) rfl ?_
        refine T_call 126 258 [.ref 189, .int (i32 (m.1 69)), .int (i32 (m.1 71)), .long (i64 (m.1 72)), .int (i32 (m.1 70))] [] rfl (fun _ => rfl) rfl (c_wantBit w (mO m77 [] []) c N D (by omega) Tm77 (m.1 69) (m.1 71) (m.1 72) (m.1 70) (r32 (by omega) (by omega)) (r32 (by omega) (by omega)) (r64 (by omega) (by omega)) (r32 (by omega) (by omega)) (show 0 ≤ (m.1 70) ∧ (m.1 70) ≤ 4000 by omega) (fun _ => trivial)) (fun rr82 k83 => ?_)
        obtain ⟨m84, Tm84, Fm84, h85, c86, rfl⟩ := k83
        refine ⟨_, _, rfl, ?_⟩
        refine T_nb (st' := []) rfl ?_
        have g87 : 0 ≤ m84.1 10 ∧ m84.1 10 ≤ 8 := Tm84.1 10
        by_cases hf88 : (m84.1 10) = 0
        · skip
          replace h85 : (m77.1 10) = 0 := h85 hf88
          clear c86
          clear g80 h85
          refine T_ld 127 (.int (i32 1)) rfl (fun _ => rfl) ?_
          refine T_sto 128 [(2, .int (i32 1)), (5, .int (i32 (m.1 69))), (4, .int (i32 ((m.2 80) jj))), (3, .int (i32 ((m.2 82) jj))), (0, .ref 189), (1, .int (i32 jj))] rfl (fun _ => rfl) ?_
          refine T_goto 261 rfl (fun _ => rfl) ?_
          refine Tm_lv (a := [(0, .ref 189), (1, .int (i32 jj)), (2, .int (i32 1)), (3, .int (i32 ((m.2 82) jj))), (4, .int (i32 ((m.2 80) jj))), (5, .int (i32 (m.1 69)))]) rfl rfl ⟨rfl, rfl, rfl, rfl, rfl, rfl, trivial⟩ ?_
          exact J261_10 1 (mO m84 [] []) ⟨by decide, by decide⟩ Tm84 (fr_m (fr_s Fm84 (fr_m (fr_s Fm77 (fr_m fr_0 rfl rfl) rfl rfl) rfl rfl) rfl rfl) rfl rfl) (show 0 ≤ (1 : Int) ∧ (1 : Int) ≤ (m.1 69) + 64 by omega) (fun _ => (show (1 : Int) ≤ 64 by omega))
        · skip
          clear c86
          clear h85
          have hf89 : 1 ≤ (m84.1 10) := by omega
          clear g80
          refine T_ld 127 (.int (i32 1)) rfl (fun _ => rfl) ?_
          refine T_sto 128 [(2, .int (i32 1)), (5, .int (i32 (m.1 69))), (4, .int (i32 ((m.2 80) jj))), (3, .int (i32 ((m.2 82) jj))), (0, .ref 189), (1, .int (i32 jj))] rfl (fun _ => rfl) ?_
          refine T_goto 261 rfl (fun _ => rfl) ?_
          refine Tm_lv (a := [(0, .ref 189), (1, .int (i32 jj)), (2, .int (i32 1)), (3, .int (i32 ((m.2 82) jj))), (4, .int (i32 ((m.2 80) jj))), (5, .int (i32 (m.1 69)))]) rfl rfl ⟨rfl, rfl, rfl, rfl, rfl, rfl, trivial⟩ ?_
          exact J261_10 1 (mO m84 [] []) ⟨by decide, by decide⟩ Tm84 (fr_m (fr_s Fm84 (fr_m (fr_s Fm77 (fr_m fr_0 rfl rfl) rfl rfl) rfl rfl) rfl rfl) rfl rfl) (show 0 ≤ (1 : Int) ∧ (1 : Int) ≤ (m.1 69) + 64 by omega) (fun (h : (m84.1 10) = 0) => absurd h (by omega))
      · skip
        clear c79
        clear h78
        have hf90 : 1 ≤ (m77.1 10) := by omega
        clear g69a g69b h70
        refine T_ld 107 (.ref 189) rfl (fun _ => rfl) ?_
        refine T_gf 111 (.int (i32 (m.1 69))) rfl rfl rfl rfl (mfv_c (F := fun x => .int (i32 x)) rfl (show (m77.1 69) = (m.1 69) from (fr1 Fm77 69 rfl))) rfl ?_
        refine T_gf 115 (.int (i32 (m.1 71))) rfl rfl rfl rfl (mfv_c (F := fun x => .int (i32 x)) rfl (show (m77.1 71) = (m.1 71) from (fr1 Fm77 71 rfl))) rfl ?_
        refine T_gf 119 (.long (i64 (m.1 72))) rfl rfl rfl rfl (mfv_c (F := fun x => .long (i64 x)) rfl (show (m77.1 72) = (m.1 72) from (fr1 Fm77 72 rfl))) rfl ?_
        refine T_gf 123 (.int (i32 (m.1 70))) rfl rfl rfl rfl (mfv_c (F := fun x => .int (i32 x)) rfl (show (m77.1 70) = (m.1 70) from (fr1 Fm77 70 rfl))) rfl ?_
        refine T_call 126 258 [.ref 189, .int (i32 (m.1 69)), .int (i32 (m.1 71)), .long (i64 (m.1 72)), .int (i32 (m.1 70))] [] rfl (fun _ => rfl) rfl (c_wantBit w (mO m77 [] []) c N D (by omega) Tm77 (m.1 69) (m.1 71) (m.1 72) (m.1 70) (r32 (by omega) (by omega)) (r32 (by omega) (by omega)) (r64 (by omega) (by omega)) (r32 (by omega) (by omega)) (show 0 ≤ (m.1 70) ∧ (m.1 70) ≤ 4000 by omega) (fun (h : (m77.1 10) = 0) => absurd h (by omega))) (fun rr91 k92 => ?_)
        obtain ⟨m93, Tm93, Fm93, h94, c95, rfl⟩ := k92
        refine ⟨_, _, rfl, ?_⟩
        refine T_nb (st' := []) rfl ?_
        have g96 : 0 ≤ m93.1 10 ∧ m93.1 10 ≤ 8 := Tm93.1 10
        replace h94 : (m93.1 10) = 0 → (m77.1 10) = 0 := h94
        have hf97 : 1 ≤ (m93.1 10) := by omega
        clear c95
        clear h94
        clear g80 hf90
        refine T_ld 127 (.int (i32 1)) rfl (fun _ => rfl) ?_
        refine T_sto 128 [(2, .int (i32 1)), (5, .int (i32 (m.1 69))), (4, .int (i32 ((m.2 80) jj))), (3, .int (i32 ((m.2 82) jj))), (0, .ref 189), (1, .int (i32 jj))] rfl (fun _ => rfl) ?_
        refine T_goto 261 rfl (fun _ => rfl) ?_
        refine Tm_lv (a := [(0, .ref 189), (1, .int (i32 jj)), (2, .int (i32 1)), (3, .int (i32 ((m.2 82) jj))), (4, .int (i32 ((m.2 80) jj))), (5, .int (i32 (m.1 69)))]) rfl rfl ⟨rfl, rfl, rfl, rfl, rfl, rfl, trivial⟩ ?_
        exact J261_10 1 (mO m93 [] []) ⟨by decide, by decide⟩ Tm93 (fr_m (fr_s Fm93 (fr_m (fr_s Fm77 (fr_m fr_0 rfl rfl) rfl rfl) rfl rfl) rfl rfl) rfl rfl) (show 0 ≤ (1 : Int) ∧ (1 : Int) ≤ (m.1 69) + 64 by omega) (fun (h : (m93.1 10) = 0) => absurd h (by omega))
    have T207_98 : TT w D pm_260 (207, [(5, .int (i32 (m.1 69))), (4, .int (i32 ((m.2 80) jj))), (3, .int (i32 ((m.2 82) jj))), (2, .int (i32 ((m.2 81) jj))), (0, .ref 189), (1, .int (i32 jj))], [], (mhp (mO m [] []) c, N), 0, 0) (Q_join m c N jj B) := by
      refine T_ld 208 (.ref 189) rfl (fun _ => rfl) ?_
      refine T_ld 209 (.int (i32 ((m.2 81) jj))) rfl (fun _ => rfl) ?_
      refine T_gf 213 (.ref 245) rfl rfl rfl rfl rfl rfl ?_
      refine T_ld 214 (.int (i32 jj)) rfl (fun _ => rfl) ?_
      refine T_bald 215 83 (m.2 83) rfl rfl rfl (by omega) (show jj < (540 : Int) by omega) rfl ?_
      have e100 : 0 ≤ m.2 83 jj ∧ m.2 83 jj ≤ 1 := hT.2.1 83 jj
      refine T_gf 219 (.ref 246) rfl rfl rfl rfl rfl rfl ?_
      refine T_ld 220 (.int (i32 jj)) rfl (fun _ => rfl) ?_
      refine T_lald 221 84 (m.2 84) rfl rfl rfl (by omega) (show jj < (540 : Int) by omega) rfl ?_
      have e101 : (-9223372036854775808) ≤ m.2 84 jj ∧ m.2 84 jj ≤ 9223372036854775807 := hT.2.1 84 jj
      refine T_ld 222 (.int (i32 ((m.2 82) jj))) rfl (fun _ => rfl) ?_
      refine T_gf 226 (.int (i32 (m.1 69))) rfl rfl rfl rfl rfl rfl ?_
      refine T_gf 230 (.int (i32 (m.1 71))) rfl rfl rfl rfl rfl rfl ?_
      refine T_gf 234 (.long (i64 (m.1 72))) rfl rfl rfl rfl rfl rfl ?_
      refine T_gf 238 (.int (i32 (m.1 70))) rfl rfl rfl rfl rfl rfl ?_
      refine T_call 241 261 [.ref 189, .int (i32 ((m.2 81) jj)), .int (i32 ((m.2 83) jj)), .long (i64 ((m.2 84) jj)), .int (i32 ((m.2 82) jj)), .int (i32 (m.1 69)), .int (i32 (m.1 71)), .long (i64 (m.1 72)), .int (i32 (m.1 70))] [] rfl (fun _ => rfl) rfl (c_common w (mO m [] []) c N D (by omega) hT ((m.2 81) jj) ((m.2 83) jj) ((m.2 84) jj) ((m.2 82) jj) (m.1 69) (m.1 71) (m.1 72) (m.1 70) (r32 (by omega) (by omega)) (r32 (by omega) (by omega)) (r64 (by omega) (by omega)) (r32 (by omega) (by omega)) (r32 (by omega) (by omega)) (r32 (by omega) (by omega)) (r64 (by omega) (by omega)) (r32 (by omega) (by omega)) (show 0 ≤ ((m.2 82) jj) ∧ ((m.2 82) jj) ≤ 4000 by omega) (show 0 ≤ (m.1 70) ∧ (m.1 70) ≤ 4000 by omega) (show 0 ≤ ((m.2 81) jj) ∧ ((m.2 81) jj) ≤ 1024 by omega) (show 0 ≤ (m.1 69) ∧ (m.1 69) ≤ 1024 by omega) (fun _ => trivial)) (fun rr102 k103 => ?_)
      obtain ⟨m104, x105, Tm104, Fm104, g106, h107, h108, c109, rfl⟩ := k103
      refine ⟨_, _, rfl, ?_⟩
      refine T_nb (st' := [.int (i32 x105)]) rfl ?_
      obtain ⟨g106a, g106b⟩ := g106
      have g110 : 0 ≤ m104.1 10 ∧ m104.1 10 ≤ 8 := Tm104.1 10
      by_cases hf111 : (m104.1 10) = 0
      · skip
        replace h107 : (m.1 10) = 0 := h107 hf111
        replace h108 : x105 = 64 ∨ x105 = ((m.2 81) jj) ∨ x105 = (m.1 69) := h108
        clear c109
        clear g69a g69b h70
        refine T_sto 242 [(2, .int (i32 x105)), (5, .int (i32 (m.1 69))), (4, .int (i32 ((m.2 80) jj))), (3, .int (i32 ((m.2 82) jj))), (0, .ref 189), (1, .int (i32 jj))] rfl (fun _ => rfl) ?_
        refine T_gf 246 (.ref 242) rfl rfl rfl rfl rfl rfl ?_
        refine T_ld 247 (.int (i32 jj)) rfl (fun _ => rfl) ?_
        refine T_iald 248 80 (m.2 80) rfl rfl rfl (by omega) (show jj < (540 : Int) by omega) (show (m104.2 80) = (m.2 80) from (fr2 Fm104 80 rfl)) ?_
        have e112 : (-1) ≤ (m.2 80) jj ∧ (m.2 80) jj ≤ 330 := (hT.2.1 80) jj
        refine T_call 251 259 [.int (i32 ((m.2 80) jj))] [] rfl (fun _ => rfl) rfl (c_level w (mO m104 [] []) c N D (by omega) Tm104 ((m.2 80) jj) (r32 (by omega) (by omega))) (fun rr113 k114 => ?_)
        obtain ⟨x115, g116, h117, rfl⟩ := k114
        refine ⟨_, _, rfl, ?_⟩
        refine T_ns (st' := [.int (i32 x115)]) rfl ?_
        obtain ⟨g116a, g116b⟩ := g116
        replace h117 : 0 ≤ x115 → 4 ≤ ((m.2 80) jj) ∧ ((m.2 80) jj) ≤ 124 := h117
        refine T_ld 252 (.int (i32 2)) rfl (fun _ => rfl) ?_
        refine T_icmp 259 255 rfl rfl rfl (r32 (by omega) (by omega)) ⟨by decide, by decide⟩ (fun (h118 : x115 ≠ 2) => ?_) (fun (h118 : ¬ (x115 ≠ 2)) => ?_)
        · skip
          refine T_ld 260 (.int (i32 x105)) rfl (fun _ => rfl) ?_
          refine T_sto 261 [(2, .int (i32 x105)), (5, .int (i32 (m.1 69))), (4, .int (i32 ((m.2 80) jj))), (3, .int (i32 ((m.2 82) jj))), (0, .ref 189), (1, .int (i32 jj))] rfl (fun _ => rfl) ?_
          refine Tm_lv (a := [(0, .ref 189), (1, .int (i32 jj)), (2, .int (i32 x105)), (3, .int (i32 ((m.2 82) jj))), (4, .int (i32 ((m.2 80) jj))), (5, .int (i32 (m.1 69)))]) rfl rfl ⟨rfl, rfl, rfl, rfl, rfl, rfl, trivial⟩ ?_
          exact J261_10 x105 (mO m104 [] []) (r32 (by omega) (by omega)) Tm104 (fr_m (fr_s Fm104 (fr_m fr_0 rfl rfl) rfl rfl) rfl rfl) (show 0 ≤ x105 ∧ x105 ≤ (m.1 69) + 64 by omega) (fun _ => (show x105 ≤ 64 by omega))
        · skip
          refine T_ld 256 (.int (i32 1)) rfl (fun _ => rfl) ?_
          refine T_goto 260 rfl (fun _ => rfl) ?_
          refine T_sto 261 [(2, .int (i32 1)), (5, .int (i32 (m.1 69))), (4, .int (i32 ((m.2 80) jj))), (3, .int (i32 ((m.2 82) jj))), (0, .ref 189), (1, .int (i32 jj))] rfl (fun _ => rfl) ?_
          refine Tm_lv (a := [(0, .ref 189), (1, .int (i32 jj)), (2, .int (i32 1)), (3, .int (i32 ((m.2 82) jj))), (4, .int (i32 ((m.2 80) jj))), (5, .int (i32 (m.1 69)))]) rfl rfl ⟨rfl, rfl, rfl, rfl, rfl, rfl, trivial⟩ ?_
          exact J261_10 1 (mO m104 [] []) ⟨by decide, by decide⟩ Tm104 (fr_m (fr_s Fm104 (fr_m fr_0 rfl rfl) rfl rfl) rfl rfl) (show 0 ≤ (1 : Int) ∧ (1 : Int) ≤ (m.1 69) + 64 by omega) (fun _ => (show (1 : Int) ≤ 64 by omega))
      · skip
        clear c109
        clear h107
        replace h108 : x105 = 64 ∨ x105 = ((m.2 81) jj) ∨ x105 = (m.1 69) := h108
        have hf119 : 1 ≤ (m104.1 10) := by omega
        clear g69a g69b h70
        refine T_sto 242 [(2, .int (i32 x105)), (5, .int (i32 (m.1 69))), (4, .int (i32 ((m.2 80) jj))), (3, .int (i32 ((m.2 82) jj))), (0, .ref 189), (1, .int (i32 jj))] rfl (fun _ => rfl) ?_
        refine T_gf 246 (.ref 242) rfl rfl rfl rfl rfl rfl ?_
        refine T_ld 247 (.int (i32 jj)) rfl (fun _ => rfl) ?_
        refine T_iald 248 80 (m.2 80) rfl rfl rfl (by omega) (show jj < (540 : Int) by omega) (show (m104.2 80) = (m.2 80) from (fr2 Fm104 80 rfl)) ?_
        have e120 : (-1) ≤ (m.2 80) jj ∧ (m.2 80) jj ≤ 330 := (hT.2.1 80) jj
        refine T_call 251 259 [.int (i32 ((m.2 80) jj))] [] rfl (fun _ => rfl) rfl (c_level w (mO m104 [] []) c N D (by omega) Tm104 ((m.2 80) jj) (r32 (by omega) (by omega))) (fun rr121 k122 => ?_)
        obtain ⟨x123, g124, h125, rfl⟩ := k122
        refine ⟨_, _, rfl, ?_⟩
        refine T_ns (st' := [.int (i32 x123)]) rfl ?_
        obtain ⟨g124a, g124b⟩ := g124
        replace h125 : 0 ≤ x123 → 4 ≤ ((m.2 80) jj) ∧ ((m.2 80) jj) ≤ 124 := h125
        refine T_ld 252 (.int (i32 2)) rfl (fun _ => rfl) ?_
        refine T_icmp 259 255 rfl rfl rfl (r32 (by omega) (by omega)) ⟨by decide, by decide⟩ (fun (h126 : x123 ≠ 2) => ?_) (fun (h126 : ¬ (x123 ≠ 2)) => ?_)
        · skip
          refine T_ld 260 (.int (i32 x105)) rfl (fun _ => rfl) ?_
          refine T_sto 261 [(2, .int (i32 x105)), (5, .int (i32 (m.1 69))), (4, .int (i32 ((m.2 80) jj))), (3, .int (i32 ((m.2 82) jj))), (0, .ref 189), (1, .int (i32 jj))] rfl (fun _ => rfl) ?_
          refine Tm_lv (a := [(0, .ref 189), (1, .int (i32 jj)), (2, .int (i32 x105)), (3, .int (i32 ((m.2 82) jj))), (4, .int (i32 ((m.2 80) jj))), (5, .int (i32 (m.1 69)))]) rfl rfl ⟨rfl, rfl, rfl, rfl, rfl, rfl, trivial⟩ ?_
          exact J261_10 x105 (mO m104 [] []) (r32 (by omega) (by omega)) Tm104 (fr_m (fr_s Fm104 (fr_m fr_0 rfl rfl) rfl rfl) rfl rfl) (show 0 ≤ x105 ∧ x105 ≤ (m.1 69) + 64 by omega) (fun (h : (m104.1 10) = 0) => absurd h (by omega))
        · skip
          refine T_ld 256 (.int (i32 1)) rfl (fun _ => rfl) ?_
          refine T_goto 260 rfl (fun _ => rfl) ?_
          refine T_sto 261 [(2, .int (i32 1)), (5, .int (i32 (m.1 69))), (4, .int (i32 ((m.2 80) jj))), (3, .int (i32 ((m.2 82) jj))), (0, .ref 189), (1, .int (i32 jj))] rfl (fun _ => rfl) ?_
          refine Tm_lv (a := [(0, .ref 189), (1, .int (i32 jj)), (2, .int (i32 1)), (3, .int (i32 ((m.2 82) jj))), (4, .int (i32 ((m.2 80) jj))), (5, .int (i32 (m.1 69)))]) rfl rfl ⟨rfl, rfl, rfl, rfl, rfl, rfl, trivial⟩ ?_
          exact J261_10 1 (mO m104 [] []) ⟨by decide, by decide⟩ Tm104 (fr_m (fr_s Fm104 (fr_m fr_0 rfl rfl) rfl rfl) rfl rfl) (show 0 ≤ (1 : Int) ∧ (1 : Int) ≤ (m.1 69) + 64 by omega) (fun (h : (m104.1 10) = 0) => absurd h (by omega))
    by_cases h127 : x68 = 0
    · skip
      refine T_cast 0 h127 ?_
      refine T_pop 88 rfl (fun _ => rfl) ?_
      exact T88_71 (by omega)
    by_cases h128 : x68 = 1
    · skip
      refine T_cast 1 h128 ?_
      refine T_pop 88 rfl (fun _ => rfl) ?_
      exact T88_71 (by omega)
    by_cases h129 : x68 = 6
    · skip
      refine T_cast 6 h129 ?_
      refine T_pop 131 rfl (fun _ => rfl) ?_
      refine T_goto 261 rfl (fun _ => rfl) ?_
      refine Tm_lv (a := [(0, .ref 189), (1, .int (i32 jj)), (2, .int (i32 ((m.2 81) jj))), (3, .int (i32 ((m.2 82) jj))), (4, .int (i32 ((m.2 80) jj))), (5, .int (i32 (m.1 69)))]) rfl rfl ⟨rfl, rfl, rfl, rfl, rfl, rfl, trivial⟩ ?_
      exact J261_10 ((m.2 81) jj) (mO m [] []) (r32 (by omega) (by omega)) hT (fr_m fr_0 rfl rfl) (show 0 ≤ ((m.2 81) jj) ∧ ((m.2 81) jj) ≤ (m.1 69) + 64 by omega) (fun _ => (show ((m.2 81) jj) ≤ 64 by omega))
    by_cases h130 : x68 = 8
    · skip
      refine T_cast 8 h130 ?_
      refine T_pop 134 rfl (fun _ => rfl) ?_
      refine T_ld 135 (.ref 189) rfl (fun _ => rfl) ?_
      refine T_gf 139 (.ref 245) rfl rfl rfl rfl rfl rfl ?_
      refine T_ld 140 (.int (i32 jj)) rfl (fun _ => rfl) ?_
      refine T_bald 141 83 (m.2 83) rfl rfl rfl (by omega) (show jj < (540 : Int) by omega) rfl ?_
      have e131 : 0 ≤ m.2 83 jj ∧ m.2 83 jj ≤ 1 := hT.2.1 83 jj
      refine T_if 148 144 rfl rfl rfl (r32 (by omega) (by omega)) (fun (h132 : (m.2 83) jj ≠ 0) => ?_) (fun (h132 : ¬ ((m.2 83) jj ≠ 0)) => ?_)
      · skip
        refine T_ld 149 (.int (i32 0)) rfl (fun _ => rfl) ?_
        refine T_ld 150 (.int (i32 ((m.2 82) jj))) rfl (fun _ => rfl) ?_
        refine T_call 153 256 [.ref 189, .int (i32 0), .int (i32 ((m.2 82) jj))] [] rfl (fun _ => rfl) rfl (c_want w (mO m [] []) c N D (by omega) hT 0 ((m.2 82) jj) ⟨by decide, by decide⟩ (r32 (by omega) (by omega)) (show 0 ≤ ((m.2 82) jj) ∧ ((m.2 82) jj) ≤ 4000 by omega) (fun _ => trivial)) (fun rr133 k134 => ?_)
        obtain ⟨m135, Tm135, Fm135, h136, c137, rfl⟩ := k134
        refine ⟨_, _, rfl, ?_⟩
        refine T_nb (st' := []) rfl ?_
        have g138 : 0 ≤ m135.1 10 ∧ m135.1 10 ≤ 8 := Tm135.1 10
        by_cases hf139 : (m135.1 10) = 0
        · skip
          replace h136 : (m.1 10) = 0 := h136 hf139
          have c140 := c137 hf139
          replace c140 : (0 : Int) ≠ 0 := c140
          clear c137
          clear g69a g69b h70
          refine T_ld 154 (.ref 189) rfl (fun _ => rfl) ?_
          refine T_gf 158 (.int (i32 (m.1 71))) rfl rfl rfl rfl (mfv_c (F := fun x => .int (i32 x)) rfl (show (m135.1 71) = (m.1 71) from (fr1 Fm135 71 rfl))) rfl ?_
          refine T_if 165 161 rfl rfl rfl (r32 (by omega) (by omega)) (fun (h141 : (m.1 71) ≠ 0) => ?_) (fun (h141 : ¬ ((m.1 71) ≠ 0)) => ?_)
          · skip
            refine T_ld 166 (.int (i32 0)) rfl (fun _ => rfl) ?_
            refine T_gf 170 (.int (i32 (m.1 70))) rfl rfl rfl rfl (mfv_c (F := fun x => .int (i32 x)) rfl (show (m135.1 70) = (m.1 70) from (fr1 Fm135 70 rfl))) rfl ?_
            refine T_call 173 256 [.ref 189, .int (i32 0), .int (i32 (m.1 70))] [] rfl (fun _ => rfl) rfl (c_want w (mO m135 [] []) c N D (by omega) Tm135 0 (m.1 70) ⟨by decide, by decide⟩ (r32 (by omega) (by omega)) (show 0 ≤ (m.1 70) ∧ (m.1 70) ≤ 4000 by omega) (fun _ => trivial)) (fun rr142 k143 => ?_)
            obtain ⟨m144, Tm144, Fm144, h145, c146, rfl⟩ := k143
            refine ⟨_, _, rfl, ?_⟩
            refine T_nb (st' := []) rfl ?_
            have g147 : 0 ≤ m144.1 10 ∧ m144.1 10 ≤ 8 := Tm144.1 10
            by_cases hf148 : (m144.1 10) = 0
            · skip
              replace h145 : (m135.1 10) = 0 := h145 hf148
              have c149 := c146 hf148
              replace c149 : (0 : Int) ≠ 0 := c149
              clear c146
              clear g138 h145
              refine T_ld 174 (.ref 189) rfl (fun _ => rfl) ?_
              refine T_ld 175 (.int (i32 ((m.2 81) jj))) rfl (fun _ => rfl) ?_
              refine T_gf 179 (.int (i32 (m.1 69))) rfl rfl rfl rfl (mfv_c (F := fun x => .int (i32 x)) rfl (show (m144.1 69) = (m.1 69) from ((fr1 Fm144 69 rfl).trans (fr1 Fm135 69 rfl)))) rfl ?_
              refine T_iadd 180 rfl rfl ?_
              refine T_ld 182 (.int (i32 64)) rfl (fun _ => rfl) ?_
              refine T_icmp 189 185 rfl rfl rfl (r32 (by omega) (by omega)) ⟨by decide, by decide⟩ (fun (h150 : (64 : Int) < ((m.2 81) jj) + (m.1 69)) => ?_) (fun (h150 : ¬ ((64 : Int) < ((m.2 81) jj) + (m.1 69))) => ?_)
              · skip
                refine T_ld 190 (.int (i32 0)) rfl (fun _ => rfl) ?_
                refine T_gf 194 (.int (i32 (m.1 70))) rfl rfl rfl rfl (mfv_c (F := fun x => .int (i32 x)) rfl (show (m144.1 70) = (m.1 70) from ((fr1 Fm144 70 rfl).trans (fr1 Fm135 70 rfl)))) rfl ?_
                refine T_call 197 256 [.ref 189, .int (i32 0), .int (i32 (m.1 70))] [] rfl (fun _ => rfl) rfl (c_want w (mO m144 [] []) c N D (by omega) Tm144 0 (m.1 70) ⟨by decide, by decide⟩ (r32 (by omega) (by omega)) (show 0 ≤ (m.1 70) ∧ (m.1 70) ≤ 4000 by omega) (fun _ => trivial)) (fun rr151 k152 => ?_)
                obtain ⟨m153, Tm153, Fm153, h154, c155, rfl⟩ := k152
                refine ⟨_, _, rfl, ?_⟩
                refine T_nb (st' := []) rfl ?_
                have g156 : 0 ≤ m153.1 10 ∧ m153.1 10 ≤ 8 := Tm153.1 10
                by_cases hf157 : (m153.1 10) = 0
                · skip
                  replace h154 : (m144.1 10) = 0 := h154 hf157
                  have c158 := c155 hf157
                  replace c158 : (0 : Int) ≠ 0 := c158
                  clear c155
                  clear g147 h154
                  refine T_ld 198 (.int (i32 ((m.2 81) jj))) rfl (fun _ => rfl) ?_
                  refine T_gf 202 (.int (i32 (m.1 69))) rfl rfl rfl rfl (mfv_c (F := fun x => .int (i32 x)) rfl (show (m153.1 69) = (m.1 69) from ((fr1 Fm153 69 rfl).trans ((fr1 Fm144 69 rfl).trans (fr1 Fm135 69 rfl))))) rfl ?_
                  refine T_iadd 203 rfl rfl ?_
                  refine T_sto 204 [(2, .int (i32 (((m.2 81) jj) + (m.1 69)))), (5, .int (i32 (m.1 69))), (4, .int (i32 ((m.2 80) jj))), (3, .int (i32 ((m.2 82) jj))), (0, .ref 189), (1, .int (i32 jj))] rfl (fun _ => rfl) ?_
                  refine T_goto 261 rfl (fun _ => rfl) ?_
                  refine Tm_lv (a := [(0, .ref 189), (1, .int (i32 jj)), (2, .int (i32 (((m.2 81) jj) + (m.1 69)))), (3, .int (i32 ((m.2 82) jj))), (4, .int (i32 ((m.2 80) jj))), (5, .int (i32 (m.1 69)))]) rfl rfl ⟨rfl, rfl, rfl, rfl, rfl, rfl, trivial⟩ ?_
                  exact J261_10 (((m.2 81) jj) + (m.1 69)) (mO m153 [] []) (r32 (by omega) (by omega)) Tm153 (fr_m (fr_s Fm153 (fr_m (fr_s Fm144 (fr_m (fr_s Fm135 (fr_m fr_0 rfl rfl) rfl rfl) rfl rfl) rfl rfl) rfl rfl) rfl rfl) rfl rfl) (show 0 ≤ (((m.2 81) jj) + (m.1 69)) ∧ (((m.2 81) jj) + (m.1 69)) ≤ (m.1 69) + 64 by omega) (fun _ => (show (((m.2 81) jj) + (m.1 69)) ≤ 64 by omega))
                · skip
                  clear c155
                  clear h154
                  have hf159 : 1 ≤ (m153.1 10) := by omega
                  clear g147
                  refine T_ld 198 (.int (i32 ((m.2 81) jj))) rfl (fun _ => rfl) ?_
                  refine T_gf 202 (.int (i32 (m.1 69))) rfl rfl rfl rfl (mfv_c (F := fun x => .int (i32 x)) rfl (show (m153.1 69) = (m.1 69) from ((fr1 Fm153 69 rfl).trans ((fr1 Fm144 69 rfl).trans (fr1 Fm135 69 rfl))))) rfl ?_
                  refine T_iadd 203 rfl rfl ?_
                  refine T_sto 204 [(2, .int (i32 (((m.2 81) jj) + (m.1 69)))), (5, .int (i32 (m.1 69))), (4, .int (i32 ((m.2 80) jj))), (3, .int (i32 ((m.2 82) jj))), (0, .ref 189), (1, .int (i32 jj))] rfl (fun _ => rfl) ?_
                  refine T_goto 261 rfl (fun _ => rfl) ?_
                  refine Tm_lv (a := [(0, .ref 189), (1, .int (i32 jj)), (2, .int (i32 (((m.2 81) jj) + (m.1 69)))), (3, .int (i32 ((m.2 82) jj))), (4, .int (i32 ((m.2 80) jj))), (5, .int (i32 (m.1 69)))]) rfl rfl ⟨rfl, rfl, rfl, rfl, rfl, rfl, trivial⟩ ?_
                  exact J261_10 (((m.2 81) jj) + (m.1 69)) (mO m153 [] []) (r32 (by omega) (by omega)) Tm153 (fr_m (fr_s Fm153 (fr_m (fr_s Fm144 (fr_m (fr_s Fm135 (fr_m fr_0 rfl rfl) rfl rfl) rfl rfl) rfl rfl) rfl rfl) rfl rfl) rfl rfl) (show 0 ≤ (((m.2 81) jj) + (m.1 69)) ∧ (((m.2 81) jj) + (m.1 69)) ≤ (m.1 69) + 64 by omega) (fun (h : (m153.1 10) = 0) => absurd h (by omega))
              · skip
                refine T_ld 186 (.int (i32 1)) rfl (fun _ => rfl) ?_
                refine T_goto 190 rfl (fun _ => rfl) ?_
                refine T_gf 194 (.int (i32 (m.1 70))) rfl rfl rfl rfl (mfv_c (F := fun x => .int (i32 x)) rfl (show (m144.1 70) = (m.1 70) from ((fr1 Fm144 70 rfl).trans (fr1 Fm135 70 rfl)))) rfl ?_
                refine T_call 197 256 [.ref 189, .int (i32 1), .int (i32 (m.1 70))] [] rfl (fun _ => rfl) rfl (c_want w (mO m144 [] []) c N D (by omega) Tm144 1 (m.1 70) ⟨by decide, by decide⟩ (r32 (by omega) (by omega)) (show 0 ≤ (m.1 70) ∧ (m.1 70) ≤ 4000 by omega) (fun _ => trivial)) (fun rr160 k161 => ?_)
                obtain ⟨m162, Tm162, Fm162, h163, c164, rfl⟩ := k161
                refine ⟨_, _, rfl, ?_⟩
                refine T_nb (st' := []) rfl ?_
                have g165 : 0 ≤ m162.1 10 ∧ m162.1 10 ≤ 8 := Tm162.1 10
                by_cases hf166 : (m162.1 10) = 0
                · skip
                  replace h163 : (m144.1 10) = 0 := h163 hf166
                  have c167 := c164 hf166
                  replace c167 : (1 : Int) ≠ 0 := c167
                  clear c164
                  clear g147 h163
                  refine T_ld 198 (.int (i32 ((m.2 81) jj))) rfl (fun _ => rfl) ?_
                  refine T_gf 202 (.int (i32 (m.1 69))) rfl rfl rfl rfl (mfv_c (F := fun x => .int (i32 x)) rfl (show (m162.1 69) = (m.1 69) from ((fr1 Fm162 69 rfl).trans ((fr1 Fm144 69 rfl).trans (fr1 Fm135 69 rfl))))) rfl ?_
                  refine T_iadd 203 rfl rfl ?_
                  refine T_sto 204 [(2, .int (i32 (((m.2 81) jj) + (m.1 69)))), (5, .int (i32 (m.1 69))), (4, .int (i32 ((m.2 80) jj))), (3, .int (i32 ((m.2 82) jj))), (0, .ref 189), (1, .int (i32 jj))] rfl (fun _ => rfl) ?_
                  refine T_goto 261 rfl (fun _ => rfl) ?_
                  refine Tm_lv (a := [(0, .ref 189), (1, .int (i32 jj)), (2, .int (i32 (((m.2 81) jj) + (m.1 69)))), (3, .int (i32 ((m.2 82) jj))), (4, .int (i32 ((m.2 80) jj))), (5, .int (i32 (m.1 69)))]) rfl rfl ⟨rfl, rfl, rfl, rfl, rfl, rfl, trivial⟩ ?_
                  exact J261_10 (((m.2 81) jj) + (m.1 69)) (mO m162 [] []) (r32 (by omega) (by omega)) Tm162 (fr_m (fr_s Fm162 (fr_m (fr_s Fm144 (fr_m (fr_s Fm135 (fr_m fr_0 rfl rfl) rfl rfl) rfl rfl) rfl rfl) rfl rfl) rfl rfl) rfl rfl) (show 0 ≤ (((m.2 81) jj) + (m.1 69)) ∧ (((m.2 81) jj) + (m.1 69)) ≤ (m.1 69) + 64 by omega) (fun _ => (show (((m.2 81) jj) + (m.1 69)) ≤ 64 by omega))
                · skip
                  clear c164
                  clear h163
                  have hf168 : 1 ≤ (m162.1 10) := by omega
                  clear g147
                  refine T_ld 198 (.int (i32 ((m.2 81) jj))) rfl (fun _ => rfl) ?_
                  refine T_gf 202 (.int (i32 (m.1 69))) rfl rfl rfl rfl (mfv_c (F := fun x => .int (i32 x)) rfl (show (m162.1 69) = (m.1 69) from ((fr1 Fm162 69 rfl).trans ((fr1 Fm144 69 rfl).trans (fr1 Fm135 69 rfl))))) rfl ?_
                  refine T_iadd 203 rfl rfl ?_
                  refine T_sto 204 [(2, .int (i32 (((m.2 81) jj) + (m.1 69)))), (5, .int (i32 (m.1 69))), (4, .int (i32 ((m.2 80) jj))), (3, .int (i32 ((m.2 82) jj))), (0, .ref 189), (1, .int (i32 jj))] rfl (fun _ => rfl) ?_
                  refine T_goto 261 rfl (fun _ => rfl) ?_
                  refine Tm_lv (a := [(0, .ref 189), (1, .int (i32 jj)), (2, .int (i32 (((m.2 81) jj) + (m.1 69)))), (3, .int (i32 ((m.2 82) jj))), (4, .int (i32 ((m.2 80) jj))), (5, .int (i32 (m.1 69)))]) rfl rfl ⟨rfl, rfl, rfl, rfl, rfl, rfl, trivial⟩ ?_
                  exact J261_10 (((m.2 81) jj) + (m.1 69)) (mO m162 [] []) (r32 (by omega) (by omega)) Tm162 (fr_m (fr_s Fm162 (fr_m (fr_s Fm144 (fr_m (fr_s Fm135 (fr_m fr_0 rfl rfl) rfl rfl) rfl rfl) rfl rfl) rfl rfl) rfl rfl) rfl rfl) (show 0 ≤ (((m.2 81) jj) + (m.1 69)) ∧ (((m.2 81) jj) + (m.1 69)) ≤ (m.1 69) + 64 by omega) (fun (h : (m162.1 10) = 0) => absurd h (by omega))
            · skip
              clear c146
              clear h145
              have hf169 : 1 ≤ (m144.1 10) := by omega
              clear g138
              refine T_ld 174 (.ref 189) rfl (fun _ => rfl) ?_
              refine T_ld 175 (.int (i32 ((m.2 81) jj))) rfl (fun _ => rfl) ?_
              refine T_gf 179 (.int (i32 (m.1 69))) rfl rfl rfl rfl (mfv_c (F := fun x => .int (i32 x)) rfl (show (m144.1 69) = (m.1 69) from ((fr1 Fm144 69 rfl).trans (fr1 Fm135 69 rfl)))) rfl ?_
              refine T_iadd 180 rfl rfl ?_
              refine T_ld 182 (.int (i32 64)) rfl (fun _ => rfl) ?_
              refine T_icmp 189 185 rfl rfl rfl (r32 (by omega) (by omega)) ⟨by decide, by decide⟩ (fun (h170 : (64 : Int) < ((m.2 81) jj) + (m.1 69)) => ?_) (fun (h170 : ¬ ((64 : Int) < ((m.2 81) jj) + (m.1 69))) => ?_)
              · skip
                refine T_ld 190 (.int (i32 0)) rfl (fun _ => rfl) ?_
                refine T_gf 194 (.int (i32 (m.1 70))) rfl rfl rfl rfl (mfv_c (F := fun x => .int (i32 x)) rfl (show (m144.1 70) = (m.1 70) from ((fr1 Fm144 70 rfl).trans (fr1 Fm135 70 rfl)))) rfl ?_
                refine T_call 197 256 [.ref 189, .int (i32 0), .int (i32 (m.1 70))] [] rfl (fun _ => rfl) rfl (c_want w (mO m144 [] []) c N D (by omega) Tm144 0 (m.1 70) ⟨by decide, by decide⟩ (r32 (by omega) (by omega)) (show 0 ≤ (m.1 70) ∧ (m.1 70) ≤ 4000 by omega) (fun (h : (m144.1 10) = 0) => absurd h (by omega))) (fun rr171 k172 => ?_)
                obtain ⟨m173, Tm173, Fm173, h174, c175, rfl⟩ := k172
                refine ⟨_, _, rfl, ?_⟩
                refine T_nb (st' := []) rfl ?_
                have g176 : 0 ≤ m173.1 10 ∧ m173.1 10 ≤ 8 := Tm173.1 10
                replace h174 : (m173.1 10) = 0 → (m144.1 10) = 0 := h174
                have hf177 : 1 ≤ (m173.1 10) := by omega
                clear c175
                clear h174
                clear g147 hf169
                refine T_ld 198 (.int (i32 ((m.2 81) jj))) rfl (fun _ => rfl) ?_
                refine T_gf 202 (.int (i32 (m.1 69))) rfl rfl rfl rfl (mfv_c (F := fun x => .int (i32 x)) rfl (show (m173.1 69) = (m.1 69) from ((fr1 Fm173 69 rfl).trans ((fr1 Fm144 69 rfl).trans (fr1 Fm135 69 rfl))))) rfl ?_
                refine T_iadd 203 rfl rfl ?_
                refine T_sto 204 [(2, .int (i32 (((m.2 81) jj) + (m.1 69)))), (5, .int (i32 (m.1 69))), (4, .int (i32 ((m.2 80) jj))), (3, .int (i32 ((m.2 82) jj))), (0, .ref 189), (1, .int (i32 jj))] rfl (fun _ => rfl) ?_
                refine T_goto 261 rfl (fun _ => rfl) ?_
                refine Tm_lv (a := [(0, .ref 189), (1, .int (i32 jj)), (2, .int (i32 (((m.2 81) jj) + (m.1 69)))), (3, .int (i32 ((m.2 82) jj))), (4, .int (i32 ((m.2 80) jj))), (5, .int (i32 (m.1 69)))]) rfl rfl ⟨rfl, rfl, rfl, rfl, rfl, rfl, trivial⟩ ?_
                exact J261_10 (((m.2 81) jj) + (m.1 69)) (mO m173 [] []) (r32 (by omega) (by omega)) Tm173 (fr_m (fr_s Fm173 (fr_m (fr_s Fm144 (fr_m (fr_s Fm135 (fr_m fr_0 rfl rfl) rfl rfl) rfl rfl) rfl rfl) rfl rfl) rfl rfl) rfl rfl) (show 0 ≤ (((m.2 81) jj) + (m.1 69)) ∧ (((m.2 81) jj) + (m.1 69)) ≤ (m.1 69) + 64 by omega) (fun (h : (m173.1 10) = 0) => absurd h (by omega))
              · skip
                refine T_ld 186 (.int (i32 1)) rfl (fun _ => rfl) ?_
                refine T_goto 190 rfl (fun _ => rfl) ?_
                refine T_gf 194 (.int (i32 (m.1 70))) rfl rfl rfl rfl (mfv_c (F := fun x => .int (i32 x)) rfl (show (m144.1 70) = (m.1 70) from ((fr1 Fm144 70 rfl).trans (fr1 Fm135 70 rfl)))) rfl ?_
                refine T_call 197 256 [.ref 189, .int (i32 1), .int (i32 (m.1 70))] [] rfl (fun _ => rfl) rfl (c_want w (mO m144 [] []) c N D (by omega) Tm144 1 (m.1 70) ⟨by decide, by decide⟩ (r32 (by omega) (by omega)) (show 0 ≤ (m.1 70) ∧ (m.1 70) ≤ 4000 by omega) (fun (h : (m144.1 10) = 0) => absurd h (by omega))) (fun rr178 k179 => ?_)
                obtain ⟨m180, Tm180, Fm180, h181, c182, rfl⟩ := k179
                refine ⟨_, _, rfl, ?_⟩
                refine T_nb (st' := []) rfl ?_
                have g183 : 0 ≤ m180.1 10 ∧ m180.1 10 ≤ 8 := Tm180.1 10
                replace h181 : (m180.1 10) = 0 → (m144.1 10) = 0 := h181
                have hf184 : 1 ≤ (m180.1 10) := by omega
                clear c182
                clear h181
                clear g147 hf169
                refine T_ld 198 (.int (i32 ((m.2 81) jj))) rfl (fun _ => rfl) ?_
                refine T_gf 202 (.int (i32 (m.1 69))) rfl rfl rfl rfl (mfv_c (F := fun x => .int (i32 x)) rfl (show (m180.1 69) = (m.1 69) from ((fr1 Fm180 69 rfl).trans ((fr1 Fm144 69 rfl).trans (fr1 Fm135 69 rfl))))) rfl ?_
                refine T_iadd 203 rfl rfl ?_
                refine T_sto 204 [(2, .int (i32 (((m.2 81) jj) + (m.1 69)))), (5, .int (i32 (m.1 69))), (4, .int (i32 ((m.2 80) jj))), (3, .int (i32 ((m.2 82) jj))), (0, .ref 189), (1, .int (i32 jj))] rfl (fun _ => rfl) ?_
                refine T_goto 261 rfl (fun _ => rfl) ?_
                refine Tm_lv (a := [(0, .ref 189), (1, .int (i32 jj)), (2, .int (i32 (((m.2 81) jj) + (m.1 69)))), (3, .int (i32 ((m.2 82) jj))), (4, .int (i32 ((m.2 80) jj))), (5, .int (i32 (m.1 69)))]) rfl rfl ⟨rfl, rfl, rfl, rfl, rfl, rfl, trivial⟩ ?_
                exact J261_10 (((m.2 81) jj) + (m.1 69)) (mO m180 [] []) (r32 (by omega) (by omega)) Tm180 (fr_m (fr_s Fm180 (fr_m (fr_s Fm144 (fr_m (fr_s Fm135 (fr_m fr_0 rfl rfl) rfl rfl) rfl rfl) rfl rfl) rfl rfl) rfl rfl) rfl rfl) (show 0 ≤ (((m.2 81) jj) + (m.1 69)) ∧ (((m.2 81) jj) + (m.1 69)) ≤ (m.1 69) + 64 by omega) (fun (h : (m180.1 10) = 0) => absurd h (by omega))
          · skip
            refine T_ld 162 (.int (i32 1)) rfl (fun _ => rfl) ?_
            refine T_goto 166 rfl (fun _ => rfl) ?_
            refine T_gf 170 (.int (i32 (m.1 70))) rfl rfl rfl rfl (mfv_c (F := fun x => .int (i32 x)) rfl (show (m135.1 70) = (m.1 70) from (fr1 Fm135 70 rfl))) rfl ?_
            refine T_call 173 256 [.ref 189, .int (i32 1), .int (i32 (m.1 70))] [] rfl (fun _ => rfl) rfl (c_want w (mO m135 [] []) c N D (by omega) Tm135 1 (m.1 70) ⟨by decide, by decide⟩ (r32 (by omega) (by omega)) (show 0 ≤ (m.1 70) ∧ (m.1 70) ≤ 4000 by omega) (fun _ => trivial)) (fun rr185 k186 => ?_)
            obtain ⟨m187, Tm187, Fm187, h188, c189, rfl⟩ := k186
            refine ⟨_, _, rfl, ?_⟩
            refine T_nb (st' := []) rfl ?_
            have g190 : 0 ≤ m187.1 10 ∧ m187.1 10 ≤ 8 := Tm187.1 10
            by_cases hf191 : (m187.1 10) = 0
            · skip
              replace h188 : (m135.1 10) = 0 := h188 hf191
              have c192 := c189 hf191
              replace c192 : (1 : Int) ≠ 0 := c192
              clear c189
              clear g138 h188
              refine T_ld 174 (.ref 189) rfl (fun _ => rfl) ?_
              refine T_ld 175 (.int (i32 ((m.2 81) jj))) rfl (fun _ => rfl) ?_
              refine T_gf 179 (.int (i32 (m.1 69))) rfl rfl rfl rfl (mfv_c (F := fun x => .int (i32 x)) rfl (show (m187.1 69) = (m.1 69) from ((fr1 Fm187 69 rfl).trans (fr1 Fm135 69 rfl)))) rfl ?_
              refine T_iadd 180 rfl rfl ?_
              refine T_ld 182 (.int (i32 64)) rfl (fun _ => rfl) ?_
              refine T_icmp 189 185 rfl rfl rfl (r32 (by omega) (by omega)) ⟨by decide, by decide⟩ (fun (h193 : (64 : Int) < ((m.2 81) jj) + (m.1 69)) => ?_) (fun (h193 : ¬ ((64 : Int) < ((m.2 81) jj) + (m.1 69))) => ?_)
              · skip
                refine T_ld 190 (.int (i32 0)) rfl (fun _ => rfl) ?_
                refine T_gf 194 (.int (i32 (m.1 70))) rfl rfl rfl rfl (mfv_c (F := fun x => .int (i32 x)) rfl (show (m187.1 70) = (m.1 70) from ((fr1 Fm187 70 rfl).trans (fr1 Fm135 70 rfl)))) rfl ?_
                refine T_call 197 256 [.ref 189, .int (i32 0), .int (i32 (m.1 70))] [] rfl (fun _ => rfl) rfl (c_want w (mO m187 [] []) c N D (by omega) Tm187 0 (m.1 70) ⟨by decide, by decide⟩ (r32 (by omega) (by omega)) (show 0 ≤ (m.1 70) ∧ (m.1 70) ≤ 4000 by omega) (fun _ => trivial)) (fun rr194 k195 => ?_)
                obtain ⟨m196, Tm196, Fm196, h197, c198, rfl⟩ := k195
                refine ⟨_, _, rfl, ?_⟩
                refine T_nb (st' := []) rfl ?_
                have g199 : 0 ≤ m196.1 10 ∧ m196.1 10 ≤ 8 := Tm196.1 10
                by_cases hf200 : (m196.1 10) = 0
                · skip
                  replace h197 : (m187.1 10) = 0 := h197 hf200
                  have c201 := c198 hf200
                  replace c201 : (0 : Int) ≠ 0 := c201
                  clear c198
                  clear g190 h197
                  refine T_ld 198 (.int (i32 ((m.2 81) jj))) rfl (fun _ => rfl) ?_
                  refine T_gf 202 (.int (i32 (m.1 69))) rfl rfl rfl rfl (mfv_c (F := fun x => .int (i32 x)) rfl (show (m196.1 69) = (m.1 69) from ((fr1 Fm196 69 rfl).trans ((fr1 Fm187 69 rfl).trans (fr1 Fm135 69 rfl))))) rfl ?_
                  refine T_iadd 203 rfl rfl ?_
                  refine T_sto 204 [(2, .int (i32 (((m.2 81) jj) + (m.1 69)))), (5, .int (i32 (m.1 69))), (4, .int (i32 ((m.2 80) jj))), (3, .int (i32 ((m.2 82) jj))), (0, .ref 189), (1, .int (i32 jj))] rfl (fun _ => rfl) ?_
                  refine T_goto 261 rfl (fun _ => rfl) ?_
                  refine Tm_lv (a := [(0, .ref 189), (1, .int (i32 jj)), (2, .int (i32 (((m.2 81) jj) + (m.1 69)))), (3, .int (i32 ((m.2 82) jj))), (4, .int (i32 ((m.2 80) jj))), (5, .int (i32 (m.1 69)))]) rfl rfl ⟨rfl, rfl, rfl, rfl, rfl, rfl, trivial⟩ ?_
                  exact J261_10 (((m.2 81) jj) + (m.1 69)) (mO m196 [] []) (r32 (by omega) (by omega)) Tm196 (fr_m (fr_s Fm196 (fr_m (fr_s Fm187 (fr_m (fr_s Fm135 (fr_m fr_0 rfl rfl) rfl rfl) rfl rfl) rfl rfl) rfl rfl) rfl rfl) rfl rfl) (show 0 ≤ (((m.2 81) jj) + (m.1 69)) ∧ (((m.2 81) jj) + (m.1 69)) ≤ (m.1 69) + 64 by omega) (fun _ => (show (((m.2 81) jj) + (m.1 69)) ≤ 64 by omega))
                · skip
                  clear c198
                  clear h197
                  have hf202 : 1 ≤ (m196.1 10) := by omega
                  clear g190
                  refine T_ld 198 (.int (i32 ((m.2 81) jj))) rfl (fun _ => rfl) ?_
                  refine T_gf 202 (.int (i32 (m.1 69))) rfl rfl rfl rfl (mfv_c (F := fun x => .int (i32 x)) rfl (show (m196.1 69) = (m.1 69) from ((fr1 Fm196 69 rfl).trans ((fr1 Fm187 69 rfl).trans (fr1 Fm135 69 rfl))))) rfl ?_
                  refine T_iadd 203 rfl rfl ?_
                  refine T_sto 204 [(2, .int (i32 (((m.2 81) jj) + (m.1 69)))), (5, .int (i32 (m.1 69))), (4, .int (i32 ((m.2 80) jj))), (3, .int (i32 ((m.2 82) jj))), (0, .ref 189), (1, .int (i32 jj))] rfl (fun _ => rfl) ?_
                  refine T_goto 261 rfl (fun _ => rfl) ?_
                  refine Tm_lv (a := [(0, .ref 189), (1, .int (i32 jj)), (2, .int (i32 (((m.2 81) jj) + (m.1 69)))), (3, .int (i32 ((m.2 82) jj))), (4, .int (i32 ((m.2 80) jj))), (5, .int (i32 (m.1 69)))]) rfl rfl ⟨rfl, rfl, rfl, rfl, rfl, rfl, trivial⟩ ?_
                  exact J261_10 (((m.2 81) jj) + (m.1 69)) (mO m196 [] []) (r32 (by omega) (by omega)) Tm196 (fr_m (fr_s Fm196 (fr_m (fr_s Fm187 (fr_m (fr_s Fm135 (fr_m fr_0 rfl rfl) rfl rfl) rfl rfl) rfl rfl) rfl rfl) rfl rfl) rfl rfl) (show 0 ≤ (((m.2 81) jj) + (m.1 69)) ∧ (((m.2 81) jj) + (m.1 69)) ≤ (m.1 69) + 64 by omega) (fun (h : (m196.1 10) = 0) => absurd h (by omega))
              · skip
                refine T_ld 186 (.int (i32 1)) rfl (fun _ => rfl) ?_
                refine T_goto 190 rfl (fun _ => rfl) ?_
                refine T_gf 194 (.int (i32 (m.1 70))) rfl rfl rfl rfl (mfv_c (F := fun x => .int (i32 x)) rfl (show (m187.1 70) = (m.1 70) from ((fr1 Fm187 70 rfl).trans (fr1 Fm135 70 rfl)))) rfl ?_
                refine T_call 197 256 [.ref 189, .int (i32 1), .int (i32 (m.1 70))] [] rfl (fun _ => rfl) rfl (c_want w (mO m187 [] []) c N D (by omega) Tm187 1 (m.1 70) ⟨by decide, by decide⟩ (r32 (by omega) (by omega)) (show 0 ≤ (m.1 70) ∧ (m.1 70) ≤ 4000 by omega) (fun _ => trivial)) (fun rr203 k204 => ?_)
                obtain ⟨m205, Tm205, Fm205, h206, c207, rfl⟩ := k204
                refine ⟨_, _, rfl, ?_⟩
                refine T_nb (st' := []) rfl ?_
                have g208 : 0 ≤ m205.1 10 ∧ m205.1 10 ≤ 8 := Tm205.1 10
                by_cases hf209 : (m205.1 10) = 0
                · skip
                  replace h206 : (m187.1 10) = 0 := h206 hf209
                  have c210 := c207 hf209
                  replace c210 : (1 : Int) ≠ 0 := c210
                  clear c207
                  clear g190 h206
                  refine T_ld 198 (.int (i32 ((m.2 81) jj))) rfl (fun _ => rfl) ?_
                  refine T_gf 202 (.int (i32 (m.1 69))) rfl rfl rfl rfl (mfv_c (F := fun x => .int (i32 x)) rfl (show (m205.1 69) = (m.1 69) from ((fr1 Fm205 69 rfl).trans ((fr1 Fm187 69 rfl).trans (fr1 Fm135 69 rfl))))) rfl ?_
                  refine T_iadd 203 rfl rfl ?_
                  refine T_sto 204 [(2, .int (i32 (((m.2 81) jj) + (m.1 69)))), (5, .int (i32 (m.1 69))), (4, .int (i32 ((m.2 80) jj))), (3, .int (i32 ((m.2 82) jj))), (0, .ref 189), (1, .int (i32 jj))] rfl (fun _ => rfl) ?_
                  refine T_goto 261 rfl (fun _ => rfl) ?_
                  refine Tm_lv (a := [(0, .ref 189), (1, .int (i32 jj)), (2, .int (i32 (((m.2 81) jj) + (m.1 69)))), (3, .int (i32 ((m.2 82) jj))), (4, .int (i32 ((m.2 80) jj))), (5, .int (i32 (m.1 69)))]) rfl rfl ⟨rfl, rfl, rfl, rfl, rfl, rfl, trivial⟩ ?_
                  exact J261_10 (((m.2 81) jj) + (m.1 69)) (mO m205 [] []) (r32 (by omega) (by omega)) Tm205 (fr_m (fr_s Fm205 (fr_m (fr_s Fm187 (fr_m (fr_s Fm135 (fr_m fr_0 rfl rfl) rfl rfl) rfl rfl) rfl rfl) rfl rfl) rfl rfl) rfl rfl) (show 0 ≤ (((m.2 81) jj) + (m.1 69)) ∧ (((m.2 81) jj) + (m.1 69)) ≤ (m.1 69) + 64 by omega) (fun _ => (show (((m.2 81) jj) + (m.1 69)) ≤ 64 by omega))
                · skip
                  clear c207
                  clear h206
                  have hf211 : 1 ≤ (m205.1 10) := by omega
                  clear g190
                  refine T_ld 198 (.int (i32 ((m.2 81) jj))) rfl (fun _ => rfl) ?_
                  refine T_gf 202 (.int (i32 (m.1 69))) rfl rfl rfl rfl (mfv_c (F := fun x => .int (i32 x)) rfl (show (m205.1 69) = (m.1 69) from ((fr1 Fm205 69 rfl).trans ((fr1 Fm187 69 rfl).trans (fr1 Fm135 69 rfl))))) rfl ?_
                  refine T_iadd 203 rfl rfl ?_
                  refine T_sto 204 [(2, .int (i32 (((m.2 81) jj) + (m.1 69)))), (5, .int (i32 (m.1 69))), (4, .int (i32 ((m.2 80) jj))), (3, .int (i32 ((m.2 82) jj))), (0, .ref 189), (1, .int (i32 jj))] rfl (fun _ => rfl) ?_
                  refine T_goto 261 rfl (fun _ => rfl) ?_
                  refine Tm_lv (a := [(0, .ref 189), (1, .int (i32 jj)), (2, .int (i32 (((m.2 81) jj) + (m.1 69)))), (3, .int (i32 ((m.2 82) jj))), (4, .int (i32 ((m.2 80) jj))), (5, .int (i32 (m.1 69)))]) rfl rfl ⟨rfl, rfl, rfl, rfl, rfl, rfl, trivial⟩ ?_
                  exact J261_10 (((m.2 81) jj) + (m.1 69)) (mO m205 [] []) (r32 (by omega) (by omega)) Tm205 (fr_m (fr_s Fm205 (fr_m (fr_s Fm187 (fr_m (fr_s Fm135 (fr_m fr_0 rfl rfl) rfl rfl) rfl rfl) rfl rfl) rfl rfl) rfl rfl) rfl rfl) (show 0 ≤ (((m.2 81) jj) + (m.1 69)) ∧ (((m.2 81) jj) + (m.1 69)) ≤ (m.1 69) + 64 by omega) (fun (h : (m205.1 10) = 0) => absurd h (by omega))
            · skip
              clear c189
              clear h188
              have hf212 : 1 ≤ (m187.1 10) := by omega
              clear g138
              refine T_ld 174 (.ref 189) rfl (fun _ => rfl) ?_
              refine T_ld 175 (.int (i32 ((m.2 81) jj))) rfl (fun _ => rfl) ?_
              refine T_gf 179 (.int (i32 (m.1 69))) rfl rfl rfl rfl (mfv_c (F := fun x => .int (i32 x)) rfl (show (m187.1 69) = (m.1 69) from ((fr1 Fm187 69 rfl).trans (fr1 Fm135 69 rfl)))) rfl ?_
              refine T_iadd 180 rfl rfl ?_
              refine T_ld 182 (.int (i32 64)) rfl (fun _ => rfl) ?_
              refine T_icmp 189 185 rfl rfl rfl (r32 (by omega) (by omega)) ⟨by decide, by decide⟩ (fun (h213 : (64 : Int) < ((m.2 81) jj) + (m.1 69)) => ?_) (fun (h213 : ¬ ((64 : Int) < ((m.2 81) jj) + (m.1 69))) => ?_)
              · skip
                refine T_ld 190 (.int (i32 0)) rfl (fun _ => rfl) ?_
                refine T_gf 194 (.int (i32 (m.1 70))) rfl rfl rfl rfl (mfv_c (F := fun x => .int (i32 x)) rfl (show (m187.1 70) = (m.1 70) from ((fr1 Fm187 70 rfl).trans (fr1 Fm135 70 rfl)))) rfl ?_
                refine T_call 197 256 [.ref 189, .int (i32 0), .int (i32 (m.1 70))] [] rfl (fun _ => rfl) rfl (c_want w (mO m187 [] []) c N D (by omega) Tm187 0 (m.1 70) ⟨by decide, by decide⟩ (r32 (by omega) (by omega)) (show 0 ≤ (m.1 70) ∧ (m.1 70) ≤ 4000 by omega) (fun (h : (m187.1 10) = 0) => absurd h (by omega))) (fun rr214 k215 => ?_)
                obtain ⟨m216, Tm216, Fm216, h217, c218, rfl⟩ := k215
                refine ⟨_, _, rfl, ?_⟩
                refine T_nb (st' := []) rfl ?_
                have g219 : 0 ≤ m216.1 10 ∧ m216.1 10 ≤ 8 := Tm216.1 10
                replace h217 : (m216.1 10) = 0 → (m187.1 10) = 0 := h217
                have hf220 : 1 ≤ (m216.1 10) := by omega
                clear c218
                clear h217
                clear g190 hf212
                refine T_ld 198 (.int (i32 ((m.2 81) jj))) rfl (fun _ => rfl) ?_
                refine T_gf 202 (.int (i32 (m.1 69))) rfl rfl rfl rfl (mfv_c (F := fun x => .int (i32 x)) rfl (show (m216.1 69) = (m.1 69) from ((fr1 Fm216 69 rfl).trans ((fr1 Fm187 69 rfl).trans (fr1 Fm135 69 rfl))))) rfl ?_
                refine T_iadd 203 rfl rfl ?_
                refine T_sto 204 [(2, .int (i32 (((m.2 81) jj) + (m.1 69)))), (5, .int (i32 (m.1 69))), (4, .int (i32 ((m.2 80) jj))), (3, .int (i32 ((m.2 82) jj))), (0, .ref 189), (1, .int (i32 jj))] rfl (fun _ => rfl) ?_
                refine T_goto 261 rfl (fun _ => rfl) ?_
                refine Tm_lv (a := [(0, .ref 189), (1, .int (i32 jj)), (2, .int (i32 (((m.2 81) jj) + (m.1 69)))), (3, .int (i32 ((m.2 82) jj))), (4, .int (i32 ((m.2 80) jj))), (5, .int (i32 (m.1 69)))]) rfl rfl ⟨rfl, rfl, rfl, rfl, rfl, rfl, trivial⟩ ?_
                exact J261_10 (((m.2 81) jj) + (m.1 69)) (mO m216 [] []) (r32 (by omega) (by omega)) Tm216 (fr_m (fr_s Fm216 (fr_m (fr_s Fm187 (fr_m (fr_s Fm135 (fr_m fr_0 rfl rfl) rfl rfl) rfl rfl) rfl rfl) rfl rfl) rfl rfl) rfl rfl) (show 0 ≤ (((m.2 81) jj) + (m.1 69)) ∧ (((m.2 81) jj) + (m.1 69)) ≤ (m.1 69) + 64 by omega) (fun (h : (m216.1 10) = 0) => absurd h (by omega))
              · skip
                refine T_ld 186 (.int (i32 1)) rfl (fun _ => rfl) ?_
                refine T_goto 190 rfl (fun _ => rfl) ?_
                refine T_gf 194 (.int (i32 (m.1 70))) rfl rfl rfl rfl (mfv_c (F := fun x => .int (i32 x)) rfl (show (m187.1 70) = (m.1 70) from ((fr1 Fm187 70 rfl).trans (fr1 Fm135 70 rfl)))) rfl ?_
                refine T_call 197 256 [.ref 189, .int (i32 1), .int (i32 (m.1 70))] [] rfl (fun _ => rfl) rfl (c_want w (mO m187 [] []) c N D (by omega) Tm187 1 (m.1 70) ⟨by decide, by decide⟩ (r32 (by omega) (by omega)) (show 0 ≤ (m.1 70) ∧ (m.1 70) ≤ 4000 by omega) (fun (h : (m187.1 10) = 0) => absurd h (by omega))) (fun rr221 k222 => ?_)
                obtain ⟨m223, Tm223, Fm223, h224, c225, rfl⟩ := k222
                refine ⟨_, _, rfl, ?_⟩
                refine T_nb (st' := []) rfl ?_
                have g226 : 0 ≤ m223.1 10 ∧ m223.1 10 ≤ 8 := Tm223.1 10
                replace h224 : (m223.1 10) = 0 → (m187.1 10) = 0 := h224
                have hf227 : 1 ≤ (m223.1 10) := by omega
                clear c225
                clear h224
                clear g190 hf212
                refine T_ld 198 (.int (i32 ((m.2 81) jj))) rfl (fun _ => rfl) ?_
                refine T_gf 202 (.int (i32 (m.1 69))) rfl rfl rfl rfl (mfv_c (F := fun x => .int (i32 x)) rfl (show (m223.1 69) = (m.1 69) from ((fr1 Fm223 69 rfl).trans ((fr1 Fm187 69 rfl).trans (fr1 Fm135 69 rfl))))) rfl ?_
                refine T_iadd 203 rfl rfl ?_
                refine T_sto 204 [(2, .int (i32 (((m.2 81) jj) + (m.1 69)))), (5, .int (i32 (m.1 69))), (4, .int (i32 ((m.2 80) jj))), (3, .int (i32 ((m.2 82) jj))), (0, .ref 189), (1, .int (i32 jj))] rfl (fun _ => rfl) ?_
                refine T_goto 261 rfl (fun _ => rfl) ?_
                refine Tm_lv (a := [(0, .ref 189), (1, .int (i32 jj)), (2, .int (i32 (((m.2 81) jj) + (m.1 69)))), (3, .int (i32 ((m.2 82) jj))), (4, .int (i32 ((m.2 80) jj))), (5, .int (i32 (m.1 69)))]) rfl rfl ⟨rfl, rfl, rfl, rfl, rfl, rfl, trivial⟩ ?_
                exact J261_10 (((m.2 81) jj) + (m.1 69)) (mO m223 [] []) (r32 (by omega) (by omega)) Tm223 (fr_m (fr_s Fm223 (fr_m (fr_s Fm187 (fr_m (fr_s Fm135 (fr_m fr_0 rfl rfl) rfl rfl) rfl rfl) rfl rfl) rfl rfl) rfl rfl) rfl rfl) (show 0 ≤ (((m.2 81) jj) + (m.1 69)) ∧ (((m.2 81) jj) + (m.1 69)) ≤ (m.1 69) + 64 by omega) (fun (h : (m223.1 10) = 0) => absurd h (by omega))
        · skip
          clear c137
          clear h136
          have hf228 : 1 ≤ (m135.1 10) := by omega
          clear g69a g69b h70
          refine T_ld 154 (.ref 189) rfl (fun _ => rfl) ?_
          refine T_gf 158 (.int (i32 (m.1 71))) rfl rfl rfl rfl (mfv_c (F := fun x => .int (i32 x)) rfl (show (m135.1 71) = (m.1 71) from (fr1 Fm135 71 rfl))) rfl ?_
          refine T_if 165 161 rfl rfl rfl (r32 (by omega) (by omega)) (fun (h229 : (m.1 71) ≠ 0) => ?_) (fun (h229 : ¬ ((m.1 71) ≠ 0)) => ?_)
          · skip
            refine T_ld 166 (.int (i32 0)) rfl (fun _ => rfl) ?_
            refine T_gf 170 (.int (i32 (m.1 70))) rfl rfl rfl rfl (mfv_c (F := fun x => .int (i32 x)) rfl (show (m135.1 70) = (m.1 70) from (fr1 Fm135 70 rfl))) rfl ?_
            refine T_call 173 256 [.ref 189, .int (i32 0), .int (i32 (m.1 70))] [] rfl (fun _ => rfl) rfl (c_want w (mO m135 [] []) c N D (by omega) Tm135 0 (m.1 70) ⟨by decide, by decide⟩ (r32 (by omega) (by omega)) (show 0 ≤ (m.1 70) ∧ (m.1 70) ≤ 4000 by omega) (fun (h : (m135.1 10) = 0) => absurd h (by omega))) (fun rr230 k231 => ?_)
            obtain ⟨m232, Tm232, Fm232, h233, c234, rfl⟩ := k231
            refine ⟨_, _, rfl, ?_⟩
            refine T_nb (st' := []) rfl ?_
            have g235 : 0 ≤ m232.1 10 ∧ m232.1 10 ≤ 8 := Tm232.1 10
            replace h233 : (m232.1 10) = 0 → (m135.1 10) = 0 := h233
            have hf236 : 1 ≤ (m232.1 10) := by omega
            clear c234
            clear h233
            clear g138 hf228
            refine T_ld 174 (.ref 189) rfl (fun _ => rfl) ?_
            refine T_ld 175 (.int (i32 ((m.2 81) jj))) rfl (fun _ => rfl) ?_
            refine T_gf 179 (.int (i32 (m.1 69))) rfl rfl rfl rfl (mfv_c (F := fun x => .int (i32 x)) rfl (show (m232.1 69) = (m.1 69) from ((fr1 Fm232 69 rfl).trans (fr1 Fm135 69 rfl)))) rfl ?_
            refine T_iadd 180 rfl rfl ?_
            refine T_ld 182 (.int (i32 64)) rfl (fun _ => rfl) ?_
            refine T_icmp 189 185 rfl rfl rfl (r32 (by omega) (by omega)) ⟨by decide, by decide⟩ (fun (h237 : (64 : Int) < ((m.2 81) jj) + (m.1 69)) => ?_) (fun (h237 : ¬ ((64 : Int) < ((m.2 81) jj) + (m.1 69))) => ?_)
            · skip
              refine T_ld 190 (.int (i32 0)) rfl (fun _ => rfl) ?_
              refine T_gf 194 (.int (i32 (m.1 70))) rfl rfl rfl rfl (mfv_c (F := fun x => .int (i32 x)) rfl (show (m232.1 70) = (m.1 70) from ((fr1 Fm232 70 rfl).trans (fr1 Fm135 70 rfl)))) rfl ?_
              refine T_call 197 256 [.ref 189, .int (i32 0), .int (i32 (m.1 70))] [] rfl (fun _ => rfl) rfl (c_want w (mO m232 [] []) c N D (by omega) Tm232 0 (m.1 70) ⟨by decide, by decide⟩ (r32 (by omega) (by omega)) (show 0 ≤ (m.1 70) ∧ (m.1 70) ≤ 4000 by omega) (fun (h : (m232.1 10) = 0) => absurd h (by omega))) (fun rr238 k239 => ?_)
              obtain ⟨m240, Tm240, Fm240, h241, c242, rfl⟩ := k239
              refine ⟨_, _, rfl, ?_⟩
              refine T_nb (st' := []) rfl ?_
              have g243 : 0 ≤ m240.1 10 ∧ m240.1 10 ≤ 8 := Tm240.1 10
              replace h241 : (m240.1 10) = 0 → (m232.1 10) = 0 := h241
              have hf244 : 1 ≤ (m240.1 10) := by omega
              clear c242
              clear h241
              clear g235 hf236
              refine T_ld 198 (.int (i32 ((m.2 81) jj))) rfl (fun _ => rfl) ?_
              refine T_gf 202 (.int (i32 (m.1 69))) rfl rfl rfl rfl (mfv_c (F := fun x => .int (i32 x)) rfl (show (m240.1 69) = (m.1 69) from ((fr1 Fm240 69 rfl).trans ((fr1 Fm232 69 rfl).trans (fr1 Fm135 69 rfl))))) rfl ?_
              refine T_iadd 203 rfl rfl ?_
              refine T_sto 204 [(2, .int (i32 (((m.2 81) jj) + (m.1 69)))), (5, .int (i32 (m.1 69))), (4, .int (i32 ((m.2 80) jj))), (3, .int (i32 ((m.2 82) jj))), (0, .ref 189), (1, .int (i32 jj))] rfl (fun _ => rfl) ?_
              refine T_goto 261 rfl (fun _ => rfl) ?_
              refine Tm_lv (a := [(0, .ref 189), (1, .int (i32 jj)), (2, .int (i32 (((m.2 81) jj) + (m.1 69)))), (3, .int (i32 ((m.2 82) jj))), (4, .int (i32 ((m.2 80) jj))), (5, .int (i32 (m.1 69)))]) rfl rfl ⟨rfl, rfl, rfl, rfl, rfl, rfl, trivial⟩ ?_
              exact J261_10 (((m.2 81) jj) + (m.1 69)) (mO m240 [] []) (r32 (by omega) (by omega)) Tm240 (fr_m (fr_s Fm240 (fr_m (fr_s Fm232 (fr_m (fr_s Fm135 (fr_m fr_0 rfl rfl) rfl rfl) rfl rfl) rfl rfl) rfl rfl) rfl rfl) rfl rfl) (show 0 ≤ (((m.2 81) jj) + (m.1 69)) ∧ (((m.2 81) jj) + (m.1 69)) ≤ (m.1 69) + 64 by omega) (fun (h : (m240.1 10) = 0) => absurd h (by omega))
            · skip
              refine T_ld 186 (.int (i32 1)) rfl (fun _ => rfl) ?_
              refine T_goto 190 rfl (fun _ => rfl) ?_
              refine T_gf 194 (.int (i32 (m.1 70))) rfl rfl rfl rfl (mfv_c (F := fun x => .int (i32 x)) rfl (show (m232.1 70) = (m.1 70) from ((fr1 Fm232 70 rfl).trans (fr1 Fm135 70 rfl)))) rfl ?_
              refine T_call 197 256 [.ref 189, .int (i32 1), .int (i32 (m.1 70))] [] rfl (fun _ => rfl) rfl (c_want w (mO m232 [] []) c N D (by omega) Tm232 1 (m.1 70) ⟨by decide, by decide⟩ (r32 (by omega) (by omega)) (show 0 ≤ (m.1 70) ∧ (m.1 70) ≤ 4000 by omega) (fun (h : (m232.1 10) = 0) => absurd h (by omega))) (fun rr245 k246 => ?_)
              obtain ⟨m247, Tm247, Fm247, h248, c249, rfl⟩ := k246
              refine ⟨_, _, rfl, ?_⟩
              refine T_nb (st' := []) rfl ?_
              have g250 : 0 ≤ m247.1 10 ∧ m247.1 10 ≤ 8 := Tm247.1 10
              replace h248 : (m247.1 10) = 0 → (m232.1 10) = 0 := h248
              have hf251 : 1 ≤ (m247.1 10) := by omega
              clear c249
              clear h248
              clear g235 hf236
              refine T_ld 198 (.int (i32 ((m.2 81) jj))) rfl (fun _ => rfl) ?_
              refine T_gf 202 (.int (i32 (m.1 69))) rfl rfl rfl rfl (mfv_c (F := fun x => .int (i32 x)) rfl (show (m247.1 69) = (m.1 69) from ((fr1 Fm247 69 rfl).trans ((fr1 Fm232 69 rfl).trans (fr1 Fm135 69 rfl))))) rfl ?_
              refine T_iadd 203 rfl rfl ?_
              refine T_sto 204 [(2, .int (i32 (((m.2 81) jj) + (m.1 69)))), (5, .int (i32 (m.1 69))), (4, .int (i32 ((m.2 80) jj))), (3, .int (i32 ((m.2 82) jj))), (0, .ref 189), (1, .int (i32 jj))] rfl (fun _ => rfl) ?_
              refine T_goto 261 rfl (fun _ => rfl) ?_
              refine Tm_lv (a := [(0, .ref 189), (1, .int (i32 jj)), (2, .int (i32 (((m.2 81) jj) + (m.1 69)))), (3, .int (i32 ((m.2 82) jj))), (4, .int (i32 ((m.2 80) jj))), (5, .int (i32 (m.1 69)))]) rfl rfl ⟨rfl, rfl, rfl, rfl, rfl, rfl, trivial⟩ ?_
              exact J261_10 (((m.2 81) jj) + (m.1 69)) (mO m247 [] []) (r32 (by omega) (by omega)) Tm247 (fr_m (fr_s Fm247 (fr_m (fr_s Fm232 (fr_m (fr_s Fm135 (fr_m fr_0 rfl rfl) rfl rfl) rfl rfl) rfl rfl) rfl rfl) rfl rfl) rfl rfl) (show 0 ≤ (((m.2 81) jj) + (m.1 69)) ∧ (((m.2 81) jj) + (m.1 69)) ≤ (m.1 69) + 64 by omega) (fun (h : (m247.1 10) = 0) => absurd h (by omega))
          · skip
            refine T_ld 162 (.int (i32 1)) rfl (fun _ => rfl) ?_
            refine T_goto 166 rfl (fun _ => rfl) ?_
            refine T_gf 170 (.int (i32 (m.1 70))) rfl rfl rfl rfl (mfv_c (F := fun x => .int (i32 x)) rfl (show (m135.1 70) = (m.1 70) from (fr1 Fm135 70 rfl))) rfl ?_
            refine T_call 173 256 [.ref 189, .int (i32 1), .int (i32 (m.1 70))] [] rfl (fun _ => rfl) rfl (c_want w (mO m135 [] []) c N D (by omega) Tm135 1 (m.1 70) ⟨by decide, by decide⟩ (r32 (by omega) (by omega)) (show 0 ≤ (m.1 70) ∧ (m.1 70) ≤ 4000 by omega) (fun (h : (m135.1 10) = 0) => absurd h (by omega))) (fun rr252 k253 => ?_)
            obtain ⟨m254, Tm254, Fm254, h255, c256, rfl⟩ := k253
            refine ⟨_, _, rfl, ?_⟩
            refine T_nb (st' := []) rfl ?_
            have g257 : 0 ≤ m254.1 10 ∧ m254.1 10 ≤ 8 := Tm254.1 10
            replace h255 : (m254.1 10) = 0 → (m135.1 10) = 0 := h255
            have hf258 : 1 ≤ (m254.1 10) := by omega
            clear c256
            clear h255
            clear g138 hf228
            refine T_ld 174 (.ref 189) rfl (fun _ => rfl) ?_
            refine T_ld 175 (.int (i32 ((m.2 81) jj))) rfl (fun _ => rfl) ?_
            refine T_gf 179 (.int (i32 (m.1 69))) rfl rfl rfl rfl (mfv_c (F := fun x => .int (i32 x)) rfl (show (m254.1 69) = (m.1 69) from ((fr1 Fm254 69 rfl).trans (fr1 Fm135 69 rfl)))) rfl ?_
            refine T_iadd 180 rfl rfl ?_
            refine T_ld 182 (.int (i32 64)) rfl (fun _ => rfl) ?_
            refine T_icmp 189 185 rfl rfl rfl (r32 (by omega) (by omega)) ⟨by decide, by decide⟩ (fun (h259 : (64 : Int) < ((m.2 81) jj) + (m.1 69)) => ?_) (fun (h259 : ¬ ((64 : Int) < ((m.2 81) jj) + (m.1 69))) => ?_)
            · skip
              refine T_ld 190 (.int (i32 0)) rfl (fun _ => rfl) ?_
              refine T_gf 194 (.int (i32 (m.1 70))) rfl rfl rfl rfl (mfv_c (F := fun x => .int (i32 x)) rfl (show (m254.1 70) = (m.1 70) from ((fr1 Fm254 70 rfl).trans (fr1 Fm135 70 rfl)))) rfl ?_
              refine T_call 197 256 [.ref 189, .int (i32 0), .int (i32 (m.1 70))] [] rfl (fun _ => rfl) rfl (c_want w (mO m254 [] []) c N D (by omega) Tm254 0 (m.1 70) ⟨by decide, by decide⟩ (r32 (by omega) (by omega)) (show 0 ≤ (m.1 70) ∧ (m.1 70) ≤ 4000 by omega) (fun (h : (m254.1 10) = 0) => absurd h (by omega))) (fun rr260 k261 => ?_)
              obtain ⟨m262, Tm262, Fm262, h263, c264, rfl⟩ := k261
              refine ⟨_, _, rfl, ?_⟩
              refine T_nb (st' := []) rfl ?_
              have g265 : 0 ≤ m262.1 10 ∧ m262.1 10 ≤ 8 := Tm262.1 10
              replace h263 : (m262.1 10) = 0 → (m254.1 10) = 0 := h263
              have hf266 : 1 ≤ (m262.1 10) := by omega
              clear c264
              clear h263
              clear g257 hf258
              refine T_ld 198 (.int (i32 ((m.2 81) jj))) rfl (fun _ => rfl) ?_
              refine T_gf 202 (.int (i32 (m.1 69))) rfl rfl rfl rfl (mfv_c (F := fun x => .int (i32 x)) rfl (show (m262.1 69) = (m.1 69) from ((fr1 Fm262 69 rfl).trans ((fr1 Fm254 69 rfl).trans (fr1 Fm135 69 rfl))))) rfl ?_
              refine T_iadd 203 rfl rfl ?_
              refine T_sto 204 [(2, .int (i32 (((m.2 81) jj) + (m.1 69)))), (5, .int (i32 (m.1 69))), (4, .int (i32 ((m.2 80) jj))), (3, .int (i32 ((m.2 82) jj))), (0, .ref 189), (1, .int (i32 jj))] rfl (fun _ => rfl) ?_
              refine T_goto 261 rfl (fun _ => rfl) ?_
              refine Tm_lv (a := [(0, .ref 189), (1, .int (i32 jj)), (2, .int (i32 (((m.2 81) jj) + (m.1 69)))), (3, .int (i32 ((m.2 82) jj))), (4, .int (i32 ((m.2 80) jj))), (5, .int (i32 (m.1 69)))]) rfl rfl ⟨rfl, rfl, rfl, rfl, rfl, rfl, trivial⟩ ?_
              exact J261_10 (((m.2 81) jj) + (m.1 69)) (mO m262 [] []) (r32 (by omega) (by omega)) Tm262 (fr_m (fr_s Fm262 (fr_m (fr_s Fm254 (fr_m (fr_s Fm135 (fr_m fr_0 rfl rfl) rfl rfl) rfl rfl) rfl rfl) rfl rfl) rfl rfl) rfl rfl) (show 0 ≤ (((m.2 81) jj) + (m.1 69)) ∧ (((m.2 81) jj) + (m.1 69)) ≤ (m.1 69) + 64 by omega) (fun (h : (m262.1 10) = 0) => absurd h (by omega))
            · skip
              refine T_ld 186 (.int (i32 1)) rfl (fun _ => rfl) ?_
              refine T_goto 190 rfl (fun _ => rfl) ?_
              refine T_gf 194 (.int (i32 (m.1 70))) rfl rfl rfl rfl (mfv_c (F := fun x => .int (i32 x)) rfl (show (m254.1 70) = (m.1 70) from ((fr1 Fm254 70 rfl).trans (fr1 Fm135 70 rfl)))) rfl ?_
              refine T_call 197 256 [.ref 189, .int (i32 1), .int (i32 (m.1 70))] [] rfl (fun _ => rfl) rfl (c_want w (mO m254 [] []) c N D (by omega) Tm254 1 (m.1 70) ⟨by decide, by decide⟩ (r32 (by omega) (by omega)) (show 0 ≤ (m.1 70) ∧ (m.1 70) ≤ 4000 by omega) (fun (h : (m254.1 10) = 0) => absurd h (by omega))) (fun rr267 k268 => ?_)
              obtain ⟨m269, Tm269, Fm269, h270, c271, rfl⟩ := k268
              refine ⟨_, _, rfl, ?_⟩
              refine T_nb (st' := []) rfl ?_
              have g272 : 0 ≤ m269.1 10 ∧ m269.1 10 ≤ 8 := Tm269.1 10
              replace h270 : (m269.1 10) = 0 → (m254.1 10) = 0 := h270
              have hf273 : 1 ≤ (m269.1 10) := by omega
              clear c271
              clear h270
              clear g257 hf258
              refine T_ld 198 (.int (i32 ((m.2 81) jj))) rfl (fun _ => rfl) ?_
              refine T_gf 202 (.int (i32 (m.1 69))) rfl rfl rfl rfl (mfv_c (F := fun x => .int (i32 x)) rfl (show (m269.1 69) = (m.1 69) from ((fr1 Fm269 69 rfl).trans ((fr1 Fm254 69 rfl).trans (fr1 Fm135 69 rfl))))) rfl ?_
              refine T_iadd 203 rfl rfl ?_
              refine T_sto 204 [(2, .int (i32 (((m.2 81) jj) + (m.1 69)))), (5, .int (i32 (m.1 69))), (4, .int (i32 ((m.2 80) jj))), (3, .int (i32 ((m.2 82) jj))), (0, .ref 189), (1, .int (i32 jj))] rfl (fun _ => rfl) ?_
              refine T_goto 261 rfl (fun _ => rfl) ?_
              refine Tm_lv (a := [(0, .ref 189), (1, .int (i32 jj)), (2, .int (i32 (((m.2 81) jj) + (m.1 69)))), (3, .int (i32 ((m.2 82) jj))), (4, .int (i32 ((m.2 80) jj))), (5, .int (i32 (m.1 69)))]) rfl rfl ⟨rfl, rfl, rfl, rfl, rfl, rfl, trivial⟩ ?_
              exact J261_10 (((m.2 81) jj) + (m.1 69)) (mO m269 [] []) (r32 (by omega) (by omega)) Tm269 (fr_m (fr_s Fm269 (fr_m (fr_s Fm254 (fr_m (fr_s Fm135 (fr_m fr_0 rfl rfl) rfl rfl) rfl rfl) rfl rfl) rfl rfl) rfl rfl) rfl rfl) (show 0 ≤ (((m.2 81) jj) + (m.1 69)) ∧ (((m.2 81) jj) + (m.1 69)) ≤ (m.1 69) + 64 by omega) (fun (h : (m269.1 10) = 0) => absurd h (by omega))
      · skip
        refine T_ld 145 (.int (i32 1)) rfl (fun _ => rfl) ?_
        refine T_goto 149 rfl (fun _ => rfl) ?_
        refine T_ld 150 (.int (i32 ((m.2 82) jj))) rfl (fun _ => rfl) ?_
        refine T_call 153 256 [.ref 189, .int (i32 1), .int (i32 ((m.2 82) jj))] [] rfl (fun _ => rfl) rfl (c_want w (mO m [] []) c N D (by omega) hT 1 ((m.2 82) jj) ⟨by decide, by decide⟩ (r32 (by omega) (by omega)) (show 0 ≤ ((m.2 82) jj) ∧ ((m.2 82) jj) ≤ 4000 by omega) (fun _ => trivial)) (fun rr274 k275 => ?_)
        obtain ⟨m276, Tm276, Fm276, h277, c278, rfl⟩ := k275
        refine ⟨_, _, rfl, ?_⟩
        refine T_nb (st' := []) rfl ?_
        have g279 : 0 ≤ m276.1 10 ∧ m276.1 10 ≤ 8 := Tm276.1 10
        by_cases hf280 : (m276.1 10) = 0
        · skip
          replace h277 : (m.1 10) = 0 := h277 hf280
          have c281 := c278 hf280
          replace c281 : (1 : Int) ≠ 0 := c281
          clear c278
          clear g69a g69b h70
          refine T_ld 154 (.ref 189) rfl (fun _ => rfl) ?_
          refine T_gf 158 (.int (i32 (m.1 71))) rfl rfl rfl rfl (mfv_c (F := fun x => .int (i32 x)) rfl (show (m276.1 71) = (m.1 71) from (fr1 Fm276 71 rfl))) rfl ?_
          refine T_if 165 161 rfl rfl rfl (r32 (by omega) (by omega)) (fun (h282 : (m.1 71) ≠ 0) => ?_) (fun (h282 : ¬ ((m.1 71) ≠ 0)) => ?_)
          · skip
            refine T_ld 166 (.int (i32 0)) rfl (fun _ => rfl) ?_
            refine T_gf 170 (.int (i32 (m.1 70))) rfl rfl rfl rfl (mfv_c (F := fun x => .int (i32 x)) rfl (show (m276.1 70) = (m.1 70) from (fr1 Fm276 70 rfl))) rfl ?_
            refine T_call 173 256 [.ref 189, .int (i32 0), .int (i32 (m.1 70))] [] rfl (fun _ => rfl) rfl (c_want w (mO m276 [] []) c N D (by omega) Tm276 0 (m.1 70) ⟨by decide, by decide⟩ (r32 (by omega) (by omega)) (show 0 ≤ (m.1 70) ∧ (m.1 70) ≤ 4000 by omega) (fun _ => trivial)) (fun rr283 k284 => ?_)
            obtain ⟨m285, Tm285, Fm285, h286, c287, rfl⟩ := k284
            refine ⟨_, _, rfl, ?_⟩
            refine T_nb (st' := []) rfl ?_
            have g288 : 0 ≤ m285.1 10 ∧ m285.1 10 ≤ 8 := Tm285.1 10
            by_cases hf289 : (m285.1 10) = 0
            · skip
              replace h286 : (m276.1 10) = 0 := h286 hf289
              have c290 := c287 hf289
              replace c290 : (0 : Int) ≠ 0 := c290
              clear c287
              clear g279 h286
              refine T_ld 174 (.ref 189) rfl (fun _ => rfl) ?_
              refine T_ld 175 (.int (i32 ((m.2 81) jj))) rfl (fun _ => rfl) ?_
              refine T_gf 179 (.int (i32 (m.1 69))) rfl rfl rfl rfl (mfv_c (F := fun x => .int (i32 x)) rfl (show (m285.1 69) = (m.1 69) from ((fr1 Fm285 69 rfl).trans (fr1 Fm276 69 rfl)))) rfl ?_
              refine T_iadd 180 rfl rfl ?_
              refine T_ld 182 (.int (i32 64)) rfl (fun _ => rfl) ?_
              refine T_icmp 189 185 rfl rfl rfl (r32 (by omega) (by omega)) ⟨by decide, by decide⟩ (fun (h291 : (64 : Int) < ((m.2 81) jj) + (m.1 69)) => ?_) (fun (h291 : ¬ ((64 : Int) < ((m.2 81) jj) + (m.1 69))) => ?_)
              · skip
                refine T_ld 190 (.int (i32 0)) rfl (fun _ => rfl) ?_
                refine T_gf 194 (.int (i32 (m.1 70))) rfl rfl rfl rfl (mfv_c (F := fun x => .int (i32 x)) rfl (show (m285.1 70) = (m.1 70) from ((fr1 Fm285 70 rfl).trans (fr1 Fm276 70 rfl)))) rfl ?_
                refine T_call 197 256 [.ref 189, .int (i32 0), .int (i32 (m.1 70))] [] rfl (fun _ => rfl) rfl (c_want w (mO m285 [] []) c N D (by omega) Tm285 0 (m.1 70) ⟨by decide, by decide⟩ (r32 (by omega) (by omega)) (show 0 ≤ (m.1 70) ∧ (m.1 70) ≤ 4000 by omega) (fun _ => trivial)) (fun rr292 k293 => ?_)
                obtain ⟨m294, Tm294, Fm294, h295, c296, rfl⟩ := k293
                refine ⟨_, _, rfl, ?_⟩
                refine T_nb (st' := []) rfl ?_
                have g297 : 0 ≤ m294.1 10 ∧ m294.1 10 ≤ 8 := Tm294.1 10
                by_cases hf298 : (m294.1 10) = 0
                · skip
                  replace h295 : (m285.1 10) = 0 := h295 hf298
                  have c299 := c296 hf298
                  replace c299 : (0 : Int) ≠ 0 := c299
                  clear c296
                  clear g288 h295
                  refine T_ld 198 (.int (i32 ((m.2 81) jj))) rfl (fun _ => rfl) ?_
                  refine T_gf 202 (.int (i32 (m.1 69))) rfl rfl rfl rfl (mfv_c (F := fun x => .int (i32 x)) rfl (show (m294.1 69) = (m.1 69) from ((fr1 Fm294 69 rfl).trans ((fr1 Fm285 69 rfl).trans (fr1 Fm276 69 rfl))))) rfl ?_
                  refine T_iadd 203 rfl rfl ?_
                  refine T_sto 204 [(2, .int (i32 (((m.2 81) jj) + (m.1 69)))), (5, .int (i32 (m.1 69))), (4, .int (i32 ((m.2 80) jj))), (3, .int (i32 ((m.2 82) jj))), (0, .ref 189), (1, .int (i32 jj))] rfl (fun _ => rfl) ?_
                  refine T_goto 261 rfl (fun _ => rfl) ?_
                  refine Tm_lv (a := [(0, .ref 189), (1, .int (i32 jj)), (2, .int (i32 (((m.2 81) jj) + (m.1 69)))), (3, .int (i32 ((m.2 82) jj))), (4, .int (i32 ((m.2 80) jj))), (5, .int (i32 (m.1 69)))]) rfl rfl ⟨rfl, rfl, rfl, rfl, rfl, rfl, trivial⟩ ?_
                  exact J261_10 (((m.2 81) jj) + (m.1 69)) (mO m294 [] []) (r32 (by omega) (by omega)) Tm294 (fr_m (fr_s Fm294 (fr_m (fr_s Fm285 (fr_m (fr_s Fm276 (fr_m fr_0 rfl rfl) rfl rfl) rfl rfl) rfl rfl) rfl rfl) rfl rfl) rfl rfl) (show 0 ≤ (((m.2 81) jj) + (m.1 69)) ∧ (((m.2 81) jj) + (m.1 69)) ≤ (m.1 69) + 64 by omega) (fun _ => (show (((m.2 81) jj) + (m.1 69)) ≤ 64 by omega))
                · skip
                  clear c296
                  clear h295
                  have hf300 : 1 ≤ (m294.1 10) := by omega
                  clear g288
                  refine T_ld 198 (.int (i32 ((m.2 81) jj))) rfl (fun _ => rfl) ?_
                  refine T_gf 202 (.int (i32 (m.1 69))) rfl rfl rfl rfl (mfv_c (F := fun x => .int (i32 x)) rfl (show (m294.1 69) = (m.1 69) from ((fr1 Fm294 69 rfl).trans ((fr1 Fm285 69 rfl).trans (fr1 Fm276 69 rfl))))) rfl ?_
                  refine T_iadd 203 rfl rfl ?_
                  refine T_sto 204 [(2, .int (i32 (((m.2 81) jj) + (m.1 69)))), (5, .int (i32 (m.1 69))), (4, .int (i32 ((m.2 80) jj))), (3, .int (i32 ((m.2 82) jj))), (0, .ref 189), (1, .int (i32 jj))] rfl (fun _ => rfl) ?_
                  refine T_goto 261 rfl (fun _ => rfl) ?_
                  refine Tm_lv (a := [(0, .ref 189), (1, .int (i32 jj)), (2, .int (i32 (((m.2 81) jj) + (m.1 69)))), (3, .int (i32 ((m.2 82) jj))), (4, .int (i32 ((m.2 80) jj))), (5, .int (i32 (m.1 69)))]) rfl rfl ⟨rfl, rfl, rfl, rfl, rfl, rfl, trivial⟩ ?_
                  exact J261_10 (((m.2 81) jj) + (m.1 69)) (mO m294 [] []) (r32 (by omega) (by omega)) Tm294 (fr_m (fr_s Fm294 (fr_m (fr_s Fm285 (fr_m (fr_s Fm276 (fr_m fr_0 rfl rfl) rfl rfl) rfl rfl) rfl rfl) rfl rfl) rfl rfl) rfl rfl) (show 0 ≤ (((m.2 81) jj) + (m.1 69)) ∧ (((m.2 81) jj) + (m.1 69)) ≤ (m.1 69) + 64 by omega) (fun (h : (m294.1 10) = 0) => absurd h (by omega))
              · skip
                refine T_ld 186 (.int (i32 1)) rfl (fun _ => rfl) ?_
                refine T_goto 190 rfl (fun _ => rfl) ?_
                refine T_gf 194 (.int (i32 (m.1 70))) rfl rfl rfl rfl (mfv_c (F := fun x => .int (i32 x)) rfl (show (m285.1 70) = (m.1 70) from ((fr1 Fm285 70 rfl).trans (fr1 Fm276 70 rfl)))) rfl ?_
                refine T_call 197 256 [.ref 189, .int (i32 1), .int (i32 (m.1 70))] [] rfl (fun _ => rfl) rfl (c_want w (mO m285 [] []) c N D (by omega) Tm285 1 (m.1 70) ⟨by decide, by decide⟩ (r32 (by omega) (by omega)) (show 0 ≤ (m.1 70) ∧ (m.1 70) ≤ 4000 by omega) (fun _ => trivial)) (fun rr301 k302 => ?_)
                obtain ⟨m303, Tm303, Fm303, h304, c305, rfl⟩ := k302
                refine ⟨_, _, rfl, ?_⟩
                refine T_nb (st' := []) rfl ?_
                have g306 : 0 ≤ m303.1 10 ∧ m303.1 10 ≤ 8 := Tm303.1 10
                by_cases hf307 : (m303.1 10) = 0
                · skip
                  replace h304 : (m285.1 10) = 0 := h304 hf307
                  have c308 := c305 hf307
                  replace c308 : (1 : Int) ≠ 0 := c308
                  clear c305
                  clear g288 h304
                  refine T_ld 198 (.int (i32 ((m.2 81) jj))) rfl (fun _ => rfl) ?_
                  refine T_gf 202 (.int (i32 (m.1 69))) rfl rfl rfl rfl (mfv_c (F := fun x => .int (i32 x)) rfl (show (m303.1 69) = (m.1 69) from ((fr1 Fm303 69 rfl).trans ((fr1 Fm285 69 rfl).trans (fr1 Fm276 69 rfl))))) rfl ?_
                  refine T_iadd 203 rfl rfl ?_
                  refine T_sto 204 [(2, .int (i32 (((m.2 81) jj) + (m.1 69)))), (5, .int (i32 (m.1 69))), (4, .int (i32 ((m.2 80) jj))), (3, .int (i32 ((m.2 82) jj))), (0, .ref 189), (1, .int (i32 jj))] rfl (fun _ => rfl) ?_
                  refine T_goto 261 rfl (fun _ => rfl) ?_
                  refine Tm_lv (a := [(0, .ref 189), (1, .int (i32 jj)), (2, .int (i32 (((m.2 81) jj) + (m.1 69)))), (3, .int (i32 ((m.2 82) jj))), (4, .int (i32 ((m.2 80) jj))), (5, .int (i32 (m.1 69)))]) rfl rfl ⟨rfl, rfl, rfl, rfl, rfl, rfl, trivial⟩ ?_
                  exact J261_10 (((m.2 81) jj) + (m.1 69)) (mO m303 [] []) (r32 (by omega) (by omega)) Tm303 (fr_m (fr_s Fm303 (fr_m (fr_s Fm285 (fr_m (fr_s Fm276 (fr_m fr_0 rfl rfl) rfl rfl) rfl rfl) rfl rfl) rfl rfl) rfl rfl) rfl rfl) (show 0 ≤ (((m.2 81) jj) + (m.1 69)) ∧ (((m.2 81) jj) + (m.1 69)) ≤ (m.1 69) + 64 by omega) (fun _ => (show (((m.2 81) jj) + (m.1 69)) ≤ 64 by omega))
                · skip
                  clear c305
                  clear h304
                  have hf309 : 1 ≤ (m303.1 10) := by omega
                  clear g288
                  refine T_ld 198 (.int (i32 ((m.2 81) jj))) rfl (fun _ => rfl) ?_
                  refine T_gf 202 (.int (i32 (m.1 69))) rfl rfl rfl rfl (mfv_c (F := fun x => .int (i32 x)) rfl (show (m303.1 69) = (m.1 69) from ((fr1 Fm303 69 rfl).trans ((fr1 Fm285 69 rfl).trans (fr1 Fm276 69 rfl))))) rfl ?_
                  refine T_iadd 203 rfl rfl ?_
                  refine T_sto 204 [(2, .int (i32 (((m.2 81) jj) + (m.1 69)))), (5, .int (i32 (m.1 69))), (4, .int (i32 ((m.2 80) jj))), (3, .int (i32 ((m.2 82) jj))), (0, .ref 189), (1, .int (i32 jj))] rfl (fun _ => rfl) ?_
                  refine T_goto 261 rfl (fun _ => rfl) ?_
                  refine Tm_lv (a := [(0, .ref 189), (1, .int (i32 jj)), (2, .int (i32 (((m.2 81) jj) + (m.1 69)))), (3, .int (i32 ((m.2 82) jj))), (4, .int (i32 ((m.2 80) jj))), (5, .int (i32 (m.1 69)))]) rfl rfl ⟨rfl, rfl, rfl, rfl, rfl, rfl, trivial⟩ ?_
                  exact J261_10 (((m.2 81) jj) + (m.1 69)) (mO m303 [] []) (r32 (by omega) (by omega)) Tm303 (fr_m (fr_s Fm303 (fr_m (fr_s Fm285 (fr_m (fr_s Fm276 (fr_m fr_0 rfl rfl) rfl rfl) rfl rfl) rfl rfl) rfl rfl) rfl rfl) rfl rfl) (show 0 ≤ (((m.2 81) jj) + (m.1 69)) ∧ (((m.2 81) jj) + (m.1 69)) ≤ (m.1 69) + 64 by omega) (fun (h : (m303.1 10) = 0) => absurd h (by omega))
            · skip
              clear c287
              clear h286
              have hf310 : 1 ≤ (m285.1 10) := by omega
              clear g279
              refine T_ld 174 (.ref 189) rfl (fun _ => rfl) ?_
              refine T_ld 175 (.int (i32 ((m.2 81) jj))) rfl (fun _ => rfl) ?_
              refine T_gf 179 (.int (i32 (m.1 69))) rfl rfl rfl rfl (mfv_c (F := fun x => .int (i32 x)) rfl (show (m285.1 69) = (m.1 69) from ((fr1 Fm285 69 rfl).trans (fr1 Fm276 69 rfl)))) rfl ?_
              refine T_iadd 180 rfl rfl ?_
              refine T_ld 182 (.int (i32 64)) rfl (fun _ => rfl) ?_
              refine T_icmp 189 185 rfl rfl rfl (r32 (by omega) (by omega)) ⟨by decide, by decide⟩ (fun (h311 : (64 : Int) < ((m.2 81) jj) + (m.1 69)) => ?_) (fun (h311 : ¬ ((64 : Int) < ((m.2 81) jj) + (m.1 69))) => ?_)
              · skip
                refine T_ld 190 (.int (i32 0)) rfl (fun _ => rfl) ?_
                refine T_gf 194 (.int (i32 (m.1 70))) rfl rfl rfl rfl (mfv_c (F := fun x => .int (i32 x)) rfl (show (m285.1 70) = (m.1 70) from ((fr1 Fm285 70 rfl).trans (fr1 Fm276 70 rfl)))) rfl ?_
                refine T_call 197 256 [.ref 189, .int (i32 0), .int (i32 (m.1 70))] [] rfl (fun _ => rfl) rfl (c_want w (mO m285 [] []) c N D (by omega) Tm285 0 (m.1 70) ⟨by decide, by decide⟩ (r32 (by omega) (by omega)) (show 0 ≤ (m.1 70) ∧ (m.1 70) ≤ 4000 by omega) (fun (h : (m285.1 10) = 0) => absurd h (by omega))) (fun rr312 k313 => ?_)
                obtain ⟨m314, Tm314, Fm314, h315, c316, rfl⟩ := k313
                refine ⟨_, _, rfl, ?_⟩
                refine T_nb (st' := []) rfl ?_
                have g317 : 0 ≤ m314.1 10 ∧ m314.1 10 ≤ 8 := Tm314.1 10
                replace h315 : (m314.1 10) = 0 → (m285.1 10) = 0 := h315
                have hf318 : 1 ≤ (m314.1 10) := by omega
                clear c316
                clear h315
                clear g288 hf310
                refine T_ld 198 (.int (i32 ((m.2 81) jj))) rfl (fun _ => rfl) ?_
                refine T_gf 202 (.int (i32 (m.1 69))) rfl rfl rfl rfl (mfv_c (F := fun x => .int (i32 x)) rfl (show (m314.1 69) = (m.1 69) from ((fr1 Fm314 69 rfl).trans ((fr1 Fm285 69 rfl).trans (fr1 Fm276 69 rfl))))) rfl ?_
                refine T_iadd 203 rfl rfl ?_
                refine T_sto 204 [(2, .int (i32 (((m.2 81) jj) + (m.1 69)))), (5, .int (i32 (m.1 69))), (4, .int (i32 ((m.2 80) jj))), (3, .int (i32 ((m.2 82) jj))), (0, .ref 189), (1, .int (i32 jj))] rfl (fun _ => rfl) ?_
                refine T_goto 261 rfl (fun _ => rfl) ?_
                refine Tm_lv (a := [(0, .ref 189), (1, .int (i32 jj)), (2, .int (i32 (((m.2 81) jj) + (m.1 69)))), (3, .int (i32 ((m.2 82) jj))), (4, .int (i32 ((m.2 80) jj))), (5, .int (i32 (m.1 69)))]) rfl rfl ⟨rfl, rfl, rfl, rfl, rfl, rfl, trivial⟩ ?_
                exact J261_10 (((m.2 81) jj) + (m.1 69)) (mO m314 [] []) (r32 (by omega) (by omega)) Tm314 (fr_m (fr_s Fm314 (fr_m (fr_s Fm285 (fr_m (fr_s Fm276 (fr_m fr_0 rfl rfl) rfl rfl) rfl rfl) rfl rfl) rfl rfl) rfl rfl) rfl rfl) (show 0 ≤ (((m.2 81) jj) + (m.1 69)) ∧ (((m.2 81) jj) + (m.1 69)) ≤ (m.1 69) + 64 by omega) (fun (h : (m314.1 10) = 0) => absurd h (by omega))
              · skip
                refine T_ld 186 (.int (i32 1)) rfl (fun _ => rfl) ?_
                refine T_goto 190 rfl (fun _ => rfl) ?_
                refine T_gf 194 (.int (i32 (m.1 70))) rfl rfl rfl rfl (mfv_c (F := fun x => .int (i32 x)) rfl (show (m285.1 70) = (m.1 70) from ((fr1 Fm285 70 rfl).trans (fr1 Fm276 70 rfl)))) rfl ?_
                refine T_call 197 256 [.ref 189, .int (i32 1), .int (i32 (m.1 70))] [] rfl (fun _ => rfl) rfl (c_want w (mO m285 [] []) c N D (by omega) Tm285 1 (m.1 70) ⟨by decide, by decide⟩ (r32 (by omega) (by omega)) (show 0 ≤ (m.1 70) ∧ (m.1 70) ≤ 4000 by omega) (fun (h : (m285.1 10) = 0) => absurd h (by omega))) (fun rr319 k320 => ?_)
                obtain ⟨m321, Tm321, Fm321, h322, c323, rfl⟩ := k320
                refine ⟨_, _, rfl, ?_⟩
                refine T_nb (st' := []) rfl ?_
                have g324 : 0 ≤ m321.1 10 ∧ m321.1 10 ≤ 8 := Tm321.1 10
                replace h322 : (m321.1 10) = 0 → (m285.1 10) = 0 := h322
                have hf325 : 1 ≤ (m321.1 10) := by omega
                clear c323
                clear h322
                clear g288 hf310
                refine T_ld 198 (.int (i32 ((m.2 81) jj))) rfl (fun _ => rfl) ?_
                refine T_gf 202 (.int (i32 (m.1 69))) rfl rfl rfl rfl (mfv_c (F := fun x => .int (i32 x)) rfl (show (m321.1 69) = (m.1 69) from ((fr1 Fm321 69 rfl).trans ((fr1 Fm285 69 rfl).trans (fr1 Fm276 69 rfl))))) rfl ?_
                refine T_iadd 203 rfl rfl ?_
                refine T_sto 204 [(2, .int (i32 (((m.2 81) jj) + (m.1 69)))), (5, .int (i32 (m.1 69))), (4, .int (i32 ((m.2 80) jj))), (3, .int (i32 ((m.2 82) jj))), (0, .ref 189), (1, .int (i32 jj))] rfl (fun _ => rfl) ?_
                refine T_goto 261 rfl (fun _ => rfl) ?_
                refine Tm_lv (a := [(0, .ref 189), (1, .int (i32 jj)), (2, .int (i32 (((m.2 81) jj) + (m.1 69)))), (3, .int (i32 ((m.2 82) jj))), (4, .int (i32 ((m.2 80) jj))), (5, .int (i32 (m.1 69)))]) rfl rfl ⟨rfl, rfl, rfl, rfl, rfl, rfl, trivial⟩ ?_
                exact J261_10 (((m.2 81) jj) + (m.1 69)) (mO m321 [] []) (r32 (by omega) (by omega)) Tm321 (fr_m (fr_s Fm321 (fr_m (fr_s Fm285 (fr_m (fr_s Fm276 (fr_m fr_0 rfl rfl) rfl rfl) rfl rfl) rfl rfl) rfl rfl) rfl rfl) rfl rfl) (show 0 ≤ (((m.2 81) jj) + (m.1 69)) ∧ (((m.2 81) jj) + (m.1 69)) ≤ (m.1 69) + 64 by omega) (fun (h : (m321.1 10) = 0) => absurd h (by omega))
          · skip
            refine T_ld 162 (.int (i32 1)) rfl (fun _ => rfl) ?_
            refine T_goto 166 rfl (fun _ => rfl) ?_
            refine T_gf 170 (.int (i32 (m.1 70))) rfl rfl rfl rfl (mfv_c (F := fun x => .int (i32 x)) rfl (show (m276.1 70) = (m.1 70) from (fr1 Fm276 70 rfl))) rfl ?_
            refine T_call 173 256 [.ref 189, .int (i32 1), .int (i32 (m.1 70))] [] rfl (fun _ => rfl) rfl (c_want w (mO m276 [] []) c N D (by omega) Tm276 1 (m.1 70) ⟨by decide, by decide⟩ (r32 (by omega) (by omega)) (show 0 ≤ (m.1 70) ∧ (m.1 70) ≤ 4000 by omega) (fun _ => trivial)) (fun rr326 k327 => ?_)
            obtain ⟨m328, Tm328, Fm328, h329, c330, rfl⟩ := k327
            refine ⟨_, _, rfl, ?_⟩
            refine T_nb (st' := []) rfl ?_
            have g331 : 0 ≤ m328.1 10 ∧ m328.1 10 ≤ 8 := Tm328.1 10
            by_cases hf332 : (m328.1 10) = 0
            · skip
              replace h329 : (m276.1 10) = 0 := h329 hf332
              have c333 := c330 hf332
              replace c333 : (1 : Int) ≠ 0 := c333
              clear c330
              clear g279 h329
              refine T_ld 174 (.ref 189) rfl (fun _ => rfl) ?_
              refine T_ld 175 (.int (i32 ((m.2 81) jj))) rfl (fun _ => rfl) ?_
              refine T_gf 179 (.int (i32 (m.1 69))) rfl rfl rfl rfl (mfv_c (F := fun x => .int (i32 x)) rfl (show (m328.1 69) = (m.1 69) from ((fr1 Fm328 69 rfl).trans (fr1 Fm276 69 rfl)))) rfl ?_
              refine T_iadd 180 rfl rfl ?_
              refine T_ld 182 (.int (i32 64)) rfl (fun _ => rfl) ?_
              refine T_icmp 189 185 rfl rfl rfl (r32 (by omega) (by omega)) ⟨by decide, by decide⟩ (fun (h334 : (64 : Int) < ((m.2 81) jj) + (m.1 69)) => ?_) (fun (h334 : ¬ ((64 : Int) < ((m.2 81) jj) + (m.1 69))) => ?_)
              · skip
                refine T_ld 190 (.int (i32 0)) rfl (fun _ => rfl) ?_
                refine T_gf 194 (.int (i32 (m.1 70))) rfl rfl rfl rfl (mfv_c (F := fun x => .int (i32 x)) rfl (show (m328.1 70) = (m.1 70) from ((fr1 Fm328 70 rfl).trans (fr1 Fm276 70 rfl)))) rfl ?_
                refine T_call 197 256 [.ref 189, .int (i32 0), .int (i32 (m.1 70))] [] rfl (fun _ => rfl) rfl (c_want w (mO m328 [] []) c N D (by omega) Tm328 0 (m.1 70) ⟨by decide, by decide⟩ (r32 (by omega) (by omega)) (show 0 ≤ (m.1 70) ∧ (m.1 70) ≤ 4000 by omega) (fun _ => trivial)) (fun rr335 k336 => ?_)
                obtain ⟨m337, Tm337, Fm337, h338, c339, rfl⟩ := k336
                refine ⟨_, _, rfl, ?_⟩
                refine T_nb (st' := []) rfl ?_
                have g340 : 0 ≤ m337.1 10 ∧ m337.1 10 ≤ 8 := Tm337.1 10
                by_cases hf341 : (m337.1 10) = 0
                · skip
                  replace h338 : (m328.1 10) = 0 := h338 hf341
                  have c342 := c339 hf341
                  replace c342 : (0 : Int) ≠ 0 := c342
                  clear c339
                  clear g331 h338
                  refine T_ld 198 (.int (i32 ((m.2 81) jj))) rfl (fun _ => rfl) ?_
                  refine T_gf 202 (.int (i32 (m.1 69))) rfl rfl rfl rfl (mfv_c (F := fun x => .int (i32 x)) rfl (show (m337.1 69) = (m.1 69) from ((fr1 Fm337 69 rfl).trans ((fr1 Fm328 69 rfl).trans (fr1 Fm276 69 rfl))))) rfl ?_
                  refine T_iadd 203 rfl rfl ?_
                  refine T_sto 204 [(2, .int (i32 (((m.2 81) jj) + (m.1 69)))), (5, .int (i32 (m.1 69))), (4, .int (i32 ((m.2 80) jj))), (3, .int (i32 ((m.2 82) jj))), (0, .ref 189), (1, .int (i32 jj))] rfl (fun _ => rfl) ?_
                  refine T_goto 261 rfl (fun _ => rfl) ?_
                  refine Tm_lv (a := [(0, .ref 189), (1, .int (i32 jj)), (2, .int (i32 (((m.2 81) jj) + (m.1 69)))), (3, .int (i32 ((m.2 82) jj))), (4, .int (i32 ((m.2 80) jj))), (5, .int (i32 (m.1 69)))]) rfl rfl ⟨rfl, rfl, rfl, rfl, rfl, rfl, trivial⟩ ?_
                  exact J261_10 (((m.2 81) jj) + (m.1 69)) (mO m337 [] []) (r32 (by omega) (by omega)) Tm337 (fr_m (fr_s Fm337 (fr_m (fr_s Fm328 (fr_m (fr_s Fm276 (fr_m fr_0 rfl rfl) rfl rfl) rfl rfl) rfl rfl) rfl rfl) rfl rfl) rfl rfl) (show 0 ≤ (((m.2 81) jj) + (m.1 69)) ∧ (((m.2 81) jj) + (m.1 69)) ≤ (m.1 69) + 64 by omega) (fun _ => (show (((m.2 81) jj) + (m.1 69)) ≤ 64 by omega))
                · skip
                  clear c339
                  clear h338
                  have hf343 : 1 ≤ (m337.1 10) := by omega
                  clear g331
                  refine T_ld 198 (.int (i32 ((m.2 81) jj))) rfl (fun _ => rfl) ?_
                  refine T_gf 202 (.int (i32 (m.1 69))) rfl rfl rfl rfl (mfv_c (F := fun x => .int (i32 x)) rfl (show (m337.1 69) = (m.1 69) from ((fr1 Fm337 69 rfl).trans ((fr1 Fm328 69 rfl).trans (fr1 Fm276 69 rfl))))) rfl ?_
                  refine T_iadd 203 rfl rfl ?_
                  refine T_sto 204 [(2, .int (i32 (((m.2 81) jj) + (m.1 69)))), (5, .int (i32 (m.1 69))), (4, .int (i32 ((m.2 80) jj))), (3, .int (i32 ((m.2 82) jj))), (0, .ref 189), (1, .int (i32 jj))] rfl (fun _ => rfl) ?_
                  refine T_goto 261 rfl (fun _ => rfl) ?_
                  refine Tm_lv (a := [(0, .ref 189), (1, .int (i32 jj)), (2, .int (i32 (((m.2 81) jj) + (m.1 69)))), (3, .int (i32 ((m.2 82) jj))), (4, .int (i32 ((m.2 80) jj))), (5, .int (i32 (m.1 69)))]) rfl rfl ⟨rfl, rfl, rfl, rfl, rfl, rfl, trivial⟩ ?_
                  exact J261_10 (((m.2 81) jj) + (m.1 69)) (mO m337 [] []) (r32 (by omega) (by omega)) Tm337 (fr_m (fr_s Fm337 (fr_m (fr_s Fm328 (fr_m (fr_s Fm276 (fr_m fr_0 rfl rfl) rfl rfl) rfl rfl) rfl rfl) rfl rfl) rfl rfl) rfl rfl) (show 0 ≤ (((m.2 81) jj) + (m.1 69)) ∧ (((m.2 81) jj) + (m.1 69)) ≤ (m.1 69) + 64 by omega) (fun (h : (m337.1 10) = 0) => absurd h (by omega))
              · skip
                refine T_ld 186 (.int (i32 1)) rfl (fun _ => rfl) ?_
                refine T_goto 190 rfl (fun _ => rfl) ?_
                refine T_gf 194 (.int (i32 (m.1 70))) rfl rfl rfl rfl (mfv_c (F := fun x => .int (i32 x)) rfl (show (m328.1 70) = (m.1 70) from ((fr1 Fm328 70 rfl).trans (fr1 Fm276 70 rfl)))) rfl ?_
                refine T_call 197 256 [.ref 189, .int (i32 1), .int (i32 (m.1 70))] [] rfl (fun _ => rfl) rfl (c_want w (mO m328 [] []) c N D (by omega) Tm328 1 (m.1 70) ⟨by decide, by decide⟩ (r32 (by omega) (by omega)) (show 0 ≤ (m.1 70) ∧ (m.1 70) ≤ 4000 by omega) (fun _ => trivial)) (fun rr344 k345 => ?_)
                obtain ⟨m346, Tm346, Fm346, h347, c348, rfl⟩ := k345
                refine ⟨_, _, rfl, ?_⟩
                refine T_nb (st' := []) rfl ?_
                have g349 : 0 ≤ m346.1 10 ∧ m346.1 10 ≤ 8 := Tm346.1 10
                by_cases hf350 : (m346.1 10) = 0
                · skip
                  replace h347 : (m328.1 10) = 0 := h347 hf350
                  have c351 := c348 hf350
                  replace c351 : (1 : Int) ≠ 0 := c351
                  clear c348
                  clear g331 h347
                  refine T_ld 198 (.int (i32 ((m.2 81) jj))) rfl (fun _ => rfl) ?_
                  refine T_gf 202 (.int (i32 (m.1 69))) rfl rfl rfl rfl (mfv_c (F := fun x => .int (i32 x)) rfl (show (m346.1 69) = (m.1 69) from ((fr1 Fm346 69 rfl).trans ((fr1 Fm328 69 rfl).trans (fr1 Fm276 69 rfl))))) rfl ?_
                  refine T_iadd 203 rfl rfl ?_
                  refine T_sto 204 [(2, .int (i32 (((m.2 81) jj) + (m.1 69)))), (5, .int (i32 (m.1 69))), (4, .int (i32 ((m.2 80) jj))), (3, .int (i32 ((m.2 82) jj))), (0, .ref 189), (1, .int (i32 jj))] rfl (fun _ => rfl) ?_
                  refine T_goto 261 rfl (fun _ => rfl) ?_
                  refine Tm_lv (a := [(0, .ref 189), (1, .int (i32 jj)), (2, .int (i32 (((m.2 81) jj) + (m.1 69)))), (3, .int (i32 ((m.2 82) jj))), (4, .int (i32 ((m.2 80) jj))), (5, .int (i32 (m.1 69)))]) rfl rfl ⟨rfl, rfl, rfl, rfl, rfl, rfl, trivial⟩ ?_
                  exact J261_10 (((m.2 81) jj) + (m.1 69)) (mO m346 [] []) (r32 (by omega) (by omega)) Tm346 (fr_m (fr_s Fm346 (fr_m (fr_s Fm328 (fr_m (fr_s Fm276 (fr_m fr_0 rfl rfl) rfl rfl) rfl rfl) rfl rfl) rfl rfl) rfl rfl) rfl rfl) (show 0 ≤ (((m.2 81) jj) + (m.1 69)) ∧ (((m.2 81) jj) + (m.1 69)) ≤ (m.1 69) + 64 by omega) (fun _ => (show (((m.2 81) jj) + (m.1 69)) ≤ 64 by omega))
                · skip
                  clear c348
                  clear h347
                  have hf352 : 1 ≤ (m346.1 10) := by omega
                  clear g331
                  refine T_ld 198 (.int (i32 ((m.2 81) jj))) rfl (fun _ => rfl) ?_
                  refine T_gf 202 (.int (i32 (m.1 69))) rfl rfl rfl rfl (mfv_c (F := fun x => .int (i32 x)) rfl (show (m346.1 69) = (m.1 69) from ((fr1 Fm346 69 rfl).trans ((fr1 Fm328 69 rfl).trans (fr1 Fm276 69 rfl))))) rfl ?_
                  refine T_iadd 203 rfl rfl ?_
                  refine T_sto 204 [(2, .int (i32 (((m.2 81) jj) + (m.1 69)))), (5, .int (i32 (m.1 69))), (4, .int (i32 ((m.2 80) jj))), (3, .int (i32 ((m.2 82) jj))), (0, .ref 189), (1, .int (i32 jj))] rfl (fun _ => rfl) ?_
                  refine T_goto 261 rfl (fun _ => rfl) ?_
                  refine Tm_lv (a := [(0, .ref 189), (1, .int (i32 jj)), (2, .int (i32 (((m.2 81) jj) + (m.1 69)))), (3, .int (i32 ((m.2 82) jj))), (4, .int (i32 ((m.2 80) jj))), (5, .int (i32 (m.1 69)))]) rfl rfl ⟨rfl, rfl, rfl, rfl, rfl, rfl, trivial⟩ ?_
                  exact J261_10 (((m.2 81) jj) + (m.1 69)) (mO m346 [] []) (r32 (by omega) (by omega)) Tm346 (fr_m (fr_s Fm346 (fr_m (fr_s Fm328 (fr_m (fr_s Fm276 (fr_m fr_0 rfl rfl) rfl rfl) rfl rfl) rfl rfl) rfl rfl) rfl rfl) rfl rfl) (show 0 ≤ (((m.2 81) jj) + (m.1 69)) ∧ (((m.2 81) jj) + (m.1 69)) ≤ (m.1 69) + 64 by omega) (fun (h : (m346.1 10) = 0) => absurd h (by omega))
            · skip
              clear c330
              clear h329
              have hf353 : 1 ≤ (m328.1 10) := by omega
              clear g279
              refine T_ld 174 (.ref 189) rfl (fun _ => rfl) ?_
              refine T_ld 175 (.int (i32 ((m.2 81) jj))) rfl (fun _ => rfl) ?_
              refine T_gf 179 (.int (i32 (m.1 69))) rfl rfl rfl rfl (mfv_c (F := fun x => .int (i32 x)) rfl (show (m328.1 69) = (m.1 69) from ((fr1 Fm328 69 rfl).trans (fr1 Fm276 69 rfl)))) rfl ?_
              refine T_iadd 180 rfl rfl ?_
              refine T_ld 182 (.int (i32 64)) rfl (fun _ => rfl) ?_
              refine T_icmp 189 185 rfl rfl rfl (r32 (by omega) (by omega)) ⟨by decide, by decide⟩ (fun (h354 : (64 : Int) < ((m.2 81) jj) + (m.1 69)) => ?_) (fun (h354 : ¬ ((64 : Int) < ((m.2 81) jj) + (m.1 69))) => ?_)
              · skip
                refine T_ld 190 (.int (i32 0)) rfl (fun _ => rfl) ?_
                refine T_gf 194 (.int (i32 (m.1 70))) rfl rfl rfl rfl (mfv_c (F := fun x => .int (i32 x)) rfl (show (m328.1 70) = (m.1 70) from ((fr1 Fm328 70 rfl).trans (fr1 Fm276 70 rfl)))) rfl ?_
                refine T_call 197 256 [.ref 189, .int (i32 0), .int (i32 (m.1 70))] [] rfl (fun _ => rfl) rfl (c_want w (mO m328 [] []) c N D (by omega) Tm328 0 (m.1 70) ⟨by decide, by decide⟩ (r32 (by omega) (by omega)) (show 0 ≤ (m.1 70) ∧ (m.1 70) ≤ 4000 by omega) (fun (h : (m328.1 10) = 0) => absurd h (by omega))) (fun rr355 k356 => ?_)
                obtain ⟨m357, Tm357, Fm357, h358, c359, rfl⟩ := k356
                refine ⟨_, _, rfl, ?_⟩
                refine T_nb (st' := []) rfl ?_
                have g360 : 0 ≤ m357.1 10 ∧ m357.1 10 ≤ 8 := Tm357.1 10
                replace h358 : (m357.1 10) = 0 → (m328.1 10) = 0 := h358
                have hf361 : 1 ≤ (m357.1 10) := by omega
                clear c359
                clear h358
                clear g331 hf353
                refine T_ld 198 (.int (i32 ((m.2 81) jj))) rfl (fun _ => rfl) ?_
                refine T_gf 202 (.int (i32 (m.1 69))) rfl rfl rfl rfl (mfv_c (F := fun x => .int (i32 x)) rfl (show (m357.1 69) = (m.1 69) from ((fr1 Fm357 69 rfl).trans ((fr1 Fm328 69 rfl).trans (fr1 Fm276 69 rfl))))) rfl ?_
                refine T_iadd 203 rfl rfl ?_
                refine T_sto 204 [(2, .int (i32 (((m.2 81) jj) + (m.1 69)))), (5, .int (i32 (m.1 69))), (4, .int (i32 ((m.2 80) jj))), (3, .int (i32 ((m.2 82) jj))), (0, .ref 189), (1, .int (i32 jj))] rfl (fun _ => rfl) ?_
                refine T_goto 261 rfl (fun _ => rfl) ?_
                refine Tm_lv (a := [(0, .ref 189), (1, .int (i32 jj)), (2, .int (i32 (((m.2 81) jj) + (m.1 69)))), (3, .int (i32 ((m.2 82) jj))), (4, .int (i32 ((m.2 80) jj))), (5, .int (i32 (m.1 69)))]) rfl rfl ⟨rfl, rfl, rfl, rfl, rfl, rfl, trivial⟩ ?_
                exact J261_10 (((m.2 81) jj) + (m.1 69)) (mO m357 [] []) (r32 (by omega) (by omega)) Tm357 (fr_m (fr_s Fm357 (fr_m (fr_s Fm328 (fr_m (fr_s Fm276 (fr_m fr_0 rfl rfl) rfl rfl) rfl rfl) rfl rfl) rfl rfl) rfl rfl) rfl rfl) (show 0 ≤ (((m.2 81) jj) + (m.1 69)) ∧ (((m.2 81) jj) + (m.1 69)) ≤ (m.1 69) + 64 by omega) (fun (h : (m357.1 10) = 0) => absurd h (by omega))
              · skip
                refine T_ld 186 (.int (i32 1)) rfl (fun _ => rfl) ?_
                refine T_goto 190 rfl (fun _ => rfl) ?_
                refine T_gf 194 (.int (i32 (m.1 70))) rfl rfl rfl rfl (mfv_c (F := fun x => .int (i32 x)) rfl (show (m328.1 70) = (m.1 70) from ((fr1 Fm328 70 rfl).trans (fr1 Fm276 70 rfl)))) rfl ?_
                refine T_call 197 256 [.ref 189, .int (i32 1), .int (i32 (m.1 70))] [] rfl (fun _ => rfl) rfl (c_want w (mO m328 [] []) c N D (by omega) Tm328 1 (m.1 70) ⟨by decide, by decide⟩ (r32 (by omega) (by omega)) (show 0 ≤ (m.1 70) ∧ (m.1 70) ≤ 4000 by omega) (fun (h : (m328.1 10) = 0) => absurd h (by omega))) (fun rr362 k363 => ?_)
                obtain ⟨m364, Tm364, Fm364, h365, c366, rfl⟩ := k363
                refine ⟨_, _, rfl, ?_⟩
                refine T_nb (st' := []) rfl ?_
                have g367 : 0 ≤ m364.1 10 ∧ m364.1 10 ≤ 8 := Tm364.1 10
                replace h365 : (m364.1 10) = 0 → (m328.1 10) = 0 := h365
                have hf368 : 1 ≤ (m364.1 10) := by omega
                clear c366
                clear h365
                clear g331 hf353
                refine T_ld 198 (.int (i32 ((m.2 81) jj))) rfl (fun _ => rfl) ?_
                refine T_gf 202 (.int (i32 (m.1 69))) rfl rfl rfl rfl (mfv_c (F := fun x => .int (i32 x)) rfl (show (m364.1 69) = (m.1 69) from ((fr1 Fm364 69 rfl).trans ((fr1 Fm328 69 rfl).trans (fr1 Fm276 69 rfl))))) rfl ?_
                refine T_iadd 203 rfl rfl ?_
                refine T_sto 204 [(2, .int (i32 (((m.2 81) jj) + (m.1 69)))), (5, .int (i32 (m.1 69))), (4, .int (i32 ((m.2 80) jj))), (3, .int (i32 ((m.2 82) jj))), (0, .ref 189), (1, .int (i32 jj))] rfl (fun _ => rfl) ?_
                refine T_goto 261 rfl (fun _ => rfl) ?_
                refine Tm_lv (a := [(0, .ref 189), (1, .int (i32 jj)), (2, .int (i32 (((m.2 81) jj) + (m.1 69)))), (3, .int (i32 ((m.2 82) jj))), (4, .int (i32 ((m.2 80) jj))), (5, .int (i32 (m.1 69)))]) rfl rfl ⟨rfl, rfl, rfl, rfl, rfl, rfl, trivial⟩ ?_
                exact J261_10 (((m.2 81) jj) + (m.1 69)) (mO m364 [] []) (r32 (by omega) (by omega)) Tm364 (fr_m (fr_s Fm364 (fr_m (fr_s Fm328 (fr_m (fr_s Fm276 (fr_m fr_0 rfl rfl) rfl rfl) rfl rfl) rfl rfl) rfl rfl) rfl rfl) rfl rfl) (show 0 ≤ (((m.2 81) jj) + (m.1 69)) ∧ (((m.2 81) jj) + (m.1 69)) ≤ (m.1 69) + 64 by omega) (fun (h : (m364.1 10) = 0) => absurd h (by omega))
        · skip
          clear c278
          clear h277
          have hf369 : 1 ≤ (m276.1 10) := by omega
          clear g69a g69b h70
          refine T_ld 154 (.ref 189) rfl (fun _ => rfl) ?_
          refine T_gf 158 (.int (i32 (m.1 71))) rfl rfl rfl rfl (mfv_c (F := fun x => .int (i32 x)) rfl (show (m276.1 71) = (m.1 71) from (fr1 Fm276 71 rfl))) rfl ?_
          refine T_if 165 161 rfl rfl rfl (r32 (by omega) (by omega)) (fun (h370 : (m.1 71) ≠ 0) => ?_) (fun (h370 : ¬ ((m.1 71) ≠ 0)) => ?_)
          · skip
            refine T_ld 166 (.int (i32 0)) rfl (fun _ => rfl) ?_
            refine T_gf 170 (.int (i32 (m.1 70))) rfl rfl rfl rfl (mfv_c (F := fun x => .int (i32 x)) rfl (show (m276.1 70) = (m.1 70) from (fr1 Fm276 70 rfl))) rfl ?_
            refine T_call 173 256 [.ref 189, .int (i32 0), .int (i32 (m.1 70))] [] rfl (fun _ => rfl) rfl (c_want w (mO m276 [] []) c N D (by omega) Tm276 0 (m.1 70) ⟨by decide, by decide⟩ (r32 (by omega) (by omega)) (show 0 ≤ (m.1 70) ∧ (m.1 70) ≤ 4000 by omega) (fun (h : (m276.1 10) = 0) => absurd h (by omega))) (fun rr371 k372 => ?_)
            obtain ⟨m373, Tm373, Fm373, h374, c375, rfl⟩ := k372
            refine ⟨_, _, rfl, ?_⟩
            refine T_nb (st' := []) rfl ?_
            have g376 : 0 ≤ m373.1 10 ∧ m373.1 10 ≤ 8 := Tm373.1 10
            replace h374 : (m373.1 10) = 0 → (m276.1 10) = 0 := h374
            have hf377 : 1 ≤ (m373.1 10) := by omega
            clear c375
            clear h374
            clear g279 hf369
            refine T_ld 174 (.ref 189) rfl (fun _ => rfl) ?_
            refine T_ld 175 (.int (i32 ((m.2 81) jj))) rfl (fun _ => rfl) ?_
            refine T_gf 179 (.int (i32 (m.1 69))) rfl rfl rfl rfl (mfv_c (F := fun x => .int (i32 x)) rfl (show (m373.1 69) = (m.1 69) from ((fr1 Fm373 69 rfl).trans (fr1 Fm276 69 rfl)))) rfl ?_
            refine T_iadd 180 rfl rfl ?_
            refine T_ld 182 (.int (i32 64)) rfl (fun _ => rfl) ?_
            refine T_icmp 189 185 rfl rfl rfl (r32 (by omega) (by omega)) ⟨by decide, by decide⟩ (fun (h378 : (64 : Int) < ((m.2 81) jj) + (m.1 69)) => ?_) (fun (h378 : ¬ ((64 : Int) < ((m.2 81) jj) + (m.1 69))) => ?_)
            · skip
              refine T_ld 190 (.int (i32 0)) rfl (fun _ => rfl) ?_
              refine T_gf 194 (.int (i32 (m.1 70))) rfl rfl rfl rfl (mfv_c (F := fun x => .int (i32 x)) rfl (show (m373.1 70) = (m.1 70) from ((fr1 Fm373 70 rfl).trans (fr1 Fm276 70 rfl)))) rfl ?_
              refine T_call 197 256 [.ref 189, .int (i32 0), .int (i32 (m.1 70))] [] rfl (fun _ => rfl) rfl (c_want w (mO m373 [] []) c N D (by omega) Tm373 0 (m.1 70) ⟨by decide, by decide⟩ (r32 (by omega) (by omega)) (show 0 ≤ (m.1 70) ∧ (m.1 70) ≤ 4000 by omega) (fun (h : (m373.1 10) = 0) => absurd h (by omega))) (fun rr379 k380 => ?_)
              obtain ⟨m381, Tm381, Fm381, h382, c383, rfl⟩ := k380
              refine ⟨_, _, rfl, ?_⟩
              refine T_nb (st' := []) rfl ?_
              have g384 : 0 ≤ m381.1 10 ∧ m381.1 10 ≤ 8 := Tm381.1 10
              replace h382 : (m381.1 10) = 0 → (m373.1 10) = 0 := h382
              have hf385 : 1 ≤ (m381.1 10) := by omega
              clear c383
              clear h382
              clear g376 hf377
              refine T_ld 198 (.int (i32 ((m.2 81) jj))) rfl (fun _ => rfl) ?_
              refine T_gf 202 (.int (i32 (m.1 69))) rfl rfl rfl rfl (mfv_c (F := fun x => .int (i32 x)) rfl (show (m381.1 69) = (m.1 69) from ((fr1 Fm381 69 rfl).trans ((fr1 Fm373 69 rfl).trans (fr1 Fm276 69 rfl))))) rfl ?_
              refine T_iadd 203 rfl rfl ?_
              refine T_sto 204 [(2, .int (i32 (((m.2 81) jj) + (m.1 69)))), (5, .int (i32 (m.1 69))), (4, .int (i32 ((m.2 80) jj))), (3, .int (i32 ((m.2 82) jj))), (0, .ref 189), (1, .int (i32 jj))] rfl (fun _ => rfl) ?_
              refine T_goto 261 rfl (fun _ => rfl) ?_
              refine Tm_lv (a := [(0, .ref 189), (1, .int (i32 jj)), (2, .int (i32 (((m.2 81) jj) + (m.1 69)))), (3, .int (i32 ((m.2 82) jj))), (4, .int (i32 ((m.2 80) jj))), (5, .int (i32 (m.1 69)))]) rfl rfl ⟨rfl, rfl, rfl, rfl, rfl, rfl, trivial⟩ ?_
              exact J261_10 (((m.2 81) jj) + (m.1 69)) (mO m381 [] []) (r32 (by omega) (by omega)) Tm381 (fr_m (fr_s Fm381 (fr_m (fr_s Fm373 (fr_m (fr_s Fm276 (fr_m fr_0 rfl rfl) rfl rfl) rfl rfl) rfl rfl) rfl rfl) rfl rfl) rfl rfl) (show 0 ≤ (((m.2 81) jj) + (m.1 69)) ∧ (((m.2 81) jj) + (m.1 69)) ≤ (m.1 69) + 64 by omega) (fun (h : (m381.1 10) = 0) => absurd h (by omega))
            · skip
              refine T_ld 186 (.int (i32 1)) rfl (fun _ => rfl) ?_
              refine T_goto 190 rfl (fun _ => rfl) ?_
              refine T_gf 194 (.int (i32 (m.1 70))) rfl rfl rfl rfl (mfv_c (F := fun x => .int (i32 x)) rfl (show (m373.1 70) = (m.1 70) from ((fr1 Fm373 70 rfl).trans (fr1 Fm276 70 rfl)))) rfl ?_
              refine T_call 197 256 [.ref 189, .int (i32 1), .int (i32 (m.1 70))] [] rfl (fun _ => rfl) rfl (c_want w (mO m373 [] []) c N D (by omega) Tm373 1 (m.1 70) ⟨by decide, by decide⟩ (r32 (by omega) (by omega)) (show 0 ≤ (m.1 70) ∧ (m.1 70) ≤ 4000 by omega) (fun (h : (m373.1 10) = 0) => absurd h (by omega))) (fun rr386 k387 => ?_)
              obtain ⟨m388, Tm388, Fm388, h389, c390, rfl⟩ := k387
              refine ⟨_, _, rfl, ?_⟩
              refine T_nb (st' := []) rfl ?_
              have g391 : 0 ≤ m388.1 10 ∧ m388.1 10 ≤ 8 := Tm388.1 10
              replace h389 : (m388.1 10) = 0 → (m373.1 10) = 0 := h389
              have hf392 : 1 ≤ (m388.1 10) := by omega
              clear c390
              clear h389
              clear g376 hf377
              refine T_ld 198 (.int (i32 ((m.2 81) jj))) rfl (fun _ => rfl) ?_
              refine T_gf 202 (.int (i32 (m.1 69))) rfl rfl rfl rfl (mfv_c (F := fun x => .int (i32 x)) rfl (show (m388.1 69) = (m.1 69) from ((fr1 Fm388 69 rfl).trans ((fr1 Fm373 69 rfl).trans (fr1 Fm276 69 rfl))))) rfl ?_
              refine T_iadd 203 rfl rfl ?_
              refine T_sto 204 [(2, .int (i32 (((m.2 81) jj) + (m.1 69)))), (5, .int (i32 (m.1 69))), (4, .int (i32 ((m.2 80) jj))), (3, .int (i32 ((m.2 82) jj))), (0, .ref 189), (1, .int (i32 jj))] rfl (fun _ => rfl) ?_
              refine T_goto 261 rfl (fun _ => rfl) ?_
              refine Tm_lv (a := [(0, .ref 189), (1, .int (i32 jj)), (2, .int (i32 (((m.2 81) jj) + (m.1 69)))), (3, .int (i32 ((m.2 82) jj))), (4, .int (i32 ((m.2 80) jj))), (5, .int (i32 (m.1 69)))]) rfl rfl ⟨rfl, rfl, rfl, rfl, rfl, rfl, trivial⟩ ?_
              exact J261_10 (((m.2 81) jj) + (m.1 69)) (mO m388 [] []) (r32 (by omega) (by omega)) Tm388 (fr_m (fr_s Fm388 (fr_m (fr_s Fm373 (fr_m (fr_s Fm276 (fr_m fr_0 rfl rfl) rfl rfl) rfl rfl) rfl rfl) rfl rfl) rfl rfl) rfl rfl) (show 0 ≤ (((m.2 81) jj) + (m.1 69)) ∧ (((m.2 81) jj) + (m.1 69)) ≤ (m.1 69) + 64 by omega) (fun (h : (m388.1 10) = 0) => absurd h (by omega))
          · skip
            refine T_ld 162 (.int (i32 1)) rfl (fun _ => rfl) ?_
            refine T_goto 166 rfl (fun _ => rfl) ?_
            refine T_gf 170 (.int (i32 (m.1 70))) rfl rfl rfl rfl (mfv_c (F := fun x => .int (i32 x)) rfl (show (m276.1 70) = (m.1 70) from (fr1 Fm276 70 rfl))) rfl ?_
            refine T_call 173 256 [.ref 189, .int (i32 1), .int (i32 (m.1 70))] [] rfl (fun _ => rfl) rfl (c_want w (mO m276 [] []) c N D (by omega) Tm276 1 (m.1 70) ⟨by decide, by decide⟩ (r32 (by omega) (by omega)) (show 0 ≤ (m.1 70) ∧ (m.1 70) ≤ 4000 by omega) (fun (h : (m276.1 10) = 0) => absurd h (by omega))) (fun rr393 k394 => ?_)
            obtain ⟨m395, Tm395, Fm395, h396, c397, rfl⟩ := k394
            refine ⟨_, _, rfl, ?_⟩
            refine T_nb (st' := []) rfl ?_
            have g398 : 0 ≤ m395.1 10 ∧ m395.1 10 ≤ 8 := Tm395.1 10
            replace h396 : (m395.1 10) = 0 → (m276.1 10) = 0 := h396
            have hf399 : 1 ≤ (m395.1 10) := by omega
            clear c397
            clear h396
            clear g279 hf369
            refine T_ld 174 (.ref 189) rfl (fun _ => rfl) ?_
            refine T_ld 175 (.int (i32 ((m.2 81) jj))) rfl (fun _ => rfl) ?_
            refine T_gf 179 (.int (i32 (m.1 69))) rfl rfl rfl rfl (mfv_c (F := fun x => .int (i32 x)) rfl (show (m395.1 69) = (m.1 69) from ((fr1 Fm395 69 rfl).trans (fr1 Fm276 69 rfl)))) rfl ?_
            refine T_iadd 180 rfl rfl ?_
            refine T_ld 182 (.int (i32 64)) rfl (fun _ => rfl) ?_
            refine T_icmp 189 185 rfl rfl rfl (r32 (by omega) (by omega)) ⟨by decide, by decide⟩ (fun (h400 : (64 : Int) < ((m.2 81) jj) + (m.1 69)) => ?_) (fun (h400 : ¬ ((64 : Int) < ((m.2 81) jj) + (m.1 69))) => ?_)
            · skip
              refine T_ld 190 (.int (i32 0)) rfl (fun _ => rfl) ?_
              refine T_gf 194 (.int (i32 (m.1 70))) rfl rfl rfl rfl (mfv_c (F := fun x => .int (i32 x)) rfl (show (m395.1 70) = (m.1 70) from ((fr1 Fm395 70 rfl).trans (fr1 Fm276 70 rfl)))) rfl ?_
              refine T_call 197 256 [.ref 189, .int (i32 0), .int (i32 (m.1 70))] [] rfl (fun _ => rfl) rfl (c_want w (mO m395 [] []) c N D (by omega) Tm395 0 (m.1 70) ⟨by decide, by decide⟩ (r32 (by omega) (by omega)) (show 0 ≤ (m.1 70) ∧ (m.1 70) ≤ 4000 by omega) (fun (h : (m395.1 10) = 0) => absurd h (by omega))) (fun rr401 k402 => ?_)
              obtain ⟨m403, Tm403, Fm403, h404, c405, rfl⟩ := k402
              refine ⟨_, _, rfl, ?_⟩
              refine T_nb (st' := []) rfl ?_
              have g406 : 0 ≤ m403.1 10 ∧ m403.1 10 ≤ 8 := Tm403.1 10
              replace h404 : (m403.1 10) = 0 → (m395.1 10) = 0 := h404
              have hf407 : 1 ≤ (m403.1 10) := by omega
              clear c405
              clear h404
              clear g398 hf399
              refine T_ld 198 (.int (i32 ((m.2 81) jj))) rfl (fun _ => rfl) ?_
              refine T_gf 202 (.int (i32 (m.1 69))) rfl rfl rfl rfl (mfv_c (F := fun x => .int (i32 x)) rfl (show (m403.1 69) = (m.1 69) from ((fr1 Fm403 69 rfl).trans ((fr1 Fm395 69 rfl).trans (fr1 Fm276 69 rfl))))) rfl ?_
              refine T_iadd 203 rfl rfl ?_
              refine T_sto 204 [(2, .int (i32 (((m.2 81) jj) + (m.1 69)))), (5, .int (i32 (m.1 69))), (4, .int (i32 ((m.2 80) jj))), (3, .int (i32 ((m.2 82) jj))), (0, .ref 189), (1, .int (i32 jj))] rfl (fun _ => rfl) ?_
              refine T_goto 261 rfl (fun _ => rfl) ?_
              refine Tm_lv (a := [(0, .ref 189), (1, .int (i32 jj)), (2, .int (i32 (((m.2 81) jj) + (m.1 69)))), (3, .int (i32 ((m.2 82) jj))), (4, .int (i32 ((m.2 80) jj))), (5, .int (i32 (m.1 69)))]) rfl rfl ⟨rfl, rfl, rfl, rfl, rfl, rfl, trivial⟩ ?_
              exact J261_10 (((m.2 81) jj) + (m.1 69)) (mO m403 [] []) (r32 (by omega) (by omega)) Tm403 (fr_m (fr_s Fm403 (fr_m (fr_s Fm395 (fr_m (fr_s Fm276 (fr_m fr_0 rfl rfl) rfl rfl) rfl rfl) rfl rfl) rfl rfl) rfl rfl) rfl rfl) (show 0 ≤ (((m.2 81) jj) + (m.1 69)) ∧ (((m.2 81) jj) + (m.1 69)) ≤ (m.1 69) + 64 by omega) (fun (h : (m403.1 10) = 0) => absurd h (by omega))
            · skip
              refine T_ld 186 (.int (i32 1)) rfl (fun _ => rfl) ?_
              refine T_goto 190 rfl (fun _ => rfl) ?_
              refine T_gf 194 (.int (i32 (m.1 70))) rfl rfl rfl rfl (mfv_c (F := fun x => .int (i32 x)) rfl (show (m395.1 70) = (m.1 70) from ((fr1 Fm395 70 rfl).trans (fr1 Fm276 70 rfl)))) rfl ?_
              refine T_call 197 256 [.ref 189, .int (i32 1), .int (i32 (m.1 70))] [] rfl (fun _ => rfl) rfl (c_want w (mO m395 [] []) c N D (by omega) Tm395 1 (m.1 70) ⟨by decide, by decide⟩ (r32 (by omega) (by omega)) (show 0 ≤ (m.1 70) ∧ (m.1 70) ≤ 4000 by omega) (fun (h : (m395.1 10) = 0) => absurd h (by omega))) (fun rr408 k409 => ?_)
              obtain ⟨m410, Tm410, Fm410, h411, c412, rfl⟩ := k409
              refine ⟨_, _, rfl, ?_⟩
              refine T_nb (st' := []) rfl ?_
              have g413 : 0 ≤ m410.1 10 ∧ m410.1 10 ≤ 8 := Tm410.1 10
              replace h411 : (m410.1 10) = 0 → (m395.1 10) = 0 := h411
              have hf414 : 1 ≤ (m410.1 10) := by omega
              clear c412
              clear h411
              clear g398 hf399
              refine T_ld 198 (.int (i32 ((m.2 81) jj))) rfl (fun _ => rfl) ?_
              refine T_gf 202 (.int (i32 (m.1 69))) rfl rfl rfl rfl (mfv_c (F := fun x => .int (i32 x)) rfl (show (m410.1 69) = (m.1 69) from ((fr1 Fm410 69 rfl).trans ((fr1 Fm395 69 rfl).trans (fr1 Fm276 69 rfl))))) rfl ?_
              refine T_iadd 203 rfl rfl ?_
              refine T_sto 204 [(2, .int (i32 (((m.2 81) jj) + (m.1 69)))), (5, .int (i32 (m.1 69))), (4, .int (i32 ((m.2 80) jj))), (3, .int (i32 ((m.2 82) jj))), (0, .ref 189), (1, .int (i32 jj))] rfl (fun _ => rfl) ?_
              refine T_goto 261 rfl (fun _ => rfl) ?_
              refine Tm_lv (a := [(0, .ref 189), (1, .int (i32 jj)), (2, .int (i32 (((m.2 81) jj) + (m.1 69)))), (3, .int (i32 ((m.2 82) jj))), (4, .int (i32 ((m.2 80) jj))), (5, .int (i32 (m.1 69)))]) rfl rfl ⟨rfl, rfl, rfl, rfl, rfl, rfl, trivial⟩ ?_
              exact J261_10 (((m.2 81) jj) + (m.1 69)) (mO m410 [] []) (r32 (by omega) (by omega)) Tm410 (fr_m (fr_s Fm410 (fr_m (fr_s Fm395 (fr_m (fr_s Fm276 (fr_m fr_0 rfl rfl) rfl rfl) rfl rfl) rfl rfl) rfl rfl) rfl rfl) rfl rfl) (show 0 ≤ (((m.2 81) jj) + (m.1 69)) ∧ (((m.2 81) jj) + (m.1 69)) ≤ (m.1 69) + 64 by omega) (fun (h : (m410.1 10) = 0) => absurd h (by omega))
    by_cases h415 : x68 = 2
    · skip
      refine T_cast 2 h415 ?_
      refine T_pop 207 rfl (fun _ => rfl) ?_
      exact T207_98
    by_cases h416 : x68 = 3
    · skip
      refine T_cast 3 h416 ?_
      refine T_pop 207 rfl (fun _ => rfl) ?_
      exact T207_98
    by_cases h417 : x68 = 4
    · skip
      refine T_cast 4 h417 ?_
      refine T_pop 207 rfl (fun _ => rfl) ?_
      exact T207_98
    by_cases h418 : x68 = 5
    · skip
      refine T_cast 5 h418 ?_
      refine T_pop 207 rfl (fun _ => rfl) ?_
      exact T207_98
    by_cases h419 : x68 = 7
    · skip
      refine T_cast 7 h419 ?_
      refine T_pop 207 rfl (fun _ => rfl) ?_
      exact T207_98
    refine T_tsd 207 rfl rfl (r32 (by omega) (by omega)) (by omega) ?_
    exact T207_98
  · skip
    clear hC
    refine T_gf 4 (.ref 243) rfl rfl rfl rfl rfl rfl ?_
    refine T_ld 5 (.int (i32 jj)) rfl (fun _ => rfl) ?_
    refine T_iald 6 81 (m.2 81) rfl rfl rfl (by omega) (show jj < (540 : Int) by omega) rfl ?_
    have e420 : 0 ≤ m.2 81 jj ∧ m.2 81 jj ≤ 64 := hT.2.1 81 jj
    refine T_sto 7 [(2, .int (i32 ((m.2 81) jj))), (0, .ref 189), (1, .int (i32 jj))] rfl (fun _ => rfl) ?_
    refine T_gf 11 (.ref 244) rfl rfl rfl rfl rfl rfl ?_
    refine T_ld 12 (.int (i32 jj)) rfl (fun _ => rfl) ?_
    refine T_iald 13 82 (m.2 82) rfl rfl rfl (by omega) (show jj < (540 : Int) by omega) rfl ?_
    have e421 : 0 ≤ m.2 82 jj ∧ m.2 82 jj ≤ 4000 := hT.2.1 82 jj
    refine T_sto 14 [(3, .int (i32 ((m.2 82) jj))), (2, .int (i32 ((m.2 81) jj))), (0, .ref 189), (1, .int (i32 jj))] rfl (fun _ => rfl) ?_
    refine T_gf 18 (.ref 242) rfl rfl rfl rfl rfl rfl ?_
    refine T_ld 19 (.int (i32 jj)) rfl (fun _ => rfl) ?_
    refine T_iald 20 80 (m.2 80) rfl rfl rfl (by omega) (show jj < (540 : Int) by omega) rfl ?_
    have e422 : (-1) ≤ (m.2 80) jj ∧ (m.2 80) jj ≤ 330 := (hT.2.1 80) jj
    refine T_sto 22 [(4, .int (i32 ((m.2 80) jj))), (3, .int (i32 ((m.2 82) jj))), (2, .int (i32 ((m.2 81) jj))), (0, .ref 189), (1, .int (i32 jj))] rfl (fun _ => rfl) ?_
    refine T_gf 26 (.int (i32 (m.1 69))) rfl rfl rfl rfl rfl rfl ?_
    refine T_sto 28 [(5, .int (i32 (m.1 69))), (4, .int (i32 ((m.2 80) jj))), (3, .int (i32 ((m.2 82) jj))), (2, .int (i32 ((m.2 81) jj))), (0, .ref 189), (1, .int (i32 jj))] rfl (fun _ => rfl) ?_
    refine T_gf 32 (.ref 242) rfl rfl rfl rfl rfl rfl ?_
    refine T_ld 33 (.int (i32 jj)) rfl (fun _ => rfl) ?_
    refine T_iald 34 80 (m.2 80) rfl rfl rfl (by omega) (show jj < (540 : Int) by omega) rfl ?_
    have e423 : (-1) ≤ (m.2 80) jj ∧ (m.2 80) jj ≤ 330 := (hT.2.1 80) jj
    refine T_call 37 259 [.int (i32 ((m.2 80) jj))] [] rfl (fun _ => rfl) rfl (c_level w (mO m [] []) c N D (by omega) hT ((m.2 80) jj) (r32 (by omega) (by omega))) (fun rr424 k425 => ?_)
    obtain ⟨x426, g427, h428, rfl⟩ := k425
    refine ⟨_, _, rfl, ?_⟩
    refine T_ns (st' := [.int (i32 x426)]) rfl ?_
    obtain ⟨g427a, g427b⟩ := g427
    replace h428 : 0 ≤ x426 → 4 ≤ ((m.2 80) jj) ∧ ((m.2 80) jj) ≤ 124 := h428
    have T88_429 : (x426 = 0 ∨ x426 = 1) → TT w D pm_260 (88, [(5, .int (i32 (m.1 69))), (4, .int (i32 ((m.2 80) jj))), (3, .int (i32 ((m.2 82) jj))), (2, .int (i32 ((m.2 81) jj))), (0, .ref 189), (1, .int (i32 jj))], [], (mhp (mO m [] []) c, N), 0, 0) (Q_join m c N jj B) := by
      intro ht430
      refine T_ld 89 (.ref 189) rfl (fun _ => rfl) ?_
      refine T_ld 90 (.int (i32 ((m.2 81) jj))) rfl (fun _ => rfl) ?_
      refine T_gf 94 (.ref 245) rfl rfl rfl rfl rfl rfl ?_
      refine T_ld 95 (.int (i32 jj)) rfl (fun _ => rfl) ?_
      refine T_bald 96 83 (m.2 83) rfl rfl rfl (by omega) (show jj < (540 : Int) by omega) rfl ?_
      have e431 : 0 ≤ m.2 83 jj ∧ m.2 83 jj ≤ 1 := hT.2.1 83 jj
      refine T_gf 100 (.ref 246) rfl rfl rfl rfl rfl rfl ?_
      refine T_ld 101 (.int (i32 jj)) rfl (fun _ => rfl) ?_
      refine T_lald 102 84 (m.2 84) rfl rfl rfl (by omega) (show jj < (540 : Int) by omega) rfl ?_
      have e432 : (-9223372036854775808) ≤ m.2 84 jj ∧ m.2 84 jj ≤ 9223372036854775807 := hT.2.1 84 jj
      refine T_ld 103 (.int (i32 ((m.2 82) jj))) rfl (fun _ => rfl) ?_
      refine T_call 106 258 [.ref 189, .int (i32 ((m.2 81) jj)), .int (i32 ((m.2 83) jj)), .long (i64 ((m.2 84) jj)), .int (i32 ((m.2 82) jj))] [] rfl (fun _ => rfl) rfl (c_wantBit w (mO m [] []) c N D (by omega) hT ((m.2 81) jj) ((m.2 83) jj) ((m.2 84) jj) ((m.2 82) jj) (r32 (by omega) (by omega)) (r32 (by omega) (by omega)) (r64 (by omega) (by omega)) (r32 (by omega) (by omega)) (show 0 ≤ ((m.2 82) jj) ∧ ((m.2 82) jj) ≤ 4000 by omega) (fun (h : (m.1 10) = 0) => absurd h (by omega))) (fun rr433 k434 => ?_)
      obtain ⟨m435, Tm435, Fm435, h436, c437, rfl⟩ := k434
      refine ⟨_, _, rfl, ?_⟩
      refine T_nb (st' := []) rfl ?_
      have g438 : 0 ≤ m435.1 10 ∧ m435.1 10 ≤ 8 := Tm435.1 10
      replace h436 : (m435.1 10) = 0 → (m.1 10) = 0 := h436
      have hf439 : 1 ≤ (m435.1 10) := by omega
      clear c437
      clear h436
      clear g427a g427b h428
      refine T_ld 107 (.ref 189) rfl (fun _ => rfl) ?_
      refine T_gf 111 (.int (i32 (m.1 69))) rfl rfl rfl rfl (mfv_c (F := fun x => .int (i32 x)) rfl (show (m435.1 69) = (m.1 69) from (fr1 Fm435 69 rfl))) rfl ?_
      refine T_gf 115 (.int (i32 (m.1 71))) rfl rfl rfl rfl (mfv_c (F := fun x => .int (i32 x)) rfl (show (m435.1 71) = (m.1 71) from (fr1 Fm435 71 rfl))) rfl ?_
      refine T_gf 119 (.long (i64 (m.1 72))) rfl rfl rfl rfl (mfv_c (F := fun x => .long (i64 x)) rfl (show (m435.1 72) = (m.1 72) from (fr1 Fm435 72 rfl))) rfl ?_
      refine T_gf 123 (.int (i32 (m.1 70))) rfl rfl rfl rfl (mfv_c (F := fun x => .int (i32 x)) rfl (show (m435.1 70) = (m.1 70) from (fr1 Fm435 70 rfl))) rfl ?_
      refine T_call 126 258 [.ref 189, .int (i32 (m.1 69)), .int (i32 (m.1 71)), .long (i64 (m.1 72)), .int (i32 (m.1 70))] [] rfl (fun _ => rfl) rfl (c_wantBit w (mO m435 [] []) c N D (by omega) Tm435 (m.1 69) (m.1 71) (m.1 72) (m.1 70) (r32 (by omega) (by omega)) (r32 (by omega) (by omega)) (r64 (by omega) (by omega)) (r32 (by omega) (by omega)) (show 0 ≤ (m.1 70) ∧ (m.1 70) ≤ 4000 by omega) (fun (h : (m435.1 10) = 0) => absurd h (by omega))) (fun rr440 k441 => ?_)
      obtain ⟨m442, Tm442, Fm442, h443, c444, rfl⟩ := k441
      refine ⟨_, _, rfl, ?_⟩
      refine T_nb (st' := []) rfl ?_
      have g445 : 0 ≤ m442.1 10 ∧ m442.1 10 ≤ 8 := Tm442.1 10
      replace h443 : (m442.1 10) = 0 → (m435.1 10) = 0 := h443
      have hf446 : 1 ≤ (m442.1 10) := by omega
      clear c444
      clear h443
      clear g438 hf439
      refine T_ld 127 (.int (i32 1)) rfl (fun _ => rfl) ?_
      refine T_sto 128 [(2, .int (i32 1)), (5, .int (i32 (m.1 69))), (4, .int (i32 ((m.2 80) jj))), (3, .int (i32 ((m.2 82) jj))), (0, .ref 189), (1, .int (i32 jj))] rfl (fun _ => rfl) ?_
      refine T_goto 261 rfl (fun _ => rfl) ?_
      refine T_gf 265 (.ref 242) rfl rfl rfl rfl rfl rfl ?_
      refine T_ld 266 (.int (i32 jj)) rfl (fun _ => rfl) ?_
      refine T_ld 267 (.int (i32 (-1))) rfl (fun _ => rfl) ?_
      have G447 : ∀ j, (-1) ≤ (upI (m.2 80) jj (-1)) j ∧ (upI (m.2 80) jj (-1)) j ≤ 330 := upI_rg (hT.2.1 80) ⟨by omega, by omega⟩
      refine T_iast (a' := [(80, upI (m.2 80) jj (-1))]) 268 80 (m.2 80) rfl rfl rfl (by omega) (show jj < (540 : Int) by omega) (show (m442.2 80) = (m.2 80) from ((fr2 Fm442 80 rfl).trans (fr2 Fm435 80 rfl))) rfl ?_
      refine T_ld 269 (.ref 189) rfl (fun _ => rfl) ?_
      refine T_ld 271 (.int (i32 ((m.2 80) jj))) rfl (fun _ => rfl) ?_
      refine T_ld 272 (.int (i32 1)) rfl (fun _ => rfl) ?_
      refine T_ld 274 (.int (i32 (m.1 69))) rfl (fun _ => rfl) ?_
      refine T_ld 275 (.long (i64 0)) rfl (fun _ => rfl) ?_
      refine T_call 278 248 [.ref 189, .int (i32 ((m.2 80) jj)), .int (i32 1), .int (i32 (m.1 69)), .long (i64 0)] [] rfl (fun _ => rfl) rfl (c_node w (mO m442 [] [(80, upI (m.2 80) jj (-1))]) c N D (by omega) (Ty_mO Tm442 rfl rfl trivial ⟨G447, trivial⟩) ((m.2 80) jj) 1 (m.1 69) 0 B (1 + lh (m.2 79) (m.2 80) (m.1 73)) (r32 (by omega) (by omega)) ⟨by decide, by decide⟩ (r32 (by omega) (by omega)) ⟨by decide, by decide⟩ (fun (h : (m442.1 10) = 0) => absurd h (by omega))) (fun rr448 k449 => ?_)
      obtain ⟨m450, Tm450, Fm450, h451, c452, rfl⟩ := k449
      refine ⟨_, _, rfl, ?_⟩
      refine T_nb (st' := []) rfl ?_
      have g453 : 0 ≤ m450.1 10 ∧ m450.1 10 ≤ 8 := Tm450.1 10
      have g454 : 0 ≤ m450.1 28 ∧ m450.1 28 ≤ 800 := Tm450.1 28
      replace h451 : (m450.1 10) = 0 → (m442.1 10) = 0 := h451
      have hf455 : 1 ≤ (m450.1 10) := by omega
      clear c452
      clear h451
      clear g445 hf446
      refine T_ld 279 (.ref 189) rfl (fun _ => rfl) ?_
      refine T_ld 280 (.int (i32 1)) rfl (fun _ => rfl) ?_
      refine T_ld 281 (.int (i32 ((m.2 82) jj))) rfl (fun _ => rfl) ?_
      refine T_call 284 250 [.ref 189, .int (i32 1), .int (i32 ((m.2 82) jj))] [] rfl (fun _ => rfl) rfl (c_unit w (mO m450 [] []) c N D (by omega) Tm450 1 ((m.2 82) jj) ⟨by decide, by decide⟩ (r32 (by omega) (by omega)) (show 0 ≤ (1 : Int) ∧ (1 : Int) ≤ 1024 by omega) (show 0 ≤ ((m.2 82) jj) ∧ ((m.2 82) jj) ≤ 4000 by omega)) (fun rr456 k457 => ?_)
      obtain ⟨m458, Tm458, Fm458, h459, rfl⟩ := k457
      refine ⟨_, _, rfl, ?_⟩
      refine T_nb (st' := []) rfl ?_
      have g460 : 0 ≤ m458.1 69 ∧ m458.1 69 ≤ 1024 := Tm458.1 69
      have g461 : 0 ≤ m458.1 70 ∧ m458.1 70 ≤ 4000 := Tm458.1 70
      have g462 : 0 ≤ m458.1 71 ∧ m458.1 71 ≤ 1 := Tm458.1 71
      have g463 : (-9223372036854775808) ≤ m458.1 72 ∧ m458.1 72 ≤ 9223372036854775807 := Tm458.1 72
      replace h459 : (m458.1 69) = (1 : Int) := h459
      refine T_ret rfl (fun _ => rfl) ?_
      exact ⟨(mO m458 [] []), Tm458, (fr_m (fr_s Fm458 (fr_m (fr_s Fm450 (fr_m (fr_s Fm442 (fr_m (fr_s Fm435 (fr_m fr_0 rfl rfl) rfl rfl) rfl rfl) rfl rfl) rfl rfl) rfl rfl) rfl rfl) rfl rfl) rfl rfl), (show (m458.1 10) = 0 → (m.1 10) = 0 by rewrite [(show (m458.1 10) = (m450.1 10) from (fr1 Fm458 10 rfl))]; omega), (show (m458.1 69) ≤ (m.1 69) + 64 by omega), (fun (h : (m458.1 10) = 0) => absurd ((show (m458.1 10) = (m450.1 10) from (fr1 Fm458 10 rfl)).symm.trans h) (by omega)), rfl⟩
    have T207_464 : TT w D pm_260 (207, [(5, .int (i32 (m.1 69))), (4, .int (i32 ((m.2 80) jj))), (3, .int (i32 ((m.2 82) jj))), (2, .int (i32 ((m.2 81) jj))), (0, .ref 189), (1, .int (i32 jj))], [], (mhp (mO m [] []) c, N), 0, 0) (Q_join m c N jj B) := by
      refine T_ld 208 (.ref 189) rfl (fun _ => rfl) ?_
      refine T_ld 209 (.int (i32 ((m.2 81) jj))) rfl (fun _ => rfl) ?_
      refine T_gf 213 (.ref 245) rfl rfl rfl rfl rfl rfl ?_
      refine T_ld 214 (.int (i32 jj)) rfl (fun _ => rfl) ?_
      refine T_bald 215 83 (m.2 83) rfl rfl rfl (by omega) (show jj < (540 : Int) by omega) rfl ?_
      have e466 : 0 ≤ m.2 83 jj ∧ m.2 83 jj ≤ 1 := hT.2.1 83 jj
      refine T_gf 219 (.ref 246) rfl rfl rfl rfl rfl rfl ?_
      refine T_ld 220 (.int (i32 jj)) rfl (fun _ => rfl) ?_
      refine T_lald 221 84 (m.2 84) rfl rfl rfl (by omega) (show jj < (540 : Int) by omega) rfl ?_
      have e467 : (-9223372036854775808) ≤ m.2 84 jj ∧ m.2 84 jj ≤ 9223372036854775807 := hT.2.1 84 jj
      refine T_ld 222 (.int (i32 ((m.2 82) jj))) rfl (fun _ => rfl) ?_
      refine T_gf 226 (.int (i32 (m.1 69))) rfl rfl rfl rfl rfl rfl ?_
      refine T_gf 230 (.int (i32 (m.1 71))) rfl rfl rfl rfl rfl rfl ?_
      refine T_gf 234 (.long (i64 (m.1 72))) rfl rfl rfl rfl rfl rfl ?_
      refine T_gf 238 (.int (i32 (m.1 70))) rfl rfl rfl rfl rfl rfl ?_
      refine T_call 241 261 [.ref 189, .int (i32 ((m.2 81) jj)), .int (i32 ((m.2 83) jj)), .long (i64 ((m.2 84) jj)), .int (i32 ((m.2 82) jj)), .int (i32 (m.1 69)), .int (i32 (m.1 71)), .long (i64 (m.1 72)), .int (i32 (m.1 70))] [] rfl (fun _ => rfl) rfl (c_common w (mO m [] []) c N D (by omega) hT ((m.2 81) jj) ((m.2 83) jj) ((m.2 84) jj) ((m.2 82) jj) (m.1 69) (m.1 71) (m.1 72) (m.1 70) (r32 (by omega) (by omega)) (r32 (by omega) (by omega)) (r64 (by omega) (by omega)) (r32 (by omega) (by omega)) (r32 (by omega) (by omega)) (r32 (by omega) (by omega)) (r64 (by omega) (by omega)) (r32 (by omega) (by omega)) (show 0 ≤ ((m.2 82) jj) ∧ ((m.2 82) jj) ≤ 4000 by omega) (show 0 ≤ (m.1 70) ∧ (m.1 70) ≤ 4000 by omega) (show 0 ≤ ((m.2 81) jj) ∧ ((m.2 81) jj) ≤ 1024 by omega) (show 0 ≤ (m.1 69) ∧ (m.1 69) ≤ 1024 by omega) (fun (h : (m.1 10) = 0) => absurd h (by omega))) (fun rr468 k469 => ?_)
      obtain ⟨m470, x471, Tm470, Fm470, g472, h473, h474, c475, rfl⟩ := k469
      refine ⟨_, _, rfl, ?_⟩
      refine T_nb (st' := [.int (i32 x471)]) rfl ?_
      obtain ⟨g472a, g472b⟩ := g472
      have g476 : 0 ≤ m470.1 10 ∧ m470.1 10 ≤ 8 := Tm470.1 10
      replace h473 : (m470.1 10) = 0 → (m.1 10) = 0 := h473
      replace h474 : x471 = 64 ∨ x471 = ((m.2 81) jj) ∨ x471 = (m.1 69) := h474
      have hf477 : 1 ≤ (m470.1 10) := by omega
      clear c475
      clear h473
      clear g427a g427b h428
      refine T_sto 242 [(2, .int (i32 x471)), (5, .int (i32 (m.1 69))), (4, .int (i32 ((m.2 80) jj))), (3, .int (i32 ((m.2 82) jj))), (0, .ref 189), (1, .int (i32 jj))] rfl (fun _ => rfl) ?_
      refine T_gf 246 (.ref 242) rfl rfl rfl rfl rfl rfl ?_
      refine T_ld 247 (.int (i32 jj)) rfl (fun _ => rfl) ?_
      refine T_iald 248 80 (m.2 80) rfl rfl rfl (by omega) (show jj < (540 : Int) by omega) (show (m470.2 80) = (m.2 80) from (fr2 Fm470 80 rfl)) ?_
      have e478 : (-1) ≤ (m.2 80) jj ∧ (m.2 80) jj ≤ 330 := (hT.2.1 80) jj
      refine T_call 251 259 [.int (i32 ((m.2 80) jj))] [] rfl (fun _ => rfl) rfl (c_level w (mO m470 [] []) c N D (by omega) Tm470 ((m.2 80) jj) (r32 (by omega) (by omega))) (fun rr479 k480 => ?_)
      obtain ⟨x481, g482, h483, rfl⟩ := k480
      refine ⟨_, _, rfl, ?_⟩
      refine T_ns (st' := [.int (i32 x481)]) rfl ?_
      obtain ⟨g482a, g482b⟩ := g482
      replace h483 : 0 ≤ x481 → 4 ≤ ((m.2 80) jj) ∧ ((m.2 80) jj) ≤ 124 := h483
      refine T_ld 252 (.int (i32 2)) rfl (fun _ => rfl) ?_
      refine T_icmp 259 255 rfl rfl rfl (r32 (by omega) (by omega)) ⟨by decide, by decide⟩ (fun (h484 : x481 ≠ 2) => ?_) (fun (h484 : ¬ (x481 ≠ 2)) => ?_)
      · skip
        refine T_ld 260 (.int (i32 x471)) rfl (fun _ => rfl) ?_
        refine T_sto 261 [(2, .int (i32 x471)), (5, .int (i32 (m.1 69))), (4, .int (i32 ((m.2 80) jj))), (3, .int (i32 ((m.2 82) jj))), (0, .ref 189), (1, .int (i32 jj))] rfl (fun _ => rfl) ?_
        refine T_gf 265 (.ref 242) rfl rfl rfl rfl rfl rfl ?_
        refine T_ld 266 (.int (i32 jj)) rfl (fun _ => rfl) ?_
        refine T_ld 267 (.int (i32 (-1))) rfl (fun _ => rfl) ?_
        have G485 : ∀ j, (-1) ≤ (upI (m.2 80) jj (-1)) j ∧ (upI (m.2 80) jj (-1)) j ≤ 330 := upI_rg (hT.2.1 80) ⟨by omega, by omega⟩
        refine T_iast (a' := [(80, upI (m.2 80) jj (-1))]) 268 80 (m.2 80) rfl rfl rfl (by omega) (show jj < (540 : Int) by omega) (show (m470.2 80) = (m.2 80) from (fr2 Fm470 80 rfl)) rfl ?_
        refine T_ld 269 (.ref 189) rfl (fun _ => rfl) ?_
        refine T_ld 271 (.int (i32 ((m.2 80) jj))) rfl (fun _ => rfl) ?_
        refine T_ld 272 (.int (i32 x471)) rfl (fun _ => rfl) ?_
        refine T_ld 274 (.int (i32 (m.1 69))) rfl (fun _ => rfl) ?_
        refine T_ld 275 (.long (i64 0)) rfl (fun _ => rfl) ?_
        refine T_call 278 248 [.ref 189, .int (i32 ((m.2 80) jj)), .int (i32 x471), .int (i32 (m.1 69)), .long (i64 0)] [] rfl (fun _ => rfl) rfl (c_node w (mO m470 [] [(80, upI (m.2 80) jj (-1))]) c N D (by omega) (Ty_mO Tm470 rfl rfl trivial ⟨G485, trivial⟩) ((m.2 80) jj) x471 (m.1 69) 0 B (1 + lh (m.2 79) (m.2 80) (m.1 73)) (r32 (by omega) (by omega)) (r32 (by omega) (by omega)) (r32 (by omega) (by omega)) ⟨by decide, by decide⟩ (fun (h : (m470.1 10) = 0) => absurd h (by omega))) (fun rr486 k487 => ?_)
        obtain ⟨m488, Tm488, Fm488, h489, c490, rfl⟩ := k487
        refine ⟨_, _, rfl, ?_⟩
        refine T_nb (st' := []) rfl ?_
        have g491 : 0 ≤ m488.1 10 ∧ m488.1 10 ≤ 8 := Tm488.1 10
        have g492 : 0 ≤ m488.1 28 ∧ m488.1 28 ≤ 800 := Tm488.1 28
        replace h489 : (m488.1 10) = 0 → (m470.1 10) = 0 := h489
        have hf493 : 1 ≤ (m488.1 10) := by omega
        clear c490
        clear h489
        clear g476 hf477 g482a g482b h483 h484
        refine T_ld 279 (.ref 189) rfl (fun _ => rfl) ?_
        refine T_ld 280 (.int (i32 x471)) rfl (fun _ => rfl) ?_
        refine T_ld 281 (.int (i32 ((m.2 82) jj))) rfl (fun _ => rfl) ?_
        refine T_call 284 250 [.ref 189, .int (i32 x471), .int (i32 ((m.2 82) jj))] [] rfl (fun _ => rfl) rfl (c_unit w (mO m488 [] []) c N D (by omega) Tm488 x471 ((m.2 82) jj) (r32 (by omega) (by omega)) (r32 (by omega) (by omega)) (show 0 ≤ x471 ∧ x471 ≤ 1024 by omega) (show 0 ≤ ((m.2 82) jj) ∧ ((m.2 82) jj) ≤ 4000 by omega)) (fun rr494 k495 => ?_)
        obtain ⟨m496, Tm496, Fm496, h497, rfl⟩ := k495
        refine ⟨_, _, rfl, ?_⟩
        refine T_nb (st' := []) rfl ?_
        have g498 : 0 ≤ m496.1 69 ∧ m496.1 69 ≤ 1024 := Tm496.1 69
        have g499 : 0 ≤ m496.1 70 ∧ m496.1 70 ≤ 4000 := Tm496.1 70
        have g500 : 0 ≤ m496.1 71 ∧ m496.1 71 ≤ 1 := Tm496.1 71
        have g501 : (-9223372036854775808) ≤ m496.1 72 ∧ m496.1 72 ≤ 9223372036854775807 := Tm496.1 72
        replace h497 : (m496.1 69) = x471 := h497
        refine T_ret rfl (fun _ => rfl) ?_
        exact ⟨(mO m496 [] []), Tm496, (fr_m (fr_s Fm496 (fr_m (fr_s Fm488 (fr_m (fr_s Fm470 (fr_m fr_0 rfl rfl) rfl rfl) rfl rfl) rfl rfl) rfl rfl) rfl rfl) rfl rfl), (show (m496.1 10) = 0 → (m.1 10) = 0 by rewrite [(show (m496.1 10) = (m488.1 10) from (fr1 Fm496 10 rfl))]; omega), (show (m496.1 69) ≤ (m.1 69) + 64 by omega), (fun (h : (m496.1 10) = 0) => absurd ((show (m496.1 10) = (m488.1 10) from (fr1 Fm496 10 rfl)).symm.trans h) (by omega)), rfl⟩
      · skip
        refine T_ld 256 (.int (i32 1)) rfl (fun _ => rfl) ?_
        refine T_goto 260 rfl (fun _ => rfl) ?_
        refine T_sto 261 [(2, .int (i32 1)), (5, .int (i32 (m.1 69))), (4, .int (i32 ((m.2 80) jj))), (3, .int (i32 ((m.2 82) jj))), (0, .ref 189), (1, .int (i32 jj))] rfl (fun _ => rfl) ?_
        refine T_gf 265 (.ref 242) rfl rfl rfl rfl rfl rfl ?_
        refine T_ld 266 (.int (i32 jj)) rfl (fun _ => rfl) ?_
        refine T_ld 267 (.int (i32 (-1))) rfl (fun _ => rfl) ?_
        have G502 : ∀ j, (-1) ≤ (upI (m.2 80) jj (-1)) j ∧ (upI (m.2 80) jj (-1)) j ≤ 330 := upI_rg (hT.2.1 80) ⟨by omega, by omega⟩
        refine T_iast (a' := [(80, upI (m.2 80) jj (-1))]) 268 80 (m.2 80) rfl rfl rfl (by omega) (show jj < (540 : Int) by omega) (show (m470.2 80) = (m.2 80) from (fr2 Fm470 80 rfl)) rfl ?_
        refine T_ld 269 (.ref 189) rfl (fun _ => rfl) ?_
        refine T_ld 271 (.int (i32 ((m.2 80) jj))) rfl (fun _ => rfl) ?_
        refine T_ld 272 (.int (i32 1)) rfl (fun _ => rfl) ?_
        refine T_ld 274 (.int (i32 (m.1 69))) rfl (fun _ => rfl) ?_
        refine T_ld 275 (.long (i64 0)) rfl (fun _ => rfl) ?_
        refine T_call 278 248 [.ref 189, .int (i32 ((m.2 80) jj)), .int (i32 1), .int (i32 (m.1 69)), .long (i64 0)] [] rfl (fun _ => rfl) rfl (c_node w (mO m470 [] [(80, upI (m.2 80) jj (-1))]) c N D (by omega) (Ty_mO Tm470 rfl rfl trivial ⟨G502, trivial⟩) ((m.2 80) jj) 1 (m.1 69) 0 B (1 + lh (m.2 79) (m.2 80) (m.1 73)) (r32 (by omega) (by omega)) ⟨by decide, by decide⟩ (r32 (by omega) (by omega)) ⟨by decide, by decide⟩ (fun (h : (m470.1 10) = 0) => absurd h (by omega))) (fun rr503 k504 => ?_)
        obtain ⟨m505, Tm505, Fm505, h506, c507, rfl⟩ := k504
        refine ⟨_, _, rfl, ?_⟩
        refine T_nb (st' := []) rfl ?_
        have g508 : 0 ≤ m505.1 10 ∧ m505.1 10 ≤ 8 := Tm505.1 10
        have g509 : 0 ≤ m505.1 28 ∧ m505.1 28 ≤ 800 := Tm505.1 28
        replace h506 : (m505.1 10) = 0 → (m470.1 10) = 0 := h506
        have hf510 : 1 ≤ (m505.1 10) := by omega
        clear c507
        clear h506
        clear g476 g472a g472b hf477 h474 g482a g482b h483 h484
        refine T_ld 279 (.ref 189) rfl (fun _ => rfl) ?_
        refine T_ld 280 (.int (i32 1)) rfl (fun _ => rfl) ?_
        refine T_ld 281 (.int (i32 ((m.2 82) jj))) rfl (fun _ => rfl) ?_
        refine T_call 284 250 [.ref 189, .int (i32 1), .int (i32 ((m.2 82) jj))] [] rfl (fun _ => rfl) rfl (c_unit w (mO m505 [] []) c N D (by omega) Tm505 1 ((m.2 82) jj) ⟨by decide, by decide⟩ (r32 (by omega) (by omega)) (show 0 ≤ (1 : Int) ∧ (1 : Int) ≤ 1024 by omega) (show 0 ≤ ((m.2 82) jj) ∧ ((m.2 82) jj) ≤ 4000 by omega)) (fun rr511 k512 => ?_)
        obtain ⟨m513, Tm513, Fm513, h514, rfl⟩ := k512
        refine ⟨_, _, rfl, ?_⟩
        refine T_nb (st' := []) rfl ?_
        have g515 : 0 ≤ m513.1 69 ∧ m513.1 69 ≤ 1024 := Tm513.1 69
        have g516 : 0 ≤ m513.1 70 ∧ m513.1 70 ≤ 4000 := Tm513.1 70
        have g517 : 0 ≤ m513.1 71 ∧ m513.1 71 ≤ 1 := Tm513.1 71
        have g518 : (-9223372036854775808) ≤ m513.1 72 ∧ m513.1 72 ≤ 9223372036854775807 := Tm513.1 72
        replace h514 : (m513.1 69) = (1 : Int) := h514
        refine T_ret rfl (fun _ => rfl) ?_
        exact ⟨(mO m513 [] []), Tm513, (fr_m (fr_s Fm513 (fr_m (fr_s Fm505 (fr_m (fr_s Fm470 (fr_m fr_0 rfl rfl) rfl rfl) rfl rfl) rfl rfl) rfl rfl) rfl rfl) rfl rfl), (show (m513.1 10) = 0 → (m.1 10) = 0 by rewrite [(show (m513.1 10) = (m505.1 10) from (fr1 Fm513 10 rfl))]; omega), (show (m513.1 69) ≤ (m.1 69) + 64 by omega), (fun (h : (m513.1 10) = 0) => absurd ((show (m513.1 10) = (m505.1 10) from (fr1 Fm513 10 rfl)).symm.trans h) (by omega)), rfl⟩
    by_cases h519 : x426 = 0
    · skip
      refine T_cast 0 h519 ?_
      refine T_pop 88 rfl (fun _ => rfl) ?_
      exact T88_429 (by omega)
    by_cases h520 : x426 = 1
    · skip
      refine T_cast 1 h520 ?_
      refine T_pop 88 rfl (fun _ => rfl) ?_
      exact T88_429 (by omega)
    by_cases h521 : x426 = 6
    · skip
      refine T_cast 6 h521 ?_
      refine T_pop 131 rfl (fun _ => rfl) ?_
      refine T_goto 261 rfl (fun _ => rfl) ?_
      refine T_gf 265 (.ref 242) rfl rfl rfl rfl rfl rfl ?_
      refine T_ld 266 (.int (i32 jj)) rfl (fun _ => rfl) ?_
      refine T_ld 267 (.int (i32 (-1))) rfl (fun _ => rfl) ?_
      have G522 : ∀ j, (-1) ≤ (upI (m.2 80) jj (-1)) j ∧ (upI (m.2 80) jj (-1)) j ≤ 330 := upI_rg (hT.2.1 80) ⟨by omega, by omega⟩
      refine T_iast (a' := [(80, upI (m.2 80) jj (-1))]) 268 80 (m.2 80) rfl rfl rfl (by omega) (show jj < (540 : Int) by omega) rfl rfl ?_
      refine T_ld 269 (.ref 189) rfl (fun _ => rfl) ?_
      refine T_ld 271 (.int (i32 ((m.2 80) jj))) rfl (fun _ => rfl) ?_
      refine T_ld 272 (.int (i32 ((m.2 81) jj))) rfl (fun _ => rfl) ?_
      refine T_ld 274 (.int (i32 (m.1 69))) rfl (fun _ => rfl) ?_
      refine T_ld 275 (.long (i64 0)) rfl (fun _ => rfl) ?_
      refine T_call 278 248 [.ref 189, .int (i32 ((m.2 80) jj)), .int (i32 ((m.2 81) jj)), .int (i32 (m.1 69)), .long (i64 0)] [] rfl (fun _ => rfl) rfl (c_node w (mO m [] [(80, upI (m.2 80) jj (-1))]) c N D (by omega) (Ty_mO hT rfl rfl trivial ⟨G522, trivial⟩) ((m.2 80) jj) ((m.2 81) jj) (m.1 69) 0 B (1 + lh (m.2 79) (m.2 80) (m.1 73)) (r32 (by omega) (by omega)) (r32 (by omega) (by omega)) (r32 (by omega) (by omega)) ⟨by decide, by decide⟩ (fun (h : (m.1 10) = 0) => absurd h (by omega))) (fun rr523 k524 => ?_)
      obtain ⟨m525, Tm525, Fm525, h526, c527, rfl⟩ := k524
      refine ⟨_, _, rfl, ?_⟩
      refine T_nb (st' := []) rfl ?_
      have g528 : 0 ≤ m525.1 10 ∧ m525.1 10 ≤ 8 := Tm525.1 10
      have g529 : 0 ≤ m525.1 28 ∧ m525.1 28 ≤ 800 := Tm525.1 28
      replace h526 : (m525.1 10) = 0 → (m.1 10) = 0 := h526
      have hf530 : 1 ≤ (m525.1 10) := by omega
      clear c527
      clear h526
      clear g427a g427b h428
      refine T_ld 279 (.ref 189) rfl (fun _ => rfl) ?_
      refine T_ld 280 (.int (i32 ((m.2 81) jj))) rfl (fun _ => rfl) ?_
      refine T_ld 281 (.int (i32 ((m.2 82) jj))) rfl (fun _ => rfl) ?_
      refine T_call 284 250 [.ref 189, .int (i32 ((m.2 81) jj)), .int (i32 ((m.2 82) jj))] [] rfl (fun _ => rfl) rfl (c_unit w (mO m525 [] []) c N D (by omega) Tm525 ((m.2 81) jj) ((m.2 82) jj) (r32 (by omega) (by omega)) (r32 (by omega) (by omega)) (show 0 ≤ ((m.2 81) jj) ∧ ((m.2 81) jj) ≤ 1024 by omega) (show 0 ≤ ((m.2 82) jj) ∧ ((m.2 82) jj) ≤ 4000 by omega)) (fun rr531 k532 => ?_)
      obtain ⟨m533, Tm533, Fm533, h534, rfl⟩ := k532
      refine ⟨_, _, rfl, ?_⟩
      refine T_nb (st' := []) rfl ?_
      have g535 : 0 ≤ m533.1 69 ∧ m533.1 69 ≤ 1024 := Tm533.1 69
      have g536 : 0 ≤ m533.1 70 ∧ m533.1 70 ≤ 4000 := Tm533.1 70
      have g537 : 0 ≤ m533.1 71 ∧ m533.1 71 ≤ 1 := Tm533.1 71
      have g538 : (-9223372036854775808) ≤ m533.1 72 ∧ m533.1 72 ≤ 9223372036854775807 := Tm533.1 72
      replace h534 : (m533.1 69) = ((m.2 81) jj) := h534
      refine T_ret rfl (fun _ => rfl) ?_
      exact ⟨(mO m533 [] []), Tm533, (fr_m (fr_s Fm533 (fr_m (fr_s Fm525 (fr_m fr_0 rfl rfl) rfl rfl) rfl rfl) rfl rfl) rfl rfl), (show (m533.1 10) = 0 → (m.1 10) = 0 by rewrite [(show (m533.1 10) = (m525.1 10) from (fr1 Fm533 10 rfl))]; omega), (show (m533.1 69) ≤ (m.1 69) + 64 by omega), (fun (h : (m533.1 10) = 0) => absurd ((show (m533.1 10) = (m525.1 10) from (fr1 Fm533 10 rfl)).symm.trans h) (by omega)), rfl⟩
    by_cases h539 : x426 = 8
    · skip
      refine T_cast 8 h539 ?_
      refine T_pop 134 rfl (fun _ => rfl) ?_
      refine T_ld 135 (.ref 189) rfl (fun _ => rfl) ?_
      refine T_gf 139 (.ref 245) rfl rfl rfl rfl rfl rfl ?_
      refine T_ld 140 (.int (i32 jj)) rfl (fun _ => rfl) ?_
      refine T_bald 141 83 (m.2 83) rfl rfl rfl (by omega) (show jj < (540 : Int) by omega) rfl ?_
      have e540 : 0 ≤ m.2 83 jj ∧ m.2 83 jj ≤ 1 := hT.2.1 83 jj
      refine T_if 148 144 rfl rfl rfl (r32 (by omega) (by omega)) (fun (h541 : (m.2 83) jj ≠ 0) => ?_) (fun (h541 : ¬ ((m.2 83) jj ≠ 0)) => ?_)
      · skip
        refine T_ld 149 (.int (i32 0)) rfl (fun _ => rfl) ?_
        refine T_ld 150 (.int (i32 ((m.2 82) jj))) rfl (fun _ => rfl) ?_
        refine T_call 153 256 [.ref 189, .int (i32 0), .int (i32 ((m.2 82) jj))] [] rfl (fun _ => rfl) rfl (c_want w (mO m [] []) c N D (by omega) hT 0 ((m.2 82) jj) ⟨by decide, by decide⟩ (r32 (by omega) (by omega)) (show 0 ≤ ((m.2 82) jj) ∧ ((m.2 82) jj) ≤ 4000 by omega) (fun (h : (m.1 10) = 0) => absurd h (by omega))) (fun rr542 k543 => ?_)
        obtain ⟨m544, Tm544, Fm544, h545, c546, rfl⟩ := k543
        refine ⟨_, _, rfl, ?_⟩
        refine T_nb (st' := []) rfl ?_
        have g547 : 0 ≤ m544.1 10 ∧ m544.1 10 ≤ 8 := Tm544.1 10
        replace h545 : (m544.1 10) = 0 → (m.1 10) = 0 := h545
        have hf548 : 1 ≤ (m544.1 10) := by omega
        clear c546
        clear h545
        clear g427a g427b h428
        refine T_ld 154 (.ref 189) rfl (fun _ => rfl) ?_
        refine T_gf 158 (.int (i32 (m.1 71))) rfl rfl rfl rfl (mfv_c (F := fun x => .int (i32 x)) rfl (show (m544.1 71) = (m.1 71) from (fr1 Fm544 71 rfl))) rfl ?_
        refine T_if 165 161 rfl rfl rfl (r32 (by omega) (by omega)) (fun (h549 : (m.1 71) ≠ 0) => ?_) (fun (h549 : ¬ ((m.1 71) ≠ 0)) => ?_)
        · skip
          refine T_ld 166 (.int (i32 0)) rfl (fun _ => rfl) ?_
          refine T_gf 170 (.int (i32 (m.1 70))) rfl rfl rfl rfl (mfv_c (F := fun x => .int (i32 x)) rfl (show (m544.1 70) = (m.1 70) from (fr1 Fm544 70 rfl))) rfl ?_
          refine T_call 173 256 [.ref 189, .int (i32 0), .int (i32 (m.1 70))] [] rfl (fun _ => rfl) rfl (c_want w (mO m544 [] []) c N D (by omega) Tm544 0 (m.1 70) ⟨by decide, by decide⟩ (r32 (by omega) (by omega)) (show 0 ≤ (m.1 70) ∧ (m.1 70) ≤ 4000 by omega) (fun (h : (m544.1 10) = 0) => absurd h (by omega))) (fun rr550 k551 => ?_)
          obtain ⟨m552, Tm552, Fm552, h553, c554, rfl⟩ := k551
          refine ⟨_, _, rfl, ?_⟩
          refine T_nb (st' := []) rfl ?_
          have g555 : 0 ≤ m552.1 10 ∧ m552.1 10 ≤ 8 := Tm552.1 10
          replace h553 : (m552.1 10) = 0 → (m544.1 10) = 0 := h553
          have hf556 : 1 ≤ (m552.1 10) := by omega
          clear c554
          clear h553
          clear g547 hf548
          refine T_ld 174 (.ref 189) rfl (fun _ => rfl) ?_
          refine T_ld 175 (.int (i32 ((m.2 81) jj))) rfl (fun _ => rfl) ?_
          refine T_gf 179 (.int (i32 (m.1 69))) rfl rfl rfl rfl (mfv_c (F := fun x => .int (i32 x)) rfl (show (m552.1 69) = (m.1 69) from ((fr1 Fm552 69 rfl).trans (fr1 Fm544 69 rfl)))) rfl ?_
          refine T_iadd 180 rfl rfl ?_
          refine T_ld 182 (.int (i32 64)) rfl (fun _ => rfl) ?_
          refine T_icmp 189 185 rfl rfl rfl (r32 (by omega) (by omega)) ⟨by decide, by decide⟩ (fun (h557 : (64 : Int) < ((m.2 81) jj) + (m.1 69)) => ?_) (fun (h557 : ¬ ((64 : Int) < ((m.2 81) jj) + (m.1 69))) => ?_)
          · skip
            refine T_ld 190 (.int (i32 0)) rfl (fun _ => rfl) ?_
            refine T_gf 194 (.int (i32 (m.1 70))) rfl rfl rfl rfl (mfv_c (F := fun x => .int (i32 x)) rfl (show (m552.1 70) = (m.1 70) from ((fr1 Fm552 70 rfl).trans (fr1 Fm544 70 rfl)))) rfl ?_
            refine T_call 197 256 [.ref 189, .int (i32 0), .int (i32 (m.1 70))] [] rfl (fun _ => rfl) rfl (c_want w (mO m552 [] []) c N D (by omega) Tm552 0 (m.1 70) ⟨by decide, by decide⟩ (r32 (by omega) (by omega)) (show 0 ≤ (m.1 70) ∧ (m.1 70) ≤ 4000 by omega) (fun (h : (m552.1 10) = 0) => absurd h (by omega))) (fun rr558 k559 => ?_)
            obtain ⟨m560, Tm560, Fm560, h561, c562, rfl⟩ := k559
            refine ⟨_, _, rfl, ?_⟩
            refine T_nb (st' := []) rfl ?_
            have g563 : 0 ≤ m560.1 10 ∧ m560.1 10 ≤ 8 := Tm560.1 10
            replace h561 : (m560.1 10) = 0 → (m552.1 10) = 0 := h561
            have hf564 : 1 ≤ (m560.1 10) := by omega
            clear c562
            clear h561
            clear g555 hf556
            refine T_ld 198 (.int (i32 ((m.2 81) jj))) rfl (fun _ => rfl) ?_
            refine T_gf 202 (.int (i32 (m.1 69))) rfl rfl rfl rfl (mfv_c (F := fun x => .int (i32 x)) rfl (show (m560.1 69) = (m.1 69) from ((fr1 Fm560 69 rfl).trans ((fr1 Fm552 69 rfl).trans (fr1 Fm544 69 rfl))))) rfl ?_
            refine T_iadd 203 rfl rfl ?_
            refine T_sto 204 [(2, .int (i32 (((m.2 81) jj) + (m.1 69)))), (5, .int (i32 (m.1 69))), (4, .int (i32 ((m.2 80) jj))), (3, .int (i32 ((m.2 82) jj))), (0, .ref 189), (1, .int (i32 jj))] rfl (fun _ => rfl) ?_
            refine T_goto 261 rfl (fun _ => rfl) ?_
            refine T_gf 265 (.ref 242) rfl rfl rfl rfl rfl rfl ?_
            refine T_ld 266 (.int (i32 jj)) rfl (fun _ => rfl) ?_
            refine T_ld 267 (.int (i32 (-1))) rfl (fun _ => rfl) ?_
            have G565 : ∀ j, (-1) ≤ (upI (m.2 80) jj (-1)) j ∧ (upI (m.2 80) jj (-1)) j ≤ 330 := upI_rg (hT.2.1 80) ⟨by omega, by omega⟩
            refine T_iast (a' := [(80, upI (m.2 80) jj (-1))]) 268 80 (m.2 80) rfl rfl rfl (by omega) (show jj < (540 : Int) by omega) (show (m560.2 80) = (m.2 80) from ((fr2 Fm560 80 rfl).trans ((fr2 Fm552 80 rfl).trans (fr2 Fm544 80 rfl)))) rfl ?_
            refine T_ld 269 (.ref 189) rfl (fun _ => rfl) ?_
            refine T_ld 271 (.int (i32 ((m.2 80) jj))) rfl (fun _ => rfl) ?_
            refine T_ld 272 (.int (i32 (((m.2 81) jj) + (m.1 69)))) rfl (fun _ => rfl) ?_
            refine T_ld 274 (.int (i32 (m.1 69))) rfl (fun _ => rfl) ?_
            refine T_ld 275 (.long (i64 0)) rfl (fun _ => rfl) ?_
            refine T_call 278 248 [.ref 189, .int (i32 ((m.2 80) jj)), .int (i32 (((m.2 81) jj) + (m.1 69))), .int (i32 (m.1 69)), .long (i64 0)] [] rfl (fun _ => rfl) rfl (c_node w (mO m560 [] [(80, upI (m.2 80) jj (-1))]) c N D (by omega) (Ty_mO Tm560 rfl rfl trivial ⟨G565, trivial⟩) ((m.2 80) jj) (((m.2 81) jj) + (m.1 69)) (m.1 69) 0 B (1 + lh (m.2 79) (m.2 80) (m.1 73)) (r32 (by omega) (by omega)) (r32 (by omega) (by omega)) (r32 (by omega) (by omega)) ⟨by decide, by decide⟩ (fun (h : (m560.1 10) = 0) => absurd h (by omega))) (fun rr566 k567 => ?_)
            obtain ⟨m568, Tm568, Fm568, h569, c570, rfl⟩ := k567
            refine ⟨_, _, rfl, ?_⟩
            refine T_nb (st' := []) rfl ?_
            have g571 : 0 ≤ m568.1 10 ∧ m568.1 10 ≤ 8 := Tm568.1 10
            have g572 : 0 ≤ m568.1 28 ∧ m568.1 28 ≤ 800 := Tm568.1 28
            replace h569 : (m568.1 10) = 0 → (m560.1 10) = 0 := h569
            have hf573 : 1 ≤ (m568.1 10) := by omega
            clear c570
            clear h569
            clear g563 hf564
            refine T_ld 279 (.ref 189) rfl (fun _ => rfl) ?_
            refine T_ld 280 (.int (i32 (((m.2 81) jj) + (m.1 69)))) rfl (fun _ => rfl) ?_
            refine T_ld 281 (.int (i32 ((m.2 82) jj))) rfl (fun _ => rfl) ?_
            refine T_call 284 250 [.ref 189, .int (i32 (((m.2 81) jj) + (m.1 69))), .int (i32 ((m.2 82) jj))] [] rfl (fun _ => rfl) rfl (c_unit w (mO m568 [] []) c N D (by omega) Tm568 (((m.2 81) jj) + (m.1 69)) ((m.2 82) jj) (r32 (by omega) (by omega)) (r32 (by omega) (by omega)) (show 0 ≤ (((m.2 81) jj) + (m.1 69)) ∧ (((m.2 81) jj) + (m.1 69)) ≤ 1024 by omega) (show 0 ≤ ((m.2 82) jj) ∧ ((m.2 82) jj) ≤ 4000 by omega)) (fun rr574 k575 => ?_)
            obtain ⟨m576, Tm576, Fm576, h577, rfl⟩ := k575
            refine ⟨_, _, rfl, ?_⟩
            refine T_nb (st' := []) rfl ?_
            have g578 : 0 ≤ m576.1 69 ∧ m576.1 69 ≤ 1024 := Tm576.1 69
            have g579 : 0 ≤ m576.1 70 ∧ m576.1 70 ≤ 4000 := Tm576.1 70
            have g580 : 0 ≤ m576.1 71 ∧ m576.1 71 ≤ 1 := Tm576.1 71
            have g581 : (-9223372036854775808) ≤ m576.1 72 ∧ m576.1 72 ≤ 9223372036854775807 := Tm576.1 72
            replace h577 : (m576.1 69) = (((m.2 81) jj) + (m.1 69)) := h577
            refine T_ret rfl (fun _ => rfl) ?_
            exact ⟨(mO m576 [] []), Tm576, (fr_m (fr_s Fm576 (fr_m (fr_s Fm568 (fr_m (fr_s Fm560 (fr_m (fr_s Fm552 (fr_m (fr_s Fm544 (fr_m fr_0 rfl rfl) rfl rfl) rfl rfl) rfl rfl) rfl rfl) rfl rfl) rfl rfl) rfl rfl) rfl rfl) rfl rfl) rfl rfl), (show (m576.1 10) = 0 → (m.1 10) = 0 by rewrite [(show (m576.1 10) = (m568.1 10) from (fr1 Fm576 10 rfl))]; omega), (show (m576.1 69) ≤ (m.1 69) + 64 by omega), (fun (h : (m576.1 10) = 0) => absurd ((show (m576.1 10) = (m568.1 10) from (fr1 Fm576 10 rfl)).symm.trans h) (by omega)), rfl⟩
          · skip
            refine T_ld 186 (.int (i32 1)) rfl (fun _ => rfl) ?_
            refine T_goto 190 rfl (fun _ => rfl) ?_
            refine T_gf 194 (.int (i32 (m.1 70))) rfl rfl rfl rfl (mfv_c (F := fun x => .int (i32 x)) rfl (show (m552.1 70) = (m.1 70) from ((fr1 Fm552 70 rfl).trans (fr1 Fm544 70 rfl)))) rfl ?_
            refine T_call 197 256 [.ref 189, .int (i32 1), .int (i32 (m.1 70))] [] rfl (fun _ => rfl) rfl (c_want w (mO m552 [] []) c N D (by omega) Tm552 1 (m.1 70) ⟨by decide, by decide⟩ (r32 (by omega) (by omega)) (show 0 ≤ (m.1 70) ∧ (m.1 70) ≤ 4000 by omega) (fun (h : (m552.1 10) = 0) => absurd h (by omega))) (fun rr582 k583 => ?_)
            obtain ⟨m584, Tm584, Fm584, h585, c586, rfl⟩ := k583
            refine ⟨_, _, rfl, ?_⟩
            refine T_nb (st' := []) rfl ?_
            have g587 : 0 ≤ m584.1 10 ∧ m584.1 10 ≤ 8 := Tm584.1 10
            replace h585 : (m584.1 10) = 0 → (m552.1 10) = 0 := h585
            have hf588 : 1 ≤ (m584.1 10) := by omega
            clear c586
            clear h585
            clear g555 hf556
            refine T_ld 198 (.int (i32 ((m.2 81) jj))) rfl (fun _ => rfl) ?_
            refine T_gf 202 (.int (i32 (m.1 69))) rfl rfl rfl rfl (mfv_c (F := fun x => .int (i32 x)) rfl (show (m584.1 69) = (m.1 69) from ((fr1 Fm584 69 rfl).trans ((fr1 Fm552 69 rfl).trans (fr1 Fm544 69 rfl))))) rfl ?_
            refine T_iadd 203 rfl rfl ?_
            refine T_sto 204 [(2, .int (i32 (((m.2 81) jj) + (m.1 69)))), (5, .int (i32 (m.1 69))), (4, .int (i32 ((m.2 80) jj))), (3, .int (i32 ((m.2 82) jj))), (0, .ref 189), (1, .int (i32 jj))] rfl (fun _ => rfl) ?_
            refine T_goto 261 rfl (fun _ => rfl) ?_
            refine T_gf 265 (.ref 242) rfl rfl rfl rfl rfl rfl ?_
            refine T_ld 266 (.int (i32 jj)) rfl (fun _ => rfl) ?_
            refine T_ld 267 (.int (i32 (-1))) rfl (fun _ => rfl) ?_
            have G589 : ∀ j, (-1) ≤ (upI (m.2 80) jj (-1)) j ∧ (upI (m.2 80) jj (-1)) j ≤ 330 := upI_rg (hT.2.1 80) ⟨by omega, by omega⟩
            refine T_iast (a' := [(80, upI (m.2 80) jj (-1))]) 268 80 (m.2 80) rfl rfl rfl (by omega) (show jj < (540 : Int) by omega) (show (m584.2 80) = (m.2 80) from ((fr2 Fm584 80 rfl).trans ((fr2 Fm552 80 rfl).trans (fr2 Fm544 80 rfl)))) rfl ?_
            refine T_ld 269 (.ref 189) rfl (fun _ => rfl) ?_
            refine T_ld 271 (.int (i32 ((m.2 80) jj))) rfl (fun _ => rfl) ?_
            refine T_ld 272 (.int (i32 (((m.2 81) jj) + (m.1 69)))) rfl (fun _ => rfl) ?_
            refine T_ld 274 (.int (i32 (m.1 69))) rfl (fun _ => rfl) ?_
            refine T_ld 275 (.long (i64 0)) rfl (fun _ => rfl) ?_
            refine T_call 278 248 [.ref 189, .int (i32 ((m.2 80) jj)), .int (i32 (((m.2 81) jj) + (m.1 69))), .int (i32 (m.1 69)), .long (i64 0)] [] rfl (fun _ => rfl) rfl (c_node w (mO m584 [] [(80, upI (m.2 80) jj (-1))]) c N D (by omega) (Ty_mO Tm584 rfl rfl trivial ⟨G589, trivial⟩) ((m.2 80) jj) (((m.2 81) jj) + (m.1 69)) (m.1 69) 0 B (1 + lh (m.2 79) (m.2 80) (m.1 73)) (r32 (by omega) (by omega)) (r32 (by omega) (by omega)) (r32 (by omega) (by omega)) ⟨by decide, by decide⟩ (fun (h : (m584.1 10) = 0) => absurd h (by omega))) (fun rr590 k591 => ?_)
            obtain ⟨m592, Tm592, Fm592, h593, c594, rfl⟩ := k591
            refine ⟨_, _, rfl, ?_⟩
            refine T_nb (st' := []) rfl ?_
            have g595 : 0 ≤ m592.1 10 ∧ m592.1 10 ≤ 8 := Tm592.1 10
            have g596 : 0 ≤ m592.1 28 ∧ m592.1 28 ≤ 800 := Tm592.1 28
            replace h593 : (m592.1 10) = 0 → (m584.1 10) = 0 := h593
            have hf597 : 1 ≤ (m592.1 10) := by omega
            clear c594
            clear h593
            clear g587 hf588
            refine T_ld 279 (.ref 189) rfl (fun _ => rfl) ?_
            refine T_ld 280 (.int (i32 (((m.2 81) jj) + (m.1 69)))) rfl (fun _ => rfl) ?_
            refine T_ld 281 (.int (i32 ((m.2 82) jj))) rfl (fun _ => rfl) ?_
            refine T_call 284 250 [.ref 189, .int (i32 (((m.2 81) jj) + (m.1 69))), .int (i32 ((m.2 82) jj))] [] rfl (fun _ => rfl) rfl (c_unit w (mO m592 [] []) c N D (by omega) Tm592 (((m.2 81) jj) + (m.1 69)) ((m.2 82) jj) (r32 (by omega) (by omega)) (r32 (by omega) (by omega)) (show 0 ≤ (((m.2 81) jj) + (m.1 69)) ∧ (((m.2 81) jj) + (m.1 69)) ≤ 1024 by omega) (show 0 ≤ ((m.2 82) jj) ∧ ((m.2 82) jj) ≤ 4000 by omega)) (fun rr598 k599 => ?_)
            obtain ⟨m600, Tm600, Fm600, h601, rfl⟩ := k599
            refine ⟨_, _, rfl, ?_⟩
            refine T_nb (st' := []) rfl ?_
            have g602 : 0 ≤ m600.1 69 ∧ m600.1 69 ≤ 1024 := Tm600.1 69
            have g603 : 0 ≤ m600.1 70 ∧ m600.1 70 ≤ 4000 := Tm600.1 70
            have g604 : 0 ≤ m600.1 71 ∧ m600.1 71 ≤ 1 := Tm600.1 71
            have g605 : (-9223372036854775808) ≤ m600.1 72 ∧ m600.1 72 ≤ 9223372036854775807 := Tm600.1 72
            replace h601 : (m600.1 69) = (((m.2 81) jj) + (m.1 69)) := h601
            refine T_ret rfl (fun _ => rfl) ?_
            exact ⟨(mO m600 [] []), Tm600, (fr_m (fr_s Fm600 (fr_m (fr_s Fm592 (fr_m (fr_s Fm584 (fr_m (fr_s Fm552 (fr_m (fr_s Fm544 (fr_m fr_0 rfl rfl) rfl rfl) rfl rfl) rfl rfl) rfl rfl) rfl rfl) rfl rfl) rfl rfl) rfl rfl) rfl rfl) rfl rfl), (show (m600.1 10) = 0 → (m.1 10) = 0 by rewrite [(show (m600.1 10) = (m592.1 10) from (fr1 Fm600 10 rfl))]; omega), (show (m600.1 69) ≤ (m.1 69) + 64 by omega), (fun (h : (m600.1 10) = 0) => absurd ((show (m600.1 10) = (m592.1 10) from (fr1 Fm600 10 rfl)).symm.trans h) (by omega)), rfl⟩
        · skip
          refine T_ld 162 (.int (i32 1)) rfl (fun _ => rfl) ?_
          refine T_goto 166 rfl (fun _ => rfl) ?_
          refine T_gf 170 (.int (i32 (m.1 70))) rfl rfl rfl rfl (mfv_c (F := fun x => .int (i32 x)) rfl (show (m544.1 70) = (m.1 70) from (fr1 Fm544 70 rfl))) rfl ?_
          refine T_call 173 256 [.ref 189, .int (i32 1), .int (i32 (m.1 70))] [] rfl (fun _ => rfl) rfl (c_want w (mO m544 [] []) c N D (by omega) Tm544 1 (m.1 70) ⟨by decide, by decide⟩ (r32 (by omega) (by omega)) (show 0 ≤ (m.1 70) ∧ (m.1 70) ≤ 4000 by omega) (fun (h : (m544.1 10) = 0) => absurd h (by omega))) (fun rr606 k607 => ?_)
          obtain ⟨m608, Tm608, Fm608, h609, c610, rfl⟩ := k607
          refine ⟨_, _, rfl, ?_⟩
          refine T_nb (st' := []) rfl ?_
          have g611 : 0 ≤ m608.1 10 ∧ m608.1 10 ≤ 8 := Tm608.1 10
          replace h609 : (m608.1 10) = 0 → (m544.1 10) = 0 := h609
          have hf612 : 1 ≤ (m608.1 10) := by omega
          clear c610
          clear h609
          clear g547 hf548
          refine T_ld 174 (.ref 189) rfl (fun _ => rfl) ?_
          refine T_ld 175 (.int (i32 ((m.2 81) jj))) rfl (fun _ => rfl) ?_
          refine T_gf 179 (.int (i32 (m.1 69))) rfl rfl rfl rfl (mfv_c (F := fun x => .int (i32 x)) rfl (show (m608.1 69) = (m.1 69) from ((fr1 Fm608 69 rfl).trans (fr1 Fm544 69 rfl)))) rfl ?_
          refine T_iadd 180 rfl rfl ?_
          refine T_ld 182 (.int (i32 64)) rfl (fun _ => rfl) ?_
          refine T_icmp 189 185 rfl rfl rfl (r32 (by omega) (by omega)) ⟨by decide, by decide⟩ (fun (h613 : (64 : Int) < ((m.2 81) jj) + (m.1 69)) => ?_) (fun (h613 : ¬ ((64 : Int) < ((m.2 81) jj) + (m.1 69))) => ?_)
          · skip
            refine T_ld 190 (.int (i32 0)) rfl (fun _ => rfl) ?_
            refine T_gf 194 (.int (i32 (m.1 70))) rfl rfl rfl rfl (mfv_c (F := fun x => .int (i32 x)) rfl (show (m608.1 70) = (m.1 70) from ((fr1 Fm608 70 rfl).trans (fr1 Fm544 70 rfl)))) rfl ?_
            refine T_call 197 256 [.ref 189, .int (i32 0), .int (i32 (m.1 70))] [] rfl (fun _ => rfl) rfl (c_want w (mO m608 [] []) c N D (by omega) Tm608 0 (m.1 70) ⟨by decide, by decide⟩ (r32 (by omega) (by omega)) (show 0 ≤ (m.1 70) ∧ (m.1 70) ≤ 4000 by omega) (fun (h : (m608.1 10) = 0) => absurd h (by omega))) (fun rr614 k615 => ?_)
            obtain ⟨m616, Tm616, Fm616, h617, c618, rfl⟩ := k615
            refine ⟨_, _, rfl, ?_⟩
            refine T_nb (st' := []) rfl ?_
            have g619 : 0 ≤ m616.1 10 ∧ m616.1 10 ≤ 8 := Tm616.1 10
            replace h617 : (m616.1 10) = 0 → (m608.1 10) = 0 := h617
            have hf620 : 1 ≤ (m616.1 10) := by omega
            clear c618
            clear h617
            clear g611 hf612
            refine T_ld 198 (.int (i32 ((m.2 81) jj))) rfl (fun _ => rfl) ?_
            refine T_gf 202 (.int (i32 (m.1 69))) rfl rfl rfl rfl (mfv_c (F := fun x => .int (i32 x)) rfl (show (m616.1 69) = (m.1 69) from ((fr1 Fm616 69 rfl).trans ((fr1 Fm608 69 rfl).trans (fr1 Fm544 69 rfl))))) rfl ?_
            refine T_iadd 203 rfl rfl ?_
            refine T_sto 204 [(2, .int (i32 (((m.2 81) jj) + (m.1 69)))), (5, .int (i32 (m.1 69))), (4, .int (i32 ((m.2 80) jj))), (3, .int (i32 ((m.2 82) jj))), (0, .ref 189), (1, .int (i32 jj))] rfl (fun _ => rfl) ?_
            refine T_goto 261 rfl (fun _ => rfl) ?_
            refine T_gf 265 (.ref 242) rfl rfl rfl rfl rfl rfl ?_
            refine T_ld 266 (.int (i32 jj)) rfl (fun _ => rfl) ?_
            refine T_ld 267 (.int (i32 (-1))) rfl (fun _ => rfl) ?_
            have G621 : ∀ j, (-1) ≤ (upI (m.2 80) jj (-1)) j ∧ (upI (m.2 80) jj (-1)) j ≤ 330 := upI_rg (hT.2.1 80) ⟨by omega, by omega⟩
            refine T_iast (a' := [(80, upI (m.2 80) jj (-1))]) 268 80 (m.2 80) rfl rfl rfl (by omega) (show jj < (540 : Int) by omega) (show (m616.2 80) = (m.2 80) from ((fr2 Fm616 80 rfl).trans ((fr2 Fm608 80 rfl).trans (fr2 Fm544 80 rfl)))) rfl ?_
            refine T_ld 269 (.ref 189) rfl (fun _ => rfl) ?_
            refine T_ld 271 (.int (i32 ((m.2 80) jj))) rfl (fun _ => rfl) ?_
            refine T_ld 272 (.int (i32 (((m.2 81) jj) + (m.1 69)))) rfl (fun _ => rfl) ?_
            refine T_ld 274 (.int (i32 (m.1 69))) rfl (fun _ => rfl) ?_
            refine T_ld 275 (.long (i64 0)) rfl (fun _ => rfl) ?_
            refine T_call 278 248 [.ref 189, .int (i32 ((m.2 80) jj)), .int (i32 (((m.2 81) jj) + (m.1 69))), .int (i32 (m.1 69)), .long (i64 0)] [] rfl (fun _ => rfl) rfl (c_node w (mO m616 [] [(80, upI (m.2 80) jj (-1))]) c N D (by omega) (Ty_mO Tm616 rfl rfl trivial ⟨G621, trivial⟩) ((m.2 80) jj) (((m.2 81) jj) + (m.1 69)) (m.1 69) 0 B (1 + lh (m.2 79) (m.2 80) (m.1 73)) (r32 (by omega) (by omega)) (r32 (by omega) (by omega)) (r32 (by omega) (by omega)) ⟨by decide, by decide⟩ (fun (h : (m616.1 10) = 0) => absurd h (by omega))) (fun rr622 k623 => ?_)
            obtain ⟨m624, Tm624, Fm624, h625, c626, rfl⟩ := k623
            refine ⟨_, _, rfl, ?_⟩
            refine T_nb (st' := []) rfl ?_
            have g627 : 0 ≤ m624.1 10 ∧ m624.1 10 ≤ 8 := Tm624.1 10
            have g628 : 0 ≤ m624.1 28 ∧ m624.1 28 ≤ 800 := Tm624.1 28
            replace h625 : (m624.1 10) = 0 → (m616.1 10) = 0 := h625
            have hf629 : 1 ≤ (m624.1 10) := by omega
            clear c626
            clear h625
            clear g619 hf620
            refine T_ld 279 (.ref 189) rfl (fun _ => rfl) ?_
            refine T_ld 280 (.int (i32 (((m.2 81) jj) + (m.1 69)))) rfl (fun _ => rfl) ?_
            refine T_ld 281 (.int (i32 ((m.2 82) jj))) rfl (fun _ => rfl) ?_
            refine T_call 284 250 [.ref 189, .int (i32 (((m.2 81) jj) + (m.1 69))), .int (i32 ((m.2 82) jj))] [] rfl (fun _ => rfl) rfl (c_unit w (mO m624 [] []) c N D (by omega) Tm624 (((m.2 81) jj) + (m.1 69)) ((m.2 82) jj) (r32 (by omega) (by omega)) (r32 (by omega) (by omega)) (show 0 ≤ (((m.2 81) jj) + (m.1 69)) ∧ (((m.2 81) jj) + (m.1 69)) ≤ 1024 by omega) (show 0 ≤ ((m.2 82) jj) ∧ ((m.2 82) jj) ≤ 4000 by omega)) (fun rr630 k631 => ?_)
            obtain ⟨m632, Tm632, Fm632, h633, rfl⟩ := k631
            refine ⟨_, _, rfl, ?_⟩
            refine T_nb (st' := []) rfl ?_
            have g634 : 0 ≤ m632.1 69 ∧ m632.1 69 ≤ 1024 := Tm632.1 69
            have g635 : 0 ≤ m632.1 70 ∧ m632.1 70 ≤ 4000 := Tm632.1 70
            have g636 : 0 ≤ m632.1 71 ∧ m632.1 71 ≤ 1 := Tm632.1 71
            have g637 : (-9223372036854775808) ≤ m632.1 72 ∧ m632.1 72 ≤ 9223372036854775807 := Tm632.1 72
            replace h633 : (m632.1 69) = (((m.2 81) jj) + (m.1 69)) := h633
            refine T_ret rfl (fun _ => rfl) ?_
            exact ⟨(mO m632 [] []), Tm632, (fr_m (fr_s Fm632 (fr_m (fr_s Fm624 (fr_m (fr_s Fm616 (fr_m (fr_s Fm608 (fr_m (fr_s Fm544 (fr_m fr_0 rfl rfl) rfl rfl) rfl rfl) rfl rfl) rfl rfl) rfl rfl) rfl rfl) rfl rfl) rfl rfl) rfl rfl) rfl rfl), (show (m632.1 10) = 0 → (m.1 10) = 0 by rewrite [(show (m632.1 10) = (m624.1 10) from (fr1 Fm632 10 rfl))]; omega), (show (m632.1 69) ≤ (m.1 69) + 64 by omega), (fun (h : (m632.1 10) = 0) => absurd ((show (m632.1 10) = (m624.1 10) from (fr1 Fm632 10 rfl)).symm.trans h) (by omega)), rfl⟩
          · skip
            refine T_ld 186 (.int (i32 1)) rfl (fun _ => rfl) ?_
            refine T_goto 190 rfl (fun _ => rfl) ?_
            refine T_gf 194 (.int (i32 (m.1 70))) rfl rfl rfl rfl (mfv_c (F := fun x => .int (i32 x)) rfl (show (m608.1 70) = (m.1 70) from ((fr1 Fm608 70 rfl).trans (fr1 Fm544 70 rfl)))) rfl ?_
            refine T_call 197 256 [.ref 189, .int (i32 1), .int (i32 (m.1 70))] [] rfl (fun _ => rfl) rfl (c_want w (mO m608 [] []) c N D (by omega) Tm608 1 (m.1 70) ⟨by decide, by decide⟩ (r32 (by omega) (by omega)) (show 0 ≤ (m.1 70) ∧ (m.1 70) ≤ 4000 by omega) (fun (h : (m608.1 10) = 0) => absurd h (by omega))) (fun rr638 k639 => ?_)
            obtain ⟨m640, Tm640, Fm640, h641, c642, rfl⟩ := k639
            refine ⟨_, _, rfl, ?_⟩
            refine T_nb (st' := []) rfl ?_
            have g643 : 0 ≤ m640.1 10 ∧ m640.1 10 ≤ 8 := Tm640.1 10
            replace h641 : (m640.1 10) = 0 → (m608.1 10) = 0 := h641
            have hf644 : 1 ≤ (m640.1 10) := by omega
            clear c642
            clear h641
            clear g611 hf612
            refine T_ld 198 (.int (i32 ((m.2 81) jj))) rfl (fun _ => rfl) ?_
            refine T_gf 202 (.int (i32 (m.1 69))) rfl rfl rfl rfl (mfv_c (F := fun x => .int (i32 x)) rfl (show (m640.1 69) = (m.1 69) from ((fr1 Fm640 69 rfl).trans ((fr1 Fm608 69 rfl).trans (fr1 Fm544 69 rfl))))) rfl ?_
            refine T_iadd 203 rfl rfl ?_
            refine T_sto 204 [(2, .int (i32 (((m.2 81) jj) + (m.1 69)))), (5, .int (i32 (m.1 69))), (4, .int (i32 ((m.2 80) jj))), (3, .int (i32 ((m.2 82) jj))), (0, .ref 189), (1, .int (i32 jj))] rfl (fun _ => rfl) ?_
            refine T_goto 261 rfl (fun _ => rfl) ?_
            refine T_gf 265 (.ref 242) rfl rfl rfl rfl rfl rfl ?_
            refine T_ld 266 (.int (i32 jj)) rfl (fun _ => rfl) ?_
            refine T_ld 267 (.int (i32 (-1))) rfl (fun _ => rfl) ?_
            have G645 : ∀ j, (-1) ≤ (upI (m.2 80) jj (-1)) j ∧ (upI (m.2 80) jj (-1)) j ≤ 330 := upI_rg (hT.2.1 80) ⟨by omega, by omega⟩
            refine T_iast (a' := [(80, upI (m.2 80) jj (-1))]) 268 80 (m.2 80) rfl rfl rfl (by omega) (show jj < (540 : Int) by omega) (show (m640.2 80) = (m.2 80) from ((fr2 Fm640 80 rfl).trans ((fr2 Fm608 80 rfl).trans (fr2 Fm544 80 rfl)))) rfl ?_
            refine T_ld 269 (.ref 189) rfl (fun _ => rfl) ?_
            refine T_ld 271 (.int (i32 ((m.2 80) jj))) rfl (fun _ => rfl) ?_
            refine T_ld 272 (.int (i32 (((m.2 81) jj) + (m.1 69)))) rfl (fun _ => rfl) ?_
            refine T_ld 274 (.int (i32 (m.1 69))) rfl (fun _ => rfl) ?_
            refine T_ld 275 (.long (i64 0)) rfl (fun _ => rfl) ?_
            refine T_call 278 248 [.ref 189, .int (i32 ((m.2 80) jj)), .int (i32 (((m.2 81) jj) + (m.1 69))), .int (i32 (m.1 69)), .long (i64 0)] [] rfl (fun _ => rfl) rfl (c_node w (mO m640 [] [(80, upI (m.2 80) jj (-1))]) c N D (by omega) (Ty_mO Tm640 rfl rfl trivial ⟨G645, trivial⟩) ((m.2 80) jj) (((m.2 81) jj) + (m.1 69)) (m.1 69) 0 B (1 + lh (m.2 79) (m.2 80) (m.1 73)) (r32 (by omega) (by omega)) (r32 (by omega) (by omega)) (r32 (by omega) (by omega)) ⟨by decide, by decide⟩ (fun (h : (m640.1 10) = 0) => absurd h (by omega))) (fun rr646 k647 => ?_)
            obtain ⟨m648, Tm648, Fm648, h649, c650, rfl⟩ := k647
            refine ⟨_, _, rfl, ?_⟩
            refine T_nb (st' := []) rfl ?_
            have g651 : 0 ≤ m648.1 10 ∧ m648.1 10 ≤ 8 := Tm648.1 10
            have g652 : 0 ≤ m648.1 28 ∧ m648.1 28 ≤ 800 := Tm648.1 28
            replace h649 : (m648.1 10) = 0 → (m640.1 10) = 0 := h649
            have hf653 : 1 ≤ (m648.1 10) := by omega
            clear c650
            clear h649
            clear g643 hf644
            refine T_ld 279 (.ref 189) rfl (fun _ => rfl) ?_
            refine T_ld 280 (.int (i32 (((m.2 81) jj) + (m.1 69)))) rfl (fun _ => rfl) ?_
            refine T_ld 281 (.int (i32 ((m.2 82) jj))) rfl (fun _ => rfl) ?_
            refine T_call 284 250 [.ref 189, .int (i32 (((m.2 81) jj) + (m.1 69))), .int (i32 ((m.2 82) jj))] [] rfl (fun _ => rfl) rfl (c_unit w (mO m648 [] []) c N D (by omega) Tm648 (((m.2 81) jj) + (m.1 69)) ((m.2 82) jj) (r32 (by omega) (by omega)) (r32 (by omega) (by omega)) (show 0 ≤ (((m.2 81) jj) + (m.1 69)) ∧ (((m.2 81) jj) + (m.1 69)) ≤ 1024 by omega) (show 0 ≤ ((m.2 82) jj) ∧ ((m.2 82) jj) ≤ 4000 by omega)) (fun rr654 k655 => ?_)
            obtain ⟨m656, Tm656, Fm656, h657, rfl⟩ := k655
            refine ⟨_, _, rfl, ?_⟩
            refine T_nb (st' := []) rfl ?_
            have g658 : 0 ≤ m656.1 69 ∧ m656.1 69 ≤ 1024 := Tm656.1 69
            have g659 : 0 ≤ m656.1 70 ∧ m656.1 70 ≤ 4000 := Tm656.1 70
            have g660 : 0 ≤ m656.1 71 ∧ m656.1 71 ≤ 1 := Tm656.1 71
            have g661 : (-9223372036854775808) ≤ m656.1 72 ∧ m656.1 72 ≤ 9223372036854775807 := Tm656.1 72
            replace h657 : (m656.1 69) = (((m.2 81) jj) + (m.1 69)) := h657
            refine T_ret rfl (fun _ => rfl) ?_
            exact ⟨(mO m656 [] []), Tm656, (fr_m (fr_s Fm656 (fr_m (fr_s Fm648 (fr_m (fr_s Fm640 (fr_m (fr_s Fm608 (fr_m (fr_s Fm544 (fr_m fr_0 rfl rfl) rfl rfl) rfl rfl) rfl rfl) rfl rfl) rfl rfl) rfl rfl) rfl rfl) rfl rfl) rfl rfl) rfl rfl), (show (m656.1 10) = 0 → (m.1 10) = 0 by rewrite [(show (m656.1 10) = (m648.1 10) from (fr1 Fm656 10 rfl))]; omega), (show (m656.1 69) ≤ (m.1 69) + 64 by omega), (fun (h : (m656.1 10) = 0) => absurd ((show (m656.1 10) = (m648.1 10) from (fr1 Fm656 10 rfl)).symm.trans h) (by omega)), rfl⟩
      · skip
        refine T_ld 145 (.int (i32 1)) rfl (fun _ => rfl) ?_
        refine T_goto 149 rfl (fun _ => rfl) ?_
        refine T_ld 150 (.int (i32 ((m.2 82) jj))) rfl (fun _ => rfl) ?_
        refine T_call 153 256 [.ref 189, .int (i32 1), .int (i32 ((m.2 82) jj))] [] rfl (fun _ => rfl) rfl (c_want w (mO m [] []) c N D (by omega) hT 1 ((m.2 82) jj) ⟨by decide, by decide⟩ (r32 (by omega) (by omega)) (show 0 ≤ ((m.2 82) jj) ∧ ((m.2 82) jj) ≤ 4000 by omega) (fun (h : (m.1 10) = 0) => absurd h (by omega))) (fun rr662 k663 => ?_)
        obtain ⟨m664, Tm664, Fm664, h665, c666, rfl⟩ := k663
        refine ⟨_, _, rfl, ?_⟩
        refine T_nb (st' := []) rfl ?_
        have g667 : 0 ≤ m664.1 10 ∧ m664.1 10 ≤ 8 := Tm664.1 10
        replace h665 : (m664.1 10) = 0 → (m.1 10) = 0 := h665
        have hf668 : 1 ≤ (m664.1 10) := by omega
        clear c666
        clear h665
        clear g427a g427b h428
        refine T_ld 154 (.ref 189) rfl (fun _ => rfl) ?_
        refine T_gf 158 (.int (i32 (m.1 71))) rfl rfl rfl rfl (mfv_c (F := fun x => .int (i32 x)) rfl (show (m664.1 71) = (m.1 71) from (fr1 Fm664 71 rfl))) rfl ?_
        refine T_if 165 161 rfl rfl rfl (r32 (by omega) (by omega)) (fun (h669 : (m.1 71) ≠ 0) => ?_) (fun (h669 : ¬ ((m.1 71) ≠ 0)) => ?_)
        · skip
          refine T_ld 166 (.int (i32 0)) rfl (fun _ => rfl) ?_
          refine T_gf 170 (.int (i32 (m.1 70))) rfl rfl rfl rfl (mfv_c (F := fun x => .int (i32 x)) rfl (show (m664.1 70) = (m.1 70) from (fr1 Fm664 70 rfl))) rfl ?_
          refine T_call 173 256 [.ref 189, .int (i32 0), .int (i32 (m.1 70))] [] rfl (fun _ => rfl) rfl (c_want w (mO m664 [] []) c N D (by omega) Tm664 0 (m.1 70) ⟨by decide, by decide⟩ (r32 (by omega) (by omega)) (show 0 ≤ (m.1 70) ∧ (m.1 70) ≤ 4000 by omega) (fun (h : (m664.1 10) = 0) => absurd h (by omega))) (fun rr670 k671 => ?_)
          obtain ⟨m672, Tm672, Fm672, h673, c674, rfl⟩ := k671
          refine ⟨_, _, rfl, ?_⟩
          refine T_nb (st' := []) rfl ?_
          have g675 : 0 ≤ m672.1 10 ∧ m672.1 10 ≤ 8 := Tm672.1 10
          replace h673 : (m672.1 10) = 0 → (m664.1 10) = 0 := h673
          have hf676 : 1 ≤ (m672.1 10) := by omega
          clear c674
          clear h673
          clear g667 hf668
          refine T_ld 174 (.ref 189) rfl (fun _ => rfl) ?_
          refine T_ld 175 (.int (i32 ((m.2 81) jj))) rfl (fun _ => rfl) ?_
          refine T_gf 179 (.int (i32 (m.1 69))) rfl rfl rfl rfl (mfv_c (F := fun x => .int (i32 x)) rfl (show (m672.1 69) = (m.1 69) from ((fr1 Fm672 69 rfl).trans (fr1 Fm664 69 rfl)))) rfl ?_
          refine T_iadd 180 rfl rfl ?_
          refine T_ld 182 (.int (i32 64)) rfl (fun _ => rfl) ?_
          refine T_icmp 189 185 rfl rfl rfl (r32 (by omega) (by omega)) ⟨by decide, by decide⟩ (fun (h677 : (64 : Int) < ((m.2 81) jj) + (m.1 69)) => ?_) (fun (h677 : ¬ ((64 : Int) < ((m.2 81) jj) + (m.1 69))) => ?_)
          · skip
            refine T_ld 190 (.int (i32 0)) rfl (fun _ => rfl) ?_
            refine T_gf 194 (.int (i32 (m.1 70))) rfl rfl rfl rfl (mfv_c (F := fun x => .int (i32 x)) rfl (show (m672.1 70) = (m.1 70) from ((fr1 Fm672 70 rfl).trans (fr1 Fm664 70 rfl)))) rfl ?_
            refine T_call 197 256 [.ref 189, .int (i32 0), .int (i32 (m.1 70))] [] rfl (fun _ => rfl) rfl (c_want w (mO m672 [] []) c N D (by omega) Tm672 0 (m.1 70) ⟨by decide, by decide⟩ (r32 (by omega) (by omega)) (show 0 ≤ (m.1 70) ∧ (m.1 70) ≤ 4000 by omega) (fun (h : (m672.1 10) = 0) => absurd h (by omega))) (fun rr678 k679 => ?_)
            obtain ⟨m680, Tm680, Fm680, h681, c682, rfl⟩ := k679
            refine ⟨_, _, rfl, ?_⟩
            refine T_nb (st' := []) rfl ?_
            have g683 : 0 ≤ m680.1 10 ∧ m680.1 10 ≤ 8 := Tm680.1 10
            replace h681 : (m680.1 10) = 0 → (m672.1 10) = 0 := h681
            have hf684 : 1 ≤ (m680.1 10) := by omega
            clear c682
            clear h681
            clear g675 hf676
            refine T_ld 198 (.int (i32 ((m.2 81) jj))) rfl (fun _ => rfl) ?_
            refine T_gf 202 (.int (i32 (m.1 69))) rfl rfl rfl rfl (mfv_c (F := fun x => .int (i32 x)) rfl (show (m680.1 69) = (m.1 69) from ((fr1 Fm680 69 rfl).trans ((fr1 Fm672 69 rfl).trans (fr1 Fm664 69 rfl))))) rfl ?_
            refine T_iadd 203 rfl rfl ?_
            refine T_sto 204 [(2, .int (i32 (((m.2 81) jj) + (m.1 69)))), (5, .int (i32 (m.1 69))), (4, .int (i32 ((m.2 80) jj))), (3, .int (i32 ((m.2 82) jj))), (0, .ref 189), (1, .int (i32 jj))] rfl (fun _ => rfl) ?_
            refine T_goto 261 rfl (fun _ => rfl) ?_
            refine T_gf 265 (.ref 242) rfl rfl rfl rfl rfl rfl ?_
            refine T_ld 266 (.int (i32 jj)) rfl (fun _ => rfl) ?_
            refine T_ld 267 (.int (i32 (-1))) rfl (fun _ => rfl) ?_
            have G685 : ∀ j, (-1) ≤ (upI (m.2 80) jj (-1)) j ∧ (upI (m.2 80) jj (-1)) j ≤ 330 := upI_rg (hT.2.1 80) ⟨by omega, by omega⟩
            refine T_iast (a' := [(80, upI (m.2 80) jj (-1))]) 268 80 (m.2 80) rfl rfl rfl (by omega) (show jj < (540 : Int) by omega) (show (m680.2 80) = (m.2 80) from ((fr2 Fm680 80 rfl).trans ((fr2 Fm672 80 rfl).trans (fr2 Fm664 80 rfl)))) rfl ?_
            refine T_ld 269 (.ref 189) rfl (fun _ => rfl) ?_
            refine T_ld 271 (.int (i32 ((m.2 80) jj))) rfl (fun _ => rfl) ?_
            refine T_ld 272 (.int (i32 (((m.2 81) jj) + (m.1 69)))) rfl (fun _ => rfl) ?_
            refine T_ld 274 (.int (i32 (m.1 69))) rfl (fun _ => rfl) ?_
            refine T_ld 275 (.long (i64 0)) rfl (fun _ => rfl) ?_
            refine T_call 278 248 [.ref 189, .int (i32 ((m.2 80) jj)), .int (i32 (((m.2 81) jj) + (m.1 69))), .int (i32 (m.1 69)), .long (i64 0)] [] rfl (fun _ => rfl) rfl (c_node w (mO m680 [] [(80, upI (m.2 80) jj (-1))]) c N D (by omega) (Ty_mO Tm680 rfl rfl trivial ⟨G685, trivial⟩) ((m.2 80) jj) (((m.2 81) jj) + (m.1 69)) (m.1 69) 0 B (1 + lh (m.2 79) (m.2 80) (m.1 73)) (r32 (by omega) (by omega)) (r32 (by omega) (by omega)) (r32 (by omega) (by omega)) ⟨by decide, by decide⟩ (fun (h : (m680.1 10) = 0) => absurd h (by omega))) (fun rr686 k687 => ?_)
            obtain ⟨m688, Tm688, Fm688, h689, c690, rfl⟩ := k687
            refine ⟨_, _, rfl, ?_⟩
            refine T_nb (st' := []) rfl ?_
            have g691 : 0 ≤ m688.1 10 ∧ m688.1 10 ≤ 8 := Tm688.1 10
            have g692 : 0 ≤ m688.1 28 ∧ m688.1 28 ≤ 800 := Tm688.1 28
            replace h689 : (m688.1 10) = 0 → (m680.1 10) = 0 := h689
            have hf693 : 1 ≤ (m688.1 10) := by omega
            clear c690
            clear h689
            clear g683 hf684
            refine T_ld 279 (.ref 189) rfl (fun _ => rfl) ?_
            refine T_ld 280 (.int (i32 (((m.2 81) jj) + (m.1 69)))) rfl (fun _ => rfl) ?_
            refine T_ld 281 (.int (i32 ((m.2 82) jj))) rfl (fun _ => rfl) ?_
            refine T_call 284 250 [.ref 189, .int (i32 (((m.2 81) jj) + (m.1 69))), .int (i32 ((m.2 82) jj))] [] rfl (fun _ => rfl) rfl (c_unit w (mO m688 [] []) c N D (by omega) Tm688 (((m.2 81) jj) + (m.1 69)) ((m.2 82) jj) (r32 (by omega) (by omega)) (r32 (by omega) (by omega)) (show 0 ≤ (((m.2 81) jj) + (m.1 69)) ∧ (((m.2 81) jj) + (m.1 69)) ≤ 1024 by omega) (show 0 ≤ ((m.2 82) jj) ∧ ((m.2 82) jj) ≤ 4000 by omega)) (fun rr694 k695 => ?_)
            obtain ⟨m696, Tm696, Fm696, h697, rfl⟩ := k695
            refine ⟨_, _, rfl, ?_⟩
            refine T_nb (st' := []) rfl ?_
            have g698 : 0 ≤ m696.1 69 ∧ m696.1 69 ≤ 1024 := Tm696.1 69
            have g699 : 0 ≤ m696.1 70 ∧ m696.1 70 ≤ 4000 := Tm696.1 70
            have g700 : 0 ≤ m696.1 71 ∧ m696.1 71 ≤ 1 := Tm696.1 71
            have g701 : (-9223372036854775808) ≤ m696.1 72 ∧ m696.1 72 ≤ 9223372036854775807 := Tm696.1 72
            replace h697 : (m696.1 69) = (((m.2 81) jj) + (m.1 69)) := h697
            refine T_ret rfl (fun _ => rfl) ?_
            exact ⟨(mO m696 [] []), Tm696, (fr_m (fr_s Fm696 (fr_m (fr_s Fm688 (fr_m (fr_s Fm680 (fr_m (fr_s Fm672 (fr_m (fr_s Fm664 (fr_m fr_0 rfl rfl) rfl rfl) rfl rfl) rfl rfl) rfl rfl) rfl rfl) rfl rfl) rfl rfl) rfl rfl) rfl rfl) rfl rfl), (show (m696.1 10) = 0 → (m.1 10) = 0 by rewrite [(show (m696.1 10) = (m688.1 10) from (fr1 Fm696 10 rfl))]; omega), (show (m696.1 69) ≤ (m.1 69) + 64 by omega), (fun (h : (m696.1 10) = 0) => absurd ((show (m696.1 10) = (m688.1 10) from (fr1 Fm696 10 rfl)).symm.trans h) (by omega)), rfl⟩
          · skip
            refine T_ld 186 (.int (i32 1)) rfl (fun _ => rfl) ?_
            refine T_goto 190 rfl (fun _ => rfl) ?_
            refine T_gf 194 (.int (i32 (m.1 70))) rfl rfl rfl rfl (mfv_c (F := fun x => .int (i32 x)) rfl (show (m672.1 70) = (m.1 70) from ((fr1 Fm672 70 rfl).trans (fr1 Fm664 70 rfl)))) rfl ?_
            refine T_call 197 256 [.ref 189, .int (i32 1), .int (i32 (m.1 70))] [] rfl (fun _ => rfl) rfl (c_want w (mO m672 [] []) c N D (by omega) Tm672 1 (m.1 70) ⟨by decide, by decide⟩ (r32 (by omega) (by omega)) (show 0 ≤ (m.1 70) ∧ (m.1 70) ≤ 4000 by omega) (fun (h : (m672.1 10) = 0) => absurd h (by omega))) (fun rr702 k703 => ?_)
            obtain ⟨m704, Tm704, Fm704, h705, c706, rfl⟩ := k703
            refine ⟨_, _, rfl, ?_⟩
            refine T_nb (st' := []) rfl ?_
            have g707 : 0 ≤ m704.1 10 ∧ m704.1 10 ≤ 8 := Tm704.1 10
            replace h705 : (m704.1 10) = 0 → (m672.1 10) = 0 := h705
            have hf708 : 1 ≤ (m704.1 10) := by omega
            clear c706
            clear h705
            clear g675 hf676
            refine T_ld 198 (.int (i32 ((m.2 81) jj))) rfl (fun _ => rfl) ?_
            refine T_gf 202 (.int (i32 (m.1 69))) rfl rfl rfl rfl (mfv_c (F := fun x => .int (i32 x)) rfl (show (m704.1 69) = (m.1 69) from ((fr1 Fm704 69 rfl).trans ((fr1 Fm672 69 rfl).trans (fr1 Fm664 69 rfl))))) rfl ?_
            refine T_iadd 203 rfl rfl ?_
            refine T_sto 204 [(2, .int (i32 (((m.2 81) jj) + (m.1 69)))), (5, .int (i32 (m.1 69))), (4, .int (i32 ((m.2 80) jj))), (3, .int (i32 ((m.2 82) jj))), (0, .ref 189), (1, .int (i32 jj))] rfl (fun _ => rfl) ?_
            refine T_goto 261 rfl (fun _ => rfl) ?_
            refine T_gf 265 (.ref 242) rfl rfl rfl rfl rfl rfl ?_
            refine T_ld 266 (.int (i32 jj)) rfl (fun _ => rfl) ?_
            refine T_ld 267 (.int (i32 (-1))) rfl (fun _ => rfl) ?_
            have G709 : ∀ j, (-1) ≤ (upI (m.2 80) jj (-1)) j ∧ (upI (m.2 80) jj (-1)) j ≤ 330 := upI_rg (hT.2.1 80) ⟨by omega, by omega⟩
            refine T_iast (a' := [(80, upI (m.2 80) jj (-1))]) 268 80 (m.2 80) rfl rfl rfl (by omega) (show jj < (540 : Int) by omega) (show (m704.2 80) = (m.2 80) from ((fr2 Fm704 80 rfl).trans ((fr2 Fm672 80 rfl).trans (fr2 Fm664 80 rfl)))) rfl ?_
            refine T_ld 269 (.ref 189) rfl (fun _ => rfl) ?_
            refine T_ld 271 (.int (i32 ((m.2 80) jj))) rfl (fun _ => rfl) ?_
            refine T_ld 272 (.int (i32 (((m.2 81) jj) + (m.1 69)))) rfl (fun _ => rfl) ?_
            refine T_ld 274 (.int (i32 (m.1 69))) rfl (fun _ => rfl) ?_
            refine T_ld 275 (.long (i64 0)) rfl (fun _ => rfl) ?_
            refine T_call 278 248 [.ref 189, .int (i32 ((m.2 80) jj)), .int (i32 (((m.2 81) jj) + (m.1 69))), .int (i32 (m.1 69)), .long (i64 0)] [] rfl (fun _ => rfl) rfl (c_node w (mO m704 [] [(80, upI (m.2 80) jj (-1))]) c N D (by omega) (Ty_mO Tm704 rfl rfl trivial ⟨G709, trivial⟩) ((m.2 80) jj) (((m.2 81) jj) + (m.1 69)) (m.1 69) 0 B (1 + lh (m.2 79) (m.2 80) (m.1 73)) (r32 (by omega) (by omega)) (r32 (by omega) (by omega)) (r32 (by omega) (by omega)) ⟨by decide, by decide⟩ (fun (h : (m704.1 10) = 0) => absurd h (by omega))) (fun rr710 k711 => ?_)
            obtain ⟨m712, Tm712, Fm712, h713, c714, rfl⟩ := k711
            refine ⟨_, _, rfl, ?_⟩
            refine T_nb (st' := []) rfl ?_
            have g715 : 0 ≤ m712.1 10 ∧ m712.1 10 ≤ 8 := Tm712.1 10
            have g716 : 0 ≤ m712.1 28 ∧ m712.1 28 ≤ 800 := Tm712.1 28
            replace h713 : (m712.1 10) = 0 → (m704.1 10) = 0 := h713
            have hf717 : 1 ≤ (m712.1 10) := by omega
            clear c714
            clear h713
            clear g707 hf708
            refine T_ld 279 (.ref 189) rfl (fun _ => rfl) ?_
            refine T_ld 280 (.int (i32 (((m.2 81) jj) + (m.1 69)))) rfl (fun _ => rfl) ?_
            refine T_ld 281 (.int (i32 ((m.2 82) jj))) rfl (fun _ => rfl) ?_
            refine T_call 284 250 [.ref 189, .int (i32 (((m.2 81) jj) + (m.1 69))), .int (i32 ((m.2 82) jj))] [] rfl (fun _ => rfl) rfl (c_unit w (mO m712 [] []) c N D (by omega) Tm712 (((m.2 81) jj) + (m.1 69)) ((m.2 82) jj) (r32 (by omega) (by omega)) (r32 (by omega) (by omega)) (show 0 ≤ (((m.2 81) jj) + (m.1 69)) ∧ (((m.2 81) jj) + (m.1 69)) ≤ 1024 by omega) (show 0 ≤ ((m.2 82) jj) ∧ ((m.2 82) jj) ≤ 4000 by omega)) (fun rr718 k719 => ?_)
            obtain ⟨m720, Tm720, Fm720, h721, rfl⟩ := k719
            refine ⟨_, _, rfl, ?_⟩
            refine T_nb (st' := []) rfl ?_
            have g722 : 0 ≤ m720.1 69 ∧ m720.1 69 ≤ 1024 := Tm720.1 69
            have g723 : 0 ≤ m720.1 70 ∧ m720.1 70 ≤ 4000 := Tm720.1 70
            have g724 : 0 ≤ m720.1 71 ∧ m720.1 71 ≤ 1 := Tm720.1 71
            have g725 : (-9223372036854775808) ≤ m720.1 72 ∧ m720.1 72 ≤ 9223372036854775807 := Tm720.1 72
            replace h721 : (m720.1 69) = (((m.2 81) jj) + (m.1 69)) := h721
            refine T_ret rfl (fun _ => rfl) ?_
            exact ⟨(mO m720 [] []), Tm720, (fr_m (fr_s Fm720 (fr_m (fr_s Fm712 (fr_m (fr_s Fm704 (fr_m (fr_s Fm672 (fr_m (fr_s Fm664 (fr_m fr_0 rfl rfl) rfl rfl) rfl rfl) rfl rfl) rfl rfl) rfl rfl) rfl rfl) rfl rfl) rfl rfl) rfl rfl) rfl rfl), (show (m720.1 10) = 0 → (m.1 10) = 0 by rewrite [(show (m720.1 10) = (m712.1 10) from (fr1 Fm720 10 rfl))]; omega), (show (m720.1 69) ≤ (m.1 69) + 64 by omega), (fun (h : (m720.1 10) = 0) => absurd ((show (m720.1 10) = (m712.1 10) from (fr1 Fm720 10 rfl)).symm.trans h) (by omega)), rfl⟩
        · skip
          refine T_ld 162 (.int (i32 1)) rfl (fun _ => rfl) ?_
          refine T_goto 166 rfl (fun _ => rfl) ?_
          refine T_gf 170 (.int (i32 (m.1 70))) rfl rfl rfl rfl (mfv_c (F := fun x => .int (i32 x)) rfl (show (m664.1 70) = (m.1 70) from (fr1 Fm664 70 rfl))) rfl ?_
          refine T_call 173 256 [.ref 189, .int (i32 1), .int (i32 (m.1 70))] [] rfl (fun _ => rfl) rfl (c_want w (mO m664 [] []) c N D (by omega) Tm664 1 (m.1 70) ⟨by decide, by decide⟩ (r32 (by omega) (by omega)) (show 0 ≤ (m.1 70) ∧ (m.1 70) ≤ 4000 by omega) (fun (h : (m664.1 10) = 0) => absurd h (by omega))) (fun rr726 k727 => ?_)
          obtain ⟨m728, Tm728, Fm728, h729, c730, rfl⟩ := k727
          refine ⟨_, _, rfl, ?_⟩
          refine T_nb (st' := []) rfl ?_
          have g731 : 0 ≤ m728.1 10 ∧ m728.1 10 ≤ 8 := Tm728.1 10
          replace h729 : (m728.1 10) = 0 → (m664.1 10) = 0 := h729
          have hf732 : 1 ≤ (m728.1 10) := by omega
          clear c730
          clear h729
          clear g667 hf668
          refine T_ld 174 (.ref 189) rfl (fun _ => rfl) ?_
          refine T_ld 175 (.int (i32 ((m.2 81) jj))) rfl (fun _ => rfl) ?_
          refine T_gf 179 (.int (i32 (m.1 69))) rfl rfl rfl rfl (mfv_c (F := fun x => .int (i32 x)) rfl (show (m728.1 69) = (m.1 69) from ((fr1 Fm728 69 rfl).trans (fr1 Fm664 69 rfl)))) rfl ?_
          refine T_iadd 180 rfl rfl ?_
          refine T_ld 182 (.int (i32 64)) rfl (fun _ => rfl) ?_
          refine T_icmp 189 185 rfl rfl rfl (r32 (by omega) (by omega)) ⟨by decide, by decide⟩ (fun (h733 : (64 : Int) < ((m.2 81) jj) + (m.1 69)) => ?_) (fun (h733 : ¬ ((64 : Int) < ((m.2 81) jj) + (m.1 69))) => ?_)
          · skip
            refine T_ld 190 (.int (i32 0)) rfl (fun _ => rfl) ?_
            refine T_gf 194 (.int (i32 (m.1 70))) rfl rfl rfl rfl (mfv_c (F := fun x => .int (i32 x)) rfl (show (m728.1 70) = (m.1 70) from ((fr1 Fm728 70 rfl).trans (fr1 Fm664 70 rfl)))) rfl ?_
            refine T_call 197 256 [.ref 189, .int (i32 0), .int (i32 (m.1 70))] [] rfl (fun _ => rfl) rfl (c_want w (mO m728 [] []) c N D (by omega) Tm728 0 (m.1 70) ⟨by decide, by decide⟩ (r32 (by omega) (by omega)) (show 0 ≤ (m.1 70) ∧ (m.1 70) ≤ 4000 by omega) (fun (h : (m728.1 10) = 0) => absurd h (by omega))) (fun rr734 k735 => ?_)
            obtain ⟨m736, Tm736, Fm736, h737, c738, rfl⟩ := k735
            refine ⟨_, _, rfl, ?_⟩
            refine T_nb (st' := []) rfl ?_
            have g739 : 0 ≤ m736.1 10 ∧ m736.1 10 ≤ 8 := Tm736.1 10
            replace h737 : (m736.1 10) = 0 → (m728.1 10) = 0 := h737
            have hf740 : 1 ≤ (m736.1 10) := by omega
            clear c738
            clear h737
            clear g731 hf732
            refine T_ld 198 (.int (i32 ((m.2 81) jj))) rfl (fun _ => rfl) ?_
            refine T_gf 202 (.int (i32 (m.1 69))) rfl rfl rfl rfl (mfv_c (F := fun x => .int (i32 x)) rfl (show (m736.1 69) = (m.1 69) from ((fr1 Fm736 69 rfl).trans ((fr1 Fm728 69 rfl).trans (fr1 Fm664 69 rfl))))) rfl ?_
            refine T_iadd 203 rfl rfl ?_
            refine T_sto 204 [(2, .int (i32 (((m.2 81) jj) + (m.1 69)))), (5, .int (i32 (m.1 69))), (4, .int (i32 ((m.2 80) jj))), (3, .int (i32 ((m.2 82) jj))), (0, .ref 189), (1, .int (i32 jj))] rfl (fun _ => rfl) ?_
            refine T_goto 261 rfl (fun _ => rfl) ?_
            refine T_gf 265 (.ref 242) rfl rfl rfl rfl rfl rfl ?_
            refine T_ld 266 (.int (i32 jj)) rfl (fun _ => rfl) ?_
            refine T_ld 267 (.int (i32 (-1))) rfl (fun _ => rfl) ?_
            have G741 : ∀ j, (-1) ≤ (upI (m.2 80) jj (-1)) j ∧ (upI (m.2 80) jj (-1)) j ≤ 330 := upI_rg (hT.2.1 80) ⟨by omega, by omega⟩
            refine T_iast (a' := [(80, upI (m.2 80) jj (-1))]) 268 80 (m.2 80) rfl rfl rfl (by omega) (show jj < (540 : Int) by omega) (show (m736.2 80) = (m.2 80) from ((fr2 Fm736 80 rfl).trans ((fr2 Fm728 80 rfl).trans (fr2 Fm664 80 rfl)))) rfl ?_
            refine T_ld 269 (.ref 189) rfl (fun _ => rfl) ?_
            refine T_ld 271 (.int (i32 ((m.2 80) jj))) rfl (fun _ => rfl) ?_
            refine T_ld 272 (.int (i32 (((m.2 81) jj) + (m.1 69)))) rfl (fun _ => rfl) ?_
            refine T_ld 274 (.int (i32 (m.1 69))) rfl (fun _ => rfl) ?_
            refine T_ld 275 (.long (i64 0)) rfl (fun _ => rfl) ?_
            refine T_call 278 248 [.ref 189, .int (i32 ((m.2 80) jj)), .int (i32 (((m.2 81) jj) + (m.1 69))), .int (i32 (m.1 69)), .long (i64 0)] [] rfl (fun _ => rfl) rfl (c_node w (mO m736 [] [(80, upI (m.2 80) jj (-1))]) c N D (by omega) (Ty_mO Tm736 rfl rfl trivial ⟨G741, trivial⟩) ((m.2 80) jj) (((m.2 81) jj) + (m.1 69)) (m.1 69) 0 B (1 + lh (m.2 79) (m.2 80) (m.1 73)) (r32 (by omega) (by omega)) (r32 (by omega) (by omega)) (r32 (by omega) (by omega)) ⟨by decide, by decide⟩ (fun (h : (m736.1 10) = 0) => absurd h (by omega))) (fun rr742 k743 => ?_)
            obtain ⟨m744, Tm744, Fm744, h745, c746, rfl⟩ := k743
            refine ⟨_, _, rfl, ?_⟩
            refine T_nb (st' := []) rfl ?_
            have g747 : 0 ≤ m744.1 10 ∧ m744.1 10 ≤ 8 := Tm744.1 10
            have g748 : 0 ≤ m744.1 28 ∧ m744.1 28 ≤ 800 := Tm744.1 28
            replace h745 : (m744.1 10) = 0 → (m736.1 10) = 0 := h745
            have hf749 : 1 ≤ (m744.1 10) := by omega
            clear c746
            clear h745
            clear g739 hf740
            refine T_ld 279 (.ref 189) rfl (fun _ => rfl) ?_
            refine T_ld 280 (.int (i32 (((m.2 81) jj) + (m.1 69)))) rfl (fun _ => rfl) ?_
            refine T_ld 281 (.int (i32 ((m.2 82) jj))) rfl (fun _ => rfl) ?_
            refine T_call 284 250 [.ref 189, .int (i32 (((m.2 81) jj) + (m.1 69))), .int (i32 ((m.2 82) jj))] [] rfl (fun _ => rfl) rfl (c_unit w (mO m744 [] []) c N D (by omega) Tm744 (((m.2 81) jj) + (m.1 69)) ((m.2 82) jj) (r32 (by omega) (by omega)) (r32 (by omega) (by omega)) (show 0 ≤ (((m.2 81) jj) + (m.1 69)) ∧ (((m.2 81) jj) + (m.1 69)) ≤ 1024 by omega) (show 0 ≤ ((m.2 82) jj) ∧ ((m.2 82) jj) ≤ 4000 by omega)) (fun rr750 k751 => ?_)
            obtain ⟨m752, Tm752, Fm752, h753, rfl⟩ := k751
            refine ⟨_, _, rfl, ?_⟩
            refine T_nb (st' := []) rfl ?_
            have g754 : 0 ≤ m752.1 69 ∧ m752.1 69 ≤ 1024 := Tm752.1 69
            have g755 : 0 ≤ m752.1 70 ∧ m752.1 70 ≤ 4000 := Tm752.1 70
            have g756 : 0 ≤ m752.1 71 ∧ m752.1 71 ≤ 1 := Tm752.1 71
            have g757 : (-9223372036854775808) ≤ m752.1 72 ∧ m752.1 72 ≤ 9223372036854775807 := Tm752.1 72
            replace h753 : (m752.1 69) = (((m.2 81) jj) + (m.1 69)) := h753
            refine T_ret rfl (fun _ => rfl) ?_
            exact ⟨(mO m752 [] []), Tm752, (fr_m (fr_s Fm752 (fr_m (fr_s Fm744 (fr_m (fr_s Fm736 (fr_m (fr_s Fm728 (fr_m (fr_s Fm664 (fr_m fr_0 rfl rfl) rfl rfl) rfl rfl) rfl rfl) rfl rfl) rfl rfl) rfl rfl) rfl rfl) rfl rfl) rfl rfl) rfl rfl), (show (m752.1 10) = 0 → (m.1 10) = 0 by rewrite [(show (m752.1 10) = (m744.1 10) from (fr1 Fm752 10 rfl))]; omega), (show (m752.1 69) ≤ (m.1 69) + 64 by omega), (fun (h : (m752.1 10) = 0) => absurd ((show (m752.1 10) = (m744.1 10) from (fr1 Fm752 10 rfl)).symm.trans h) (by omega)), rfl⟩
          · skip
            refine T_ld 186 (.int (i32 1)) rfl (fun _ => rfl) ?_
            refine T_goto 190 rfl (fun _ => rfl) ?_
            refine T_gf 194 (.int (i32 (m.1 70))) rfl rfl rfl rfl (mfv_c (F := fun x => .int (i32 x)) rfl (show (m728.1 70) = (m.1 70) from ((fr1 Fm728 70 rfl).trans (fr1 Fm664 70 rfl)))) rfl ?_
            refine T_call 197 256 [.ref 189, .int (i32 1), .int (i32 (m.1 70))] [] rfl (fun _ => rfl) rfl (c_want w (mO m728 [] []) c N D (by omega) Tm728 1 (m.1 70) ⟨by decide, by decide⟩ (r32 (by omega) (by omega)) (show 0 ≤ (m.1 70) ∧ (m.1 70) ≤ 4000 by omega) (fun (h : (m728.1 10) = 0) => absurd h (by omega))) (fun rr758 k759 => ?_)
            obtain ⟨m760, Tm760, Fm760, h761, c762, rfl⟩ := k759
            refine ⟨_, _, rfl, ?_⟩
            refine T_nb (st' := []) rfl ?_
            have g763 : 0 ≤ m760.1 10 ∧ m760.1 10 ≤ 8 := Tm760.1 10
            replace h761 : (m760.1 10) = 0 → (m728.1 10) = 0 := h761
            have hf764 : 1 ≤ (m760.1 10) := by omega
            clear c762
            clear h761
            clear g731 hf732
            refine T_ld 198 (.int (i32 ((m.2 81) jj))) rfl (fun _ => rfl) ?_
            refine T_gf 202 (.int (i32 (m.1 69))) rfl rfl rfl rfl (mfv_c (F := fun x => .int (i32 x)) rfl (show (m760.1 69) = (m.1 69) from ((fr1 Fm760 69 rfl).trans ((fr1 Fm728 69 rfl).trans (fr1 Fm664 69 rfl))))) rfl ?_
            refine T_iadd 203 rfl rfl ?_
            refine T_sto 204 [(2, .int (i32 (((m.2 81) jj) + (m.1 69)))), (5, .int (i32 (m.1 69))), (4, .int (i32 ((m.2 80) jj))), (3, .int (i32 ((m.2 82) jj))), (0, .ref 189), (1, .int (i32 jj))] rfl (fun _ => rfl) ?_
            refine T_goto 261 rfl (fun _ => rfl) ?_
            refine T_gf 265 (.ref 242) rfl rfl rfl rfl rfl rfl ?_
            refine T_ld 266 (.int (i32 jj)) rfl (fun _ => rfl) ?_
            refine T_ld 267 (.int (i32 (-1))) rfl (fun _ => rfl) ?_
            have G765 : ∀ j, (-1) ≤ (upI (m.2 80) jj (-1)) j ∧ (upI (m.2 80) jj (-1)) j ≤ 330 := upI_rg (hT.2.1 80) ⟨by omega, by omega⟩
            refine T_iast (a' := [(80, upI (m.2 80) jj (-1))]) 268 80 (m.2 80) rfl rfl rfl (by omega) (show jj < (540 : Int) by omega) (show (m760.2 80) = (m.2 80) from ((fr2 Fm760 80 rfl).trans ((fr2 Fm728 80 rfl).trans (fr2 Fm664 80 rfl)))) rfl ?_
            refine T_ld 269 (.ref 189) rfl (fun _ => rfl) ?_
            refine T_ld 271 (.int (i32 ((m.2 80) jj))) rfl (fun _ => rfl) ?_
            refine T_ld 272 (.int (i32 (((m.2 81) jj) + (m.1 69)))) rfl (fun _ => rfl) ?_
            refine T_ld 274 (.int (i32 (m.1 69))) rfl (fun _ => rfl) ?_
            refine T_ld 275 (.long (i64 0)) rfl (fun _ => rfl) ?_
            refine T_call 278 248 [.ref 189, .int (i32 ((m.2 80) jj)), .int (i32 (((m.2 81) jj) + (m.1 69))), .int (i32 (m.1 69)), .long (i64 0)] [] rfl (fun _ => rfl) rfl (c_node w (mO m760 [] [(80, upI (m.2 80) jj (-1))]) c N D (by omega) (Ty_mO Tm760 rfl rfl trivial ⟨G765, trivial⟩) ((m.2 80) jj) (((m.2 81) jj) + (m.1 69)) (m.1 69) 0 B (1 + lh (m.2 79) (m.2 80) (m.1 73)) (r32 (by omega) (by omega)) (r32 (by omega) (by omega)) (r32 (by omega) (by omega)) ⟨by decide, by decide⟩ (fun (h : (m760.1 10) = 0) => absurd h (by omega))) (fun rr766 k767 => ?_)
            obtain ⟨m768, Tm768, Fm768, h769, c770, rfl⟩ := k767
            refine ⟨_, _, rfl, ?_⟩
            refine T_nb (st' := []) rfl ?_
            have g771 : 0 ≤ m768.1 10 ∧ m768.1 10 ≤ 8 := Tm768.1 10
            have g772 : 0 ≤ m768.1 28 ∧ m768.1 28 ≤ 800 := Tm768.1 28
            replace h769 : (m768.1 10) = 0 → (m760.1 10) = 0 := h769
            have hf773 : 1 ≤ (m768.1 10) := by omega
            clear c770
            clear h769
            clear g763 hf764
            refine T_ld 279 (.ref 189) rfl (fun _ => rfl) ?_
            refine T_ld 280 (.int (i32 (((m.2 81) jj) + (m.1 69)))) rfl (fun _ => rfl) ?_
            refine T_ld 281 (.int (i32 ((m.2 82) jj))) rfl (fun _ => rfl) ?_
            refine T_call 284 250 [.ref 189, .int (i32 (((m.2 81) jj) + (m.1 69))), .int (i32 ((m.2 82) jj))] [] rfl (fun _ => rfl) rfl (c_unit w (mO m768 [] []) c N D (by omega) Tm768 (((m.2 81) jj) + (m.1 69)) ((m.2 82) jj) (r32 (by omega) (by omega)) (r32 (by omega) (by omega)) (show 0 ≤ (((m.2 81) jj) + (m.1 69)) ∧ (((m.2 81) jj) + (m.1 69)) ≤ 1024 by omega) (show 0 ≤ ((m.2 82) jj) ∧ ((m.2 82) jj) ≤ 4000 by omega)) (fun rr774 k775 => ?_)
            obtain ⟨m776, Tm776, Fm776, h777, rfl⟩ := k775
            refine ⟨_, _, rfl, ?_⟩
            refine T_nb (st' := []) rfl ?_
            have g778 : 0 ≤ m776.1 69 ∧ m776.1 69 ≤ 1024 := Tm776.1 69
            have g779 : 0 ≤ m776.1 70 ∧ m776.1 70 ≤ 4000 := Tm776.1 70
            have g780 : 0 ≤ m776.1 71 ∧ m776.1 71 ≤ 1 := Tm776.1 71
            have g781 : (-9223372036854775808) ≤ m776.1 72 ∧ m776.1 72 ≤ 9223372036854775807 := Tm776.1 72
            replace h777 : (m776.1 69) = (((m.2 81) jj) + (m.1 69)) := h777
            refine T_ret rfl (fun _ => rfl) ?_
            exact ⟨(mO m776 [] []), Tm776, (fr_m (fr_s Fm776 (fr_m (fr_s Fm768 (fr_m (fr_s Fm760 (fr_m (fr_s Fm728 (fr_m (fr_s Fm664 (fr_m fr_0 rfl rfl) rfl rfl) rfl rfl) rfl rfl) rfl rfl) rfl rfl) rfl rfl) rfl rfl) rfl rfl) rfl rfl) rfl rfl), (show (m776.1 10) = 0 → (m.1 10) = 0 by rewrite [(show (m776.1 10) = (m768.1 10) from (fr1 Fm776 10 rfl))]; omega), (show (m776.1 69) ≤ (m.1 69) + 64 by omega), (fun (h : (m776.1 10) = 0) => absurd ((show (m776.1 10) = (m768.1 10) from (fr1 Fm776 10 rfl)).symm.trans h) (by omega)), rfl⟩
    by_cases h782 : x426 = 2
    · skip
      refine T_cast 2 h782 ?_
      refine T_pop 207 rfl (fun _ => rfl) ?_
      exact T207_464
    by_cases h783 : x426 = 3
    · skip
      refine T_cast 3 h783 ?_
      refine T_pop 207 rfl (fun _ => rfl) ?_
      exact T207_464
    by_cases h784 : x426 = 4
    · skip
      refine T_cast 4 h784 ?_
      refine T_pop 207 rfl (fun _ => rfl) ?_
      exact T207_464
    by_cases h785 : x426 = 5
    · skip
      refine T_cast 5 h785 ?_
      refine T_pop 207 rfl (fun _ => rfl) ?_
      exact T207_464
    by_cases h786 : x426 = 7
    · skip
      refine T_cast 7 h786 ?_
      refine T_pop 207 rfl (fun _ => rfl) ?_
      exact T207_464
    refine T_tsd 207 rfl rfl (r32 (by omega) (by omega)) (by omega) ?_
    exact T207_464
