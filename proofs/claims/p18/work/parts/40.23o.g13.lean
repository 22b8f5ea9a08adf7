def fF_openBlock : List Nat := [7, 8, 9, 10, 11, 12, 119]
def fA_openBlock : List Nat := [117, 118]
def Q_openBlock (m : mR) (c : Nat → Option am_C) (N : Nat) (i : Int) (b : Int) : ag_Re af_T → Prop := fun R => ∃ (M : mR), Ty M ∧ fr fF_openBlock fA_openBlock m M ∧ ((M.1 10) = 0 → (m.1 10) = 0) ∧ (LxP (M.1 7) (M.1 8) (M.1 9) (m.1 6) (M.1 10)) ∧ (M.1 10 = 0 → ((m.1 8) + 1 ≤ (M.1 8)) ∧ ((M.1 119) = (m.1 119) + 1) ∧ (∀ j, 0 ≤ j → j < (M.1 119) → (M.2 117) j < (m.1 27))) ∧ R = (.inl (none), (mhp M c, N), 0, 0)
set_option maxHeartbeats 3000000 in
theorem c_openBlock (w : wX) (m : mR) (c : Nat → Option am_C) (N D : Nat) (hD : 7 ≤ D) (hT : Ty m) (i : Int) (b : Int) (qi : R32 i) (qb : R32 b) (hLx0 : LxP (m.1 7) (m.1 8) (m.1 9) (m.1 6) (m.1 10)) (p1 : (-1) ≤ i ∧ i ≤ 47) (p2 : (-1) ≤ b ∧ b ≤ 1) (hC : m.1 10 = 0 → (∀ j, 0 ≤ j → j < (m.1 119) → (m.2 117) j < (m.1 27)) ∧ (i < (m.1 27))) : TC w D 280 [.ref 189, .int (i32 i), .int (i32 b)] (mhp m c, N) (Q_openBlock m c N i b) := by
  obtain ⟨D, rfl⟩ : ∃ k, D = k + 1 := ⟨D - 1, by omega⟩
  obtain ⟨qia, qib⟩ := id qi
  obtain ⟨qba, qbb⟩ := id qb
  have hLx := hLx0
  have f7 : 0 ≤ m.1 7 ∧ m.1 7 ≤ 330 := hT.1 7
  have f8 : 0 ≤ m.1 8 ∧ m.1 8 ≤ 4000 := hT.1 8
  have f9 : 0 ≤ m.1 9 ∧ m.1 9 ≤ 4000 := hT.1 9
  have f10 : 0 ≤ m.1 10 ∧ m.1 10 ≤ 8 := hT.1 10
  have f11 : (-1) ≤ m.1 11 ∧ m.1 11 ≤ 4000 := hT.1 11
  have f119 : 0 ≤ m.1 119 ∧ m.1 119 ≤ 8 := hT.1 119
  have f6 : 0 ≤ m.1 6 ∧ m.1 6 ≤ 4000 := hT.1 6
  have f27 : 0 ≤ m.1 27 ∧ m.1 27 ≤ 48 := hT.1 27
  refine Tc_of rfl ?_
  show TT w D pm_280 (0, [(0, .ref 189), (1, .int (i32 i)), (2, .int (i32 b))], [], (mhp (mO m [] []) c, N), 0, 0) (Q_openBlock m c N i b)
  by_cases hf0 : m.1 10 = 0
  · skip
    obtain ⟨hBK, c1⟩ := hC hf0
    have h7 := hLx (by omega)
    have J40_5 : ∀ (m4 : mR), Ty m4 → fr [7, 8, 9, 10, 11, 12] [] (mO m [] []) m4 → (1 ≤ (m4.1 10)) → TT w D pm_280 (40, [(0, .ref 189), (1, .int (i32 i)), (2, .int (i32 b))], [], (mhp (mO m4 [] []) c, N), 0, 0) (Q_openBlock m c N i b) := by
      intro m4 Tm4 Fm4 ic6
      have q7_7 : 0 ≤ m4.1 7 ∧ m4.1 7 ≤ 330 := Tm4.1 7
      have q7_8 : 0 ≤ m4.1 8 ∧ m4.1 8 ≤ 4000 := Tm4.1 8
      have q7_9 : 0 ≤ m4.1 9 ∧ m4.1 9 ≤ 4000 := Tm4.1 9
      have q7_10 : 0 ≤ m4.1 10 ∧ m4.1 10 ≤ 8 := Tm4.1 10
      have q7_11 : (-1) ≤ m4.1 11 ∧ m4.1 11 ≤ 4000 := Tm4.1 11
      refine T_gf 44 (.int (i32 (m4.1 10))) rfl rfl rfl rfl rfl rfl ?_
      refine T_if 48 47 rfl rfl rfl (r32 (by omega) (by omega)) (fun (h10 : (m4.1 10) ≤ 0) => by exfalso; omega) (fun (h10 : ¬ ((m4.1 10) ≤ 0)) => ?_)
      refine T_ret rfl (fun _ => rfl) ?_
      exact ⟨(mO m4 [] []), Tm4, (fr_m (fr_s Fm4 (fr_m fr_0 rfl rfl) rfl rfl) rfl rfl), (show (m4.1 10) = 0 → (m.1 10) = 0 by omega), (show LxP (m4.1 7) (m4.1 8) (m4.1 9) (m.1 6) (m4.1 10) by first | (first | exact hLx | exact (fun _ => hLx (by omega)) | (intro h9; exfalso; omega)) | (exfalso; omega)), (fun (h : (m4.1 10) = 0) => absurd h (by omega)), rfl⟩
    refine T_gf 4 (.int (i32 (m.1 10))) rfl rfl rfl rfl rfl rfl ?_
    refine T_if 34 7 rfl rfl rfl (r32 (by omega) (by omega)) (fun (h11 : (m.1 10) ≠ 0) => by exfalso; omega) (fun (h11 : ¬ ((m.1 10) ≠ 0)) => ?_)
    refine T_gf 11 (.int (i32 (m.1 7))) rfl rfl rfl rfl rfl rfl ?_
    refine T_ld 13 (.int (i32 123)) rfl (fun _ => rfl) ?_
    refine T_icmp 34 16 rfl rfl rfl (r32 (by omega) (by omega)) ⟨by decide, by decide⟩ (fun (h12 : (m.1 7) ≠ 123) => ?_) (fun (h12 : ¬ ((m.1 7) ≠ 123)) => ?_)
    · skip
      refine T_ld 35 (.ref 189) rfl (fun _ => rfl) ?_
      refine T_ld 37 (.int (i32 123)) rfl (fun _ => rfl) ?_
      refine T_call 40 232 [.ref 189, .int (i32 123)] [] rfl (fun _ => rfl) rfl (d_need w (mO m [] []) c N D (by omega) hT 123 ⟨by decide, by decide⟩ (show 1 ≤ (123 : Int) by omega) (show LxP (m.1 7) (m.1 8) (m.1 9) (m.1 6) (m.1 10) by first | exact hLx | (intro h9; exfalso; omega) | (intro h9; have h8 := hLx (by omega); omega))) (fun rr13 k14 => ?_)
      obtain ⟨m15, Tm15, Fm15, h16, h17, h18, h19, rfl⟩ := k14
      refine ⟨_, _, rfl, ?_⟩
      refine T_nb (st' := []) rfl ?_
      have g20 : 0 ≤ m15.1 7 ∧ m15.1 7 ≤ 330 := Tm15.1 7
      have g21 : 0 ≤ m15.1 8 ∧ m15.1 8 ≤ 4000 := Tm15.1 8
      have g22 : 0 ≤ m15.1 9 ∧ m15.1 9 ≤ 4000 := Tm15.1 9
      have g23 : 0 ≤ m15.1 10 ∧ m15.1 10 ≤ 8 := Tm15.1 10
      have g24 : (-1) ≤ m15.1 11 ∧ m15.1 11 ≤ 4000 := Tm15.1 11
      by_cases hf25 : (m15.1 10) = 0
      · skip
        replace h16 : LxP (m15.1 7) (m15.1 8) (m15.1 9) (m.1 6) (m15.1 10) := h16
        have hLx := h16
        replace h17 : (m.1 10) = 0 ∧ (m.1 7) = (123 : Int) := h17 hf25
        replace h18 : (m.1 8) ≤ (m15.1 8) := h18
        replace h19 : (m.1 8) + (m.1 9) ≤ (m15.1 8) := h19 hf25
        have u26 : (m.1 8) + 1 ≤ (m15.1 8) := by omega
        refine T_gf 44 (.int (i32 (m15.1 10))) rfl rfl rfl rfl rfl rfl ?_
        refine T_if 48 47 rfl rfl rfl (r32 (by omega) (by omega)) (fun (h27 : (m15.1 10) ≤ 0) => ?_) (fun (h27 : ¬ ((m15.1 10) ≤ 0)) => by exfalso; omega)
        refine T_gf 52 (.ref 277) rfl rfl rfl rfl rfl rfl ?_
        refine T_gf 56 (.int (i32 (m.1 119))) rfl rfl rfl rfl (mfv_c (F := fun x => .int (i32 x)) rfl (show (m15.1 119) = (m.1 119) from (fr1 Fm15 119 rfl))) rfl ?_
        refine T_ld 57 (.int (i32 i)) rfl (fun _ => rfl) ?_
        have G28 : ∀ j, (-1) ≤ (upI (m.2 117) (m.1 119) i) j ∧ (upI (m.2 117) (m.1 119) i) j ≤ 47 := upI_rg (hT.2.1 117) ⟨by omega, by omega⟩
        refine T_iast (a' := [(117, upI (m.2 117) (m.1 119) i)]) 58 117 (m.2 117) rfl rfl rfl (by omega) (show (m.1 119) < (8 : Int) by omega) (show (m15.2 117) = (m.2 117) from (fr2 Fm15 117 rfl)) rfl ?_
        refine T_gf 62 (.ref 278) rfl rfl rfl rfl rfl rfl ?_
        refine T_gf 66 (.int (i32 (m.1 119))) rfl rfl rfl rfl (mfv_c (F := fun x => .int (i32 x)) rfl (show (m15.1 119) = (m.1 119) from (fr1 Fm15 119 rfl))) rfl ?_
        refine T_ld 67 (.int (i32 b)) rfl (fun _ => rfl) ?_
        have G29 : ∀ j, (-1) ≤ (upI (m.2 118) (m.1 119) b) j ∧ (upI (m.2 118) (m.1 119) b) j ≤ 1 := upI_rg (hT.2.1 118) ⟨by omega, by omega⟩
        refine T_iast (a' := [(117, upI (m.2 117) (m.1 119) i), (118, upI (m.2 118) (m.1 119) b)]) 68 118 (m.2 118) rfl rfl rfl (by omega) (show (m.1 119) < (8 : Int) by omega) (show (m15.2 118) = (m.2 118) from (fr2 Fm15 118 rfl)) rfl ?_
        refine T_ld 69 (.ref 189) rfl (fun _ => rfl) ?_
        refine T_ld 70 (.ref 189) rfl (fun _ => rfl) ?_
        refine T_gf1 73 (.int (i32 (m.1 119))) rfl rfl (mfv_c (F := fun x => .int (i32 x)) rfl (show (m15.1 119) = (m.1 119) from (fr1 Fm15 119 rfl))) rfl ?_
        refine T_ld 74 (.int (i32 1)) rfl (fun _ => rfl) ?_
        refine T_iadd 75 rfl rfl ?_
        refine T_pf (l' := [(119, (m.1 119) + 1)]) 78 ((m.1 119) + 1) rfl rfl rfl rfl rfl rfl ?_
        have g30 : 0 ≤ (m.1 119) + 1 ∧ (m.1 119) + 1 ≤ 8 := ⟨by omega, by omega⟩
        refine T_ret rfl (fun _ => rfl) ?_
        exact ⟨(mO m15 [(119, (m.1 119) + 1)] [(117, upI (m.2 117) (m.1 119) i), (118, upI (m.2 118) (m.1 119) b)]), (Ty_mO Tm15 rfl rfl ⟨g30, trivial⟩ ⟨G28, G29, trivial⟩), (fr_m (fr_s Fm15 (fr_m fr_0 rfl rfl) rfl rfl) rfl rfl), (show (m15.1 10) = 0 → (m.1 10) = 0 by omega), (show LxP (m15.1 7) (m15.1 8) (m15.1 9) (m.1 6) (m15.1 10) by first | (first | exact hLx | exact (fun _ => hLx (by omega)) | (intro h9; exfalso; omega)) | (exfalso; omega)), (fun _ => ⟨(show (m.1 8) + 1 ≤ (m15.1 8) by omega), (show ((m.1 119) + 1) = (m.1 119) + 1 by omega), (show ∀ j, 0 ≤ j → j < ((m.1 119) + 1) → (upI (m.2 117) (m.1 119) i) j < (m.1 27) by first | (intro j j0 j1; unfold upI; split; (omega); (exact hBK j j0 (by omega))) | (exfalso; omega))⟩), rfl⟩
      · skip
        replace h16 : LxP (m15.1 7) (m15.1 8) (m15.1 9) (m.1 6) (m15.1 10) := h16
        have hLx := h16
        clear h17
        replace h18 : (m.1 8) ≤ (m15.1 8) := h18
        clear h19
        have hf31 : 1 ≤ (m15.1 10) := by omega
        exact J40_5 (mO m15 [] []) Tm15 (fr_m (fr_s Fm15 (fr_m fr_0 rfl rfl) rfl rfl) rfl rfl) (show 1 ≤ (m15.1 10) by omega)
    · skip
      refine T_gf 20 (.int (i32 (m.1 119))) rfl rfl rfl rfl rfl rfl ?_
      refine T_ld 22 (.int (i32 8)) rfl (fun _ => rfl) ?_
      refine T_icmp 34 25 rfl rfl rfl (r32 (by omega) (by omega)) ⟨by decide, by decide⟩ (fun (h32 : (m.1 119) ≠ 8) => ?_) (fun (h32 : ¬ ((m.1 119) ≠ 8)) => ?_)
      · skip
        refine T_ld 35 (.ref 189) rfl (fun _ => rfl) ?_
        refine T_ld 37 (.int (i32 123)) rfl (fun _ => rfl) ?_
        refine T_call 40 232 [.ref 189, .int (i32 123)] [] rfl (fun _ => rfl) rfl (d_need w (mO m [] []) c N D (by omega) hT 123 ⟨by decide, by decide⟩ (show 1 ≤ (123 : Int) by omega) (show LxP (m.1 7) (m.1 8) (m.1 9) (m.1 6) (m.1 10) by first | exact hLx | (intro h9; exfalso; omega) | (intro h9; have h8 := hLx (by omega); omega))) (fun rr33 k34 => ?_)
        obtain ⟨m35, Tm35, Fm35, h36, h37, h38, h39, rfl⟩ := k34
        refine ⟨_, _, rfl, ?_⟩
        refine T_nb (st' := []) rfl ?_
        have g40 : 0 ≤ m35.1 7 ∧ m35.1 7 ≤ 330 := Tm35.1 7
        have g41 : 0 ≤ m35.1 8 ∧ m35.1 8 ≤ 4000 := Tm35.1 8
        have g42 : 0 ≤ m35.1 9 ∧ m35.1 9 ≤ 4000 := Tm35.1 9
        have g43 : 0 ≤ m35.1 10 ∧ m35.1 10 ≤ 8 := Tm35.1 10
        have g44 : (-1) ≤ m35.1 11 ∧ m35.1 11 ≤ 4000 := Tm35.1 11
        by_cases hf45 : (m35.1 10) = 0
        · skip
          replace h36 : LxP (m35.1 7) (m35.1 8) (m35.1 9) (m.1 6) (m35.1 10) := h36
          have hLx := h36
          replace h37 : (m.1 10) = 0 ∧ (m.1 7) = (123 : Int) := h37 hf45
          replace h38 : (m.1 8) ≤ (m35.1 8) := h38
          replace h39 : (m.1 8) + (m.1 9) ≤ (m35.1 8) := h39 hf45
          have u46 : (m.1 8) + 1 ≤ (m35.1 8) := by omega
          refine T_gf 44 (.int (i32 (m35.1 10))) rfl rfl rfl rfl rfl rfl ?_
          refine T_if 48 47 rfl rfl rfl (r32 (by omega) (by omega)) (fun (h47 : (m35.1 10) ≤ 0) => ?_) (fun (h47 : ¬ ((m35.1 10) ≤ 0)) => by exfalso; omega)
          refine T_gf 52 (.ref 277) rfl rfl rfl rfl rfl rfl ?_
          refine T_gf 56 (.int (i32 (m.1 119))) rfl rfl rfl rfl (mfv_c (F := fun x => .int (i32 x)) rfl (show (m35.1 119) = (m.1 119) from (fr1 Fm35 119 rfl))) rfl ?_
          refine T_ld 57 (.int (i32 i)) rfl (fun _ => rfl) ?_
          have G48 : ∀ j, (-1) ≤ (upI (m.2 117) (m.1 119) i) j ∧ (upI (m.2 117) (m.1 119) i) j ≤ 47 := upI_rg (hT.2.1 117) ⟨by omega, by omega⟩
          refine T_iast (a' := [(117, upI (m.2 117) (m.1 119) i)]) 58 117 (m.2 117) rfl rfl rfl (by omega) (show (m.1 119) < (8 : Int) by omega) (show (m35.2 117) = (m.2 117) from (fr2 Fm35 117 rfl)) rfl ?_
          refine T_gf 62 (.ref 278) rfl rfl rfl rfl rfl rfl ?_
          refine T_gf 66 (.int (i32 (m.1 119))) rfl rfl rfl rfl (mfv_c (F := fun x => .int (i32 x)) rfl (show (m35.1 119) = (m.1 119) from (fr1 Fm35 119 rfl))) rfl ?_
          refine T_ld 67 (.int (i32 b)) rfl (fun _ => rfl) ?_
          have G49 : ∀ j, (-1) ≤ (upI (m.2 118) (m.1 119) b) j ∧ (upI (m.2 118) (m.1 119) b) j ≤ 1 := upI_rg (hT.2.1 118) ⟨by omega, by omega⟩
          refine T_iast (a' := [(117, upI (m.2 117) (m.1 119) i), (118, upI (m.2 118) (m.1 119) b)]) 68 118 (m.2 118) rfl rfl rfl (by omega) (show (m.1 119) < (8 : Int) by omega) (show (m35.2 118) = (m.2 118) from (fr2 Fm35 118 rfl)) rfl ?_
          refine T_ld 69 (.ref 189) rfl (fun _ => rfl) ?_
          refine T_ld 70 (.ref 189) rfl (fun _ => rfl) ?_
          refine T_gf1 73 (.int (i32 (m.1 119))) rfl rfl (mfv_c (F := fun x => .int (i32 x)) rfl (show (m35.1 119) = (m.1 119) from (fr1 Fm35 119 rfl))) rfl ?_
          refine T_ld 74 (.int (i32 1)) rfl (fun _ => rfl) ?_
          refine T_iadd 75 rfl rfl ?_
          refine T_pf (l' := [(119, (m.1 119) + 1)]) 78 ((m.1 119) + 1) rfl rfl rfl rfl rfl rfl ?_
          have g50 : 0 ≤ (m.1 119) + 1 ∧ (m.1 119) + 1 ≤ 8 := ⟨by omega, by omega⟩
          refine T_ret rfl (fun _ => rfl) ?_
          exact ⟨(mO m35 [(119, (m.1 119) + 1)] [(117, upI (m.2 117) (m.1 119) i), (118, upI (m.2 118) (m.1 119) b)]), (Ty_mO Tm35 rfl rfl ⟨g50, trivial⟩ ⟨G48, G49, trivial⟩), (fr_m (fr_s Fm35 (fr_m fr_0 rfl rfl) rfl rfl) rfl rfl), (show (m35.1 10) = 0 → (m.1 10) = 0 by omega), (show LxP (m35.1 7) (m35.1 8) (m35.1 9) (m.1 6) (m35.1 10) by first | (first | exact hLx | exact (fun _ => hLx (by omega)) | (intro h9; exfalso; omega)) | (exfalso; omega)), (fun _ => ⟨(show (m.1 8) + 1 ≤ (m35.1 8) by omega), (show ((m.1 119) + 1) = (m.1 119) + 1 by omega), (show ∀ j, 0 ≤ j → j < ((m.1 119) + 1) → (upI (m.2 117) (m.1 119) i) j < (m.1 27) by first | (intro j j0 j1; unfold upI; split; (omega); (exact hBK j j0 (by omega))) | (exfalso; omega))⟩), rfl⟩
        · skip
          replace h36 : LxP (m35.1 7) (m35.1 8) (m35.1 9) (m.1 6) (m35.1 10) := h36
          have hLx := h36
          clear h37
          replace h38 : (m.1 8) ≤ (m35.1 8) := h38
          clear h39
          have hf51 : 1 ≤ (m35.1 10) := by omega
          exact J40_5 (mO m35 [] []) Tm35 (fr_m (fr_s Fm35 (fr_m fr_0 rfl rfl) rfl rfl) rfl rfl) (show 1 ≤ (m35.1 10) by omega)
      · skip
        refine T_ld 26 (.ref 189) rfl (fun _ => rfl) ?_
        refine T_ld 27 (.int (i32 4)) rfl (fun _ => rfl) ?_
        refine T_gf 31 (.int (i32 (m.1 8))) rfl rfl rfl rfl rfl rfl ?_
        refine T_call 34 222 [.ref 189, .int (i32 4), .int (i32 (m.1 8))] [] rfl (fun _ => rfl) rfl (d_wrong w (mO m [] []) c N D (by omega) hT 4 (m.1 8) ⟨by decide, by decide⟩ (r32 (by omega) (by omega)) (show 1 ≤ (4 : Int) ∧ (4 : Int) ≤ 8 by omega) (show 0 ≤ (m.1 8) ∧ (m.1 8) ≤ 4000 by omega)) (fun rr52 k53 => ?_)
        obtain ⟨m54, Tm54, Fm54, h55, rfl⟩ := k53
        refine ⟨_, _, rfl, ?_⟩
        refine T_nb (st' := []) rfl ?_
        have g56 : 0 ≤ m54.1 10 ∧ m54.1 10 ≤ 8 := Tm54.1 10
        have g57 : (-1) ≤ m54.1 11 ∧ m54.1 11 ≤ 4000 := Tm54.1 11
        replace h55 : (0 < (m.1 10) → (m54.1 10) = (m.1 10) ∧ (m54.1 11) = (m.1 11)) ∧ ((m.1 10) ≤ 0 → (m54.1 10) = (4 : Int) ∧ (m54.1 11) = (m.1 8)) := h55
        have hf58 : 1 ≤ (m54.1 10) := by omega
        refine T_ld 35 (.ref 189) rfl (fun _ => rfl) ?_
        refine T_ld 37 (.int (i32 123)) rfl (fun _ => rfl) ?_
        refine T_call 40 232 [.ref 189, .int (i32 123)] [] rfl (fun _ => rfl) rfl (d_need w (mO m54 [] []) c N D (by omega) Tm54 123 ⟨by decide, by decide⟩ (show 1 ≤ (123 : Int) by omega) (show LxP (m54.1 7) (m54.1 8) (m54.1 9) (m54.1 6) (m54.1 10) by rewrite [(show (m54.1 7) = (m.1 7) from (fr1 Fm54 7 rfl)), (show (m54.1 8) = (m.1 8) from (fr1 Fm54 8 rfl)), (show (m54.1 9) = (m.1 9) from (fr1 Fm54 9 rfl)), (show (m54.1 6) = (m.1 6) from (fr1 Fm54 6 rfl))]; first | exact hLx | (intro h9; exfalso; omega) | (intro h9; have h8 := hLx (by omega); omega))) (fun rr59 k60 => ?_)
        obtain ⟨m61, Tm61, Fm61, h62, h63, h64, h65, rfl⟩ := k60
        refine ⟨_, _, rfl, ?_⟩
        refine T_nb (st' := []) rfl ?_
        have g66 : 0 ≤ m61.1 7 ∧ m61.1 7 ≤ 330 := Tm61.1 7
        have g67 : 0 ≤ m61.1 8 ∧ m61.1 8 ≤ 4000 := Tm61.1 8
        have g68 : 0 ≤ m61.1 9 ∧ m61.1 9 ≤ 4000 := Tm61.1 9
        have g69 : 0 ≤ m61.1 10 ∧ m61.1 10 ≤ 8 := Tm61.1 10
        have g70 : (-1) ≤ m61.1 11 ∧ m61.1 11 ≤ 4000 := Tm61.1 11
        replace h62 : LxP (m61.1 7) (m61.1 8) (m61.1 9) (m54.1 6) (m61.1 10) := h62
        rewrite [(show (m54.1 6) = (m.1 6) from (fr1 Fm54 6 rfl))] at h62
        replace h63 : (m61.1 10) = 0 → (m54.1 10) = 0 ∧ (m54.1 7) = (123 : Int) := h63
        rewrite [(show (m54.1 7) = (m.1 7) from (fr1 Fm54 7 rfl))] at h63
        replace h64 : (m54.1 8) ≤ (m61.1 8) := h64
        rewrite [(show (m54.1 8) = (m.1 8) from (fr1 Fm54 8 rfl))] at h64
        replace h65 : (m61.1 10) = 0 → (m54.1 8) + (m54.1 9) ≤ (m61.1 8) := h65
        rewrite [(show (m54.1 8) = (m.1 8) from (fr1 Fm54 8 rfl)), (show (m54.1 9) = (m.1 9) from (fr1 Fm54 9 rfl))] at h65
        have hf71 : 1 ≤ (m61.1 10) := by omega
        clear h63
        clear h65
        have hLx := h62
        clear g56 g57 hf58 h55
        exact J40_5 (mO m61 [] []) Tm61 (fr_m (fr_s Fm61 (fr_m (fr_s Fm54 (fr_m fr_0 rfl rfl) rfl rfl) rfl rfl) rfl rfl) rfl rfl) (show 1 ≤ (m61.1 10) by omega)
  · skip
    clear hC
    refine T_gf 4 (.int (i32 (m.1 10))) rfl rfl rfl rfl rfl rfl ?_
    refine T_if 34 7 rfl rfl rfl (r32 (by omega) (by omega)) (fun (h72 : (m.1 10) ≠ 0) => ?_) (fun (h72 : ¬ ((m.1 10) ≠ 0)) => by exfalso; omega)
    refine T_ld 35 (.ref 189) rfl (fun _ => rfl) ?_
    refine T_ld 37 (.int (i32 123)) rfl (fun _ => rfl) ?_
    refine T_call 40 232 [.ref 189, .int (i32 123)] [] rfl (fun _ => rfl) rfl (d_need w (mO m [] []) c N D (by omega) hT 123 ⟨by decide, by decide⟩ (show 1 ≤ (123 : Int) by omega) (show LxP (m.1 7) (m.1 8) (m.1 9) (m.1 6) (m.1 10) by first | exact hLx | (intro h9; exfalso; omega) | (intro h9; have h8 := hLx (by omega); omega))) (fun rr73 k74 => ?_)
    obtain ⟨m75, Tm75, Fm75, h76, h77, h78, h79, rfl⟩ := k74
    refine ⟨_, _, rfl, ?_⟩
    refine T_nb (st' := []) rfl ?_
    have g80 : 0 ≤ m75.1 7 ∧ m75.1 7 ≤ 330 := Tm75.1 7
    have g81 : 0 ≤ m75.1 8 ∧ m75.1 8 ≤ 4000 := Tm75.1 8
    have g82 : 0 ≤ m75.1 9 ∧ m75.1 9 ≤ 4000 := Tm75.1 9
    have g83 : 0 ≤ m75.1 10 ∧ m75.1 10 ≤ 8 := Tm75.1 10
    have g84 : (-1) ≤ m75.1 11 ∧ m75.1 11 ≤ 4000 := Tm75.1 11
    replace h76 : LxP (m75.1 7) (m75.1 8) (m75.1 9) (m.1 6) (m75.1 10) := h76
    replace h77 : (m75.1 10) = 0 → (m.1 10) = 0 ∧ (m.1 7) = (123 : Int) := h77
    replace h78 : (m.1 8) ≤ (m75.1 8) := h78
    replace h79 : (m75.1 10) = 0 → (m.1 8) + (m.1 9) ≤ (m75.1 8) := h79
    have hf85 : 1 ≤ (m75.1 10) := by omega
    clear h77
    clear h79
    have hLx := h76
    refine T_gf 44 (.int (i32 (m75.1 10))) rfl rfl rfl rfl rfl rfl ?_
    refine T_if 48 47 rfl rfl rfl (r32 (by omega) (by omega)) (fun (h86 : (m75.1 10) ≤ 0) => by exfalso; omega) (fun (h86 : ¬ ((m75.1 10) ≤ 0)) => ?_)
    refine T_ret rfl (fun _ => rfl) ?_
    exact ⟨(mO m75 [] []), Tm75, (fr_m (fr_s Fm75 (fr_m fr_0 rfl rfl) rfl rfl) rfl rfl), (show (m75.1 10) = 0 → (m.1 10) = 0 by omega), (show LxP (m75.1 7) (m75.1 8) (m75.1 9) (m.1 6) (m75.1 10) by first | (first | exact hLx | exact (fun _ => hLx (by omega)) | (intro h9; exfalso; omega)) | (exfalso; omega)), (fun (h : (m75.1 10) = 0) => absurd h (by omega)), rfl⟩
def fF_newStep : List Nat := [10, 11, 27]
def fA_newStep : List Nat := [60, 61, 62, 63]
def Q_newStep (m : mR) (c : Nat → Option am_C) (N : Nat) (k : Int) : ag_Re af_T → Prop := fun R => ∃ (M : mR) (r : Int), Ty M ∧ fr fF_newStep fA_newStep m M ∧ (0 ≤ r ∧ r ≤ 47) ∧ ((M.1 10) = 0 → (m.1 10) = 0) ∧ (M.1 10 = 0 → (r = (m.1 27)) ∧ ((M.1 27) = (m.1 27) + 1) ∧ ((M.2 60) = upI (m.2 60) (m.1 27) k) ∧ ((M.2 61) = upI (m.2 61) (m.1 27) ((m.2 117) ((m.1 119) - 1))) ∧ ((M.2 63) = upI (m.2 63) (m.1 27) (-1))) ∧ R = (.inl (some (.int (i32 r))), (mhp M c, N), 0, 0)
set_option maxHeartbeats 3000000 in
theorem c_newStep (w : wX) (m : mR) (c : Nat → Option am_C) (N D : Nat) (hD : 2 ≤ D) (hT : Ty m) (k : Int) (qk : R32 k) (p0 : 0 ≤ k ∧ k ≤ 2) (p1 : 1 ≤ (m.1 119)) (hf0 : m.1 10 = 0) (hC : (∀ j, 0 ≤ j → j < (m.1 119) → (m.2 117) j < (m.1 27))) : TC w D 281 [.ref 189, .int (i32 k)] (mhp m c, N) (Q_newStep m c N k) := by
  obtain ⟨D, rfl⟩ : ∃ k, D = k + 1 := ⟨D - 1, by omega⟩
  obtain ⟨qka, qkb⟩ := id qk
  have f10 : 0 ≤ m.1 10 ∧ m.1 10 ≤ 8 := hT.1 10
  have f11 : (-1) ≤ m.1 11 ∧ m.1 11 ≤ 4000 := hT.1 11
  have f27 : 0 ≤ m.1 27 ∧ m.1 27 ≤ 48 := hT.1 27
  have f119 : 0 ≤ m.1 119 ∧ m.1 119 ≤ 8 := hT.1 119
  have f8 : 0 ≤ m.1 8 ∧ m.1 8 ≤ 4000 := hT.1 8
  refine Tc_of rfl ?_
  show TT w D pm_281 (0, [(0, .ref 189), (1, .int (i32 k))], [], (mhp (mO m [] []) c, N), 0, 0) (Q_newStep m c N k)
  have hBK := hC
  refine T_gf 4 (.int (i32 (m.1 27))) rfl rfl rfl rfl rfl rfl ?_
  refine T_ld 6 (.int (i32 48)) rfl (fun _ => rfl) ?_
  refine T_icmp 18 9 rfl rfl rfl (r32 (by omega) (by omega)) ⟨by decide, by decide⟩ (fun (h2 : (m.1 27) ≠ 48) => ?_) (fun (h2 : ¬ ((m.1 27) ≠ 48)) => ?_)
  · skip
    refine T_gf 22 (.int (i32 (m.1 10))) rfl rfl rfl rfl rfl rfl ?_
    refine T_if 27 25 rfl rfl rfl (r32 (by omega) (by omega)) (fun (h3 : (m.1 10) ≤ 0) => ?_) (fun (h3 : ¬ ((m.1 10) ≤ 0)) => by exfalso; omega)
    refine T_gf 31 (.ref 230) rfl rfl rfl rfl rfl rfl ?_
    refine T_gf 35 (.int (i32 (m.1 27))) rfl rfl rfl rfl rfl rfl ?_
    refine T_ld 36 (.int (i32 k)) rfl (fun _ => rfl) ?_
    have G4 : ∀ j, 0 ≤ (upI (m.2 60) (m.1 27) k) j ∧ (upI (m.2 60) (m.1 27) k) j ≤ 2 := upI_rg (hT.2.1 60) ⟨by omega, by omega⟩
    refine T_iast (a' := [(60, upI (m.2 60) (m.1 27) k)]) 37 60 (m.2 60) rfl rfl rfl (by omega) (show (m.1 27) < (48 : Int) by omega) rfl rfl ?_
    refine T_gf 41 (.ref 231) rfl rfl rfl rfl rfl rfl ?_
    refine T_gf 45 (.int (i32 (m.1 27))) rfl rfl rfl rfl rfl rfl ?_
    refine T_gf 49 (.ref 277) rfl rfl rfl rfl rfl rfl ?_
    refine T_gf 53 (.int (i32 (m.1 119))) rfl rfl rfl rfl rfl rfl ?_
    refine T_ld 54 (.int (i32 1)) rfl (fun _ => rfl) ?_
    refine T_isub 55 rfl rfl ?_
    refine T_iald 56 117 (m.2 117) rfl rfl rfl (by omega) (show ((m.1 119) - 1) < (8 : Int) by omega) rfl ?_
    have e5 : (-1) ≤ m.2 117 ((m.1 119) - 1) ∧ m.2 117 ((m.1 119) - 1) ≤ 47 := hT.2.1 117 ((m.1 119) - 1)
    have G6 : ∀ j, (-1) ≤ (upI (m.2 61) (m.1 27) ((m.2 117) ((m.1 119) - 1))) j ∧ (upI (m.2 61) (m.1 27) ((m.2 117) ((m.1 119) - 1))) j ≤ 47 := upI_rg (hT.2.1 61) ⟨by omega, by omega⟩
    refine T_iast (a' := [(60, upI (m.2 60) (m.1 27) k), (61, upI (m.2 61) (m.1 27) ((m.2 117) ((m.1 119) - 1)))]) 57 61 (m.2 61) rfl rfl rfl (by omega) (show (m.1 27) < (48 : Int) by omega) rfl rfl ?_
    refine T_gf 61 (.ref 232) rfl rfl rfl rfl rfl rfl ?_
    refine T_gf 65 (.int (i32 (m.1 27))) rfl rfl rfl rfl rfl rfl ?_
    refine T_gf 69 (.ref 278) rfl rfl rfl rfl rfl rfl ?_
    refine T_gf 73 (.int (i32 (m.1 119))) rfl rfl rfl rfl rfl rfl ?_
    refine T_ld 74 (.int (i32 1)) rfl (fun _ => rfl) ?_
    refine T_isub 75 rfl rfl ?_
    refine T_iald 76 118 (m.2 118) rfl rfl rfl (by omega) (show ((m.1 119) - 1) < (8 : Int) by omega) rfl ?_
    have e7 : (-1) ≤ m.2 118 ((m.1 119) - 1) ∧ m.2 118 ((m.1 119) - 1) ≤ 1 := hT.2.1 118 ((m.1 119) - 1)
    have G8 : ∀ j, (-1) ≤ (upI (m.2 62) (m.1 27) ((m.2 118) ((m.1 119) - 1))) j ∧ (upI (m.2 62) (m.1 27) ((m.2 118) ((m.1 119) - 1))) j ≤ 1 := upI_rg (hT.2.1 62) ⟨by omega, by omega⟩
    refine T_iast (a' := [(60, upI (m.2 60) (m.1 27) k), (61, upI (m.2 61) (m.1 27) ((m.2 117) ((m.1 119) - 1))), (62, upI (m.2 62) (m.1 27) ((m.2 118) ((m.1 119) - 1)))]) 77 62 (m.2 62) rfl rfl rfl (by omega) (show (m.1 27) < (48 : Int) by omega) rfl rfl ?_
    refine T_gf 81 (.ref 233) rfl rfl rfl rfl rfl rfl ?_
    refine T_gf 85 (.int (i32 (m.1 27))) rfl rfl rfl rfl rfl rfl ?_
    refine T_ld 86 (.int (i32 (-1))) rfl (fun _ => rfl) ?_
    have G9 : ∀ j, (-1) ≤ (upI (m.2 63) (m.1 27) (-1)) j ∧ (upI (m.2 63) (m.1 27) (-1)) j ≤ 7 := upI_rg (hT.2.1 63) ⟨by omega, by omega⟩
    refine T_iast (a' := [(60, upI (m.2 60) (m.1 27) k), (61, upI (m.2 61) (m.1 27) ((m.2 117) ((m.1 119) - 1))), (62, upI (m.2 62) (m.1 27) ((m.2 118) ((m.1 119) - 1))), (63, upI (m.2 63) (m.1 27) (-1))]) 87 63 (m.2 63) rfl rfl rfl (by omega) (show (m.1 27) < (48 : Int) by omega) rfl rfl ?_
    refine T_ld 88 (.ref 189) rfl (fun _ => rfl) ?_
    refine T_ld 89 (.ref 189) rfl (fun _ => rfl) ?_
    refine T_gf1 92 (.int (i32 (m.1 27))) rfl rfl rfl rfl ?_
    refine T_ld 93 (.int (i32 1)) rfl (fun _ => rfl) ?_
    refine T_iadd 94 rfl rfl ?_
    refine T_pf (l' := [(27, (m.1 27) + 1)]) 97 ((m.1 27) + 1) rfl rfl rfl rfl rfl rfl ?_
    have g10 : 0 ≤ (m.1 27) + 1 ∧ (m.1 27) + 1 ≤ 48 := ⟨by omega, by omega⟩
    refine T_gf 101 (.int (i32 ((m.1 27) + 1))) rfl rfl rfl rfl rfl rfl ?_
    refine T_ld 102 (.int (i32 1)) rfl (fun _ => rfl) ?_
    refine T_isub 103 rfl rfl ?_
    refine T_ret rfl (fun _ => rfl) ?_
    exact ⟨(mO m [(27, (m.1 27) + 1)] [(60, upI (m.2 60) (m.1 27) k), (61, upI (m.2 61) (m.1 27) ((m.2 117) ((m.1 119) - 1))), (62, upI (m.2 62) (m.1 27) ((m.2 118) ((m.1 119) - 1))), (63, upI (m.2 63) (m.1 27) (-1))]), ((m.1 27) + 1) - 1, (Ty_mO hT rfl rfl ⟨g10, trivial⟩ ⟨G4, G6, G8, G9, trivial⟩), (fr_m fr_0 rfl rfl), ⟨by omega, by omega⟩, (show (m.1 10) = 0 → (m.1 10) = 0 by omega), (fun _ => ⟨(show (((m.1 27) + 1) - 1) = (m.1 27) by omega), (show ((m.1 27) + 1) = (m.1 27) + 1 by omega), (show (upI (m.2 60) (m.1 27) k) = upI (m.2 60) (m.1 27) k by rfl), (show (upI (m.2 61) (m.1 27) ((m.2 117) ((m.1 119) - 1))) = upI (m.2 61) (m.1 27) ((m.2 117) ((m.1 119) - 1)) by rfl), (show (upI (m.2 63) (m.1 27) (-1)) = upI (m.2 63) (m.1 27) (-1) by rfl)⟩), rfl⟩
  · skip
    refine T_ld 10 (.ref 189) rfl (fun _ => rfl) ?_
    refine T_ld 11 (.int (i32 4)) rfl (fun _ => rfl) ?_
    refine T_gf 15 (.int (i32 (m.1 8))) rfl rfl rfl rfl rfl rfl ?_
    refine T_call 18 222 [.ref 189, .int (i32 4), .int (i32 (m.1 8))] [] rfl (fun _ => rfl) rfl (d_wrong w (mO m [] []) c N D (by omega) hT 4 (m.1 8) ⟨by decide, by decide⟩ (r32 (by omega) (by omega)) (show 1 ≤ (4 : Int) ∧ (4 : Int) ≤ 8 by omega) (show 0 ≤ (m.1 8) ∧ (m.1 8) ≤ 4000 by omega)) (fun rr11 k12 => ?_)
    obtain ⟨m13, Tm13, Fm13, h14, rfl⟩ := k12
    refine ⟨_, _, rfl, ?_⟩
    refine T_nb (st' := []) rfl ?_
    have g15 : 0 ≤ m13.1 10 ∧ m13.1 10 ≤ 8 := Tm13.1 10
    have g16 : (-1) ≤ m13.1 11 ∧ m13.1 11 ≤ 4000 := Tm13.1 11
    replace h14 : (0 < (m.1 10) → (m13.1 10) = (m.1 10) ∧ (m13.1 11) = (m.1 11)) ∧ ((m.1 10) ≤ 0 → (m13.1 10) = (4 : Int) ∧ (m13.1 11) = (m.1 8)) := h14
    have hf17 : 1 ≤ (m13.1 10) := by omega
    refine T_gf 22 (.int (i32 (m13.1 10))) rfl rfl rfl rfl rfl rfl ?_
    refine T_if 27 25 rfl rfl rfl (r32 (by omega) (by omega)) (fun (h18 : (m13.1 10) ≤ 0) => by exfalso; omega) (fun (h18 : ¬ ((m13.1 10) ≤ 0)) => ?_)
    refine T_ld 26 (.int (i32 0)) rfl (fun _ => rfl) ?_
    refine T_ret rfl (fun _ => rfl) ?_
    exact ⟨(mO m13 [] []), 0, Tm13, (fr_m (fr_s Fm13 (fr_m fr_0 rfl rfl) rfl rfl) rfl rfl), ⟨by omega, by omega⟩, (show (m13.1 10) = 0 → (m.1 10) = 0 by omega), (fun (h : (m13.1 10) = 0) => absurd h (by omega)), rfl⟩
def fF_closeBlock : List Nat := [7, 8, 9, 10, 11, 12, 119]
def fA_closeBlock : List Nat := [117, 118]
def Q_closeBlock (m : mR) (c : Nat → Option am_C) (N : Nat) : ag_Re af_T → Prop := fun R => ∃ (M : mR), Ty M ∧ fr fF_closeBlock fA_closeBlock m M ∧ ((M.1 10) = 0 → (m.1 10) = 0) ∧ (LxP (M.1 7) (M.1 8) (M.1 9) (m.1 6) (M.1 10)) ∧ (M.1 10 = 0 → ((m.1 8) + 1 ≤ (M.1 8)) ∧ (∀ j, 0 ≤ j → j < (M.1 119) → (M.2 117) j < (m.1 27))) ∧ R = (.inl (none), (mhp M c, N), 0, 0)
set_option maxHeartbeats 3000000 in
theorem c_closeBlock (w : wX) (m : mR) (c : Nat → Option am_C) (N D : Nat) (hD : 8 ≤ D) (hT : Ty m) (hLx0 : LxP (m.1 7) (m.1 8) (m.1 9) (m.1 6) (m.1 10)) (p1 : 1 ≤ (m.1 119)) (hf0 : m.1 10 = 0) (hC : (∀ j, 0 ≤ j → j < (m.1 119) → (m.2 117) j < (m.1 27))) : TC w D 282 [.ref 189] (mhp m c, N) (Q_closeBlock m c N) := by
  obtain ⟨D, rfl⟩ : ∃ k, D = k + 1 := ⟨D - 1, by omega⟩
  have hLx := hLx0
  have f7 : 0 ≤ m.1 7 ∧ m.1 7 ≤ 330 := hT.1 7
  have f8 : 0 ≤ m.1 8 ∧ m.1 8 ≤ 4000 := hT.1 8
  have f9 : 0 ≤ m.1 9 ∧ m.1 9 ≤ 4000 := hT.1 9
  have f10 : 0 ≤ m.1 10 ∧ m.1 10 ≤ 8 := hT.1 10
  have f119 : 0 ≤ m.1 119 ∧ m.1 119 ≤ 8 := hT.1 119
  have f6 : 0 ≤ m.1 6 ∧ m.1 6 ≤ 4000 := hT.1 6
  have f27 : 0 ≤ m.1 27 ∧ m.1 27 ≤ 48 := hT.1 27
  refine Tc_of rfl ?_
  show TT w D pm_282 (0, [(0, .ref 189)], [], (mhp (mO m [] []) c, N), 0, 0) (Q_closeBlock m c N)
  have hBK := hC
  have h7 := hLx (by omega)
  refine T_ld 1 (.ref 189) rfl (fun _ => rfl) ?_
  refine T_ld 3 (.int (i32 125)) rfl (fun _ => rfl) ?_
  refine T_call 6 232 [.ref 189, .int (i32 125)] [] rfl (fun _ => rfl) rfl (d_need w (mO m [] []) c N D (by omega) hT 125 ⟨by decide, by decide⟩ (show 1 ≤ (125 : Int) by omega) (show LxP (m.1 7) (m.1 8) (m.1 9) (m.1 6) (m.1 10) by first | exact hLx | (intro h9; exfalso; omega) | (intro h9; have h8 := hLx (by omega); omega))) (fun rr1 k2 => ?_)
  obtain ⟨m3, Tm3, Fm3, h4, h5, h6, h7, rfl⟩ := k2
  refine ⟨_, _, rfl, ?_⟩
  refine T_nb (st' := []) rfl ?_
  have g8 : 0 ≤ m3.1 7 ∧ m3.1 7 ≤ 330 := Tm3.1 7
  have g9 : 0 ≤ m3.1 8 ∧ m3.1 8 ≤ 4000 := Tm3.1 8
  have g10 : 0 ≤ m3.1 9 ∧ m3.1 9 ≤ 4000 := Tm3.1 9
  have g11 : 0 ≤ m3.1 10 ∧ m3.1 10 ≤ 8 := Tm3.1 10
  by_cases hf12 : (m3.1 10) = 0
  · skip
    replace h4 : LxP (m3.1 7) (m3.1 8) (m3.1 9) (m.1 6) (m3.1 10) := h4
    have hLx := h4
    replace h5 : (m.1 10) = 0 ∧ (m.1 7) = (125 : Int) := h5 hf12
    replace h6 : (m.1 8) ≤ (m3.1 8) := h6
    replace h7 : (m.1 8) + (m.1 9) ≤ (m3.1 8) := h7 hf12
    have u13 : (m.1 8) + 1 ≤ (m3.1 8) := by omega
    refine T_gf 10 (.int (i32 (m3.1 10))) rfl rfl rfl rfl rfl rfl ?_
    refine T_if 14 13 rfl rfl rfl (r32 (by omega) (by omega)) (fun (h14 : (m3.1 10) ≤ 0) => ?_) (fun (h14 : ¬ ((m3.1 10) ≤ 0)) => by exfalso; omega)
    refine T_ld 15 (.ref 189) rfl (fun _ => rfl) ?_
    refine T_ld 16 (.ref 189) rfl (fun _ => rfl) ?_
    refine T_gf1 19 (.int (i32 (m.1 119))) rfl rfl (mfv_c (F := fun x => .int (i32 x)) rfl (show (m3.1 119) = (m.1 119) from (fr1 Fm3 119 rfl))) rfl ?_
    refine T_ld 20 (.int (i32 1)) rfl (fun _ => rfl) ?_
    refine T_isub 21 rfl rfl ?_
    refine T_pf (l' := [(119, (m.1 119) - 1)]) 24 ((m.1 119) - 1) rfl rfl rfl rfl rfl rfl ?_
    have g15 : 0 ≤ (m.1 119) - 1 ∧ (m.1 119) - 1 ≤ 8 := ⟨by omega, by omega⟩
    refine T_gf 28 (.int (i32 ((m.1 119) - 1))) rfl rfl rfl rfl rfl rfl ?_
    refine T_if 54 31 rfl rfl rfl (r32 (by omega) (by omega)) (fun (h16 : (m.1 119) - 1 = 0) => ?_) (fun (h16 : ¬ ((m.1 119) - 1 = 0)) => ?_)
    · skip
      refine T_ret rfl (fun _ => rfl) ?_
      exact ⟨(mO m3 [(119, (m.1 119) - 1)] []), (Ty_mO Tm3 rfl rfl ⟨g15, trivial⟩ trivial), (fr_m (fr_s Fm3 (fr_m fr_0 rfl rfl) rfl rfl) rfl rfl), (show (m3.1 10) = 0 → (m.1 10) = 0 by omega), (show LxP (m3.1 7) (m3.1 8) (m3.1 9) (m.1 6) (m3.1 10) by first | (first | exact hLx | exact (fun _ => hLx (by omega)) | (intro h9; exfalso; omega)) | (exfalso; omega)), (fun _ => ⟨(show (m.1 8) + 1 ≤ (m3.1 8) by omega), (show ∀ j, 0 ≤ j → j < ((m.1 119) - 1) → (m3.2 117) j < (m.1 27) by rewrite [(show (m3.2 117) = (m.2 117) from (fr2 Fm3 117 rfl))]; first | (first | exact hBK | exact fun j j0 j1 => hBK j j0 (by omega)) | (exfalso; omega))⟩), rfl⟩
    · skip
      refine T_gf 35 (.ref 278) rfl rfl rfl rfl rfl rfl ?_
      refine T_gf 39 (.int (i32 ((m.1 119) - 1))) rfl rfl rfl rfl rfl rfl ?_
      refine T_iald 40 118 (m.2 118) rfl rfl rfl (by omega) (show ((m.1 119) - 1) < (8 : Int) by omega) (show (m3.2 118) = (m.2 118) from (fr2 Fm3 118 rfl)) ?_
      have e17 : (-1) ≤ (m.2 118) ((m.1 119) - 1) ∧ (m.2 118) ((m.1 119) - 1) ≤ 1 := (hT.2.1 118) ((m.1 119) - 1)
      refine T_ld 41 (.int (i32 1)) rfl (fun _ => rfl) ?_
      refine T_icmp 54 44 rfl rfl rfl (r32 (by omega) (by omega)) ⟨by decide, by decide⟩ (fun (h18 : (m.2 118) ((m.1 119) - 1) ≠ 1) => ?_) (fun (h18 : ¬ ((m.2 118) ((m.1 119) - 1) ≠ 1)) => ?_)
      · skip
        refine T_ret rfl (fun _ => rfl) ?_
        exact ⟨(mO m3 [(119, (m.1 119) - 1)] []), (Ty_mO Tm3 rfl rfl ⟨g15, trivial⟩ trivial), (fr_m (fr_s Fm3 (fr_m fr_0 rfl rfl) rfl rfl) rfl rfl), (show (m3.1 10) = 0 → (m.1 10) = 0 by omega), (show LxP (m3.1 7) (m3.1 8) (m3.1 9) (m.1 6) (m3.1 10) by first | (first | exact hLx | exact (fun _ => hLx (by omega)) | (intro h9; exfalso; omega)) | (exfalso; omega)), (fun _ => ⟨(show (m.1 8) + 1 ≤ (m3.1 8) by omega), (show ∀ j, 0 ≤ j → j < ((m.1 119) - 1) → (m3.2 117) j < (m.1 27) by rewrite [(show (m3.2 117) = (m.2 117) from (fr2 Fm3 117 rfl))]; first | (first | exact hBK | exact fun j j0 j1 => hBK j j0 (by omega)) | (exfalso; omega))⟩), rfl⟩
      · skip
        refine T_gf 48 (.int (i32 (m3.1 7))) rfl rfl rfl rfl rfl rfl ?_
        refine T_ld 51 (.int (i32 322)) rfl (fun _ => rfl) ?_
        refine T_icmp 55 54 rfl rfl rfl (r32 (by omega) (by omega)) ⟨by decide, by decide⟩ (fun (h19 : (m3.1 7) = 322) => ?_) (fun (h19 : ¬ ((m3.1 7) = 322)) => ?_)
        · skip
          refine T_gf 59 (.ref 277) rfl rfl rfl rfl rfl rfl ?_
          refine T_gf 63 (.int (i32 ((m.1 119) - 1))) rfl rfl rfl rfl rfl rfl ?_
          refine T_iald 64 117 (m.2 117) rfl rfl rfl (by omega) (show ((m.1 119) - 1) < (8 : Int) by omega) (show (m3.2 117) = (m.2 117) from (fr2 Fm3 117 rfl)) ?_
          have e20 : (-1) ≤ (m.2 117) ((m.1 119) - 1) ∧ (m.2 117) ((m.1 119) - 1) ≤ 47 := (hT.2.1 117) ((m.1 119) - 1)
          refine T_sto 65 [(1, .int (i32 ((m.2 117) ((m.1 119) - 1)))), (0, .ref 189)] rfl (fun _ => rfl) ?_
          refine T_ld 66 (.ref 189) rfl (fun _ => rfl) ?_
          have hbi := hBK ((m.1 119) - 1) (by omega) (by omega)
          have hBK1 : ∀ j, 0 ≤ j → j < ((m.1 119) - 1) → (m.2 117) j < (m.1 27) := fun j j0 j1 => hBK j j0 (by omega)
          refine T_call 69 212 [.ref 189] [] rfl (fun _ => rfl) rfl (d_next w (mO m3 [(119, (m.1 119) - 1)] []) c N D (by omega) (Ty_mO Tm3 rfl rfl ⟨g15, trivial⟩ trivial) (show (m3.1 10) = 0 → (m3.1 8) + (m3.1 9) ≤ (m3.1 6) by rewrite [(show (m3.1 6) = (m.1 6) from (fr1 Fm3 6 rfl))]; first | omega | (intro h9; have h8 := hLx h9; omega))) (fun rr21 k22 => ?_)
          obtain ⟨m23, Tm23, Fm23, h24, h25, h26, h27, rfl⟩ := k22
          refine ⟨_, _, rfl, ?_⟩
          refine T_nb (st' := []) rfl ?_
          have g28 : 0 ≤ m23.1 7 ∧ m23.1 7 ≤ 330 := Tm23.1 7
          have g29 : 0 ≤ m23.1 8 ∧ m23.1 8 ≤ 4000 := Tm23.1 8
          have g30 : 0 ≤ m23.1 9 ∧ m23.1 9 ≤ 4000 := Tm23.1 9
          have g31 : 0 ≤ m23.1 10 ∧ m23.1 10 ≤ 8 := Tm23.1 10
          by_cases hf32 : (m23.1 10) = 0
          · skip
            replace h24 : LxP (m23.1 7) (m23.1 8) (m23.1 9) (m3.1 6) (m23.1 10) := h24
            rewrite [(show (m3.1 6) = (m.1 6) from (fr1 Fm3 6 rfl))] at h24
            have hLx := h24
            replace h25 : (m3.1 10) = 0 := h25 hf32
            replace h26 : (m3.1 8) ≤ (m23.1 8) := h26
            replace h27 : (m3.1 8) + (m3.1 9) ≤ (m23.1 8) := h27 hf32
            have u33 : (m.1 8) + 1 ≤ (m23.1 8) := by omega
            clear g8 g9 g10 g11 h4 h6 h7 u13 h14 h19 h25 h26 h27
            refine T_ld 70 (.ref 189) rfl (fun _ => rfl) ?_
            refine T_ld 71 (.int (i32 ((m.2 117) ((m.1 119) - 1)))) rfl (fun _ => rfl) ?_
            refine T_ld 72 (.int (i32 0)) rfl (fun _ => rfl) ?_
            refine T_call 75 280 [.ref 189, .int (i32 ((m.2 117) ((m.1 119) - 1))), .int (i32 0)] [] rfl (fun _ => rfl) rfl (c_openBlock w (mO m23 [] []) c N D (by omega) Tm23 ((m.2 117) ((m.1 119) - 1)) 0 (r32 (by omega) (by omega)) ⟨by decide, by decide⟩ (show LxP (m23.1 7) (m23.1 8) (m23.1 9) (m23.1 6) (m23.1 10) by rewrite [(show (m23.1 6) = (m.1 6) from ((fr1 Fm23 6 rfl).trans (fr1 Fm3 6 rfl)))]; first | exact hLx | exact (fun _ => hLx (by omega)) | (intro h9; exfalso; omega)) (show (-1) ≤ ((m.2 117) ((m.1 119) - 1)) ∧ ((m.2 117) ((m.1 119) - 1)) ≤ 47 by omega) (show (-1) ≤ (0 : Int) ∧ (0 : Int) ≤ 1 by omega) (fun _ => ⟨(show ∀ j, 0 ≤ j → j < (m23.1 119) → (m23.2 117) j < (m23.1 27) by rewrite [(show (m23.1 119) = ((m.1 119) - 1) from (fr1 Fm23 119 rfl)), (show (m23.2 117) = (m.2 117) from ((fr2 Fm23 117 rfl).trans (fr2 Fm3 117 rfl))), (show (m23.1 27) = (m.1 27) from ((fr1 Fm23 27 rfl).trans (fr1 Fm3 27 rfl)))]; assumption), (show ((m.2 117) ((m.1 119) - 1)) < (m23.1 27) by rewrite [(show (m23.1 27) = (m.1 27) from ((fr1 Fm23 27 rfl).trans (fr1 Fm3 27 rfl)))]; omega)⟩)) (fun rr34 k35 => ?_)
            obtain ⟨m36, Tm36, Fm36, h37, h38, c39, rfl⟩ := k35
            refine ⟨_, _, rfl, ?_⟩
            refine T_nb (st' := []) rfl ?_
            have g40 : 0 ≤ m36.1 7 ∧ m36.1 7 ≤ 330 := Tm36.1 7
            have g41 : 0 ≤ m36.1 8 ∧ m36.1 8 ≤ 4000 := Tm36.1 8
            have g42 : 0 ≤ m36.1 9 ∧ m36.1 9 ≤ 4000 := Tm36.1 9
            have g43 : 0 ≤ m36.1 10 ∧ m36.1 10 ≤ 8 := Tm36.1 10
            have g44 : 0 ≤ m36.1 119 ∧ m36.1 119 ≤ 8 := Tm36.1 119
            by_cases hf45 : (m36.1 10) = 0
            · skip
              replace h37 : (m23.1 10) = 0 := h37 hf45
              replace h38 : LxP (m36.1 7) (m36.1 8) (m36.1 9) (m23.1 6) (m36.1 10) := h38
              rewrite [(show (m23.1 6) = (m.1 6) from ((fr1 Fm23 6 rfl).trans (fr1 Fm3 6 rfl)))] at h38
              have hLx := h38
              obtain ⟨c46, c47, c48⟩ := c39 hf45
              replace c46 : (m23.1 8) + 1 ≤ (m36.1 8) := c46
              replace c47 : (m36.1 119) = (m23.1 119) + 1 := c47
              rewrite [(show (m23.1 119) = ((m.1 119) - 1) from (fr1 Fm23 119 rfl))] at c47
              replace c48 : ∀ j, 0 ≤ j → j < (m36.1 119) → (m36.2 117) j < (m23.1 27) := c48
              rewrite [(show (m23.1 27) = (m.1 27) from ((fr1 Fm23 27 rfl).trans (fr1 Fm3 27 rfl)))] at c48
              have hBK := c48
              clear c39
              have u49 : (m.1 8) + 1 ≤ (m36.1 8) := by omega
              clear g28 g29 g30 g31 h24 u33 h37 c46
              refine T_ret rfl (fun _ => rfl) ?_
              exact ⟨(mO m36 [] []), Tm36, (fr_m (fr_s Fm36 (fr_m (fr_s Fm23 (fr_m (fr_s Fm3 (fr_m fr_0 rfl rfl) rfl rfl) rfl rfl) rfl rfl) rfl rfl) rfl rfl) rfl rfl), (show (m36.1 10) = 0 → (m.1 10) = 0 by omega), (show LxP (m36.1 7) (m36.1 8) (m36.1 9) (m.1 6) (m36.1 10) by first | (first | exact hLx | exact (fun _ => hLx (by omega)) | (intro h9; exfalso; omega)) | (exfalso; omega)), (fun _ => ⟨(show (m.1 8) + 1 ≤ (m36.1 8) by omega), (show ∀ j, 0 ≤ j → j < (m36.1 119) → (m36.2 117) j < (m.1 27) by first | (first | exact hBK | exact fun j j0 j1 => hBK j j0 (by omega)) | (exfalso; omega))⟩), rfl⟩
            · skip
              clear c39
              clear h37
              replace h38 : LxP (m36.1 7) (m36.1 8) (m36.1 9) (m23.1 6) (m36.1 10) := h38
              rewrite [(show (m23.1 6) = (m.1 6) from ((fr1 Fm23 6 rfl).trans (fr1 Fm3 6 rfl)))] at h38
              have hLx := h38
              have hf50 : 1 ≤ (m36.1 10) := by omega
              clear g28 g29 g30 g31 h24 u33
              refine T_ret rfl (fun _ => rfl) ?_
              exact ⟨(mO m36 [] []), Tm36, (fr_m (fr_s Fm36 (fr_m (fr_s Fm23 (fr_m (fr_s Fm3 (fr_m fr_0 rfl rfl) rfl rfl) rfl rfl) rfl rfl) rfl rfl) rfl rfl) rfl rfl), (show (m36.1 10) = 0 → (m.1 10) = 0 by omega), (show LxP (m36.1 7) (m36.1 8) (m36.1 9) (m.1 6) (m36.1 10) by first | (first | exact hLx | exact (fun _ => hLx (by omega)) | (intro h9; exfalso; omega)) | (exfalso; omega)), (fun (h : (m36.1 10) = 0) => absurd h (by omega)), rfl⟩
          · skip
            replace h24 : LxP (m23.1 7) (m23.1 8) (m23.1 9) (m3.1 6) (m23.1 10) := h24
            rewrite [(show (m3.1 6) = (m.1 6) from (fr1 Fm3 6 rfl))] at h24
            have hLx := h24
            clear h25
            replace h26 : (m3.1 8) ≤ (m23.1 8) := h26
            clear h27
            have hf51 : 1 ≤ (m23.1 10) := by omega
            clear g8 g9 g10 g11 h4 h6 h7 u13 h14 h19 h26
            refine T_ld 70 (.ref 189) rfl (fun _ => rfl) ?_
            refine T_ld 71 (.int (i32 ((m.2 117) ((m.1 119) - 1)))) rfl (fun _ => rfl) ?_
            refine T_ld 72 (.int (i32 0)) rfl (fun _ => rfl) ?_
            refine T_call 75 280 [.ref 189, .int (i32 ((m.2 117) ((m.1 119) - 1))), .int (i32 0)] [] rfl (fun _ => rfl) rfl (c_openBlock w (mO m23 [] []) c N D (by omega) Tm23 ((m.2 117) ((m.1 119) - 1)) 0 (r32 (by omega) (by omega)) ⟨by decide, by decide⟩ (show LxP (m23.1 7) (m23.1 8) (m23.1 9) (m23.1 6) (m23.1 10) by rewrite [(show (m23.1 6) = (m.1 6) from ((fr1 Fm23 6 rfl).trans (fr1 Fm3 6 rfl)))]; first | exact hLx | exact (fun _ => hLx (by omega)) | (intro h9; exfalso; omega)) (show (-1) ≤ ((m.2 117) ((m.1 119) - 1)) ∧ ((m.2 117) ((m.1 119) - 1)) ≤ 47 by omega) (show (-1) ≤ (0 : Int) ∧ (0 : Int) ≤ 1 by omega) (fun (h : (m23.1 10) = 0) => absurd h (by omega))) (fun rr52 k53 => ?_)
            obtain ⟨m54, Tm54, Fm54, h55, h56, c57, rfl⟩ := k53
            refine ⟨_, _, rfl, ?_⟩
            refine T_nb (st' := []) rfl ?_
            have g58 : 0 ≤ m54.1 7 ∧ m54.1 7 ≤ 330 := Tm54.1 7
            have g59 : 0 ≤ m54.1 8 ∧ m54.1 8 ≤ 4000 := Tm54.1 8
            have g60 : 0 ≤ m54.1 9 ∧ m54.1 9 ≤ 4000 := Tm54.1 9
            have g61 : 0 ≤ m54.1 10 ∧ m54.1 10 ≤ 8 := Tm54.1 10
            have g62 : 0 ≤ m54.1 119 ∧ m54.1 119 ≤ 8 := Tm54.1 119
            replace h55 : (m54.1 10) = 0 → (m23.1 10) = 0 := h55
            replace h56 : LxP (m54.1 7) (m54.1 8) (m54.1 9) (m23.1 6) (m54.1 10) := h56
            rewrite [(show (m23.1 6) = (m.1 6) from ((fr1 Fm23 6 rfl).trans (fr1 Fm3 6 rfl)))] at h56
            have hf63 : 1 ≤ (m54.1 10) := by omega
            clear c57
            clear h55
            have hLx := h56
            clear g28 g29 g30 g31 h24 hf51
            refine T_ret rfl (fun _ => rfl) ?_
            exact ⟨(mO m54 [] []), Tm54, (fr_m (fr_s Fm54 (fr_m (fr_s Fm23 (fr_m (fr_s Fm3 (fr_m fr_0 rfl rfl) rfl rfl) rfl rfl) rfl rfl) rfl rfl) rfl rfl) rfl rfl), (show (m54.1 10) = 0 → (m.1 10) = 0 by omega), (show LxP (m54.1 7) (m54.1 8) (m54.1 9) (m.1 6) (m54.1 10) by first | (first | exact hLx | exact (fun _ => hLx (by omega)) | (intro h9; exfalso; omega)) | (exfalso; omega)), (fun (h : (m54.1 10) = 0) => absurd h (by omega)), rfl⟩
        · skip
          refine T_ret rfl (fun _ => rfl) ?_
          exact ⟨(mO m3 [(119, (m.1 119) - 1)] []), (Ty_mO Tm3 rfl rfl ⟨g15, trivial⟩ trivial), (fr_m (fr_s Fm3 (fr_m fr_0 rfl rfl) rfl rfl) rfl rfl), (show (m3.1 10) = 0 → (m.1 10) = 0 by omega), (show LxP (m3.1 7) (m3.1 8) (m3.1 9) (m.1 6) (m3.1 10) by first | (first | exact hLx | exact (fun _ => hLx (by omega)) | (intro h9; exfalso; omega)) | (exfalso; omega)), (fun _ => ⟨(show (m.1 8) + 1 ≤ (m3.1 8) by omega), (show ∀ j, 0 ≤ j → j < ((m.1 119) - 1) → (m3.2 117) j < (m.1 27) by rewrite [(show (m3.2 117) = (m.2 117) from (fr2 Fm3 117 rfl))]; first | (first | exact hBK | exact fun j j0 j1 => hBK j j0 (by omega)) | (exfalso; omega))⟩), rfl⟩
  · skip
    replace h4 : LxP (m3.1 7) (m3.1 8) (m3.1 9) (m.1 6) (m3.1 10) := h4
    have hLx := h4
    clear h5
    replace h6 : (m.1 8) ≤ (m3.1 8) := h6
    clear h7
    have hf64 : 1 ≤ (m3.1 10) := by omega
    refine T_gf 10 (.int (i32 (m3.1 10))) rfl rfl rfl rfl rfl rfl ?_
    refine T_if 14 13 rfl rfl rfl (r32 (by omega) (by omega)) (fun (h65 : (m3.1 10) ≤ 0) => by exfalso; omega) (fun (h65 : ¬ ((m3.1 10) ≤ 0)) => ?_)
    refine T_ret rfl (fun _ => rfl) ?_
    exact ⟨(mO m3 [] []), Tm3, (fr_m (fr_s Fm3 (fr_m fr_0 rfl rfl) rfl rfl) rfl rfl), (show (m3.1 10) = 0 → (m.1 10) = 0 by omega), (show LxP (m3.1 7) (m3.1 8) (m3.1 9) (m.1 6) (m3.1 10) by first | (first | exact hLx | exact (fun _ => hLx (by omega)) | (intro h9; exfalso; omega)) | (exfalso; omega)), (fun (h : (m3.1 10) = 0) => absurd h (by omega)), rfl⟩
def fF_takeControl : List Nat := [7, 8, 9, 10, 11, 12, 27, 28, 69, 70, 71, 72, 73, 74, 75, 99, 100, 119]
def fA_takeControl : List Nat := [59, 60, 61, 62, 63, 65, 66, 67, 68, 76, 77, 78, 79, 80, 81, 82, 83, 84, 85, 86, 87, 88, 89, 90, 91, 92, 101, 102, 103, 104, 105, 106, 107, 108, 117, 118, 120, 121, 122]
def Q_takeControl (m : mR) (c : Nat → Option am_C) (N : Nat) : ag_Re af_T → Prop := fun R => ∃ (M : mR), Ty M ∧ fr fF_takeControl fA_takeControl m M ∧ ((M.1 10) = 0 → (m.1 10) = 0) ∧ (LxP (M.1 7) (M.1 8) (M.1 9) (m.1 6) (M.1 10)) ∧ (M.1 10 = 0 → ((m.1 8) + 1 ≤ (M.1 8)) ∧ (CN (M.2 65) (M.2 67) (M.1 28)) ∧ ((m.1 28) ≤ (M.1 28)) ∧ (agr (m.2 65) (M.2 65) (m.1 28)) ∧ (TdP (M.2 65) (M.1 28) (m.1 22) (M.1 99) (M.2 101) (M.2 103) (M.2 105) (M.2 106) (M.2 107) (M.2 108)) ∧ (SpP (M.2 65) (M.1 28) (M.1 99) (m.1 26) (M.1 27) (M.2 60) (M.2 61) (M.2 120) (M.2 121) (M.2 122) (M.2 63)) ∧ ((m.1 99) ≤ (M.1 99))) ∧ R = (.inl (none), (mhp M c, N), 0, 0)
set_option maxHeartbeats 3000000 in
theorem c_takeControl (w : wX) (m : mR) (c : Nat → Option am_C) (N D : Nat) (hD : 14 ≤ D) (hT : Ty m) (hLx0 : LxP (m.1 7) (m.1 8) (m.1 9) (m.1 6) (m.1 10)) (hNM0 : ∀ k, (m.2 14) k + (m.2 15) k ≤ 4000) (hFA0 : ∀ k, (m.2 31) k + (m.2 32) k ≤ 4000) (hPA0 : ∀ k, (m.2 47) k + (m.2 48) k ≤ 4000) (hC : m.1 10 = 0 → (PN (m.1 13) (m.1 19) (m.1 20) (m.1 21) (m.1 22) (m.1 23) (m.1 25) (m.1 26) (m.2 16) (m.2 17)) ∧ (CN (m.2 65) (m.2 67) (m.1 28)) ∧ (TdP (m.2 65) (m.1 28) (m.1 22) (m.1 99) (m.2 101) (m.2 103) (m.2 105) (m.2 106) (m.2 107) (m.2 108)) ∧ ((m.1 27) = 0) ∧ ((m.1 99) ≤ 192)) : TC w D 279 [.ref 189] (mhp m c, N) (Q_takeControl m c N) := by
  obtain ⟨D, rfl⟩ : ∃ k, D = k + 1 := ⟨D - 1, by omega⟩
  have hLx := hLx0
  have hNM := hNM0
  have hFA := hFA0
  have hPA := hPA0
  have f7 : 0 ≤ m.1 7 ∧ m.1 7 ≤ 330 := hT.1 7
  have f8 : 0 ≤ m.1 8 ∧ m.1 8 ≤ 4000 := hT.1 8
  have f9 : 0 ≤ m.1 9 ∧ m.1 9 ≤ 4000 := hT.1 9
  have f10 : 0 ≤ m.1 10 ∧ m.1 10 ≤ 8 := hT.1 10
  have f11 : (-1) ≤ m.1 11 ∧ m.1 11 ≤ 4000 := hT.1 11
  have f27 : 0 ≤ m.1 27 ∧ m.1 27 ≤ 48 := hT.1 27
  have f28 : 0 ≤ m.1 28 ∧ m.1 28 ≤ 800 := hT.1 28
  have f69 : 0 ≤ m.1 69 ∧ m.1 69 ≤ 1024 := hT.1 69
  have f70 : 0 ≤ m.1 70 ∧ m.1 70 ≤ 4000 := hT.1 70
  have f71 : 0 ≤ m.1 71 ∧ m.1 71 ≤ 1 := hT.1 71
  have f72 : (-9223372036854775808) ≤ m.1 72 ∧ m.1 72 ≤ 9223372036854775807 := hT.1 72
  have f99 : 0 ≤ m.1 99 ∧ m.1 99 ≤ 240 := hT.1 99
  have f119 : 0 ≤ m.1 119 ∧ m.1 119 ≤ 8 := hT.1 119
  have f25 : 0 ≤ m.1 25 ∧ m.1 25 ≤ 16 := hT.1 25
  have f22 : 0 ≤ m.1 22 ∧ m.1 22 ≤ 8 := hT.1 22
  have f19 : 0 ≤ m.1 19 ∧ m.1 19 ≤ 12 := hT.1 19
  have f20 : 0 ≤ m.1 20 ∧ m.1 20 ≤ 12 := hT.1 20
  have f21 : 0 ≤ m.1 21 ∧ m.1 21 ≤ 16 := hT.1 21
  have f13 : 0 ≤ m.1 13 ∧ m.1 13 ≤ 120 := hT.1 13
  have f6 : 0 ≤ m.1 6 ∧ m.1 6 ≤ 4000 := hT.1 6
  have f23 : 0 ≤ m.1 23 ∧ m.1 23 ≤ 16 := hT.1 23
  have f26 : 0 ≤ m.1 26 ∧ m.1 26 ≤ 8 := hT.1 26
  refine Tc_of rfl ?_
  show TT w D pm_279 (0, [(0, .ref 189)], [], (mhp (mO m [] []) c, N), 0, 0) (Q_takeControl m c N)
  by_cases hf0 : m.1 10 = 0
  · skip
    obtain ⟨pPN, hCN, pTd, c1, c2⟩ := hC hf0
    have h7 := hLx (by omega)
    have hAgC := agr_r (m.2 65) (m.1 28)
    have hNM := hNM0
    refine T_ld 1 (.ref 189) rfl (fun _ => rfl) ?_
    refine T_ld 4 (.int (i32 319)) rfl (fun _ => rfl) ?_
    refine T_call 7 232 [.ref 189, .int (i32 319)] [] rfl (fun _ => rfl) rfl (d_need w (mO m [] []) c N D (by omega) hT 319 ⟨by decide, by decide⟩ (show 1 ≤ (319 : Int) by omega) (show LxP (m.1 7) (m.1 8) (m.1 9) (m.1 6) (m.1 10) by first | exact hLx | (intro h9; exfalso; omega) | (intro h9; have h8 := hLx (by omega); omega))) (fun rr3 k4 => ?_)
    obtain ⟨m5, Tm5, Fm5, h6, h7, h8, h9, rfl⟩ := k4
    refine ⟨_, _, rfl, ?_⟩
    refine T_nb (st' := []) rfl ?_
    have g10 : 0 ≤ m5.1 7 ∧ m5.1 7 ≤ 330 := Tm5.1 7
    have g11 : 0 ≤ m5.1 8 ∧ m5.1 8 ≤ 4000 := Tm5.1 8
    have g12 : 0 ≤ m5.1 9 ∧ m5.1 9 ≤ 4000 := Tm5.1 9
    have g13 : 0 ≤ m5.1 10 ∧ m5.1 10 ≤ 8 := Tm5.1 10
    have g14 : (-1) ≤ m5.1 11 ∧ m5.1 11 ≤ 4000 := Tm5.1 11
    by_cases hf15 : (m5.1 10) = 0
    · skip
      replace h6 : LxP (m5.1 7) (m5.1 8) (m5.1 9) (m.1 6) (m5.1 10) := h6
      have hLx := h6
      replace h7 : (m.1 10) = 0 ∧ (m.1 7) = (319 : Int) := h7 hf15
      replace h8 : (m.1 8) ≤ (m5.1 8) := h8
      replace h9 : (m.1 8) + (m.1 9) ≤ (m5.1 8) := h9 hf15
      have u16 : (m.1 8) + 1 ≤ (m5.1 8) := by omega
      have hAgC : agr (m.2 65) (m.2 65) (m.1 28) := by first | exact agr_r _ _ | exact hAgC | exact agr_t hAgC hAg (by omega)
      refine T_ld 8 (.ref 189) rfl (fun _ => rfl) ?_
      refine T_ld 9 (.int (i32 0)) rfl (fun _ => rfl) ?_
      refine T_pf (l' := [(119, 0)]) 12 0 rfl rfl rfl rfl rfl rfl ?_
      have hBK : ∀ j, 0 ≤ j → j < (0 : Int) → (m.2 117) j < (m.1 27) := fun j j0 j1 => by omega
      refine T_ld 13 (.ref 189) rfl (fun _ => rfl) ?_
      refine T_ld 14 (.int (i32 (-1))) rfl (fun _ => rfl) ?_
      refine T_ld 15 (.int (i32 (-1))) rfl (fun _ => rfl) ?_
      refine T_call 18 280 [.ref 189, .int (i32 (-1)), .int (i32 (-1))] [] rfl (fun _ => rfl) rfl (c_openBlock w (mO m5 [(119, 0)] []) c N D (by omega) (Ty_mO Tm5 rfl rfl ⟨⟨(by omega : (0 : Int) ≤ 0), (by omega : (0 : Int) ≤ 8)⟩, trivial⟩ trivial) (-1) (-1) ⟨by decide, by decide⟩ ⟨by decide, by decide⟩ (show LxP (m5.1 7) (m5.1 8) (m5.1 9) (m5.1 6) (m5.1 10) by rewrite [(show (m5.1 6) = (m.1 6) from (fr1 Fm5 6 rfl))]; first | exact hLx | exact (fun _ => hLx (by omega)) | (intro h9; exfalso; omega)) (show (-1) ≤ (-1 : Int) ∧ (-1 : Int) ≤ 47 by omega) (show (-1) ≤ (-1 : Int) ∧ (-1 : Int) ≤ 1 by omega) (fun _ => ⟨(show ∀ j, 0 ≤ j → j < (0 : Int) → (m5.2 117) j < (m5.1 27) by rewrite [(show (m5.2 117) = (m.2 117) from (fr2 Fm5 117 rfl)), (show (m5.1 27) = (m.1 27) from (fr1 Fm5 27 rfl))]; assumption), (show (-1 : Int) < (m5.1 27) by rewrite [(show (m5.1 27) = (m.1 27) from (fr1 Fm5 27 rfl))]; omega)⟩)) (fun rr17 k18 => ?_)
      obtain ⟨m19, Tm19, Fm19, h20, h21, c22, rfl⟩ := k18
      refine ⟨_, _, rfl, ?_⟩
      refine T_nb (st' := []) rfl ?_
      have g23 : 0 ≤ m19.1 7 ∧ m19.1 7 ≤ 330 := Tm19.1 7
      have g24 : 0 ≤ m19.1 8 ∧ m19.1 8 ≤ 4000 := Tm19.1 8
      have g25 : 0 ≤ m19.1 9 ∧ m19.1 9 ≤ 4000 := Tm19.1 9
      have g26 : 0 ≤ m19.1 10 ∧ m19.1 10 ≤ 8 := Tm19.1 10
      have g27 : (-1) ≤ m19.1 11 ∧ m19.1 11 ≤ 4000 := Tm19.1 11
      have g28 : 0 ≤ m19.1 119 ∧ m19.1 119 ≤ 8 := Tm19.1 119
      by_cases hf29 : (m19.1 10) = 0
      · skip
        replace h20 : (m5.1 10) = 0 := h20 hf29
        replace h21 : LxP (m19.1 7) (m19.1 8) (m19.1 9) (m5.1 6) (m19.1 10) := h21
        rewrite [(show (m5.1 6) = (m.1 6) from (fr1 Fm5 6 rfl))] at h21
        have hLx := h21
        obtain ⟨c30, c31, c32⟩ := c22 hf29
        replace c30 : (m5.1 8) + 1 ≤ (m19.1 8) := c30
        replace c31 : (m19.1 119) = (0 : Int) + 1 := c31
        replace c32 : ∀ j, 0 ≤ j → j < (m19.1 119) → (m19.2 117) j < (m5.1 27) := c32
        rewrite [(show (m5.1 27) = (m.1 27) from (fr1 Fm5 27 rfl))] at c32
        have hBK := c32
        clear c22
        have u33 : (m.1 8) + 1 ≤ (m19.1 8) := by omega
        have hAgC : agr (m.2 65) (m.2 65) (m.1 28) := by first | exact agr_r _ _ | exact hAgC | exact agr_t hAgC hAg (by omega)
        have L18_35 : ∀ (n39 : Nat) (m34 : mR), Ty m34 → fr [7, 8, 9, 10, 11, 12, 27, 28, 69, 70, 71, 72, 73, 74, 75, 99, 100, 119] [59, 60, 61, 62, 63, 65, 66, 67, 68, 76, 77, 78, 79, 80, 81, 82, 83, 84, 85, 86, 87, 88, 89, 90, 91, 92, 101, 102, 103, 104, 105, 106, 107, 108, 117, 118, 120, 121, 122] (mO m19 [] []) m34 → (LxP (m34.1 7) (m34.1 8) (m34.1 9) (m.1 6) (m34.1 10)) → ((m34.1 10) = 0 → ((m.1 8) + 1 ≤ (m34.1 8)) ∧ (∀ j, 0 ≤ j → j < (m34.1 119) → (m34.2 117) j < (m34.1 27)) ∧ (CN (m34.2 65) (m34.2 67) (m34.1 28)) ∧ ((m.1 28) ≤ (m34.1 28)) ∧ (agr (m.2 65) (m34.2 65) (m.1 28)) ∧ (TdP (m34.2 65) (m34.1 28) (m.1 22) (m34.1 99) (m34.2 101) (m34.2 103) (m34.2 105) (m34.2 106) (m34.2 107) (m34.2 108)) ∧ (SpP (m34.2 65) (m34.1 28) (m34.1 99) (m.1 26) (m34.1 27) (m34.2 60) (m34.2 61) (m34.2 120) (m34.2 121) (m34.2 122) (m34.2 63)) ∧ ((m34.1 99) ≤ 192 + (m34.1 27)) ∧ ((m.1 99) ≤ (m34.1 99))) → 1000000 * (8 - (m34.1 10)) + (4000 - (m34.1 8)) < (n39 : Int) → TT w D pm_279 (18, [(0, .ref 189)], [], (mhp (mO m34 [] []) c, N), 0, 0) (Q_takeControl m c N) := by
          intro n39
          induction n39 with
          | zero =>
            intro m34 Tm34 Fm34 ic36 c38 hmu
            have q37_7 : 0 ≤ m34.1 7 ∧ m34.1 7 ≤ 330 := Tm34.1 7
            have q37_8 : 0 ≤ m34.1 8 ∧ m34.1 8 ≤ 4000 := Tm34.1 8
            have q37_9 : 0 ≤ m34.1 9 ∧ m34.1 9 ≤ 4000 := Tm34.1 9
            have q37_10 : 0 ≤ m34.1 10 ∧ m34.1 10 ≤ 8 := Tm34.1 10
            have q37_11 : (-1) ≤ m34.1 11 ∧ m34.1 11 ≤ 4000 := Tm34.1 11
            have q37_27 : 0 ≤ m34.1 27 ∧ m34.1 27 ≤ 48 := Tm34.1 27
            have q37_28 : 0 ≤ m34.1 28 ∧ m34.1 28 ≤ 800 := Tm34.1 28
            have q37_69 : 0 ≤ m34.1 69 ∧ m34.1 69 ≤ 1024 := Tm34.1 69
            have q37_70 : 0 ≤ m34.1 70 ∧ m34.1 70 ≤ 4000 := Tm34.1 70
            have q37_71 : 0 ≤ m34.1 71 ∧ m34.1 71 ≤ 1 := Tm34.1 71
            have q37_72 : (-9223372036854775808) ≤ m34.1 72 ∧ m34.1 72 ≤ 9223372036854775807 := Tm34.1 72
            have q37_99 : 0 ≤ m34.1 99 ∧ m34.1 99 ≤ 240 := Tm34.1 99
            have q37_119 : 0 ≤ m34.1 119 ∧ m34.1 119 ≤ 8 := Tm34.1 119
            have hLx := ic36
            exfalso
            omega
          | succ n39 ih =>
            intro m34 Tm34 Fm34 ic36 c38 hmu
            have q37_7 : 0 ≤ m34.1 7 ∧ m34.1 7 ≤ 330 := Tm34.1 7
            have q37_8 : 0 ≤ m34.1 8 ∧ m34.1 8 ≤ 4000 := Tm34.1 8
            have q37_9 : 0 ≤ m34.1 9 ∧ m34.1 9 ≤ 4000 := Tm34.1 9
            have q37_10 : 0 ≤ m34.1 10 ∧ m34.1 10 ≤ 8 := Tm34.1 10
            have q37_11 : (-1) ≤ m34.1 11 ∧ m34.1 11 ≤ 4000 := Tm34.1 11
            have q37_27 : 0 ≤ m34.1 27 ∧ m34.1 27 ≤ 48 := Tm34.1 27
            have q37_28 : 0 ≤ m34.1 28 ∧ m34.1 28 ≤ 800 := Tm34.1 28
            have q37_69 : 0 ≤ m34.1 69 ∧ m34.1 69 ≤ 1024 := Tm34.1 69
            have q37_70 : 0 ≤ m34.1 70 ∧ m34.1 70 ≤ 4000 := Tm34.1 70
            have q37_71 : 0 ≤ m34.1 71 ∧ m34.1 71 ≤ 1 := Tm34.1 71
            have q37_72 : (-9223372036854775808) ≤ m34.1 72 ∧ m34.1 72 ≤ 9223372036854775807 := Tm34.1 72
            have q37_99 : 0 ≤ m34.1 99 ∧ m34.1 99 ≤ 240 := Tm34.1 99
            have q37_119 : 0 ≤ m34.1 119 ∧ m34.1 119 ≤ 8 := Tm34.1 119
            have hLx := ic36
            have ih40 := ih
            by_cases hf41 : (m34.1 10) = 0
            · skip
              obtain ⟨c42, c43, c44, c45, c46, c47, c48, c49, c50⟩ := c38 hf41
              clear c38
              have hBK := c43
              have hCN := c44
              have hAgC := c46
              have pTd := c47
              have pSp := c48
              refine T_gf 22 (.int (i32 (m34.1 10))) rfl rfl rfl rfl rfl rfl ?_
              refine T_if 249 25 rfl rfl rfl (r32 (by omega) (by omega)) (fun (h51 : (m34.1 10) ≠ 0) => by exfalso; omega) (fun (h51 : ¬ ((m34.1 10) ≠ 0)) => ?_)
              refine T_gf 29 (.int (i32 (m34.1 119))) rfl rfl rfl rfl rfl rfl ?_
              refine T_if 249 32 rfl rfl rfl (r32 (by omega) (by omega)) (fun (h52 : (m34.1 119) ≤ 0) => ?_) (fun (h52 : ¬ ((m34.1 119) ≤ 0)) => ?_)
              · skip
                refine T_ret rfl (fun _ => rfl) ?_
                exact ⟨(mO m34 [] []), Tm34, (fr_m (fr_s Fm34 (fr_m (fr_s Fm19 (fr_m (fr_s Fm5 (fr_m fr_0 rfl rfl) rfl rfl) rfl rfl) rfl rfl) rfl rfl) rfl rfl) rfl rfl), (show (m34.1 10) = 0 → (m.1 10) = 0 by omega), (show LxP (m34.1 7) (m34.1 8) (m34.1 9) (m.1 6) (m34.1 10) by first | (first | exact hLx | exact (fun _ => hLx (by omega)) | (intro h9; exfalso; omega)) | (exfalso; omega)), (fun _ => ⟨(show (m.1 8) + 1 ≤ (m34.1 8) by omega), (show CN (m34.2 65) (m34.2 67) (m34.1 28) by first | (exact hCN) | (exfalso; omega)), (show (m.1 28) ≤ (m34.1 28) by omega), (show agr (m.2 65) (m34.2 65) (m.1 28) by first | (exact hAgC) | (exfalso; omega)), (show TdP (m34.2 65) (m34.1 28) (m.1 22) (m34.1 99) (m34.2 101) (m34.2 103) (m34.2 105) (m34.2 106) (m34.2 107) (m34.2 108) by first | (exact pTd) | (exfalso; omega)), (show SpP (m34.2 65) (m34.1 28) (m34.1 99) (m.1 26) (m34.1 27) (m34.2 60) (m34.2 61) (m34.2 120) (m34.2 121) (m34.2 122) (m34.2 63) by first | (exact pSp) | (exfalso; omega)), (show (m.1 99) ≤ (m34.1 99) by omega)⟩), rfl⟩
              · skip
                have h7 := hLx (by omega)
                have hBi := hBK ((m34.1 119) - 1) (by omega) (by omega)
                refine T_ld 33 (.ref 189) rfl (fun _ => rfl) ?_
                refine T_call 36 269 [.ref 189] [] rfl (fun _ => rfl) rfl (c_isStatement w (mO m34 [] []) c N D (by omega) Tm34 ) (fun rr53 k54 => ?_)
                obtain ⟨x55, g56, h57, rfl⟩ := k54
                refine ⟨_, _, rfl, ?_⟩
                refine T_ns (st' := [.int (i32 x55)]) rfl ?_
                obtain ⟨g56a, g56b⟩ := g56
                replace h57 : x55 = 1 → (m34.1 7) ≠ 0 := h57
                have u58 : (m.1 8) + 1 ≤ (m34.1 8) := by omega
                have hAgC : agr (m.2 65) (m34.2 65) (m.1 28) := by first | exact agr_r _ _ | exact hAgC | exact agr_t hAgC hAg (by omega)
                refine T_if 69 39 rfl rfl rfl (r32 (by omega) (by omega)) (fun (h59 : x55 = 0) => ?_) (fun (h59 : ¬ (x55 = 0)) => ?_)
                · skip
                  refine T_gf 73 (.int (i32 (m34.1 7))) rfl rfl rfl rfl rfl rfl ?_
                  refine T_ld 76 (.int (i32 320)) rfl (fun _ => rfl) ?_
                  refine T_icmp 155 79 rfl rfl rfl (r32 (by omega) (by omega)) ⟨by decide, by decide⟩ (fun (h60 : (m34.1 7) ≠ 320) => ?_) (fun (h60 : ¬ ((m34.1 7) ≠ 320)) => ?_)
                  · skip
                    refine T_gf 159 (.int (i32 (m34.1 7))) rfl rfl rfl rfl rfl rfl ?_
                    refine T_ld 162 (.int (i32 321)) rfl (fun _ => rfl) ?_
                    refine T_icmp 242 165 rfl rfl rfl (r32 (by omega) (by omega)) ⟨by decide, by decide⟩ (fun (h61 : (m34.1 7) ≠ 321) => ?_) (fun (h61 : ¬ ((m34.1 7) ≠ 321)) => ?_)
                    · skip
                      refine T_ld 243 (.ref 189) rfl (fun _ => rfl) ?_
                      refine T_call 246 282 [.ref 189] [] rfl (fun _ => rfl) rfl (c_closeBlock w (mO m34 [] []) c N D (by omega) Tm34 (show LxP (m34.1 7) (m34.1 8) (m34.1 9) (m34.1 6) (m34.1 10) by rewrite [(show (m34.1 6) = (m.1 6) from ((fr1 Fm34 6 rfl).trans ((fr1 Fm19 6 rfl).trans (fr1 Fm5 6 rfl))))]; first | exact hLx | exact (fun _ => hLx (by omega)) | (intro h9; exfalso; omega)) (show 1 ≤ (m34.1 119) by omega) (show (m34.1 10) = 0 by omega) (show ∀ j, 0 ≤ j → j < (m34.1 119) → (m34.2 117) j < (m34.1 27) by assumption)) (fun rr62 k63 => ?_)
                      obtain ⟨m64, Tm64, Fm64, h65, h66, c67, rfl⟩ := k63
                      refine ⟨_, _, rfl, ?_⟩
                      refine T_nb (st' := []) rfl ?_
                      have g68 : 0 ≤ m64.1 7 ∧ m64.1 7 ≤ 330 := Tm64.1 7
                      have g69 : 0 ≤ m64.1 8 ∧ m64.1 8 ≤ 4000 := Tm64.1 8
                      have g70 : 0 ≤ m64.1 9 ∧ m64.1 9 ≤ 4000 := Tm64.1 9
                      have g71 : 0 ≤ m64.1 10 ∧ m64.1 10 ≤ 8 := Tm64.1 10
                      have g72 : (-1) ≤ m64.1 11 ∧ m64.1 11 ≤ 4000 := Tm64.1 11
                      have g73 : 0 ≤ m64.1 119 ∧ m64.1 119 ≤ 8 := Tm64.1 119
                      by_cases hf74 : (m64.1 10) = 0
                      · skip
                        replace h65 : (m34.1 10) = 0 := h65 hf74
                        replace h66 : LxP (m64.1 7) (m64.1 8) (m64.1 9) (m34.1 6) (m64.1 10) := h66
                        rewrite [(show (m34.1 6) = (m.1 6) from ((fr1 Fm34 6 rfl).trans ((fr1 Fm19 6 rfl).trans (fr1 Fm5 6 rfl))))] at h66
                        have hLx := h66
                        obtain ⟨c75, c76⟩ := c67 hf74
                        replace c75 : (m34.1 8) + 1 ≤ (m64.1 8) := c75
                        replace c76 : ∀ j, 0 ≤ j → j < (m64.1 119) → (m64.2 117) j < (m34.1 27) := c76
                        have hBK := c76
                        clear c67
                        have u77 : (m.1 8) + 1 ≤ (m64.1 8) := by omega
                        have hAgC : agr (m.2 65) (m34.2 65) (m.1 28) := by first | exact agr_r _ _ | exact hAgC | exact agr_t hAgC hAg (by omega)
                        refine T_goto 18 rfl (fun _ => rfl) ?_
                        exact ih40 (mO m64 [] []) Tm64 (fr_m (fr_s Fm64 (fr_m (fr_s Fm34 (fr_m fr_0 rfl rfl) rfl rfl) rfl rfl) rfl rfl) rfl rfl) (show LxP (m64.1 7) (m64.1 8) (m64.1 9) (m.1 6) (m64.1 10) by first | exact hLx | exact (fun _ => hLx (by omega)) | (intro h9; exfalso; omega)) (fun _ => ⟨(show (m.1 8) + 1 ≤ (m64.1 8) by omega), (show ∀ j, 0 ≤ j → j < (m64.1 119) → (m64.2 117) j < (m64.1 27) by rewrite [(show (m64.1 27) = (m34.1 27) from (fr1 Fm64 27 rfl))]; exact hBK), (show CN (m64.2 65) (m64.2 67) (m64.1 28) by rewrite [(show (m64.2 65) = (m34.2 65) from (fr2 Fm64 65 rfl)), (show (m64.2 67) = (m34.2 67) from (fr2 Fm64 67 rfl)), (show (m64.1 28) = (m34.1 28) from (fr1 Fm64 28 rfl))]; exact hCN), (show (m.1 28) ≤ (m64.1 28) by rewrite [(show (m64.1 28) = (m34.1 28) from (fr1 Fm64 28 rfl))]; omega), (show agr (m.2 65) (m64.2 65) (m.1 28) by rewrite [(show (m64.2 65) = (m34.2 65) from (fr2 Fm64 65 rfl))]; exact hAgC), (show TdP (m64.2 65) (m64.1 28) (m.1 22) (m64.1 99) (m64.2 101) (m64.2 103) (m64.2 105) (m64.2 106) (m64.2 107) (m64.2 108) by rewrite [(show (m64.2 65) = (m34.2 65) from (fr2 Fm64 65 rfl)), (show (m64.1 28) = (m34.1 28) from (fr1 Fm64 28 rfl)), (show (m64.1 99) = (m34.1 99) from (fr1 Fm64 99 rfl)), (show (m64.2 101) = (m34.2 101) from (fr2 Fm64 101 rfl)), (show (m64.2 103) = (m34.2 103) from (fr2 Fm64 103 rfl)), (show (m64.2 105) = (m34.2 105) from (fr2 Fm64 105 rfl)), (show (m64.2 106) = (m34.2 106) from (fr2 Fm64 106 rfl)), (show (m64.2 107) = (m34.2 107) from (fr2 Fm64 107 rfl)), (show (m64.2 108) = (m34.2 108) from (fr2 Fm64 108 rfl))]; exact pTd), (show SpP (m64.2 65) (m64.1 28) (m64.1 99) (m.1 26) (m64.1 27) (m64.2 60) (m64.2 61) (m64.2 120) (m64.2 121) (m64.2 122) (m64.2 63) by rewrite [(show (m64.2 65) = (m34.2 65) from (fr2 Fm64 65 rfl)), (show (m64.1 28) = (m34.1 28) from (fr1 Fm64 28 rfl)), (show (m64.1 99) = (m34.1 99) from (fr1 Fm64 99 rfl)), (show (m64.1 27) = (m34.1 27) from (fr1 Fm64 27 rfl)), (show (m64.2 60) = (m34.2 60) from (fr2 Fm64 60 rfl)), (show (m64.2 61) = (m34.2 61) from (fr2 Fm64 61 rfl)), (show (m64.2 120) = (m34.2 120) from (fr2 Fm64 120 rfl)), (show (m64.2 121) = (m34.2 121) from (fr2 Fm64 121 rfl)), (show (m64.2 122) = (m34.2 122) from (fr2 Fm64 122 rfl)), (show (m64.2 63) = (m34.2 63) from (fr2 Fm64 63 rfl))]; first | exact pSp | exact fun s s0 s1 => absurd s1 (by omega)), (show (m64.1 99) ≤ 192 + (m64.1 27) by rewrite [(show (m64.1 99) = (m34.1 99) from (fr1 Fm64 99 rfl)), (show (m64.1 27) = (m34.1 27) from (fr1 Fm64 27 rfl))]; omega), (show (m.1 99) ≤ (m64.1 99) by rewrite [(show (m64.1 99) = (m34.1 99) from (fr1 Fm64 99 rfl))]; omega)⟩) (show 1000000 * (8 - (m64.1 10)) + (4000 - (m64.1 8)) < (n39 : Int) by omega)
                      · skip
                        clear c67
                        clear h65
                        replace h66 : LxP (m64.1 7) (m64.1 8) (m64.1 9) (m34.1 6) (m64.1 10) := h66
                        rewrite [(show (m34.1 6) = (m.1 6) from ((fr1 Fm34 6 rfl).trans ((fr1 Fm19 6 rfl).trans (fr1 Fm5 6 rfl))))] at h66
                        have hLx := h66
                        have hf78 : 1 ≤ (m64.1 10) := by omega
                        refine T_goto 18 rfl (fun _ => rfl) ?_
                        exact ih40 (mO m64 [] []) Tm64 (fr_m (fr_s Fm64 (fr_m (fr_s Fm34 (fr_m fr_0 rfl rfl) rfl rfl) rfl rfl) rfl rfl) rfl rfl) (show LxP (m64.1 7) (m64.1 8) (m64.1 9) (m.1 6) (m64.1 10) by first | exact hLx | exact (fun _ => hLx (by omega)) | (intro h9; exfalso; omega)) (fun (h : (m64.1 10) = 0) => absurd h (by omega)) (show 1000000 * (8 - (m64.1 10)) + (4000 - (m64.1 8)) < (n39 : Int) by omega)
                    · skip
                      refine T_ld 166 (.ref 189) rfl (fun _ => rfl) ?_
                      refine T_ld 167 (.int (i32 1)) rfl (fun _ => rfl) ?_
                      refine T_call 170 281 [.ref 189, .int (i32 1)] [] rfl (fun _ => rfl) rfl (c_newStep w (mO m34 [] []) c N D (by omega) Tm34 1 ⟨by decide, by decide⟩ (show 0 ≤ (1 : Int) ∧ (1 : Int) ≤ 2 by omega) (show 1 ≤ (m34.1 119) by omega) (show (m34.1 10) = 0 by omega) (show ∀ j, 0 ≤ j → j < (m34.1 119) → (m34.2 117) j < (m34.1 27) by assumption)) (fun rr79 k80 => ?_)
                      obtain ⟨m81, x82, Tm81, Fm81, g83, h84, c85, rfl⟩ := k80
                      refine ⟨_, _, rfl, ?_⟩
                      refine T_nb (st' := [.int (i32 x82)]) rfl ?_
                      obtain ⟨g83a, g83b⟩ := g83
                      have g86 : 0 ≤ m81.1 10 ∧ m81.1 10 ≤ 8 := Tm81.1 10
                      have g87 : (-1) ≤ m81.1 11 ∧ m81.1 11 ≤ 4000 := Tm81.1 11
                      have g88 : 0 ≤ m81.1 27 ∧ m81.1 27 ≤ 48 := Tm81.1 27
                      by_cases hf89 : (m81.1 10) = 0
                      · skip
                        replace h84 : (m34.1 10) = 0 := h84 hf89
                        obtain ⟨c90, c91, c92, c93, c94⟩ := c85 hf89
                        replace c90 : x82 = (m34.1 27) := c90
                        have hS9 := c90
                        replace c91 : (m81.1 27) = (m34.1 27) + 1 := c91
                        have hS0 := c91
                        replace c92 : (m81.2 60) = upI (m34.2 60) (m34.1 27) (1 : Int) := c92
                        have hS1 := c92
                        replace c93 : (m81.2 61) = upI (m34.2 61) (m34.1 27) ((m34.2 117) ((m34.1 119) - 1)) := c93
                        have hS2 := c93
                        replace c94 : (m81.2 63) = upI (m34.2 63) (m34.1 27) (-1) := c94
                        have hS3 := c94
                        clear c85
                        have u95 : (m.1 8) + 1 ≤ (m34.1 8) := by omega
                        have hAgC : agr (m.2 65) (m34.2 65) (m.1 28) := by first | exact agr_r _ _ | exact hAgC | exact agr_t hAgC hAg (by omega)
                        refine T_sto 171 [(1, .int (i32 x82)), (0, .ref 189)] rfl (fun _ => rfl) ?_
                        refine T_ld 172 (.ref 189) rfl (fun _ => rfl) ?_
                        refine T_call 175 212 [.ref 189] [] rfl (fun _ => rfl) rfl (d_next w (mO m81 [] []) c N D (by omega) Tm81 (show (m81.1 10) = 0 → (m81.1 8) + (m81.1 9) ≤ (m81.1 6) by rewrite [(show (m81.1 8) = (m34.1 8) from (fr1 Fm81 8 rfl)), (show (m81.1 9) = (m34.1 9) from (fr1 Fm81 9 rfl)), (show (m81.1 6) = (m.1 6) from ((fr1 Fm81 6 rfl).trans ((fr1 Fm34 6 rfl).trans ((fr1 Fm19 6 rfl).trans (fr1 Fm5 6 rfl)))))]; first | omega | (intro h9; have h8 := hLx h9; omega))) (fun rr96 k97 => ?_)
                        obtain ⟨m98, Tm98, Fm98, h99, h100, h101, h102, rfl⟩ := k97
                        refine ⟨_, _, rfl, ?_⟩
                        refine T_nb (st' := []) rfl ?_
                        have g103 : 0 ≤ m98.1 7 ∧ m98.1 7 ≤ 330 := Tm98.1 7
                        have g104 : 0 ≤ m98.1 8 ∧ m98.1 8 ≤ 4000 := Tm98.1 8
                        have g105 : 0 ≤ m98.1 9 ∧ m98.1 9 ≤ 4000 := Tm98.1 9
                        have g106 : 0 ≤ m98.1 10 ∧ m98.1 10 ≤ 8 := Tm98.1 10
                        have g107 : (-1) ≤ m98.1 11 ∧ m98.1 11 ≤ 4000 := Tm98.1 11
                        by_cases hf108 : (m98.1 10) = 0
                        · skip
                          replace h99 : LxP (m98.1 7) (m98.1 8) (m98.1 9) (m81.1 6) (m98.1 10) := h99
                          rewrite [(show (m81.1 6) = (m.1 6) from ((fr1 Fm81 6 rfl).trans ((fr1 Fm34 6 rfl).trans ((fr1 Fm19 6 rfl).trans (fr1 Fm5 6 rfl)))))] at h99
                          have hLx := h99
                          replace h100 : (m81.1 10) = 0 := h100 hf108
                          replace h101 : (m81.1 8) ≤ (m98.1 8) := h101
                          rewrite [(show (m81.1 8) = (m34.1 8) from (fr1 Fm81 8 rfl))] at h101
                          replace h102 : (m81.1 8) + (m81.1 9) ≤ (m98.1 8) := h102 hf108
                          rewrite [(show (m81.1 8) = (m34.1 8) from (fr1 Fm81 8 rfl)), (show (m81.1 9) = (m34.1 9) from (fr1 Fm81 9 rfl))] at h102
                          have u109 : (m.1 8) + 1 ≤ (m98.1 8) := by omega
                          have hAgC : agr (m.2 65) (m34.2 65) (m.1 28) := by first | exact agr_r _ _ | exact hAgC | exact agr_t hAgC hAg (by omega)
                          refine T_gf 179 (.ref 280) rfl rfl rfl rfl rfl rfl ?_
                          refine T_ld 180 (.int (i32 x82)) rfl (fun _ => rfl) ?_
                          refine T_gf 184 (.int (i32 (m34.1 28))) rfl rfl rfl rfl (mfv_c (F := fun x => .int (i32 x)) rfl (show (m98.1 28) = (m34.1 28) from ((fr1 Fm98 28 rfl).trans (fr1 Fm81 28 rfl)))) rfl ?_
                          have G110 : ∀ j, 0 ≤ (upI (m34.2 121) x82 (m34.1 28)) j ∧ (upI (m34.2 121) x82 (m34.1 28)) j ≤ 800 := upI_rg (Tm34.2.1 121) ⟨by omega, by omega⟩
                          refine T_iast (a' := [(121, upI (m34.2 121) x82 (m34.1 28))]) 185 121 (m34.2 121) rfl rfl rfl (by omega) (show x82 < (48 : Int) by omega) (show (m98.2 121) = (m34.2 121) from ((fr2 Fm98 121 rfl).trans (fr2 Fm81 121 rfl))) rfl ?_
                          refine T_gf 189 (.int (i32 (m98.1 10))) rfl rfl rfl rfl rfl rfl ?_
                          refine T_if 196 192 rfl rfl rfl (r32 (by omega) (by omega)) (fun (h111 : (m98.1 10) ≠ 0) => by exfalso; omega) (fun (h111 : ¬ ((m98.1 10) ≠ 0)) => ?_)
                          refine T_ld 193 (.ref 189) rfl (fun _ => rfl) ?_
                          refine T_call 196 244 [.ref 189] [] rfl (fun _ => rfl) rfl (c_readExpr w (mO m98 [] [(121, upI (m34.2 121) x82 (m34.1 28))]) c N D (by omega) (Ty_mO Tm98 rfl rfl trivial ⟨G110, trivial⟩) (show LxP (m98.1 7) (m98.1 8) (m98.1 9) (m98.1 6) (m98.1 10) by rewrite [(show (m98.1 6) = (m.1 6) from ((fr1 Fm98 6 rfl).trans ((fr1 Fm81 6 rfl).trans ((fr1 Fm34 6 rfl).trans ((fr1 Fm19 6 rfl).trans (fr1 Fm5 6 rfl))))))]; first | exact hLx | exact (fun _ => hLx (by omega)) | (intro h9; exfalso; omega)) (show ∀ k, (m98.2 14) k + (m98.2 15) k ≤ 4000 by rewrite [(show (m98.2 14) = (m.2 14) from ((fr2 Fm98 14 rfl).trans ((fr2 Fm81 14 rfl).trans ((fr2 Fm34 14 rfl).trans ((fr2 Fm19 14 rfl).trans (fr2 Fm5 14 rfl)))))), (show (m98.2 15) = (m.2 15) from ((fr2 Fm98 15 rfl).trans ((fr2 Fm81 15 rfl).trans ((fr2 Fm34 15 rfl).trans ((fr2 Fm19 15 rfl).trans (fr2 Fm5 15 rfl))))))]; assumption) (show ∀ k, (m98.2 31) k + (m98.2 32) k ≤ 4000 by rewrite [(show (m98.2 31) = (m.2 31) from ((fr2 Fm98 31 rfl).trans ((fr2 Fm81 31 rfl).trans ((fr2 Fm34 31 rfl).trans ((fr2 Fm19 31 rfl).trans (fr2 Fm5 31 rfl)))))), (show (m98.2 32) = (m.2 32) from ((fr2 Fm98 32 rfl).trans ((fr2 Fm81 32 rfl).trans ((fr2 Fm34 32 rfl).trans ((fr2 Fm19 32 rfl).trans (fr2 Fm5 32 rfl))))))]; assumption) (show ∀ k, (m98.2 47) k + (m98.2 48) k ≤ 4000 by rewrite [(show (m98.2 47) = (m.2 47) from ((fr2 Fm98 47 rfl).trans ((fr2 Fm81 47 rfl).trans ((fr2 Fm34 47 rfl).trans ((fr2 Fm19 47 rfl).trans (fr2 Fm5 47 rfl)))))), (show (m98.2 48) = (m.2 48) from ((fr2 Fm98 48 rfl).trans ((fr2 Fm81 48 rfl).trans ((fr2 Fm34 48 rfl).trans ((fr2 Fm19 48 rfl).trans (fr2 Fm5 48 rfl))))))]; assumption) (fun _ => ⟨(show PN (m98.1 13) (m98.1 19) (m98.1 20) (m98.1 21) (m98.1 22) (m98.1 23) (m98.1 25) (m98.1 26) (m98.2 16) (m98.2 17) by rewrite [(show (m98.1 13) = (m.1 13) from ((fr1 Fm98 13 rfl).trans ((fr1 Fm81 13 rfl).trans ((fr1 Fm34 13 rfl).trans ((fr1 Fm19 13 rfl).trans (fr1 Fm5 13 rfl)))))), (show (m98.1 19) = (m.1 19) from ((fr1 Fm98 19 rfl).trans ((fr1 Fm81 19 rfl).trans ((fr1 Fm34 19 rfl).trans ((fr1 Fm19 19 rfl).trans (fr1 Fm5 19 rfl)))))), (show (m98.1 20) = (m.1 20) from ((fr1 Fm98 20 rfl).trans ((fr1 Fm81 20 rfl).trans ((fr1 Fm34 20 rfl).trans ((fr1 Fm19 20 rfl).trans (fr1 Fm5 20 rfl)))))), (show (m98.1 21) = (m.1 21) from ((fr1 Fm98 21 rfl).trans ((fr1 Fm81 21 rfl).trans ((fr1 Fm34 21 rfl).trans ((fr1 Fm19 21 rfl).trans (fr1 Fm5 21 rfl)))))), (show (m98.1 22) = (m.1 22) from ((fr1 Fm98 22 rfl).trans ((fr1 Fm81 22 rfl).trans ((fr1 Fm34 22 rfl).trans ((fr1 Fm19 22 rfl).trans (fr1 Fm5 22 rfl)))))), (show (m98.1 23) = (m.1 23) from ((fr1 Fm98 23 rfl).trans ((fr1 Fm81 23 rfl).trans ((fr1 Fm34 23 rfl).trans ((fr1 Fm19 23 rfl).trans (fr1 Fm5 23 rfl)))))), (show (m98.1 25) = (m.1 25) from ((fr1 Fm98 25 rfl).trans ((fr1 Fm81 25 rfl).trans ((fr1 Fm34 25 rfl).trans ((fr1 Fm19 25 rfl).trans (fr1 Fm5 25 rfl)))))), (show (m98.1 26) = (m.1 26) from ((fr1 Fm98 26 rfl).trans ((fr1 Fm81 26 rfl).trans ((fr1 Fm34 26 rfl).trans ((fr1 Fm19 26 rfl).trans (fr1 Fm5 26 rfl)))))), (show (m98.2 16) = (m.2 16) from ((fr2 Fm98 16 rfl).trans ((fr2 Fm81 16 rfl).trans ((fr2 Fm34 16 rfl).trans ((fr2 Fm19 16 rfl).trans (fr2 Fm5 16 rfl)))))), (show (m98.2 17) = (m.2 17) from ((fr2 Fm98 17 rfl).trans ((fr2 Fm81 17 rfl).trans ((fr2 Fm34 17 rfl).trans ((fr2 Fm19 17 rfl).trans (fr2 Fm5 17 rfl))))))]; assumption), (show CN (m98.2 65) (m98.2 67) (m98.1 28) by rewrite [(show (m98.2 65) = (m34.2 65) from ((fr2 Fm98 65 rfl).trans (fr2 Fm81 65 rfl))), (show (m98.2 67) = (m34.2 67) from ((fr2 Fm98 67 rfl).trans (fr2 Fm81 67 rfl))), (show (m98.1 28) = (m34.1 28) from ((fr1 Fm98 28 rfl).trans (fr1 Fm81 28 rfl)))]; assumption)⟩)) (fun rr112 k113 => ?_)
                          obtain ⟨m114, Tm114, Fm114, h115, h116, c117, rfl⟩ := k113
                          refine ⟨_, _, rfl, ?_⟩
                          refine T_nb (st' := []) rfl ?_
                          have g118 : 0 ≤ m114.1 7 ∧ m114.1 7 ≤ 330 := Tm114.1 7
                          have g119 : 0 ≤ m114.1 8 ∧ m114.1 8 ≤ 4000 := Tm114.1 8
                          have g120 : 0 ≤ m114.1 9 ∧ m114.1 9 ≤ 4000 := Tm114.1 9
                          have g121 : 0 ≤ m114.1 10 ∧ m114.1 10 ≤ 8 := Tm114.1 10
                          have g122 : (-1) ≤ m114.1 11 ∧ m114.1 11 ≤ 4000 := Tm114.1 11
                          have g123 : 0 ≤ m114.1 28 ∧ m114.1 28 ≤ 800 := Tm114.1 28
                          have g124 : 0 ≤ m114.1 69 ∧ m114.1 69 ≤ 1024 := Tm114.1 69
                          have g125 : 0 ≤ m114.1 70 ∧ m114.1 70 ≤ 4000 := Tm114.1 70
                          have g126 : 0 ≤ m114.1 71 ∧ m114.1 71 ≤ 1 := Tm114.1 71
                          have g127 : (-9223372036854775808) ≤ m114.1 72 ∧ m114.1 72 ≤ 9223372036854775807 := Tm114.1 72
                          by_cases hf128 : (m114.1 10) = 0
                          · skip
                            replace h115 : (m98.1 10) = 0 := h115 hf128
                            replace h116 : LxP (m114.1 7) (m114.1 8) (m114.1 9) (m98.1 6) (m114.1 10) := h116
                            rewrite [(show (m98.1 6) = (m.1 6) from ((fr1 Fm98 6 rfl).trans ((fr1 Fm81 6 rfl).trans ((fr1 Fm34 6 rfl).trans ((fr1 Fm19 6 rfl).trans (fr1 Fm5 6 rfl))))))] at h116
                            have hLx := h116
                            obtain ⟨c129, c130, c131, c132, c133, c134⟩ := c117 hf128
                            replace c129 : (m98.1 8) + 1 ≤ (m114.1 8) := c129
                            replace c130 : (m114.1 69) ≤ 64 := c130
                            replace c131 : (m98.1 28) ≤ (m114.1 28) := c131
                            rewrite [(show (m98.1 28) = (m34.1 28) from ((fr1 Fm98 28 rfl).trans (fr1 Fm81 28 rfl)))] at c131
                            replace c132 : okc (m114.2 65) (m98.1 28) (m114.1 28) := c132
                            rewrite [(show (m98.1 28) = (m34.1 28) from ((fr1 Fm98 28 rfl).trans (fr1 Fm81 28 rfl)))] at c132
                            have hOk := c132
                            replace c133 : CN (m114.2 65) (m114.2 67) (m114.1 28) := c133
                            have hCN := c133
                            replace c134 : agr (m98.2 65) (m114.2 65) (m98.1 28) := c134
                            rewrite [(show (m98.2 65) = (m34.2 65) from ((fr2 Fm98 65 rfl).trans (fr2 Fm81 65 rfl))), (show (m98.1 28) = (m34.1 28) from ((fr1 Fm98 28 rfl).trans (fr1 Fm81 28 rfl)))] at c134
                            have hAg := c134
                            clear c117
                            have u135 : (m.1 8) + 1 ≤ (m114.1 8) := by omega
                            have hAgC : agr (m.2 65) (m114.2 65) (m.1 28) := by first | exact agr_r _ _ | exact hAgC | exact agr_t hAgC hAg (by omega)
                            refine T_gf 200 (.ref 281) rfl rfl rfl rfl rfl rfl ?_
                            refine T_ld 201 (.int (i32 x82)) rfl (fun _ => rfl) ?_
                            refine T_gf 205 (.int (i32 (m114.1 28))) rfl rfl rfl rfl rfl rfl ?_
                            have G136 : ∀ j, 0 ≤ (upI (m34.2 122) x82 (m114.1 28)) j ∧ (upI (m34.2 122) x82 (m114.1 28)) j ≤ 800 := upI_rg (Tm34.2.1 122) ⟨by omega, by omega⟩
                            refine T_iast (a' := [(122, upI (m34.2 122) x82 (m114.1 28))]) 206 122 (m34.2 122) rfl rfl rfl (by omega) (show x82 < (48 : Int) by omega) (show (m114.2 122) = (m34.2 122) from ((fr2 Fm114 122 rfl).trans ((fr2 Fm98 122 rfl).trans (fr2 Fm81 122 rfl)))) rfl ?_
                            have pSp : SpP (m114.2 65) (m114.1 28) (m34.1 99) (m.1 26) (m81.1 27) (m81.2 60) (m81.2 61) (m34.2 120) (upI (m34.2 121) x82 (m34.1 28)) (upI (m34.2 122) x82 (m114.1 28)) (m81.2 63) := by
                              try rw [hS9]
                              rw [hS0, hS1, hS2]
                              rw [hS3]; exact SpP_add (SpP_f pSp hAg (by omega) (by omega) (agr_u (Int.le_refl _)) (agr_u (Int.le_refl _)) (agr_r _ _) (agr_u (Int.le_refl _)) (agr_u (Int.le_refl _)) (agr_u (Int.le_refl _))) ⟨by rw [upI_s]; exact hBi, fun h => by rw [upI_s] at h; omega, fun _ => by rw [upI_s, upI_s]; exact ⟨hOk, by omega⟩, fun h => by rw [upI_s] at h; omega⟩
                            have hBK : ∀ j, 0 ≤ j → j < (m34.1 119) → (m34.2 117) j < (m81.1 27) := fun j j0 j1 => Int.lt_trans (hBK j j0 j1) (by omega)
                            have pTd : TdP (m114.2 65) (m114.1 28) (m.1 22) (m34.1 99) (m34.2 101) (m34.2 103) (m34.2 105) (m34.2 106) (m34.2 107) (m34.2 108) := TdP_g pTd hAg (by omega)
                            refine T_gf 210 (.int (i32 (m114.1 10))) rfl rfl rfl rfl rfl rfl ?_
                            refine T_if 233 213 rfl rfl rfl (r32 (by omega) (by omega)) (fun (h137 : (m114.1 10) ≠ 0) => by exfalso; omega) (fun (h137 : ¬ ((m114.1 10) ≠ 0)) => ?_)
                            refine T_ld 214 (.ref 189) rfl (fun _ => rfl) ?_
                            refine T_gf 218 (.int (i32 (m114.1 69))) rfl rfl rfl rfl rfl rfl ?_
                            refine T_gf 222 (.int (i32 (m114.1 71))) rfl rfl rfl rfl rfl rfl ?_
                            refine T_gf 226 (.long (i64 (m114.1 72))) rfl rfl rfl rfl rfl rfl ?_
                            refine T_gf 230 (.int (i32 (m114.1 70))) rfl rfl rfl rfl rfl rfl ?_
                            refine T_call 233 258 [.ref 189, .int (i32 (m114.1 69)), .int (i32 (m114.1 71)), .long (i64 (m114.1 72)), .int (i32 (m114.1 70))] [] rfl (fun _ => rfl) rfl (c_wantBit w (mO m114 [] [(122, upI (m34.2 122) x82 (m114.1 28))]) c N D (by omega) (Ty_mO Tm114 rfl rfl trivial ⟨G136, trivial⟩) (m114.1 69) (m114.1 71) (m114.1 72) (m114.1 70) (r32 (by omega) (by omega)) (r32 (by omega) (by omega)) (r64 (by omega) (by omega)) (r32 (by omega) (by omega)) (show 0 ≤ (m114.1 70) ∧ (m114.1 70) ≤ 4000 by omega) (fun _ => trivial)) (fun rr138 k139 => ?_)
                            obtain ⟨m140, Tm140, Fm140, h141, c142, rfl⟩ := k139
                            refine ⟨_, _, rfl, ?_⟩
                            refine T_nb (st' := []) rfl ?_
                            have g143 : 0 ≤ m140.1 10 ∧ m140.1 10 ≤ 8 := Tm140.1 10
                            have g144 : (-1) ≤ m140.1 11 ∧ m140.1 11 ≤ 4000 := Tm140.1 11
                            by_cases hf145 : (m140.1 10) = 0
                            · skip
                              replace h141 : (m114.1 10) = 0 := h141 hf145
                              clear c142
                              have u146 : (m.1 8) + 1 ≤ (m114.1 8) := by omega
                              have hAgC : agr (m.2 65) (m114.2 65) (m.1 28) := by first | exact agr_r _ _ | exact hAgC | exact agr_t hAgC hAg (by omega)
                              refine T_ld 234 (.ref 189) rfl (fun _ => rfl) ?_
                              refine T_ld 235 (.int (i32 x82)) rfl (fun _ => rfl) ?_
                              refine T_ld 236 (.int (i32 1)) rfl (fun _ => rfl) ?_
                              refine T_call 239 280 [.ref 189, .int (i32 x82), .int (i32 1)] [] rfl (fun _ => rfl) rfl (c_openBlock w (mO m140 [] []) c N D (by omega) Tm140 x82 1 (r32 (by omega) (by omega)) ⟨by decide, by decide⟩ (show LxP (m140.1 7) (m140.1 8) (m140.1 9) (m140.1 6) (m140.1 10) by rewrite [(show (m140.1 7) = (m114.1 7) from (fr1 Fm140 7 rfl)), (show (m140.1 8) = (m114.1 8) from (fr1 Fm140 8 rfl)), (show (m140.1 9) = (m114.1 9) from (fr1 Fm140 9 rfl)), (show (m140.1 6) = (m.1 6) from ((fr1 Fm140 6 rfl).trans ((fr1 Fm114 6 rfl).trans ((fr1 Fm98 6 rfl).trans ((fr1 Fm81 6 rfl).trans ((fr1 Fm34 6 rfl).trans ((fr1 Fm19 6 rfl).trans (fr1 Fm5 6 rfl))))))))]; first | exact hLx | exact (fun _ => hLx (by omega)) | (intro h9; exfalso; omega)) (show (-1) ≤ x82 ∧ x82 ≤ 47 by omega) (show (-1) ≤ (1 : Int) ∧ (1 : Int) ≤ 1 by omega) (fun _ => ⟨(show ∀ j, 0 ≤ j → j < (m140.1 119) → (m140.2 117) j < (m140.1 27) by rewrite [(show (m140.1 119) = (m34.1 119) from ((fr1 Fm140 119 rfl).trans ((fr1 Fm114 119 rfl).trans ((fr1 Fm98 119 rfl).trans (fr1 Fm81 119 rfl))))), (show (m140.2 117) = (m34.2 117) from ((fr2 Fm140 117 rfl).trans ((fr2 Fm114 117 rfl).trans ((fr2 Fm98 117 rfl).trans (fr2 Fm81 117 rfl))))), (show (m140.1 27) = (m81.1 27) from ((fr1 Fm140 27 rfl).trans ((fr1 Fm114 27 rfl).trans (fr1 Fm98 27 rfl))))]; assumption), (show x82 < (m140.1 27) by rewrite [(show (m140.1 27) = (m81.1 27) from ((fr1 Fm140 27 rfl).trans ((fr1 Fm114 27 rfl).trans (fr1 Fm98 27 rfl))))]; omega)⟩)) (fun rr147 k148 => ?_)
                              obtain ⟨m149, Tm149, Fm149, h150, h151, c152, rfl⟩ := k148
                              refine ⟨_, _, rfl, ?_⟩
                              refine T_nb (st' := []) rfl ?_
                              have g153 : 0 ≤ m149.1 7 ∧ m149.1 7 ≤ 330 := Tm149.1 7
                              have g154 : 0 ≤ m149.1 8 ∧ m149.1 8 ≤ 4000 := Tm149.1 8
                              have g155 : 0 ≤ m149.1 9 ∧ m149.1 9 ≤ 4000 := Tm149.1 9
                              have g156 : 0 ≤ m149.1 10 ∧ m149.1 10 ≤ 8 := Tm149.1 10
                              have g157 : (-1) ≤ m149.1 11 ∧ m149.1 11 ≤ 4000 := Tm149.1 11
                              have g158 : 0 ≤ m149.1 119 ∧ m149.1 119 ≤ 8 := Tm149.1 119
                              by_cases hf159 : (m149.1 10) = 0
                              · skip
                                replace h150 : (m140.1 10) = 0 := h150 hf159
                                replace h151 : LxP (m149.1 7) (m149.1 8) (m149.1 9) (m140.1 6) (m149.1 10) := h151
                                rewrite [(show (m140.1 6) = (m.1 6) from ((fr1 Fm140 6 rfl).trans ((fr1 Fm114 6 rfl).trans ((fr1 Fm98 6 rfl).trans ((fr1 Fm81 6 rfl).trans ((fr1 Fm34 6 rfl).trans ((fr1 Fm19 6 rfl).trans (fr1 Fm5 6 rfl))))))))] at h151
                                have hLx := h151
                                obtain ⟨c160, c161, c162⟩ := c152 hf159
                                replace c160 : (m140.1 8) + 1 ≤ (m149.1 8) := c160
                                rewrite [(show (m140.1 8) = (m114.1 8) from (fr1 Fm140 8 rfl))] at c160
                                replace c161 : (m149.1 119) = (m140.1 119) + 1 := c161
                                rewrite [(show (m140.1 119) = (m34.1 119) from ((fr1 Fm140 119 rfl).trans ((fr1 Fm114 119 rfl).trans ((fr1 Fm98 119 rfl).trans (fr1 Fm81 119 rfl)))))] at c161
                                replace c162 : ∀ j, 0 ≤ j → j < (m149.1 119) → (m149.2 117) j < (m140.1 27) := c162
                                rewrite [(show (m140.1 27) = (m81.1 27) from ((fr1 Fm140 27 rfl).trans ((fr1 Fm114 27 rfl).trans (fr1 Fm98 27 rfl))))] at c162
                                have hBK := c162
                                clear c152
                                have u163 : (m.1 8) + 1 ≤ (m149.1 8) := by omega
                                have hAgC : agr (m.2 65) (m114.2 65) (m.1 28) := by first | exact agr_r _ _ | exact hAgC | exact agr_t hAgC hAg (by omega)
                                refine T_goto 18 rfl (fun _ => rfl) ?_
                                refine Tm_lv (a := [(0, .ref 189)]) rfl rfl ⟨rfl, trivial⟩ ?_
                                exact ih40 (mO m149 [] []) Tm149 (fr_m (fr_s Fm149 (fr_m (fr_s Fm140 (fr_m (fr_s Fm114 (fr_m (fr_s Fm98 (fr_m (fr_s Fm81 (fr_m (fr_s Fm34 (fr_m fr_0 rfl rfl) rfl rfl) rfl rfl) rfl rfl) rfl rfl) rfl rfl) rfl rfl) rfl rfl) rfl rfl) rfl rfl) rfl rfl) rfl rfl) rfl rfl) (show LxP (m149.1 7) (m149.1 8) (m149.1 9) (m.1 6) (m149.1 10) by first | exact hLx | exact (fun _ => hLx (by omega)) | (intro h9; exfalso; omega)) (fun _ => ⟨(show (m.1 8) + 1 ≤ (m149.1 8) by omega), (show ∀ j, 0 ≤ j → j < (m149.1 119) → (m149.2 117) j < (m149.1 27) by rewrite [(show (m149.1 27) = (m81.1 27) from ((fr1 Fm149 27 rfl).trans ((fr1 Fm140 27 rfl).trans ((fr1 Fm114 27 rfl).trans (fr1 Fm98 27 rfl)))))]; exact hBK), (show CN (m149.2 65) (m149.2 67) (m149.1 28) by rewrite [(show (m149.2 65) = (m114.2 65) from ((fr2 Fm149 65 rfl).trans (fr2 Fm140 65 rfl))), (show (m149.2 67) = (m114.2 67) from ((fr2 Fm149 67 rfl).trans (fr2 Fm140 67 rfl))), (show (m149.1 28) = (m114.1 28) from ((fr1 Fm149 28 rfl).trans (fr1 Fm140 28 rfl)))]; exact hCN), (show (m.1 28) ≤ (m149.1 28) by rewrite [(show (m149.1 28) = (m114.1 28) from ((fr1 Fm149 28 rfl).trans (fr1 Fm140 28 rfl)))]; omega), (show agr (m.2 65) (m149.2 65) (m.1 28) by rewrite [(show (m149.2 65) = (m114.2 65) from ((fr2 Fm149 65 rfl).trans (fr2 Fm140 65 rfl)))]; exact hAgC), (show TdP (m149.2 65) (m149.1 28) (m.1 22) (m149.1 99) (m149.2 101) (m149.2 103) (m149.2 105) (m149.2 106) (m149.2 107) (m149.2 108) by rewrite [(show (m149.2 65) = (m114.2 65) from ((fr2 Fm149 65 rfl).trans (fr2 Fm140 65 rfl))), (show (m149.1 28) = (m114.1 28) from ((fr1 Fm149 28 rfl).trans (fr1 Fm140 28 rfl))), (show (m149.1 99) = (m34.1 99) from ((fr1 Fm149 99 rfl).trans ((fr1 Fm140 99 rfl).trans ((fr1 Fm114 99 rfl).trans ((fr1 Fm98 99 rfl).trans (fr1 Fm81 99 rfl)))))), (show (m149.2 101) = (m34.2 101) from ((fr2 Fm149 101 rfl).trans ((fr2 Fm140 101 rfl).trans ((fr2 Fm114 101 rfl).trans ((fr2 Fm98 101 rfl).trans (fr2 Fm81 101 rfl)))))), (show (m149.2 103) = (m34.2 103) from ((fr2 Fm149 103 rfl).trans ((fr2 Fm140 103 rfl).trans ((fr2 Fm114 103 rfl).trans ((fr2 Fm98 103 rfl).trans (fr2 Fm81 103 rfl)))))), (show (m149.2 105) = (m34.2 105) from ((fr2 Fm149 105 rfl).trans ((fr2 Fm140 105 rfl).trans ((fr2 Fm114 105 rfl).trans ((fr2 Fm98 105 rfl).trans (fr2 Fm81 105 rfl)))))), (show (m149.2 106) = (m34.2 106) from ((fr2 Fm149 106 rfl).trans ((fr2 Fm140 106 rfl).trans ((fr2 Fm114 106 rfl).trans ((fr2 Fm98 106 rfl).trans (fr2 Fm81 106 rfl)))))), (show (m149.2 107) = (m34.2 107) from ((fr2 Fm149 107 rfl).trans ((fr2 Fm140 107 rfl).trans ((fr2 Fm114 107 rfl).trans ((fr2 Fm98 107 rfl).trans (fr2 Fm81 107 rfl)))))), (show (m149.2 108) = (m34.2 108) from ((fr2 Fm149 108 rfl).trans ((fr2 Fm140 108 rfl).trans ((fr2 Fm114 108 rfl).trans ((fr2 Fm98 108 rfl).trans (fr2 Fm81 108 rfl))))))]; exact pTd), (show SpP (m149.2 65) (m149.1 28) (m149.1 99) (m.1 26) (m149.1 27) (m149.2 60) (m149.2 61) (m149.2 120) (m149.2 121) (m149.2 122) (m149.2 63) by rewrite [(show (m149.2 65) = (m114.2 65) from ((fr2 Fm149 65 rfl).trans (fr2 Fm140 65 rfl))), (show (m149.1 28) = (m114.1 28) from ((fr1 Fm149 28 rfl).trans (fr1 Fm140 28 rfl))), (show (m149.1 99) = (m34.1 99) from ((fr1 Fm149 99 rfl).trans ((fr1 Fm140 99 rfl).trans ((fr1 Fm114 99 rfl).trans ((fr1 Fm98 99 rfl).trans (fr1 Fm81 99 rfl)))))), (show (m149.1 27) = (m81.1 27) from ((fr1 Fm149 27 rfl).trans ((fr1 Fm140 27 rfl).trans ((fr1 Fm114 27 rfl).trans (fr1 Fm98 27 rfl))))), (show (m149.2 60) = (m81.2 60) from ((fr2 Fm149 60 rfl).trans ((fr2 Fm140 60 rfl).trans ((fr2 Fm114 60 rfl).trans (fr2 Fm98 60 rfl))))), (show (m149.2 61) = (m81.2 61) from ((fr2 Fm149 61 rfl).trans ((fr2 Fm140 61 rfl).trans ((fr2 Fm114 61 rfl).trans (fr2 Fm98 61 rfl))))), (show (m149.2 120) = (m34.2 120) from ((fr2 Fm149 120 rfl).trans ((fr2 Fm140 120 rfl).trans ((fr2 Fm114 120 rfl).trans ((fr2 Fm98 120 rfl).trans (fr2 Fm81 120 rfl)))))), (show (m149.2 121) = (upI (m34.2 121) x82 (m34.1 28)) from ((fr2 Fm149 121 rfl).trans ((fr2 Fm140 121 rfl).trans (fr2 Fm114 121 rfl)))), (show (m149.2 122) = (upI (m34.2 122) x82 (m114.1 28)) from ((fr2 Fm149 122 rfl).trans (fr2 Fm140 122 rfl))), (show (m149.2 63) = (m81.2 63) from ((fr2 Fm149 63 rfl).trans ((fr2 Fm140 63 rfl).trans ((fr2 Fm114 63 rfl).trans (fr2 Fm98 63 rfl)))))]; first | exact pSp | exact fun s s0 s1 => absurd s1 (by omega)), (show (m149.1 99) ≤ 192 + (m149.1 27) by rewrite [(show (m149.1 99) = (m34.1 99) from ((fr1 Fm149 99 rfl).trans ((fr1 Fm140 99 rfl).trans ((fr1 Fm114 99 rfl).trans ((fr1 Fm98 99 rfl).trans (fr1 Fm81 99 rfl)))))), (show (m149.1 27) = (m81.1 27) from ((fr1 Fm149 27 rfl).trans ((fr1 Fm140 27 rfl).trans ((fr1 Fm114 27 rfl).trans (fr1 Fm98 27 rfl)))))]; omega), (show (m.1 99) ≤ (m149.1 99) by rewrite [(show (m149.1 99) = (m34.1 99) from ((fr1 Fm149 99 rfl).trans ((fr1 Fm140 99 rfl).trans ((fr1 Fm114 99 rfl).trans ((fr1 Fm98 99 rfl).trans (fr1 Fm81 99 rfl))))))]; omega)⟩) (show 1000000 * (8 - (m149.1 10)) + (4000 - (m149.1 8)) < (n39 : Int) by omega)
                              · skip
                                clear c152
                                clear h150
                                replace h151 : LxP (m149.1 7) (m149.1 8) (m149.1 9) (m140.1 6) (m149.1 10) := h151
                                rewrite [(show (m140.1 6) = (m.1 6) from ((fr1 Fm140 6 rfl).trans ((fr1 Fm114 6 rfl).trans ((fr1 Fm98 6 rfl).trans ((fr1 Fm81 6 rfl).trans ((fr1 Fm34 6 rfl).trans ((fr1 Fm19 6 rfl).trans (fr1 Fm5 6 rfl))))))))] at h151
                                have hLx := h151
                                have hf164 : 1 ≤ (m149.1 10) := by omega
                                refine T_goto 18 rfl (fun _ => rfl) ?_
                                refine Tm_lv (a := [(0, .ref 189)]) rfl rfl ⟨rfl, trivial⟩ ?_
                                exact ih40 (mO m149 [] []) Tm149 (fr_m (fr_s Fm149 (fr_m (fr_s Fm140 (fr_m (fr_s Fm114 (fr_m (fr_s Fm98 (fr_m (fr_s Fm81 (fr_m (fr_s Fm34 (fr_m fr_0 rfl rfl) rfl rfl) rfl rfl) rfl rfl) rfl rfl) rfl rfl) rfl rfl) rfl rfl) rfl rfl) rfl rfl) rfl rfl) rfl rfl) rfl rfl) (show LxP (m149.1 7) (m149.1 8) (m149.1 9) (m.1 6) (m149.1 10) by first | exact hLx | exact (fun _ => hLx (by omega)) | (intro h9; exfalso; omega)) (fun (h : (m149.1 10) = 0) => absurd h (by omega)) (show 1000000 * (8 - (m149.1 10)) + (4000 - (m149.1 8)) < (n39 : Int) by omega)
                            · skip
                              clear c142
                              clear h141
                              have hf165 : 1 ≤ (m140.1 10) := by omega
                              refine T_ld 234 (.ref 189) rfl (fun _ => rfl) ?_
                              refine T_ld 235 (.int (i32 x82)) rfl (fun _ => rfl) ?_
                              refine T_ld 236 (.int (i32 1)) rfl (fun _ => rfl) ?_
                              refine T_call 239 280 [.ref 189, .int (i32 x82), .int (i32 1)] [] rfl (fun _ => rfl) rfl (c_openBlock w (mO m140 [] []) c N D (by omega) Tm140 x82 1 (r32 (by omega) (by omega)) ⟨by decide, by decide⟩ (show LxP (m140.1 7) (m140.1 8) (m140.1 9) (m140.1 6) (m140.1 10) by rewrite [(show (m140.1 7) = (m114.1 7) from (fr1 Fm140 7 rfl)), (show (m140.1 8) = (m114.1 8) from (fr1 Fm140 8 rfl)), (show (m140.1 9) = (m114.1 9) from (fr1 Fm140 9 rfl)), (show (m140.1 6) = (m.1 6) from ((fr1 Fm140 6 rfl).trans ((fr1 Fm114 6 rfl).trans ((fr1 Fm98 6 rfl).trans ((fr1 Fm81 6 rfl).trans ((fr1 Fm34 6 rfl).trans ((fr1 Fm19 6 rfl).trans (fr1 Fm5 6 rfl))))))))]; first | exact hLx | exact (fun _ => hLx (by omega)) | (intro h9; exfalso; omega)) (show (-1) ≤ x82 ∧ x82 ≤ 47 by omega) (show (-1) ≤ (1 : Int) ∧ (1 : Int) ≤ 1 by omega) (fun (h : (m140.1 10) = 0) => absurd h (by omega))) (fun rr166 k167 => ?_)
                              obtain ⟨m168, Tm168, Fm168, h169, h170, c171, rfl⟩ := k167
                              refine ⟨_, _, rfl, ?_⟩
                              refine T_nb (st' := []) rfl ?_
                              have g172 : 0 ≤ m168.1 7 ∧ m168.1 7 ≤ 330 := Tm168.1 7
                              have g173 : 0 ≤ m168.1 8 ∧ m168.1 8 ≤ 4000 := Tm168.1 8
                              have g174 : 0 ≤ m168.1 9 ∧ m168.1 9 ≤ 4000 := Tm168.1 9
                              have g175 : 0 ≤ m168.1 10 ∧ m168.1 10 ≤ 8 := Tm168.1 10
                              have g176 : (-1) ≤ m168.1 11 ∧ m168.1 11 ≤ 4000 := Tm168.1 11
                              have g177 : 0 ≤ m168.1 119 ∧ m168.1 119 ≤ 8 := Tm168.1 119
                              replace h169 : (m168.1 10) = 0 → (m140.1 10) = 0 := h169
                              replace h170 : LxP (m168.1 7) (m168.1 8) (m168.1 9) (m140.1 6) (m168.1 10) := h170
                              rewrite [(show (m140.1 6) = (m.1 6) from ((fr1 Fm140 6 rfl).trans ((fr1 Fm114 6 rfl).trans ((fr1 Fm98 6 rfl).trans ((fr1 Fm81 6 rfl).trans ((fr1 Fm34 6 rfl).trans ((fr1 Fm19 6 rfl).trans (fr1 Fm5 6 rfl))))))))] at h170
                              have hf178 : 1 ≤ (m168.1 10) := by omega
                              clear c171
                              clear h169
                              have hLx := h170
                              refine T_goto 18 rfl (fun _ => rfl) ?_
                              refine Tm_lv (a := [(0, .ref 189)]) rfl rfl ⟨rfl, trivial⟩ ?_
                              exact ih40 (mO m168 [] []) Tm168 (fr_m (fr_s Fm168 (fr_m (fr_s Fm140 (fr_m (fr_s Fm114 (fr_m (fr_s Fm98 (fr_m (fr_s Fm81 (fr_m (fr_s Fm34 (fr_m fr_0 rfl rfl) rfl rfl) rfl rfl) rfl rfl) rfl rfl) rfl rfl) rfl rfl) rfl rfl) rfl rfl) rfl rfl) rfl rfl) rfl rfl) rfl rfl) (show LxP (m168.1 7) (m168.1 8) (m168.1 9) (m.1 6) (m168.1 10) by first | exact hLx | exact (fun _ => hLx (by omega)) | (intro h9; exfalso; omega)) (fun (h : (m168.1 10) = 0) => absurd h (by omega)) (show 1000000 * (8 - (m168.1 10)) + (4000 - (m168.1 8)) < (n39 : Int) by omega)
                          · skip
                            clear c117
                            clear h115
                            replace h116 : LxP (m114.1 7) (m114.1 8) (m114.1 9) (m98.1 6) (m114.1 10) := h116
                            rewrite [(show (m98.1 6) = (m.1 6) from ((fr1 Fm98 6 rfl).trans ((fr1 Fm81 6 rfl).trans ((fr1 Fm34 6 rfl).trans ((fr1 Fm19 6 rfl).trans (fr1 Fm5 6 rfl))))))] at h116
                            have hLx := h116
                            have hf179 : 1 ≤ (m114.1 10) := by omega
                            refine T_gf 200 (.ref 281) rfl rfl rfl rfl rfl rfl ?_
                            refine T_ld 201 (.int (i32 x82)) rfl (fun _ => rfl) ?_
                            refine T_gf 205 (.int (i32 (m114.1 28))) rfl rfl rfl rfl rfl rfl ?_
                            have G180 : ∀ j, 0 ≤ (upI (m34.2 122) x82 (m114.1 28)) j ∧ (upI (m34.2 122) x82 (m114.1 28)) j ≤ 800 := upI_rg (Tm34.2.1 122) ⟨by omega, by omega⟩
                            refine T_iast (a' := [(122, upI (m34.2 122) x82 (m114.1 28))]) 206 122 (m34.2 122) rfl rfl rfl (by omega) (show x82 < (48 : Int) by omega) (show (m114.2 122) = (m34.2 122) from ((fr2 Fm114 122 rfl).trans ((fr2 Fm98 122 rfl).trans (fr2 Fm81 122 rfl)))) rfl ?_
                            refine T_gf 210 (.int (i32 (m114.1 10))) rfl rfl rfl rfl rfl rfl ?_
                            refine T_if 233 213 rfl rfl rfl (r32 (by omega) (by omega)) (fun (h181 : (m114.1 10) ≠ 0) => ?_) (fun (h181 : ¬ ((m114.1 10) ≠ 0)) => by exfalso; omega)
                            refine T_ld 234 (.ref 189) rfl (fun _ => rfl) ?_
                            refine T_ld 235 (.int (i32 x82)) rfl (fun _ => rfl) ?_
                            refine T_ld 236 (.int (i32 1)) rfl (fun _ => rfl) ?_
                            refine T_call 239 280 [.ref 189, .int (i32 x82), .int (i32 1)] [] rfl (fun _ => rfl) rfl (c_openBlock w (mO m114 [] [(122, upI (m34.2 122) x82 (m114.1 28))]) c N D (by omega) (Ty_mO Tm114 rfl rfl trivial ⟨G180, trivial⟩) x82 1 (r32 (by omega) (by omega)) ⟨by decide, by decide⟩ (show LxP (m114.1 7) (m114.1 8) (m114.1 9) (m114.1 6) (m114.1 10) by rewrite [(show (m114.1 6) = (m.1 6) from ((fr1 Fm114 6 rfl).trans ((fr1 Fm98 6 rfl).trans ((fr1 Fm81 6 rfl).trans ((fr1 Fm34 6 rfl).trans ((fr1 Fm19 6 rfl).trans (fr1 Fm5 6 rfl)))))))]; first | exact hLx | exact (fun _ => hLx (by omega)) | (intro h9; exfalso; omega)) (show (-1) ≤ x82 ∧ x82 ≤ 47 by omega) (show (-1) ≤ (1 : Int) ∧ (1 : Int) ≤ 1 by omega) (fun (h : (m114.1 10) = 0) => absurd h (by omega))) (fun rr182 k183 => ?_)
                            obtain ⟨m184, Tm184, Fm184, h185, h186, c187, rfl⟩ := k183
                            refine ⟨_, _, rfl, ?_⟩
                            refine T_nb (st' := []) rfl ?_
                            have g188 : 0 ≤ m184.1 7 ∧ m184.1 7 ≤ 330 := Tm184.1 7
                            have g189 : 0 ≤ m184.1 8 ∧ m184.1 8 ≤ 4000 := Tm184.1 8
                            have g190 : 0 ≤ m184.1 9 ∧ m184.1 9 ≤ 4000 := Tm184.1 9
                            have g191 : 0 ≤ m184.1 10 ∧ m184.1 10 ≤ 8 := Tm184.1 10
                            have g192 : (-1) ≤ m184.1 11 ∧ m184.1 11 ≤ 4000 := Tm184.1 11
                            have g193 : 0 ≤ m184.1 119 ∧ m184.1 119 ≤ 8 := Tm184.1 119
                            replace h185 : (m184.1 10) = 0 → (m114.1 10) = 0 := h185
                            replace h186 : LxP (m184.1 7) (m184.1 8) (m184.1 9) (m114.1 6) (m184.1 10) := h186
                            rewrite [(show (m114.1 6) = (m.1 6) from ((fr1 Fm114 6 rfl).trans ((fr1 Fm98 6 rfl).trans ((fr1 Fm81 6 rfl).trans ((fr1 Fm34 6 rfl).trans ((fr1 Fm19 6 rfl).trans (fr1 Fm5 6 rfl)))))))] at h186
                            have hf194 : 1 ≤ (m184.1 10) := by omega
                            clear c187
                            clear h185
                            have hLx := h186
                            refine T_goto 18 rfl (fun _ => rfl) ?_
                            refine Tm_lv (a := [(0, .ref 189)]) rfl rfl ⟨rfl, trivial⟩ ?_
                            exact ih40 (mO m184 [] []) Tm184 (fr_m (fr_s Fm184 (fr_m (fr_s Fm114 (fr_m (fr_s Fm98 (fr_m (fr_s Fm81 (fr_m (fr_s Fm34 (fr_m fr_0 rfl rfl) rfl rfl) rfl rfl) rfl rfl) rfl rfl) rfl rfl) rfl rfl) rfl rfl) rfl rfl) rfl rfl) rfl rfl) (show LxP (m184.1 7) (m184.1 8) (m184.1 9) (m.1 6) (m184.1 10) by first | exact hLx | exact (fun _ => hLx (by omega)) | (intro h9; exfalso; omega)) (fun (h : (m184.1 10) = 0) => absurd h (by omega)) (show 1000000 * (8 - (m184.1 10)) + (4000 - (m184.1 8)) < (n39 : Int) by omega)
                        · skip
                          replace h99 : LxP (m98.1 7) (m98.1 8) (m98.1 9) (m81.1 6) (m98.1 10) := h99
                          rewrite [(show (m81.1 6) = (m.1 6) from ((fr1 Fm81 6 rfl).trans ((fr1 Fm34 6 rfl).trans ((fr1 Fm19 6 rfl).trans (fr1 Fm5 6 rfl)))))] at h99
                          have hLx := h99
                          clear h100
                          replace h101 : (m81.1 8) ≤ (m98.1 8) := h101
                          rewrite [(show (m81.1 8) = (m34.1 8) from (fr1 Fm81 8 rfl))] at h101
                          clear h102
                          have hf195 : 1 ≤ (m98.1 10) := by omega
                          refine T_gf 179 (.ref 280) rfl rfl rfl rfl rfl rfl ?_
                          refine T_ld 180 (.int (i32 x82)) rfl (fun _ => rfl) ?_
                          refine T_gf 184 (.int (i32 (m34.1 28))) rfl rfl rfl rfl (mfv_c (F := fun x => .int (i32 x)) rfl (show (m98.1 28) = (m34.1 28) from ((fr1 Fm98 28 rfl).trans (fr1 Fm81 28 rfl)))) rfl ?_
                          have G196 : ∀ j, 0 ≤ (upI (m34.2 121) x82 (m34.1 28)) j ∧ (upI (m34.2 121) x82 (m34.1 28)) j ≤ 800 := upI_rg (Tm34.2.1 121) ⟨by omega, by omega⟩
                          refine T_iast (a' := [(121, upI (m34.2 121) x82 (m34.1 28))]) 185 121 (m34.2 121) rfl rfl rfl (by omega) (show x82 < (48 : Int) by omega) (show (m98.2 121) = (m34.2 121) from ((fr2 Fm98 121 rfl).trans (fr2 Fm81 121 rfl))) rfl ?_
                          refine T_gf 189 (.int (i32 (m98.1 10))) rfl rfl rfl rfl rfl rfl ?_
                          refine T_if 196 192 rfl rfl rfl (r32 (by omega) (by omega)) (fun (h197 : (m98.1 10) ≠ 0) => ?_) (fun (h197 : ¬ ((m98.1 10) ≠ 0)) => by exfalso; omega)
                          refine T_gf 200 (.ref 281) rfl rfl rfl rfl rfl rfl ?_
                          refine T_ld 201 (.int (i32 x82)) rfl (fun _ => rfl) ?_
                          refine T_gf 205 (.int (i32 (m34.1 28))) rfl rfl rfl rfl (mfv_c (F := fun x => .int (i32 x)) rfl (show (m98.1 28) = (m34.1 28) from ((fr1 Fm98 28 rfl).trans (fr1 Fm81 28 rfl)))) rfl ?_
                          have G198 : ∀ j, 0 ≤ (upI (m34.2 122) x82 (m34.1 28)) j ∧ (upI (m34.2 122) x82 (m34.1 28)) j ≤ 800 := upI_rg (Tm34.2.1 122) ⟨by omega, by omega⟩
                          refine T_iast (a' := [(121, upI (m34.2 121) x82 (m34.1 28)), (122, upI (m34.2 122) x82 (m34.1 28))]) 206 122 (m34.2 122) rfl rfl rfl (by omega) (show x82 < (48 : Int) by omega) (show (m98.2 122) = (m34.2 122) from ((fr2 Fm98 122 rfl).trans (fr2 Fm81 122 rfl))) rfl ?_
                          refine T_gf 210 (.int (i32 (m98.1 10))) rfl rfl rfl rfl rfl rfl ?_
                          refine T_if 233 213 rfl rfl rfl (r32 (by omega) (by omega)) (fun (h199 : (m98.1 10) ≠ 0) => ?_) (fun (h199 : ¬ ((m98.1 10) ≠ 0)) => by exfalso; omega)
                          refine T_ld 234 (.ref 189) rfl (fun _ => rfl) ?_
                          refine T_ld 235 (.int (i32 x82)) rfl (fun _ => rfl) ?_
                          refine T_ld 236 (.int (i32 1)) rfl (fun _ => rfl) ?_
                          refine T_call 239 280 [.ref 189, .int (i32 x82), .int (i32 1)] [] rfl (fun _ => rfl) rfl (c_openBlock w (mO m98 [] [(121, upI (m34.2 121) x82 (m34.1 28)), (122, upI (m34.2 122) x82 (m34.1 28))]) c N D (by omega) (Ty_mO Tm98 rfl rfl trivial ⟨G196, G198, trivial⟩) x82 1 (r32 (by omega) (by omega)) ⟨by decide, by decide⟩ (show LxP (m98.1 7) (m98.1 8) (m98.1 9) (m98.1 6) (m98.1 10) by rewrite [(show (m98.1 6) = (m.1 6) from ((fr1 Fm98 6 rfl).trans ((fr1 Fm81 6 rfl).trans ((fr1 Fm34 6 rfl).trans ((fr1 Fm19 6 rfl).trans (fr1 Fm5 6 rfl))))))]; first | exact hLx | exact (fun _ => hLx (by omega)) | (intro h9; exfalso; omega)) (show (-1) ≤ x82 ∧ x82 ≤ 47 by omega) (show (-1) ≤ (1 : Int) ∧ (1 : Int) ≤ 1 by omega) (fun (h : (m98.1 10) = 0) => absurd h (by omega))) (fun rr200 k201 => ?_)
                          obtain ⟨m202, Tm202, Fm202, h203, h204, c205, rfl⟩ := k201
                          refine ⟨_, _, rfl, ?_⟩
                          refine T_nb (st' := []) rfl ?_
                          have g206 : 0 ≤ m202.1 7 ∧ m202.1 7 ≤ 330 := Tm202.1 7
                          have g207 : 0 ≤ m202.1 8 ∧ m202.1 8 ≤ 4000 := Tm202.1 8
                          have g208 : 0 ≤ m202.1 9 ∧ m202.1 9 ≤ 4000 := Tm202.1 9
                          have g209 : 0 ≤ m202.1 10 ∧ m202.1 10 ≤ 8 := Tm202.1 10
                          have g210 : (-1) ≤ m202.1 11 ∧ m202.1 11 ≤ 4000 := Tm202.1 11
                          have g211 : 0 ≤ m202.1 119 ∧ m202.1 119 ≤ 8 := Tm202.1 119
                          replace h203 : (m202.1 10) = 0 → (m98.1 10) = 0 := h203
                          replace h204 : LxP (m202.1 7) (m202.1 8) (m202.1 9) (m98.1 6) (m202.1 10) := h204
                          rewrite [(show (m98.1 6) = (m.1 6) from ((fr1 Fm98 6 rfl).trans ((fr1 Fm81 6 rfl).trans ((fr1 Fm34 6 rfl).trans ((fr1 Fm19 6 rfl).trans (fr1 Fm5 6 rfl))))))] at h204
                          have hf212 : 1 ≤ (m202.1 10) := by omega
                          clear c205
                          clear h203
                          have hLx := h204
                          refine T_goto 18 rfl (fun _ => rfl) ?_
                          refine Tm_lv (a := [(0, .ref 189)]) rfl rfl ⟨rfl, trivial⟩ ?_
                          exact ih40 (mO m202 [] []) Tm202 (fr_m (fr_s Fm202 (fr_m (fr_s Fm98 (fr_m (fr_s Fm81 (fr_m (fr_s Fm34 (fr_m fr_0 rfl rfl) rfl rfl) rfl rfl) rfl rfl) rfl rfl) rfl rfl) rfl rfl) rfl rfl) rfl rfl) (show LxP (m202.1 7) (m202.1 8) (m202.1 9) (m.1 6) (m202.1 10) by first | exact hLx | exact (fun _ => hLx (by omega)) | (intro h9; exfalso; omega)) (fun (h : (m202.1 10) = 0) => absurd h (by omega)) (show 1000000 * (8 - (m202.1 10)) + (4000 - (m202.1 8)) < (n39 : Int) by omega)
                      · skip
                        clear c85
                        clear h84
                        have hf213 : 1 ≤ (m81.1 10) := by omega
                        refine T_sto 171 [(1, .int (i32 x82)), (0, .ref 189)] rfl (fun _ => rfl) ?_
                        refine T_ld 172 (.ref 189) rfl (fun _ => rfl) ?_
                        refine T_call 175 212 [.ref 189] [] rfl (fun _ => rfl) rfl (d_next w (mO m81 [] []) c N D (by omega) Tm81 (show (m81.1 10) = 0 → (m81.1 8) + (m81.1 9) ≤ (m81.1 6) by rewrite [(show (m81.1 8) = (m34.1 8) from (fr1 Fm81 8 rfl)), (show (m81.1 9) = (m34.1 9) from (fr1 Fm81 9 rfl)), (show (m81.1 6) = (m.1 6) from ((fr1 Fm81 6 rfl).trans ((fr1 Fm34 6 rfl).trans ((fr1 Fm19 6 rfl).trans (fr1 Fm5 6 rfl)))))]; first | omega | (intro h9; have h8 := hLx h9; omega))) (fun rr214 k215 => ?_)
                        obtain ⟨m216, Tm216, Fm216, h217, h218, h219, h220, rfl⟩ := k215
                        refine ⟨_, _, rfl, ?_⟩
                        refine T_nb (st' := []) rfl ?_
                        have g221 : 0 ≤ m216.1 7 ∧ m216.1 7 ≤ 330 := Tm216.1 7
                        have g222 : 0 ≤ m216.1 8 ∧ m216.1 8 ≤ 4000 := Tm216.1 8
                        have g223 : 0 ≤ m216.1 9 ∧ m216.1 9 ≤ 4000 := Tm216.1 9
                        have g224 : 0 ≤ m216.1 10 ∧ m216.1 10 ≤ 8 := Tm216.1 10
                        have g225 : (-1) ≤ m216.1 11 ∧ m216.1 11 ≤ 4000 := Tm216.1 11
                        replace h217 : LxP (m216.1 7) (m216.1 8) (m216.1 9) (m81.1 6) (m216.1 10) := h217
                        rewrite [(show (m81.1 6) = (m.1 6) from ((fr1 Fm81 6 rfl).trans ((fr1 Fm34 6 rfl).trans ((fr1 Fm19 6 rfl).trans (fr1 Fm5 6 rfl)))))] at h217
                        replace h218 : (m216.1 10) = 0 → (m81.1 10) = 0 := h218
                        replace h219 : (m81.1 8) ≤ (m216.1 8) := h219
                        rewrite [(show (m81.1 8) = (m34.1 8) from (fr1 Fm81 8 rfl))] at h219
                        replace h220 : (m216.1 10) = 0 → (m81.1 8) + (m81.1 9) ≤ (m216.1 8) := h220
                        rewrite [(show (m81.1 8) = (m34.1 8) from (fr1 Fm81 8 rfl)), (show (m81.1 9) = (m34.1 9) from (fr1 Fm81 9 rfl))] at h220
                        have hf226 : 1 ≤ (m216.1 10) := by omega
                        clear h218
                        clear h220
                        have hLx := h217
                        refine T_gf 179 (.ref 280) rfl rfl rfl rfl rfl rfl ?_
                        refine T_ld 180 (.int (i32 x82)) rfl (fun _ => rfl) ?_
                        refine T_gf 184 (.int (i32 (m34.1 28))) rfl rfl rfl rfl (mfv_c (F := fun x => .int (i32 x)) rfl (show (m216.1 28) = (m34.1 28) from ((fr1 Fm216 28 rfl).trans (fr1 Fm81 28 rfl)))) rfl ?_
                        have G227 : ∀ j, 0 ≤ (upI (m34.2 121) x82 (m34.1 28)) j ∧ (upI (m34.2 121) x82 (m34.1 28)) j ≤ 800 := upI_rg (Tm34.2.1 121) ⟨by omega, by omega⟩
                        refine T_iast (a' := [(121, upI (m34.2 121) x82 (m34.1 28))]) 185 121 (m34.2 121) rfl rfl rfl (by omega) (show x82 < (48 : Int) by omega) (show (m216.2 121) = (m34.2 121) from ((fr2 Fm216 121 rfl).trans (fr2 Fm81 121 rfl))) rfl ?_
                        refine T_gf 189 (.int (i32 (m216.1 10))) rfl rfl rfl rfl rfl rfl ?_
                        refine T_if 196 192 rfl rfl rfl (r32 (by omega) (by omega)) (fun (h228 : (m216.1 10) ≠ 0) => ?_) (fun (h228 : ¬ ((m216.1 10) ≠ 0)) => by exfalso; omega)
                        refine T_gf 200 (.ref 281) rfl rfl rfl rfl rfl rfl ?_
                        refine T_ld 201 (.int (i32 x82)) rfl (fun _ => rfl) ?_
                        refine T_gf 205 (.int (i32 (m34.1 28))) rfl rfl rfl rfl (mfv_c (F := fun x => .int (i32 x)) rfl (show (m216.1 28) = (m34.1 28) from ((fr1 Fm216 28 rfl).trans (fr1 Fm81 28 rfl)))) rfl ?_
                        have G229 : ∀ j, 0 ≤ (upI (m34.2 122) x82 (m34.1 28)) j ∧ (upI (m34.2 122) x82 (m34.1 28)) j ≤ 800 := upI_rg (Tm34.2.1 122) ⟨by omega, by omega⟩
                        refine T_iast (a' := [(121, upI (m34.2 121) x82 (m34.1 28)), (122, upI (m34.2 122) x82 (m34.1 28))]) 206 122 (m34.2 122) rfl rfl rfl (by omega) (show x82 < (48 : Int) by omega) (show (m216.2 122) = (m34.2 122) from ((fr2 Fm216 122 rfl).trans (fr2 Fm81 122 rfl))) rfl ?_
                        refine T_gf 210 (.int (i32 (m216.1 10))) rfl rfl rfl rfl rfl rfl ?_
                        refine T_if 233 213 rfl rfl rfl (r32 (by omega) (by omega)) (fun (h230 : (m216.1 10) ≠ 0) => ?_) (fun (h230 : ¬ ((m216.1 10) ≠ 0)) => by exfalso; omega)
                        refine T_ld 234 (.ref 189) rfl (fun _ => rfl) ?_
                        refine T_ld 235 (.int (i32 x82)) rfl (fun _ => rfl) ?_
                        refine T_ld 236 (.int (i32 1)) rfl (fun _ => rfl) ?_
                        refine T_call 239 280 [.ref 189, .int (i32 x82), .int (i32 1)] [] rfl (fun _ => rfl) rfl (c_openBlock w (mO m216 [] [(121, upI (m34.2 121) x82 (m34.1 28)), (122, upI (m34.2 122) x82 (m34.1 28))]) c N D (by omega) (Ty_mO Tm216 rfl rfl trivial ⟨G227, G229, trivial⟩) x82 1 (r32 (by omega) (by omega)) ⟨by decide, by decide⟩ (show LxP (m216.1 7) (m216.1 8) (m216.1 9) (m216.1 6) (m216.1 10) by rewrite [(show (m216.1 6) = (m.1 6) from ((fr1 Fm216 6 rfl).trans ((fr1 Fm81 6 rfl).trans ((fr1 Fm34 6 rfl).trans ((fr1 Fm19 6 rfl).trans (fr1 Fm5 6 rfl))))))]; first | exact hLx | exact (fun _ => hLx (by omega)) | (intro h9; exfalso; omega)) (show (-1) ≤ x82 ∧ x82 ≤ 47 by omega) (show (-1) ≤ (1 : Int) ∧ (1 : Int) ≤ 1 by omega) (fun (h : (m216.1 10) = 0) => absurd h (by omega))) (fun rr231 k232 => ?_)
                        obtain ⟨m233, Tm233, Fm233, h234, h235, c236, rfl⟩ := k232
                        refine ⟨_, _, rfl, ?_⟩
                        refine T_nb (st' := []) rfl ?_
                        have g237 : 0 ≤ m233.1 7 ∧ m233.1 7 ≤ 330 := Tm233.1 7
                        have g238 : 0 ≤ m233.1 8 ∧ m233.1 8 ≤ 4000 := Tm233.1 8
                        have g239 : 0 ≤ m233.1 9 ∧ m233.1 9 ≤ 4000 := Tm233.1 9
                        have g240 : 0 ≤ m233.1 10 ∧ m233.1 10 ≤ 8 := Tm233.1 10
                        have g241 : (-1) ≤ m233.1 11 ∧ m233.1 11 ≤ 4000 := Tm233.1 11
                        have g242 : 0 ≤ m233.1 119 ∧ m233.1 119 ≤ 8 := Tm233.1 119
                        replace h234 : (m233.1 10) = 0 → (m216.1 10) = 0 := h234
                        replace h235 : LxP (m233.1 7) (m233.1 8) (m233.1 9) (m216.1 6) (m233.1 10) := h235
                        rewrite [(show (m216.1 6) = (m.1 6) from ((fr1 Fm216 6 rfl).trans ((fr1 Fm81 6 rfl).trans ((fr1 Fm34 6 rfl).trans ((fr1 Fm19 6 rfl).trans (fr1 Fm5 6 rfl))))))] at h235
                        have hf243 : 1 ≤ (m233.1 10) := by omega
                        clear c236
                        clear h234
                        have hLx := h235
                        refine T_goto 18 rfl (fun _ => rfl) ?_
                        refine Tm_lv (a := [(0, .ref 189)]) rfl rfl ⟨rfl, trivial⟩ ?_
                        exact ih40 (mO m233 [] []) Tm233 (fr_m (fr_s Fm233 (fr_m (fr_s Fm216 (fr_m (fr_s Fm81 (fr_m (fr_s Fm34 (fr_m fr_0 rfl rfl) rfl rfl) rfl rfl) rfl rfl) rfl rfl) rfl rfl) rfl rfl) rfl rfl) rfl rfl) (show LxP (m233.1 7) (m233.1 8) (m233.1 9) (m.1 6) (m233.1 10) by first | exact hLx | exact (fun _ => hLx (by omega)) | (intro h9; exfalso; omega)) (fun (h : (m233.1 10) = 0) => absurd h (by omega)) (show 1000000 * (8 - (m233.1 10)) + (4000 - (m233.1 8)) < (n39 : Int) by omega)
                  · skip
                    refine T_ld 80 (.ref 189) rfl (fun _ => rfl) ?_
                    refine T_ld 81 (.int (i32 2)) rfl (fun _ => rfl) ?_
                    refine T_call 84 281 [.ref 189, .int (i32 2)] [] rfl (fun _ => rfl) rfl (c_newStep w (mO m34 [] []) c N D (by omega) Tm34 2 ⟨by decide, by decide⟩ (show 0 ≤ (2 : Int) ∧ (2 : Int) ≤ 2 by omega) (show 1 ≤ (m34.1 119) by omega) (show (m34.1 10) = 0 by omega) (show ∀ j, 0 ≤ j → j < (m34.1 119) → (m34.2 117) j < (m34.1 27) by assumption)) (fun rr244 k245 => ?_)
                    obtain ⟨m246, x247, Tm246, Fm246, g248, h249, c250, rfl⟩ := k245
                    refine ⟨_, _, rfl, ?_⟩
                    refine T_nb (st' := [.int (i32 x247)]) rfl ?_
                    obtain ⟨g248a, g248b⟩ := g248
                    have g251 : 0 ≤ m246.1 10 ∧ m246.1 10 ≤ 8 := Tm246.1 10
                    have g252 : (-1) ≤ m246.1 11 ∧ m246.1 11 ≤ 4000 := Tm246.1 11
                    have g253 : 0 ≤ m246.1 27 ∧ m246.1 27 ≤ 48 := Tm246.1 27
                    by_cases hf254 : (m246.1 10) = 0
                    · skip
                      replace h249 : (m34.1 10) = 0 := h249 hf254
                      obtain ⟨c255, c256, c257, c258, c259⟩ := c250 hf254
                      replace c255 : x247 = (m34.1 27) := c255
                      have hS9 := c255
                      replace c256 : (m246.1 27) = (m34.1 27) + 1 := c256
                      have hS0 := c256
                      replace c257 : (m246.2 60) = upI (m34.2 60) (m34.1 27) (2 : Int) := c257
                      have hS1 := c257
                      replace c258 : (m246.2 61) = upI (m34.2 61) (m34.1 27) ((m34.2 117) ((m34.1 119) - 1)) := c258
                      have hS2 := c258
                      replace c259 : (m246.2 63) = upI (m34.2 63) (m34.1 27) (-1) := c259
                      have hS3 := c259
                      clear c250
                      have u260 : (m.1 8) + 1 ≤ (m34.1 8) := by omega
                      have hAgC : agr (m.2 65) (m34.2 65) (m.1 28) := by first | exact agr_r _ _ | exact hAgC | exact agr_t hAgC hAg (by omega)
                      refine T_sto 85 [(1, .int (i32 x247)), (0, .ref 189)] rfl (fun _ => rfl) ?_
                      refine T_ld 86 (.ref 189) rfl (fun _ => rfl) ?_
                      refine T_call 89 212 [.ref 189] [] rfl (fun _ => rfl) rfl (d_next w (mO m246 [] []) c N D (by omega) Tm246 (show (m246.1 10) = 0 → (m246.1 8) + (m246.1 9) ≤ (m246.1 6) by rewrite [(show (m246.1 8) = (m34.1 8) from (fr1 Fm246 8 rfl)), (show (m246.1 9) = (m34.1 9) from (fr1 Fm246 9 rfl)), (show (m246.1 6) = (m.1 6) from ((fr1 Fm246 6 rfl).trans ((fr1 Fm34 6 rfl).trans ((fr1 Fm19 6 rfl).trans (fr1 Fm5 6 rfl)))))]; first | omega | (intro h9; have h8 := hLx h9; omega))) (fun rr261 k262 => ?_)
                      obtain ⟨m263, Tm263, Fm263, h264, h265, h266, h267, rfl⟩ := k262
                      refine ⟨_, _, rfl, ?_⟩
                      refine T_nb (st' := []) rfl ?_
                      have g268 : 0 ≤ m263.1 7 ∧ m263.1 7 ≤ 330 := Tm263.1 7
                      have g269 : 0 ≤ m263.1 8 ∧ m263.1 8 ≤ 4000 := Tm263.1 8
                      have g270 : 0 ≤ m263.1 9 ∧ m263.1 9 ≤ 4000 := Tm263.1 9
                      have g271 : 0 ≤ m263.1 10 ∧ m263.1 10 ≤ 8 := Tm263.1 10
                      have g272 : (-1) ≤ m263.1 11 ∧ m263.1 11 ≤ 4000 := Tm263.1 11
                      by_cases hf273 : (m263.1 10) = 0
                      · skip
                        replace h264 : LxP (m263.1 7) (m263.1 8) (m263.1 9) (m246.1 6) (m263.1 10) := h264
                        rewrite [(show (m246.1 6) = (m.1 6) from ((fr1 Fm246 6 rfl).trans ((fr1 Fm34 6 rfl).trans ((fr1 Fm19 6 rfl).trans (fr1 Fm5 6 rfl)))))] at h264
                        have hLx := h264
                        replace h265 : (m246.1 10) = 0 := h265 hf273
                        replace h266 : (m246.1 8) ≤ (m263.1 8) := h266
                        rewrite [(show (m246.1 8) = (m34.1 8) from (fr1 Fm246 8 rfl))] at h266
                        replace h267 : (m246.1 8) + (m246.1 9) ≤ (m263.1 8) := h267 hf273
                        rewrite [(show (m246.1 8) = (m34.1 8) from (fr1 Fm246 8 rfl)), (show (m246.1 9) = (m34.1 9) from (fr1 Fm246 9 rfl))] at h267
                        have u274 : (m.1 8) + 1 ≤ (m263.1 8) := by omega
                        have hAgC : agr (m.2 65) (m34.2 65) (m.1 28) := by first | exact agr_r _ _ | exact hAgC | exact agr_t hAgC hAg (by omega)
                        refine T_gf 93 (.int (i32 (m263.1 8))) rfl rfl rfl rfl rfl rfl ?_
                        refine T_sto 94 [(2, .int (i32 (m263.1 8))), (1, .int (i32 x247)), (0, .ref 189)] rfl (fun _ => rfl) ?_
                        refine T_ld 95 (.ref 189) rfl (fun _ => rfl) ?_
                        refine T_ld 97 (.int (i32 7)) rfl (fun _ => rfl) ?_
                        have hOL : (m263.1 10) = 0 → ∀ k, 0 ≤ k → k < (m.1 13) → (m.2 16) k = 7 → 0 ≤ (m.2 17) k ∧ (m.2 17) k < (m.1 26) := fun _ k h1 h2 h3 => by
                          have h4 := PNl_7 pPN k h1 h2 h3
                          omega
                        refine T_call 100 236 [.ref 189, .int (i32 7)] [] rfl (fun _ => rfl) rfl (d_oldName w (mO m263 [] []) c N D (by omega) Tm263 7 (m.1 26) ⟨by decide, by decide⟩ (show LxP (m263.1 7) (m263.1 8) (m263.1 9) (m263.1 6) (m263.1 10) by rewrite [(show (m263.1 6) = (m.1 6) from ((fr1 Fm263 6 rfl).trans ((fr1 Fm246 6 rfl).trans ((fr1 Fm34 6 rfl).trans ((fr1 Fm19 6 rfl).trans (fr1 Fm5 6 rfl))))))]; first | exact hLx | (intro h9; exfalso; omega) | (intro h9; have h8 := hLx (by omega); omega)) (show ∀ k, (m263.2 14) k + (m263.2 15) k ≤ 4000 by rewrite [(show (m263.2 14) = (m.2 14) from ((fr2 Fm263 14 rfl).trans ((fr2 Fm246 14 rfl).trans ((fr2 Fm34 14 rfl).trans ((fr2 Fm19 14 rfl).trans (fr2 Fm5 14 rfl)))))), (show (m263.2 15) = (m.2 15) from ((fr2 Fm263 15 rfl).trans ((fr2 Fm246 15 rfl).trans ((fr2 Fm34 15 rfl).trans ((fr2 Fm19 15 rfl).trans (fr2 Fm5 15 rfl))))))]; first | exact p1 | exact hNM) (show 1 ≤ (7 : Int) ∧ (7 : Int) ≤ 7 ∧ (7 : Int) ≠ 5 by omega) (show (m.1 26) ≤ 16 by omega) (show (m263.1 10) = 0 → ∀ k, 0 ≤ k → k < (m263.1 13) → (m263.2 16) k = (7 : Int) → 0 ≤ (m263.2 17) k ∧ (m263.2 17) k < (m.1 26) by rewrite [(show (m263.1 13) = (m.1 13) from ((fr1 Fm263 13 rfl).trans ((fr1 Fm246 13 rfl).trans ((fr1 Fm34 13 rfl).trans ((fr1 Fm19 13 rfl).trans (fr1 Fm5 13 rfl)))))), (show (m263.2 16) = (m.2 16) from ((fr2 Fm263 16 rfl).trans ((fr2 Fm246 16 rfl).trans ((fr2 Fm34 16 rfl).trans ((fr2 Fm19 16 rfl).trans (fr2 Fm5 16 rfl)))))), (show (m263.2 17) = (m.2 17) from ((fr2 Fm263 17 rfl).trans ((fr2 Fm246 17 rfl).trans ((fr2 Fm34 17 rfl).trans ((fr2 Fm19 17 rfl).trans (fr2 Fm5 17 rfl))))))]; first | exact hOL | (intro h; exfalso; omega)) (show (7 : Int) = 3 → 3 ≤ (m.1 26) by omega)) (fun rr275 k276 => ?_)
                        obtain ⟨m277, oo, Tm277, Fm277, g278, h279, h280, h281, h282, h283, h284, rfl⟩ := k276
                        refine ⟨_, _, rfl, ?_⟩
                        refine T_nb (st' := [.int (i32 oo)]) rfl ?_
                        obtain ⟨g278a, g278b⟩ := g278
                        have g285 : 0 ≤ m277.1 7 ∧ m277.1 7 ≤ 330 := Tm277.1 7
                        have g286 : 0 ≤ m277.1 8 ∧ m277.1 8 ≤ 4000 := Tm277.1 8
                        have g287 : 0 ≤ m277.1 9 ∧ m277.1 9 ≤ 4000 := Tm277.1 9
                        have g288 : 0 ≤ m277.1 10 ∧ m277.1 10 ≤ 8 := Tm277.1 10
                        have g289 : (-1) ≤ m277.1 11 ∧ m277.1 11 ≤ 4000 := Tm277.1 11
                        by_cases hf290 : (m277.1 10) = 0
                        · skip
                          replace h279 : LxP (m277.1 7) (m277.1 8) (m277.1 9) (m263.1 6) (m277.1 10) := h279
                          rewrite [(show (m263.1 6) = (m.1 6) from ((fr1 Fm263 6 rfl).trans ((fr1 Fm246 6 rfl).trans ((fr1 Fm34 6 rfl).trans ((fr1 Fm19 6 rfl).trans (fr1 Fm5 6 rfl))))))] at h279
                          have hLx := h279
                          replace h280 : (m263.1 8) ≤ (m277.1 8) := h280
                          replace h281 : (m263.1 10) = 0 ∧ (m263.1 8) + (m263.1 9) ≤ (m277.1 8) := h281 hf290
                          replace h282 : (m263.1 7) = 1 := h282 hf290
                          replace h283 : 0 ≤ oo ∧ (oo < (m.1 26) ∨ oo = 0) := h283
                          replace h284 : oo < (m.1 26) := h284 hf290
                          have u291 : (m.1 8) + 1 ≤ (m277.1 8) := by omega
                          have hAgC : agr (m.2 65) (m34.2 65) (m.1 28) := by first | exact agr_r _ _ | exact hAgC | exact agr_t hAgC hAg (by omega)
                          refine T_sto 101 [(3, .int (i32 oo)), (2, .int (i32 (m263.1 8))), (1, .int (i32 x247)), (0, .ref 189)] rfl (fun _ => rfl) ?_
                          refine T_gf 105 (.int (i32 (m277.1 10))) rfl rfl rfl rfl rfl rfl ?_
                          refine T_if 124 108 rfl rfl rfl (r32 (by omega) (by omega)) (fun (h292 : (m277.1 10) ≠ 0) => by exfalso; omega) (fun (h292 : ¬ ((m277.1 10) ≠ 0)) => ?_)
                          refine T_gf 112 (.ref 229) rfl rfl rfl rfl rfl rfl ?_
                          refine T_ld 113 (.int (i32 oo)) rfl (fun _ => rfl) ?_
                          refine T_bald 114 59 (m34.2 59) rfl rfl rfl (by omega) (show oo < (8 : Int) by omega) (show (m277.2 59) = (m34.2 59) from ((fr2 Fm277 59 rfl).trans ((fr2 Fm263 59 rfl).trans (fr2 Fm246 59 rfl)))) ?_
                          have e293 : 0 ≤ (m34.2 59) oo ∧ (m34.2 59) oo ≤ 1 := (Tm34.2.1 59) oo
                          refine T_if 124 117 rfl rfl rfl (r32 (by omega) (by omega)) (fun (h294 : (m34.2 59) oo = 0) => ?_) (fun (h294 : ¬ ((m34.2 59) oo = 0)) => ?_)
                          · skip
                            refine T_ld 125 (.ref 189) rfl (fun _ => rfl) ?_
                            refine T_ld 127 (.int (i32 59)) rfl (fun _ => rfl) ?_
                            refine T_call 130 232 [.ref 189, .int (i32 59)] [] rfl (fun _ => rfl) rfl (d_need w (mO m277 [] []) c N D (by omega) Tm277 59 ⟨by decide, by decide⟩ (show 1 ≤ (59 : Int) by omega) (show LxP (m277.1 7) (m277.1 8) (m277.1 9) (m277.1 6) (m277.1 10) by rewrite [(show (m277.1 6) = (m.1 6) from ((fr1 Fm277 6 rfl).trans ((fr1 Fm263 6 rfl).trans ((fr1 Fm246 6 rfl).trans ((fr1 Fm34 6 rfl).trans ((fr1 Fm19 6 rfl).trans (fr1 Fm5 6 rfl)))))))]; first | exact hLx | (intro h9; exfalso; omega) | (intro h9; have h8 := hLx (by omega); omega))) (fun rr295 k296 => ?_)
                            obtain ⟨m297, Tm297, Fm297, h298, h299, h300, h301, rfl⟩ := k296
                            refine ⟨_, _, rfl, ?_⟩
                            refine T_nb (st' := []) rfl ?_
                            have g302 : 0 ≤ m297.1 7 ∧ m297.1 7 ≤ 330 := Tm297.1 7
                            have g303 : 0 ≤ m297.1 8 ∧ m297.1 8 ≤ 4000 := Tm297.1 8
                            have g304 : 0 ≤ m297.1 9 ∧ m297.1 9 ≤ 4000 := Tm297.1 9
                            have g305 : 0 ≤ m297.1 10 ∧ m297.1 10 ≤ 8 := Tm297.1 10
                            have g306 : (-1) ≤ m297.1 11 ∧ m297.1 11 ≤ 4000 := Tm297.1 11
                            by_cases hf307 : (m297.1 10) = 0
                            · skip
                              replace h298 : LxP (m297.1 7) (m297.1 8) (m297.1 9) (m277.1 6) (m297.1 10) := h298
                              rewrite [(show (m277.1 6) = (m.1 6) from ((fr1 Fm277 6 rfl).trans ((fr1 Fm263 6 rfl).trans ((fr1 Fm246 6 rfl).trans ((fr1 Fm34 6 rfl).trans ((fr1 Fm19 6 rfl).trans (fr1 Fm5 6 rfl)))))))] at h298
                              have hLx := h298
                              replace h299 : (m277.1 10) = 0 ∧ (m277.1 7) = (59 : Int) := h299 hf307
                              replace h300 : (m277.1 8) ≤ (m297.1 8) := h300
                              replace h301 : (m277.1 8) + (m277.1 9) ≤ (m297.1 8) := h301 hf307
                              have u308 : (m.1 8) + 1 ≤ (m297.1 8) := by omega
                              have hAgC : agr (m.2 65) (m34.2 65) (m.1 28) := by first | exact agr_r _ _ | exact hAgC | exact agr_t hAgC hAg (by omega)
                              refine T_gf 134 (.int (i32 (m297.1 10))) rfl rfl rfl rfl rfl rfl ?_
                              refine T_if 138 137 rfl rfl rfl (r32 (by omega) (by omega)) (fun (h309 : (m297.1 10) ≤ 0) => ?_) (fun (h309 : ¬ ((m297.1 10) ≤ 0)) => by exfalso; omega)
                              refine T_gf 142 (.ref 229) rfl rfl rfl rfl rfl rfl ?_
                              refine T_ld 143 (.int (i32 oo)) rfl (fun _ => rfl) ?_
                              refine T_ld 144 (.int (i32 1)) rfl (fun _ => rfl) ?_
                              have G310 : ∀ j, 0 ≤ (upI (m34.2 59) oo 1) j ∧ (upI (m34.2 59) oo 1) j ≤ 1 := upI_rg (Tm34.2.1 59) ⟨by omega, by omega⟩
                              refine T_bast (a' := [(59, upI (m34.2 59) oo 1)]) 145 59 (m34.2 59) rfl rfl rfl (by omega) (show oo < (8 : Int) by omega) (by omega) (show (m297.2 59) = (m34.2 59) from ((fr2 Fm297 59 rfl).trans ((fr2 Fm277 59 rfl).trans ((fr2 Fm263 59 rfl).trans (fr2 Fm246 59 rfl))))) rfl ?_
                              refine T_gf 149 (.ref 233) rfl rfl rfl rfl rfl rfl ?_
                              refine T_ld 150 (.int (i32 x247)) rfl (fun _ => rfl) ?_
                              refine T_ld 151 (.int (i32 oo)) rfl (fun _ => rfl) ?_
                              have G311 : ∀ j, (-1) ≤ (upI (m246.2 63) x247 oo) j ∧ (upI (m246.2 63) x247 oo) j ≤ 7 := upI_rg (Tm246.2.1 63) ⟨by omega, by omega⟩
                              refine T_iast (a' := [(59, upI (m34.2 59) oo 1), (63, upI (m246.2 63) x247 oo)]) 152 63 (m246.2 63) rfl rfl rfl (by omega) (show x247 < (48 : Int) by omega) (show (m297.2 63) = (m246.2 63) from ((fr2 Fm297 63 rfl).trans ((fr2 Fm277 63 rfl).trans (fr2 Fm263 63 rfl)))) rfl ?_
                              have pSp : SpP (m34.2 65) (m34.1 28) (m34.1 99) (m.1 26) (m246.1 27) (m246.2 60) (m246.2 61) (m34.2 120) (m34.2 121) (m34.2 122) (upI (m246.2 63) x247 oo) := by
                                try rw [hS9]
                                rw [hS0, hS1, hS2]
                                rw [hS3]; exact SpP_add (SpP_f pSp (agr_r _ _) (by omega) (by omega) (agr_u (Int.le_refl _)) (agr_u (Int.le_refl _)) (agr_r _ _) (agr_r _ _) (agr_r _ _) (agr_t (agr_u (Int.le_refl _)) (agr_u (Int.le_refl _)) (Int.le_refl _))) ⟨by rw [upI_s]; exact hBi, fun h => by rw [upI_s] at h; omega, fun h => by rw [upI_s] at h; omega, fun _ => by rw [upI_s]; omega⟩
                              have hBK : ∀ j, 0 ≤ j → j < (m34.1 119) → (m34.2 117) j < (m246.1 27) := fun j j0 j1 => Int.lt_trans (hBK j j0 j1) (by omega)
                              refine T_goto 18 rfl (fun _ => rfl) ?_
                              refine Tm_lv (a := [(0, .ref 189)]) rfl rfl ⟨rfl, trivial⟩ ?_
                              exact ih40 (mO m297 [] [(59, upI (m34.2 59) oo 1), (63, upI (m246.2 63) x247 oo)]) (Ty_mO Tm297 rfl rfl trivial ⟨G310, G311, trivial⟩) (fr_m (fr_s Fm297 (fr_m (fr_s Fm277 (fr_m (fr_s Fm263 (fr_m (fr_s Fm246 (fr_m (fr_s Fm34 (fr_m fr_0 rfl rfl) rfl rfl) rfl rfl) rfl rfl) rfl rfl) rfl rfl) rfl rfl) rfl rfl) rfl rfl) rfl rfl) rfl rfl) (show LxP (m297.1 7) (m297.1 8) (m297.1 9) (m.1 6) (m297.1 10) by first | exact hLx | exact (fun _ => hLx (by omega)) | (intro h9; exfalso; omega)) (fun _ => ⟨(show (m.1 8) + 1 ≤ (m297.1 8) by omega), (show ∀ j, 0 ≤ j → j < (m297.1 119) → (m297.2 117) j < (m297.1 27) by rewrite [(show (m297.1 119) = (m34.1 119) from ((fr1 Fm297 119 rfl).trans ((fr1 Fm277 119 rfl).trans ((fr1 Fm263 119 rfl).trans (fr1 Fm246 119 rfl))))), (show (m297.2 117) = (m34.2 117) from ((fr2 Fm297 117 rfl).trans ((fr2 Fm277 117 rfl).trans ((fr2 Fm263 117 rfl).trans (fr2 Fm246 117 rfl))))), (show (m297.1 27) = (m246.1 27) from ((fr1 Fm297 27 rfl).trans ((fr1 Fm277 27 rfl).trans (fr1 Fm263 27 rfl))))]; exact hBK), (show CN (m297.2 65) (m297.2 67) (m297.1 28) by rewrite [(show (m297.2 65) = (m34.2 65) from ((fr2 Fm297 65 rfl).trans ((fr2 Fm277 65 rfl).trans ((fr2 Fm263 65 rfl).trans (fr2 Fm246 65 rfl))))), (show (m297.2 67) = (m34.2 67) from ((fr2 Fm297 67 rfl).trans ((fr2 Fm277 67 rfl).trans ((fr2 Fm263 67 rfl).trans (fr2 Fm246 67 rfl))))), (show (m297.1 28) = (m34.1 28) from ((fr1 Fm297 28 rfl).trans ((fr1 Fm277 28 rfl).trans ((fr1 Fm263 28 rfl).trans (fr1 Fm246 28 rfl)))))]; exact hCN), (show (m.1 28) ≤ (m297.1 28) by rewrite [(show (m297.1 28) = (m34.1 28) from ((fr1 Fm297 28 rfl).trans ((fr1 Fm277 28 rfl).trans ((fr1 Fm263 28 rfl).trans (fr1 Fm246 28 rfl)))))]; omega), (show agr (m.2 65) (m297.2 65) (m.1 28) by rewrite [(show (m297.2 65) = (m34.2 65) from ((fr2 Fm297 65 rfl).trans ((fr2 Fm277 65 rfl).trans ((fr2 Fm263 65 rfl).trans (fr2 Fm246 65 rfl)))))]; exact hAgC), (show TdP (m297.2 65) (m297.1 28) (m.1 22) (m297.1 99) (m297.2 101) (m297.2 103) (m297.2 105) (m297.2 106) (m297.2 107) (m297.2 108) by rewrite [(show (m297.2 65) = (m34.2 65) from ((fr2 Fm297 65 rfl).trans ((fr2 Fm277 65 rfl).trans ((fr2 Fm263 65 rfl).trans (fr2 Fm246 65 rfl))))), (show (m297.1 28) = (m34.1 28) from ((fr1 Fm297 28 rfl).trans ((fr1 Fm277 28 rfl).trans ((fr1 Fm263 28 rfl).trans (fr1 Fm246 28 rfl))))), (show (m297.1 99) = (m34.1 99) from ((fr1 Fm297 99 rfl).trans ((fr1 Fm277 99 rfl).trans ((fr1 Fm263 99 rfl).trans (fr1 Fm246 99 rfl))))), (show (m297.2 101) = (m34.2 101) from ((fr2 Fm297 101 rfl).trans ((fr2 Fm277 101 rfl).trans ((fr2 Fm263 101 rfl).trans (fr2 Fm246 101 rfl))))), (show (m297.2 103) = (m34.2 103) from ((fr2 Fm297 103 rfl).trans ((fr2 Fm277 103 rfl).trans ((fr2 Fm263 103 rfl).trans (fr2 Fm246 103 rfl))))), (show (m297.2 105) = (m34.2 105) from ((fr2 Fm297 105 rfl).trans ((fr2 Fm277 105 rfl).trans ((fr2 Fm263 105 rfl).trans (fr2 Fm246 105 rfl))))), (show (m297.2 106) = (m34.2 106) from ((fr2 Fm297 106 rfl).trans ((fr2 Fm277 106 rfl).trans ((fr2 Fm263 106 rfl).trans (fr2 Fm246 106 rfl))))), (show (m297.2 107) = (m34.2 107) from ((fr2 Fm297 107 rfl).trans ((fr2 Fm277 107 rfl).trans ((fr2 Fm263 107 rfl).trans (fr2 Fm246 107 rfl))))), (show (m297.2 108) = (m34.2 108) from ((fr2 Fm297 108 rfl).trans ((fr2 Fm277 108 rfl).trans ((fr2 Fm263 108 rfl).trans (fr2 Fm246 108 rfl)))))]; exact pTd), (show SpP (m297.2 65) (m297.1 28) (m297.1 99) (m.1 26) (m297.1 27) (m297.2 60) (m297.2 61) (m297.2 120) (m297.2 121) (m297.2 122) (upI (m246.2 63) x247 oo) by rewrite [(show (m297.2 65) = (m34.2 65) from ((fr2 Fm297 65 rfl).trans ((fr2 Fm277 65 rfl).trans ((fr2 Fm263 65 rfl).trans (fr2 Fm246 65 rfl))))), (show (m297.1 28) = (m34.1 28) from ((fr1 Fm297 28 rfl).trans ((fr1 Fm277 28 rfl).trans ((fr1 Fm263 28 rfl).trans (fr1 Fm246 28 rfl))))), (show (m297.1 99) = (m34.1 99) from ((fr1 Fm297 99 rfl).trans ((fr1 Fm277 99 rfl).trans ((fr1 Fm263 99 rfl).trans (fr1 Fm246 99 rfl))))), (show (m297.1 27) = (m246.1 27) from ((fr1 Fm297 27 rfl).trans ((fr1 Fm277 27 rfl).trans (fr1 Fm263 27 rfl)))), (show (m297.2 60) = (m246.2 60) from ((fr2 Fm297 60 rfl).trans ((fr2 Fm277 60 rfl).trans (fr2 Fm263 60 rfl)))), (show (m297.2 61) = (m246.2 61) from ((fr2 Fm297 61 rfl).trans ((fr2 Fm277 61 rfl).trans (fr2 Fm263 61 rfl)))), (show (m297.2 120) = (m34.2 120) from ((fr2 Fm297 120 rfl).trans ((fr2 Fm277 120 rfl).trans ((fr2 Fm263 120 rfl).trans (fr2 Fm246 120 rfl))))), (show (m297.2 121) = (m34.2 121) from ((fr2 Fm297 121 rfl).trans ((fr2 Fm277 121 rfl).trans ((fr2 Fm263 121 rfl).trans (fr2 Fm246 121 rfl))))), (show (m297.2 122) = (m34.2 122) from ((fr2 Fm297 122 rfl).trans ((fr2 Fm277 122 rfl).trans ((fr2 Fm263 122 rfl).trans (fr2 Fm246 122 rfl)))))]; first | exact pSp | exact fun s s0 s1 => absurd s1 (by omega)), (show (m297.1 99) ≤ 192 + (m297.1 27) by rewrite [(show (m297.1 99) = (m34.1 99) from ((fr1 Fm297 99 rfl).trans ((fr1 Fm277 99 rfl).trans ((fr1 Fm263 99 rfl).trans (fr1 Fm246 99 rfl))))), (show (m297.1 27) = (m246.1 27) from ((fr1 Fm297 27 rfl).trans ((fr1 Fm277 27 rfl).trans (fr1 Fm263 27 rfl))))]; omega), (show (m.1 99) ≤ (m297.1 99) by rewrite [(show (m297.1 99) = (m34.1 99) from ((fr1 Fm297 99 rfl).trans ((fr1 Fm277 99 rfl).trans ((fr1 Fm263 99 rfl).trans (fr1 Fm246 99 rfl)))))]; omega)⟩) (show 1000000 * (8 - (m297.1 10)) + (4000 - (m297.1 8)) < (n39 : Int) by omega)
                            · skip
                              replace h298 : LxP (m297.1 7) (m297.1 8) (m297.1 9) (m277.1 6) (m297.1 10) := h298
                              rewrite [(show (m277.1 6) = (m.1 6) from ((fr1 Fm277 6 rfl).trans ((fr1 Fm263 6 rfl).trans ((fr1 Fm246 6 rfl).trans ((fr1 Fm34 6 rfl).trans ((fr1 Fm19 6 rfl).trans (fr1 Fm5 6 rfl)))))))] at h298
                              have hLx := h298
                              clear h299
                              replace h300 : (m277.1 8) ≤ (m297.1 8) := h300
                              clear h301
                              have hf312 : 1 ≤ (m297.1 10) := by omega
                              refine T_gf 134 (.int (i32 (m297.1 10))) rfl rfl rfl rfl rfl rfl ?_
                              refine T_if 138 137 rfl rfl rfl (r32 (by omega) (by omega)) (fun (h313 : (m297.1 10) ≤ 0) => by exfalso; omega) (fun (h313 : ¬ ((m297.1 10) ≤ 0)) => ?_)
                              refine T_ret rfl (fun _ => rfl) ?_
                              exact ⟨(mO m297 [] []), Tm297, (fr_m (fr_s Fm297 (fr_m (fr_s Fm277 (fr_m (fr_s Fm263 (fr_m (fr_s Fm246 (fr_m (fr_s Fm34 (fr_m (fr_s Fm19 (fr_m (fr_s Fm5 (fr_m fr_0 rfl rfl) rfl rfl) rfl rfl) rfl rfl) rfl rfl) rfl rfl) rfl rfl) rfl rfl) rfl rfl) rfl rfl) rfl rfl) rfl rfl) rfl rfl) rfl rfl) rfl rfl), (show (m297.1 10) = 0 → (m.1 10) = 0 by omega), (show LxP (m297.1 7) (m297.1 8) (m297.1 9) (m.1 6) (m297.1 10) by first | (first | exact hLx | exact (fun _ => hLx (by omega)) | (intro h9; exfalso; omega)) | (exfalso; omega)), (fun (h : (m297.1 10) = 0) => absurd h (by omega)), rfl⟩
                          · skip
                            refine T_ld 118 (.ref 189) rfl (fun _ => rfl) ?_
                            refine T_ld 120 (.int (i32 8)) rfl (fun _ => rfl) ?_
                            refine T_ld 121 (.int (i32 (m263.1 8))) rfl (fun _ => rfl) ?_
                            refine T_call 124 222 [.ref 189, .int (i32 8), .int (i32 (m263.1 8))] [] rfl (fun _ => rfl) rfl (d_wrong w (mO m277 [] []) c N D (by omega) Tm277 8 (m263.1 8) ⟨by decide, by decide⟩ (r32 (by omega) (by omega)) (show 1 ≤ (8 : Int) ∧ (8 : Int) ≤ 8 by omega) (show 0 ≤ (m263.1 8) ∧ (m263.1 8) ≤ 4000 by omega)) (fun rr314 k315 => ?_)
                            obtain ⟨m316, Tm316, Fm316, h317, rfl⟩ := k315
                            refine ⟨_, _, rfl, ?_⟩
                            refine T_nb (st' := []) rfl ?_
                            have g318 : 0 ≤ m316.1 10 ∧ m316.1 10 ≤ 8 := Tm316.1 10
                            have g319 : (-1) ≤ m316.1 11 ∧ m316.1 11 ≤ 4000 := Tm316.1 11
                            replace h317 : (0 < (m277.1 10) → (m316.1 10) = (m277.1 10) ∧ (m316.1 11) = (m277.1 11)) ∧ ((m277.1 10) ≤ 0 → (m316.1 10) = (8 : Int) ∧ (m316.1 11) = (m263.1 8)) := h317
                            have hf320 : 1 ≤ (m316.1 10) := by omega
                            refine T_ld 125 (.ref 189) rfl (fun _ => rfl) ?_
                            refine T_ld 127 (.int (i32 59)) rfl (fun _ => rfl) ?_
                            refine T_call 130 232 [.ref 189, .int (i32 59)] [] rfl (fun _ => rfl) rfl (d_need w (mO m316 [] []) c N D (by omega) Tm316 59 ⟨by decide, by decide⟩ (show 1 ≤ (59 : Int) by omega) (show LxP (m316.1 7) (m316.1 8) (m316.1 9) (m316.1 6) (m316.1 10) by rewrite [(show (m316.1 7) = (m277.1 7) from (fr1 Fm316 7 rfl)), (show (m316.1 8) = (m277.1 8) from (fr1 Fm316 8 rfl)), (show (m316.1 9) = (m277.1 9) from (fr1 Fm316 9 rfl)), (show (m316.1 6) = (m.1 6) from ((fr1 Fm316 6 rfl).trans ((fr1 Fm277 6 rfl).trans ((fr1 Fm263 6 rfl).trans ((fr1 Fm246 6 rfl).trans ((fr1 Fm34 6 rfl).trans ((fr1 Fm19 6 rfl).trans (fr1 Fm5 6 rfl))))))))]; first | exact hLx | (intro h9; exfalso; omega) | (intro h9; have h8 := hLx (by omega); omega))) (fun rr321 k322 => ?_)
                            obtain ⟨m323, Tm323, Fm323, h324, h325, h326, h327, rfl⟩ := k322
                            refine ⟨_, _, rfl, ?_⟩
                            refine T_nb (st' := []) rfl ?_
                            have g328 : 0 ≤ m323.1 7 ∧ m323.1 7 ≤ 330 := Tm323.1 7
                            have g329 : 0 ≤ m323.1 8 ∧ m323.1 8 ≤ 4000 := Tm323.1 8
                            have g330 : 0 ≤ m323.1 9 ∧ m323.1 9 ≤ 4000 := Tm323.1 9
                            have g331 : 0 ≤ m323.1 10 ∧ m323.1 10 ≤ 8 := Tm323.1 10
                            have g332 : (-1) ≤ m323.1 11 ∧ m323.1 11 ≤ 4000 := Tm323.1 11
                            replace h324 : LxP (m323.1 7) (m323.1 8) (m323.1 9) (m316.1 6) (m323.1 10) := h324
                            rewrite [(show (m316.1 6) = (m.1 6) from ((fr1 Fm316 6 rfl).trans ((fr1 Fm277 6 rfl).trans ((fr1 Fm263 6 rfl).trans ((fr1 Fm246 6 rfl).trans ((fr1 Fm34 6 rfl).trans ((fr1 Fm19 6 rfl).trans (fr1 Fm5 6 rfl))))))))] at h324
                            replace h325 : (m323.1 10) = 0 → (m316.1 10) = 0 ∧ (m316.1 7) = (59 : Int) := h325
                            rewrite [(show (m316.1 7) = (m277.1 7) from (fr1 Fm316 7 rfl))] at h325
                            replace h326 : (m316.1 8) ≤ (m323.1 8) := h326
                            rewrite [(show (m316.1 8) = (m277.1 8) from (fr1 Fm316 8 rfl))] at h326
                            replace h327 : (m323.1 10) = 0 → (m316.1 8) + (m316.1 9) ≤ (m323.1 8) := h327
                            rewrite [(show (m316.1 8) = (m277.1 8) from (fr1 Fm316 8 rfl)), (show (m316.1 9) = (m277.1 9) from (fr1 Fm316 9 rfl))] at h327
                            have hf333 : 1 ≤ (m323.1 10) := by omega
                            clear h325
                            clear h327
                            have hLx := h324
                            refine T_gf 134 (.int (i32 (m323.1 10))) rfl rfl rfl rfl rfl rfl ?_
                            refine T_if 138 137 rfl rfl rfl (r32 (by omega) (by omega)) (fun (h334 : (m323.1 10) ≤ 0) => by exfalso; omega) (fun (h334 : ¬ ((m323.1 10) ≤ 0)) => ?_)
                            refine T_ret rfl (fun _ => rfl) ?_
                            exact ⟨(mO m323 [] []), Tm323, (fr_m (fr_s Fm323 (fr_m (fr_s Fm316 (fr_m (fr_s Fm277 (fr_m (fr_s Fm263 (fr_m (fr_s Fm246 (fr_m (fr_s Fm34 (fr_m (fr_s Fm19 (fr_m (fr_s Fm5 (fr_m fr_0 rfl rfl) rfl rfl) rfl rfl) rfl rfl) rfl rfl) rfl rfl) rfl rfl) rfl rfl) rfl rfl) rfl rfl) rfl rfl) rfl rfl) rfl rfl) rfl rfl) rfl rfl) rfl rfl) rfl rfl), (show (m323.1 10) = 0 → (m.1 10) = 0 by omega), (show LxP (m323.1 7) (m323.1 8) (m323.1 9) (m.1 6) (m323.1 10) by first | (first | exact hLx | exact (fun _ => hLx (by omega)) | (intro h9; exfalso; omega)) | (exfalso; omega)), (fun (h : (m323.1 10) = 0) => absurd h (by omega)), rfl⟩
                        · skip
                          replace h279 : LxP (m277.1 7) (m277.1 8) (m277.1 9) (m263.1 6) (m277.1 10) := h279
                          rewrite [(show (m263.1 6) = (m.1 6) from ((fr1 Fm263 6 rfl).trans ((fr1 Fm246 6 rfl).trans ((fr1 Fm34 6 rfl).trans ((fr1 Fm19 6 rfl).trans (fr1 Fm5 6 rfl))))))] at h279
                          have hLx := h279
                          replace h280 : (m263.1 8) ≤ (m277.1 8) := h280
                          clear h281
                          clear h282
                          replace h283 : 0 ≤ oo ∧ (oo < (m.1 26) ∨ oo = 0) := h283
                          clear h284
                          have hf335 : 1 ≤ (m277.1 10) := by omega
                          refine T_sto 101 [(3, .int (i32 oo)), (2, .int (i32 (m263.1 8))), (1, .int (i32 x247)), (0, .ref 189)] rfl (fun _ => rfl) ?_
                          refine T_gf 105 (.int (i32 (m277.1 10))) rfl rfl rfl rfl rfl rfl ?_
                          refine T_if 124 108 rfl rfl rfl (r32 (by omega) (by omega)) (fun (h336 : (m277.1 10) ≠ 0) => ?_) (fun (h336 : ¬ ((m277.1 10) ≠ 0)) => by exfalso; omega)
                          refine T_ld 125 (.ref 189) rfl (fun _ => rfl) ?_
                          refine T_ld 127 (.int (i32 59)) rfl (fun _ => rfl) ?_
                          refine T_call 130 232 [.ref 189, .int (i32 59)] [] rfl (fun _ => rfl) rfl (d_need w (mO m277 [] []) c N D (by omega) Tm277 59 ⟨by decide, by decide⟩ (show 1 ≤ (59 : Int) by omega) (show LxP (m277.1 7) (m277.1 8) (m277.1 9) (m277.1 6) (m277.1 10) by rewrite [(show (m277.1 6) = (m.1 6) from ((fr1 Fm277 6 rfl).trans ((fr1 Fm263 6 rfl).trans ((fr1 Fm246 6 rfl).trans ((fr1 Fm34 6 rfl).trans ((fr1 Fm19 6 rfl).trans (fr1 Fm5 6 rfl)))))))]; first | exact hLx | (intro h9; exfalso; omega) | (intro h9; have h8 := hLx (by omega); omega))) (fun rr337 k338 => ?_)
                          obtain ⟨m339, Tm339, Fm339, h340, h341, h342, h343, rfl⟩ := k338
                          refine ⟨_, _, rfl, ?_⟩
                          refine T_nb (st' := []) rfl ?_
                          have g344 : 0 ≤ m339.1 7 ∧ m339.1 7 ≤ 330 := Tm339.1 7
                          have g345 : 0 ≤ m339.1 8 ∧ m339.1 8 ≤ 4000 := Tm339.1 8
                          have g346 : 0 ≤ m339.1 9 ∧ m339.1 9 ≤ 4000 := Tm339.1 9
                          have g347 : 0 ≤ m339.1 10 ∧ m339.1 10 ≤ 8 := Tm339.1 10
                          have g348 : (-1) ≤ m339.1 11 ∧ m339.1 11 ≤ 4000 := Tm339.1 11
                          replace h340 : LxP (m339.1 7) (m339.1 8) (m339.1 9) (m277.1 6) (m339.1 10) := h340
                          rewrite [(show (m277.1 6) = (m.1 6) from ((fr1 Fm277 6 rfl).trans ((fr1 Fm263 6 rfl).trans ((fr1 Fm246 6 rfl).trans ((fr1 Fm34 6 rfl).trans ((fr1 Fm19 6 rfl).trans (fr1 Fm5 6 rfl)))))))] at h340
                          replace h341 : (m339.1 10) = 0 → (m277.1 10) = 0 ∧ (m277.1 7) = (59 : Int) := h341
                          replace h342 : (m277.1 8) ≤ (m339.1 8) := h342
                          replace h343 : (m339.1 10) = 0 → (m277.1 8) + (m277.1 9) ≤ (m339.1 8) := h343
                          have hf349 : 1 ≤ (m339.1 10) := by omega
                          clear h341
                          clear h343
                          have hLx := h340
                          refine T_gf 134 (.int (i32 (m339.1 10))) rfl rfl rfl rfl rfl rfl ?_
                          refine T_if 138 137 rfl rfl rfl (r32 (by omega) (by omega)) (fun (h350 : (m339.1 10) ≤ 0) => by exfalso; omega) (fun (h350 : ¬ ((m339.1 10) ≤ 0)) => ?_)
                          refine T_ret rfl (fun _ => rfl) ?_
                          exact ⟨(mO m339 [] []), Tm339, (fr_m (fr_s Fm339 (fr_m (fr_s Fm277 (fr_m (fr_s Fm263 (fr_m (fr_s Fm246 (fr_m (fr_s Fm34 (fr_m (fr_s Fm19 (fr_m (fr_s Fm5 (fr_m fr_0 rfl rfl) rfl rfl) rfl rfl) rfl rfl) rfl rfl) rfl rfl) rfl rfl) rfl rfl) rfl rfl) rfl rfl) rfl rfl) rfl rfl) rfl rfl) rfl rfl) rfl rfl), (show (m339.1 10) = 0 → (m.1 10) = 0 by omega), (show LxP (m339.1 7) (m339.1 8) (m339.1 9) (m.1 6) (m339.1 10) by first | (first | exact hLx | exact (fun _ => hLx (by omega)) | (intro h9; exfalso; omega)) | (exfalso; omega)), (fun (h : (m339.1 10) = 0) => absurd h (by omega)), rfl⟩
                      · skip
                        replace h264 : LxP (m263.1 7) (m263.1 8) (m263.1 9) (m246.1 6) (m263.1 10) := h264
                        rewrite [(show (m246.1 6) = (m.1 6) from ((fr1 Fm246 6 rfl).trans ((fr1 Fm34 6 rfl).trans ((fr1 Fm19 6 rfl).trans (fr1 Fm5 6 rfl)))))] at h264
                        have hLx := h264
                        clear h265
                        replace h266 : (m246.1 8) ≤ (m263.1 8) := h266
                        rewrite [(show (m246.1 8) = (m34.1 8) from (fr1 Fm246 8 rfl))] at h266
                        clear h267
                        have hf351 : 1 ≤ (m263.1 10) := by omega
                        refine T_gf 93 (.int (i32 (m263.1 8))) rfl rfl rfl rfl rfl rfl ?_
                        refine T_sto 94 [(2, .int (i32 (m263.1 8))), (1, .int (i32 x247)), (0, .ref 189)] rfl (fun _ => rfl) ?_
                        refine T_ld 95 (.ref 189) rfl (fun _ => rfl) ?_
                        refine T_ld 97 (.int (i32 7)) rfl (fun _ => rfl) ?_
                        refine T_call 100 236 [.ref 189, .int (i32 7)] [] rfl (fun _ => rfl) rfl (d_oldName w (mO m263 [] []) c N D (by omega) Tm263 7 (m.1 26) ⟨by decide, by decide⟩ (show LxP (m263.1 7) (m263.1 8) (m263.1 9) (m263.1 6) (m263.1 10) by rewrite [(show (m263.1 6) = (m.1 6) from ((fr1 Fm263 6 rfl).trans ((fr1 Fm246 6 rfl).trans ((fr1 Fm34 6 rfl).trans ((fr1 Fm19 6 rfl).trans (fr1 Fm5 6 rfl))))))]; first | exact hLx | (intro h9; exfalso; omega) | (intro h9; have h8 := hLx (by omega); omega)) (show ∀ k, (m263.2 14) k + (m263.2 15) k ≤ 4000 by rewrite [(show (m263.2 14) = (m.2 14) from ((fr2 Fm263 14 rfl).trans ((fr2 Fm246 14 rfl).trans ((fr2 Fm34 14 rfl).trans ((fr2 Fm19 14 rfl).trans (fr2 Fm5 14 rfl)))))), (show (m263.2 15) = (m.2 15) from ((fr2 Fm263 15 rfl).trans ((fr2 Fm246 15 rfl).trans ((fr2 Fm34 15 rfl).trans ((fr2 Fm19 15 rfl).trans (fr2 Fm5 15 rfl))))))]; first | exact p1 | exact hNM) (show 1 ≤ (7 : Int) ∧ (7 : Int) ≤ 7 ∧ (7 : Int) ≠ 5 by omega) (show (m.1 26) ≤ 16 by omega) (show (m263.1 10) = 0 → ∀ k, 0 ≤ k → k < (m263.1 13) → (m263.2 16) k = (7 : Int) → 0 ≤ (m263.2 17) k ∧ (m263.2 17) k < (m.1 26) by rewrite [(show (m263.1 13) = (m.1 13) from ((fr1 Fm263 13 rfl).trans ((fr1 Fm246 13 rfl).trans ((fr1 Fm34 13 rfl).trans ((fr1 Fm19 13 rfl).trans (fr1 Fm5 13 rfl)))))), (show (m263.2 16) = (m.2 16) from ((fr2 Fm263 16 rfl).trans ((fr2 Fm246 16 rfl).trans ((fr2 Fm34 16 rfl).trans ((fr2 Fm19 16 rfl).trans (fr2 Fm5 16 rfl)))))), (show (m263.2 17) = (m.2 17) from ((fr2 Fm263 17 rfl).trans ((fr2 Fm246 17 rfl).trans ((fr2 Fm34 17 rfl).trans ((fr2 Fm19 17 rfl).trans (fr2 Fm5 17 rfl))))))]; first | exact hOL | (intro h; exfalso; omega)) (show (7 : Int) = 3 → 3 ≤ (m.1 26) by omega)) (fun rr352 k353 => ?_)
                        obtain ⟨m354, oo, Tm354, Fm354, g355, h356, h357, h358, h359, h360, h361, rfl⟩ := k353
                        refine ⟨_, _, rfl, ?_⟩
                        refine T_nb (st' := [.int (i32 oo)]) rfl ?_
                        obtain ⟨g355a, g355b⟩ := g355
                        have g362 : 0 ≤ m354.1 7 ∧ m354.1 7 ≤ 330 := Tm354.1 7
                        have g363 : 0 ≤ m354.1 8 ∧ m354.1 8 ≤ 4000 := Tm354.1 8
                        have g364 : 0 ≤ m354.1 9 ∧ m354.1 9 ≤ 4000 := Tm354.1 9
                        have g365 : 0 ≤ m354.1 10 ∧ m354.1 10 ≤ 8 := Tm354.1 10
                        have g366 : (-1) ≤ m354.1 11 ∧ m354.1 11 ≤ 4000 := Tm354.1 11
                        replace h356 : LxP (m354.1 7) (m354.1 8) (m354.1 9) (m263.1 6) (m354.1 10) := h356
                        rewrite [(show (m263.1 6) = (m.1 6) from ((fr1 Fm263 6 rfl).trans ((fr1 Fm246 6 rfl).trans ((fr1 Fm34 6 rfl).trans ((fr1 Fm19 6 rfl).trans (fr1 Fm5 6 rfl))))))] at h356
                        replace h357 : (m263.1 8) ≤ (m354.1 8) := h357
                        replace h358 : (m354.1 10) = 0 → (m263.1 10) = 0 ∧ (m263.1 8) + (m263.1 9) ≤ (m354.1 8) := h358
                        replace h359 : (m354.1 10) = 0 → (m263.1 7) = 1 := h359
                        replace h360 : 0 ≤ oo ∧ (oo < (m.1 26) ∨ oo = 0) := h360
                        replace h361 : (m354.1 10) = 0 → oo < (m.1 26) := h361
                        have hf367 : 1 ≤ (m354.1 10) := by omega
                        clear h358
                        clear h359
                        clear h361
                        have hLx := h356
                        refine T_sto 101 [(3, .int (i32 oo)), (2, .int (i32 (m263.1 8))), (1, .int (i32 x247)), (0, .ref 189)] rfl (fun _ => rfl) ?_
                        refine T_gf 105 (.int (i32 (m354.1 10))) rfl rfl rfl rfl rfl rfl ?_
                        refine T_if 124 108 rfl rfl rfl (r32 (by omega) (by omega)) (fun (h368 : (m354.1 10) ≠ 0) => ?_) (fun (h368 : ¬ ((m354.1 10) ≠ 0)) => by exfalso; omega)
                        refine T_ld 125 (.ref 189) rfl (fun _ => rfl) ?_
                        refine T_ld 127 (.int (i32 59)) rfl (fun _ => rfl) ?_
                        refine T_call 130 232 [.ref 189, .int (i32 59)] [] rfl (fun _ => rfl) rfl (d_need w (mO m354 [] []) c N D (by omega) Tm354 59 ⟨by decide, by decide⟩ (show 1 ≤ (59 : Int) by omega) (show LxP (m354.1 7) (m354.1 8) (m354.1 9) (m354.1 6) (m354.1 10) by rewrite [(show (m354.1 6) = (m.1 6) from ((fr1 Fm354 6 rfl).trans ((fr1 Fm263 6 rfl).trans ((fr1 Fm246 6 rfl).trans ((fr1 Fm34 6 rfl).trans ((fr1 Fm19 6 rfl).trans (fr1 Fm5 6 rfl)))))))]; first | exact hLx | (intro h9; exfalso; omega) | (intro h9; have h8 := hLx (by omega); omega))) (fun rr369 k370 => ?_)
                        obtain ⟨m371, Tm371, Fm371, h372, h373, h374, h375, rfl⟩ := k370
                        refine ⟨_, _, rfl, ?_⟩
                        refine T_nb (st' := []) rfl ?_
                        have g376 : 0 ≤ m371.1 7 ∧ m371.1 7 ≤ 330 := Tm371.1 7
                        have g377 : 0 ≤ m371.1 8 ∧ m371.1 8 ≤ 4000 := Tm371.1 8
                        have g378 : 0 ≤ m371.1 9 ∧ m371.1 9 ≤ 4000 := Tm371.1 9
                        have g379 : 0 ≤ m371.1 10 ∧ m371.1 10 ≤ 8 := Tm371.1 10
                        have g380 : (-1) ≤ m371.1 11 ∧ m371.1 11 ≤ 4000 := Tm371.1 11
                        replace h372 : LxP (m371.1 7) (m371.1 8) (m371.1 9) (m354.1 6) (m371.1 10) := h372
                        rewrite [(show (m354.1 6) = (m.1 6) from ((fr1 Fm354 6 rfl).trans ((fr1 Fm263 6 rfl).trans ((fr1 Fm246 6 rfl).trans ((fr1 Fm34 6 rfl).trans ((fr1 Fm19 6 rfl).trans (fr1 Fm5 6 rfl)))))))] at h372
                        replace h373 : (m371.1 10) = 0 → (m354.1 10) = 0 ∧ (m354.1 7) = (59 : Int) := h373
                        replace h374 : (m354.1 8) ≤ (m371.1 8) := h374
                        replace h375 : (m371.1 10) = 0 → (m354.1 8) + (m354.1 9) ≤ (m371.1 8) := h375
                        have hf381 : 1 ≤ (m371.1 10) := by omega
                        clear h373
                        clear h375
                        have hLx := h372
                        refine T_gf 134 (.int (i32 (m371.1 10))) rfl rfl rfl rfl rfl rfl ?_
                        refine T_if 138 137 rfl rfl rfl (r32 (by omega) (by omega)) (fun (h382 : (m371.1 10) ≤ 0) => by exfalso; omega) (fun (h382 : ¬ ((m371.1 10) ≤ 0)) => ?_)
                        refine T_ret rfl (fun _ => rfl) ?_
                        exact ⟨(mO m371 [] []), Tm371, (fr_m (fr_s Fm371 (fr_m (fr_s Fm354 (fr_m (fr_s Fm263 (fr_m (fr_s Fm246 (fr_m (fr_s Fm34 (fr_m (fr_s Fm19 (fr_m (fr_s Fm5 (fr_m fr_0 rfl rfl) rfl rfl) rfl rfl) rfl rfl) rfl rfl) rfl rfl) rfl rfl) rfl rfl) rfl rfl) rfl rfl) rfl rfl) rfl rfl) rfl rfl) rfl rfl) rfl rfl), (show (m371.1 10) = 0 → (m.1 10) = 0 by omega), (show LxP (m371.1 7) (m371.1 8) (m371.1 9) (m.1 6) (m371.1 10) by first | (first | exact hLx | exact (fun _ => hLx (by omega)) | (intro h9; exfalso; omega)) | (exfalso; omega)), (fun (h : (m371.1 10) = 0) => absurd h (by omega)), rfl⟩
                    · skip
                      clear c250
                      clear h249
                      have hf383 : 1 ≤ (m246.1 10) := by omega
                      refine T_sto 85 [(1, .int (i32 x247)), (0, .ref 189)] rfl (fun _ => rfl) ?_
                      refine T_ld 86 (.ref 189) rfl (fun _ => rfl) ?_
                      refine T_call 89 212 [.ref 189] [] rfl (fun _ => rfl) rfl (d_next w (mO m246 [] []) c N D (by omega) Tm246 (show (m246.1 10) = 0 → (m246.1 8) + (m246.1 9) ≤ (m246.1 6) by rewrite [(show (m246.1 8) = (m34.1 8) from (fr1 Fm246 8 rfl)), (show (m246.1 9) = (m34.1 9) from (fr1 Fm246 9 rfl)), (show (m246.1 6) = (m.1 6) from ((fr1 Fm246 6 rfl).trans ((fr1 Fm34 6 rfl).trans ((fr1 Fm19 6 rfl).trans (fr1 Fm5 6 rfl)))))]; first | omega | (intro h9; have h8 := hLx h9; omega))) (fun rr384 k385 => ?_)
                      obtain ⟨m386, Tm386, Fm386, h387, h388, h389, h390, rfl⟩ := k385
                      refine ⟨_, _, rfl, ?_⟩
                      refine T_nb (st' := []) rfl ?_
                      have g391 : 0 ≤ m386.1 7 ∧ m386.1 7 ≤ 330 := Tm386.1 7
                      have g392 : 0 ≤ m386.1 8 ∧ m386.1 8 ≤ 4000 := Tm386.1 8
                      have g393 : 0 ≤ m386.1 9 ∧ m386.1 9 ≤ 4000 := Tm386.1 9
                      have g394 : 0 ≤ m386.1 10 ∧ m386.1 10 ≤ 8 := Tm386.1 10
                      have g395 : (-1) ≤ m386.1 11 ∧ m386.1 11 ≤ 4000 := Tm386.1 11
                      replace h387 : LxP (m386.1 7) (m386.1 8) (m386.1 9) (m246.1 6) (m386.1 10) := h387
                      rewrite [(show (m246.1 6) = (m.1 6) from ((fr1 Fm246 6 rfl).trans ((fr1 Fm34 6 rfl).trans ((fr1 Fm19 6 rfl).trans (fr1 Fm5 6 rfl)))))] at h387
                      replace h388 : (m386.1 10) = 0 → (m246.1 10) = 0 := h388
                      replace h389 : (m246.1 8) ≤ (m386.1 8) := h389
                      rewrite [(show (m246.1 8) = (m34.1 8) from (fr1 Fm246 8 rfl))] at h389
                      replace h390 : (m386.1 10) = 0 → (m246.1 8) + (m246.1 9) ≤ (m386.1 8) := h390
                      rewrite [(show (m246.1 8) = (m34.1 8) from (fr1 Fm246 8 rfl)), (show (m246.1 9) = (m34.1 9) from (fr1 Fm246 9 rfl))] at h390
                      have hf396 : 1 ≤ (m386.1 10) := by omega
                      clear h388
                      clear h390
                      have hLx := h387
                      refine T_gf 93 (.int (i32 (m386.1 8))) rfl rfl rfl rfl rfl rfl ?_
                      refine T_sto 94 [(2, .int (i32 (m386.1 8))), (1, .int (i32 x247)), (0, .ref 189)] rfl (fun _ => rfl) ?_
                      refine T_ld 95 (.ref 189) rfl (fun _ => rfl) ?_
                      refine T_ld 97 (.int (i32 7)) rfl (fun _ => rfl) ?_
                      refine T_call 100 236 [.ref 189, .int (i32 7)] [] rfl (fun _ => rfl) rfl (d_oldName w (mO m386 [] []) c N D (by omega) Tm386 7 (m.1 26) ⟨by decide, by decide⟩ (show LxP (m386.1 7) (m386.1 8) (m386.1 9) (m386.1 6) (m386.1 10) by rewrite [(show (m386.1 6) = (m.1 6) from ((fr1 Fm386 6 rfl).trans ((fr1 Fm246 6 rfl).trans ((fr1 Fm34 6 rfl).trans ((fr1 Fm19 6 rfl).trans (fr1 Fm5 6 rfl))))))]; first | exact hLx | (intro h9; exfalso; omega) | (intro h9; have h8 := hLx (by omega); omega)) (show ∀ k, (m386.2 14) k + (m386.2 15) k ≤ 4000 by rewrite [(show (m386.2 14) = (m.2 14) from ((fr2 Fm386 14 rfl).trans ((fr2 Fm246 14 rfl).trans ((fr2 Fm34 14 rfl).trans ((fr2 Fm19 14 rfl).trans (fr2 Fm5 14 rfl)))))), (show (m386.2 15) = (m.2 15) from ((fr2 Fm386 15 rfl).trans ((fr2 Fm246 15 rfl).trans ((fr2 Fm34 15 rfl).trans ((fr2 Fm19 15 rfl).trans (fr2 Fm5 15 rfl))))))]; first | exact p1 | exact hNM) (show 1 ≤ (7 : Int) ∧ (7 : Int) ≤ 7 ∧ (7 : Int) ≠ 5 by omega) (show (m.1 26) ≤ 16 by omega) (show (m386.1 10) = 0 → ∀ k, 0 ≤ k → k < (m386.1 13) → (m386.2 16) k = (7 : Int) → 0 ≤ (m386.2 17) k ∧ (m386.2 17) k < (m.1 26) by rewrite [(show (m386.1 13) = (m.1 13) from ((fr1 Fm386 13 rfl).trans ((fr1 Fm246 13 rfl).trans ((fr1 Fm34 13 rfl).trans ((fr1 Fm19 13 rfl).trans (fr1 Fm5 13 rfl)))))), (show (m386.2 16) = (m.2 16) from ((fr2 Fm386 16 rfl).trans ((fr2 Fm246 16 rfl).trans ((fr2 Fm34 16 rfl).trans ((fr2 Fm19 16 rfl).trans (fr2 Fm5 16 rfl)))))), (show (m386.2 17) = (m.2 17) from ((fr2 Fm386 17 rfl).trans ((fr2 Fm246 17 rfl).trans ((fr2 Fm34 17 rfl).trans ((fr2 Fm19 17 rfl).trans (fr2 Fm5 17 rfl))))))]; first | exact hOL | (intro h; exfalso; omega)) (show (7 : Int) = 3 → 3 ≤ (m.1 26) by omega)) (fun rr397 k398 => ?_)
                      obtain ⟨m399, oo, Tm399, Fm399, g400, h401, h402, h403, h404, h405, h406, rfl⟩ := k398
                      refine ⟨_, _, rfl, ?_⟩
                      refine T_nb (st' := [.int (i32 oo)]) rfl ?_
                      obtain ⟨g400a, g400b⟩ := g400
                      have g407 : 0 ≤ m399.1 7 ∧ m399.1 7 ≤ 330 := Tm399.1 7
                      have g408 : 0 ≤ m399.1 8 ∧ m399.1 8 ≤ 4000 := Tm399.1 8
                      have g409 : 0 ≤ m399.1 9 ∧ m399.1 9 ≤ 4000 := Tm399.1 9
                      have g410 : 0 ≤ m399.1 10 ∧ m399.1 10 ≤ 8 := Tm399.1 10
                      have g411 : (-1) ≤ m399.1 11 ∧ m399.1 11 ≤ 4000 := Tm399.1 11
                      replace h401 : LxP (m399.1 7) (m399.1 8) (m399.1 9) (m386.1 6) (m399.1 10) := h401
                      rewrite [(show (m386.1 6) = (m.1 6) from ((fr1 Fm386 6 rfl).trans ((fr1 Fm246 6 rfl).trans ((fr1 Fm34 6 rfl).trans ((fr1 Fm19 6 rfl).trans (fr1 Fm5 6 rfl))))))] at h401
                      replace h402 : (m386.1 8) ≤ (m399.1 8) := h402
                      replace h403 : (m399.1 10) = 0 → (m386.1 10) = 0 ∧ (m386.1 8) + (m386.1 9) ≤ (m399.1 8) := h403
                      replace h404 : (m399.1 10) = 0 → (m386.1 7) = 1 := h404
                      replace h405 : 0 ≤ oo ∧ (oo < (m.1 26) ∨ oo = 0) := h405
                      replace h406 : (m399.1 10) = 0 → oo < (m.1 26) := h406
                      have hf412 : 1 ≤ (m399.1 10) := by omega
                      clear h403
                      clear h404
                      clear h406
                      have hLx := h401
                      refine T_sto 101 [(3, .int (i32 oo)), (2, .int (i32 (m386.1 8))), (1, .int (i32 x247)), (0, .ref 189)] rfl (fun _ => rfl) ?_
                      refine T_gf 105 (.int (i32 (m399.1 10))) rfl rfl rfl rfl rfl rfl ?_
                      refine T_if 124 108 rfl rfl rfl (r32 (by omega) (by omega)) (fun (h413 : (m399.1 10) ≠ 0) => ?_) (fun (h413 : ¬ ((m399.1 10) ≠ 0)) => by exfalso; omega)
                      refine T_ld 125 (.ref 189) rfl (fun _ => rfl) ?_
                      refine T_ld 127 (.int (i32 59)) rfl (fun _ => rfl) ?_
                      refine T_call 130 232 [.ref 189, .int (i32 59)] [] rfl (fun _ => rfl) rfl (d_need w (mO m399 [] []) c N D (by omega) Tm399 59 ⟨by decide, by decide⟩ (show 1 ≤ (59 : Int) by omega) (show LxP (m399.1 7) (m399.1 8) (m399.1 9) (m399.1 6) (m399.1 10) by rewrite [(show (m399.1 6) = (m.1 6) from ((fr1 Fm399 6 rfl).trans ((fr1 Fm386 6 rfl).trans ((fr1 Fm246 6 rfl).trans ((fr1 Fm34 6 rfl).trans ((fr1 Fm19 6 rfl).trans (fr1 Fm5 6 rfl)))))))]; first | exact hLx | (intro h9; exfalso; omega) | (intro h9; have h8 := hLx (by omega); omega))) (fun rr414 k415 => ?_)
                      obtain ⟨m416, Tm416, Fm416, h417, h418, h419, h420, rfl⟩ := k415
                      refine ⟨_, _, rfl, ?_⟩
                      refine T_nb (st' := []) rfl ?_
                      have g421 : 0 ≤ m416.1 7 ∧ m416.1 7 ≤ 330 := Tm416.1 7
                      have g422 : 0 ≤ m416.1 8 ∧ m416.1 8 ≤ 4000 := Tm416.1 8
                      have g423 : 0 ≤ m416.1 9 ∧ m416.1 9 ≤ 4000 := Tm416.1 9
                      have g424 : 0 ≤ m416.1 10 ∧ m416.1 10 ≤ 8 := Tm416.1 10
                      have g425 : (-1) ≤ m416.1 11 ∧ m416.1 11 ≤ 4000 := Tm416.1 11
                      replace h417 : LxP (m416.1 7) (m416.1 8) (m416.1 9) (m399.1 6) (m416.1 10) := h417
                      rewrite [(show (m399.1 6) = (m.1 6) from ((fr1 Fm399 6 rfl).trans ((fr1 Fm386 6 rfl).trans ((fr1 Fm246 6 rfl).trans ((fr1 Fm34 6 rfl).trans ((fr1 Fm19 6 rfl).trans (fr1 Fm5 6 rfl)))))))] at h417
                      replace h418 : (m416.1 10) = 0 → (m399.1 10) = 0 ∧ (m399.1 7) = (59 : Int) := h418
                      replace h419 : (m399.1 8) ≤ (m416.1 8) := h419
                      replace h420 : (m416.1 10) = 0 → (m399.1 8) + (m399.1 9) ≤ (m416.1 8) := h420
                      have hf426 : 1 ≤ (m416.1 10) := by omega
                      clear h418
                      clear h420
                      have hLx := h417
                      refine T_gf 134 (.int (i32 (m416.1 10))) rfl rfl rfl rfl rfl rfl ?_
                      refine T_if 138 137 rfl rfl rfl (r32 (by omega) (by omega)) (fun (h427 : (m416.1 10) ≤ 0) => by exfalso; omega) (fun (h427 : ¬ ((m416.1 10) ≤ 0)) => ?_)
                      refine T_ret rfl (fun _ => rfl) ?_
                      exact ⟨(mO m416 [] []), Tm416, (fr_m (fr_s Fm416 (fr_m (fr_s Fm399 (fr_m (fr_s Fm386 (fr_m (fr_s Fm246 (fr_m (fr_s Fm34 (fr_m (fr_s Fm19 (fr_m (fr_s Fm5 (fr_m fr_0 rfl rfl) rfl rfl) rfl rfl) rfl rfl) rfl rfl) rfl rfl) rfl rfl) rfl rfl) rfl rfl) rfl rfl) rfl rfl) rfl rfl) rfl rfl) rfl rfl) rfl rfl), (show (m416.1 10) = 0 → (m.1 10) = 0 by omega), (show LxP (m416.1 7) (m416.1 8) (m416.1 9) (m.1 6) (m416.1 10) by first | (first | exact hLx | exact (fun _ => hLx (by omega)) | (intro h9; exfalso; omega)) | (exfalso; omega)), (fun (h : (m416.1 10) = 0) => absurd h (by omega)), rfl⟩
                · skip
                  refine T_ld 40 (.ref 189) rfl (fun _ => rfl) ?_
                  refine T_ld 41 (.int (i32 0)) rfl (fun _ => rfl) ?_
                  refine T_call 44 281 [.ref 189, .int (i32 0)] [] rfl (fun _ => rfl) rfl (c_newStep w (mO m34 [] []) c N D (by omega) Tm34 0 ⟨by decide, by decide⟩ (show 0 ≤ (0 : Int) ∧ (0 : Int) ≤ 2 by omega) (show 1 ≤ (m34.1 119) by omega) (show (m34.1 10) = 0 by omega) (show ∀ j, 0 ≤ j → j < (m34.1 119) → (m34.2 117) j < (m34.1 27) by assumption)) (fun rr428 k429 => ?_)
                  obtain ⟨m430, x431, Tm430, Fm430, g432, h433, c434, rfl⟩ := k429
                  refine ⟨_, _, rfl, ?_⟩
                  refine T_nb (st' := [.int (i32 x431)]) rfl ?_
                  obtain ⟨g432a, g432b⟩ := g432
                  have g435 : 0 ≤ m430.1 10 ∧ m430.1 10 ≤ 8 := Tm430.1 10
                  have g436 : (-1) ≤ m430.1 11 ∧ m430.1 11 ≤ 4000 := Tm430.1 11
                  have g437 : 0 ≤ m430.1 27 ∧ m430.1 27 ≤ 48 := Tm430.1 27
                  by_cases hf438 : (m430.1 10) = 0
                  · skip
                    replace h433 : (m34.1 10) = 0 := h433 hf438
                    obtain ⟨c439, c440, c441, c442, c443⟩ := c434 hf438
                    replace c439 : x431 = (m34.1 27) := c439
                    have hS9 := c439
                    replace c440 : (m430.1 27) = (m34.1 27) + 1 := c440
                    have hS0 := c440
                    replace c441 : (m430.2 60) = upI (m34.2 60) (m34.1 27) (0 : Int) := c441
                    have hS1 := c441
                    replace c442 : (m430.2 61) = upI (m34.2 61) (m34.1 27) ((m34.2 117) ((m34.1 119) - 1)) := c442
                    have hS2 := c442
                    replace c443 : (m430.2 63) = upI (m34.2 63) (m34.1 27) (-1) := c443
                    have hS3 := c443
                    clear c434
                    have u444 : (m.1 8) + 1 ≤ (m34.1 8) := by omega
                    have hAgC : agr (m.2 65) (m34.2 65) (m.1 28) := by first | exact agr_r _ _ | exact hAgC | exact agr_t hAgC hAg (by omega)
                    refine T_sto 45 [(1, .int (i32 x431)), (0, .ref 189)] rfl (fun _ => rfl) ?_
                    refine T_gf 49 (.ref 279) rfl rfl rfl rfl rfl rfl ?_
                    refine T_ld 50 (.int (i32 x431)) rfl (fun _ => rfl) ?_
                    refine T_gf 54 (.int (i32 (m34.1 99))) rfl rfl rfl rfl (mfv_c (F := fun x => .int (i32 x)) rfl (show (m430.1 99) = (m34.1 99) from (fr1 Fm430 99 rfl))) rfl ?_
                    have G445 : ∀ j, 0 ≤ (upI (m34.2 120) x431 (m34.1 99)) j ∧ (upI (m34.2 120) x431 (m34.1 99)) j ≤ 240 := upI_rg (Tm34.2.1 120) ⟨by omega, by omega⟩
                    refine T_iast (a' := [(120, upI (m34.2 120) x431 (m34.1 99))]) 55 120 (m34.2 120) rfl rfl rfl (by omega) (show x431 < (48 : Int) by omega) (show (m430.2 120) = (m34.2 120) from (fr2 Fm430 120 rfl)) rfl ?_
                    refine T_gf 59 (.int (i32 (m430.1 10))) rfl rfl rfl rfl rfl rfl ?_
                    refine T_if 66 62 rfl rfl rfl (r32 (by omega) (by omega)) (fun (h446 : (m430.1 10) ≠ 0) => by exfalso; omega) (fun (h446 : ¬ ((m430.1 10) ≠ 0)) => ?_)
                    refine T_ld 63 (.ref 189) rfl (fun _ => rfl) ?_
                    refine T_call 66 270 [.ref 189] [] rfl (fun _ => rfl) rfl (c_takeStatement w (mO m430 [] [(120, upI (m34.2 120) x431 (m34.1 99))]) c N D (by omega) (Ty_mO Tm430 rfl rfl trivial ⟨G445, trivial⟩) (show LxP (m430.1 7) (m430.1 8) (m430.1 9) (m430.1 6) (m430.1 10) by rewrite [(show (m430.1 7) = (m34.1 7) from (fr1 Fm430 7 rfl)), (show (m430.1 8) = (m34.1 8) from (fr1 Fm430 8 rfl)), (show (m430.1 9) = (m34.1 9) from (fr1 Fm430 9 rfl)), (show (m430.1 6) = (m.1 6) from ((fr1 Fm430 6 rfl).trans ((fr1 Fm34 6 rfl).trans ((fr1 Fm19 6 rfl).trans (fr1 Fm5 6 rfl)))))]; first | exact hLx | exact (fun _ => hLx (by omega)) | (intro h9; exfalso; omega)) (show ∀ k, (m430.2 14) k + (m430.2 15) k ≤ 4000 by rewrite [(show (m430.2 14) = (m.2 14) from ((fr2 Fm430 14 rfl).trans ((fr2 Fm34 14 rfl).trans ((fr2 Fm19 14 rfl).trans (fr2 Fm5 14 rfl))))), (show (m430.2 15) = (m.2 15) from ((fr2 Fm430 15 rfl).trans ((fr2 Fm34 15 rfl).trans ((fr2 Fm19 15 rfl).trans (fr2 Fm5 15 rfl)))))]; assumption) (show ∀ k, (m430.2 31) k + (m430.2 32) k ≤ 4000 by rewrite [(show (m430.2 31) = (m.2 31) from ((fr2 Fm430 31 rfl).trans ((fr2 Fm34 31 rfl).trans ((fr2 Fm19 31 rfl).trans (fr2 Fm5 31 rfl))))), (show (m430.2 32) = (m.2 32) from ((fr2 Fm430 32 rfl).trans ((fr2 Fm34 32 rfl).trans ((fr2 Fm19 32 rfl).trans (fr2 Fm5 32 rfl)))))]; assumption) (show ∀ k, (m430.2 47) k + (m430.2 48) k ≤ 4000 by rewrite [(show (m430.2 47) = (m.2 47) from ((fr2 Fm430 47 rfl).trans ((fr2 Fm34 47 rfl).trans ((fr2 Fm19 47 rfl).trans (fr2 Fm5 47 rfl))))), (show (m430.2 48) = (m.2 48) from ((fr2 Fm430 48 rfl).trans ((fr2 Fm34 48 rfl).trans ((fr2 Fm19 48 rfl).trans (fr2 Fm5 48 rfl)))))]; assumption) (show (m430.1 99) ≤ 239 by rewrite [(show (m430.1 99) = (m34.1 99) from (fr1 Fm430 99 rfl))]; omega) (show (m430.1 10) = 0 by omega) ⟨(show PN (m430.1 13) (m430.1 19) (m430.1 20) (m430.1 21) (m430.1 22) (m430.1 23) (m430.1 25) (m430.1 26) (m430.2 16) (m430.2 17) by rewrite [(show (m430.1 13) = (m.1 13) from ((fr1 Fm430 13 rfl).trans ((fr1 Fm34 13 rfl).trans ((fr1 Fm19 13 rfl).trans (fr1 Fm5 13 rfl))))), (show (m430.1 19) = (m.1 19) from ((fr1 Fm430 19 rfl).trans ((fr1 Fm34 19 rfl).trans ((fr1 Fm19 19 rfl).trans (fr1 Fm5 19 rfl))))), (show (m430.1 20) = (m.1 20) from ((fr1 Fm430 20 rfl).trans ((fr1 Fm34 20 rfl).trans ((fr1 Fm19 20 rfl).trans (fr1 Fm5 20 rfl))))), (show (m430.1 21) = (m.1 21) from ((fr1 Fm430 21 rfl).trans ((fr1 Fm34 21 rfl).trans ((fr1 Fm19 21 rfl).trans (fr1 Fm5 21 rfl))))), (show (m430.1 22) = (m.1 22) from ((fr1 Fm430 22 rfl).trans ((fr1 Fm34 22 rfl).trans ((fr1 Fm19 22 rfl).trans (fr1 Fm5 22 rfl))))), (show (m430.1 23) = (m.1 23) from ((fr1 Fm430 23 rfl).trans ((fr1 Fm34 23 rfl).trans ((fr1 Fm19 23 rfl).trans (fr1 Fm5 23 rfl))))), (show (m430.1 25) = (m.1 25) from ((fr1 Fm430 25 rfl).trans ((fr1 Fm34 25 rfl).trans ((fr1 Fm19 25 rfl).trans (fr1 Fm5 25 rfl))))), (show (m430.1 26) = (m.1 26) from ((fr1 Fm430 26 rfl).trans ((fr1 Fm34 26 rfl).trans ((fr1 Fm19 26 rfl).trans (fr1 Fm5 26 rfl))))), (show (m430.2 16) = (m.2 16) from ((fr2 Fm430 16 rfl).trans ((fr2 Fm34 16 rfl).trans ((fr2 Fm19 16 rfl).trans (fr2 Fm5 16 rfl))))), (show (m430.2 17) = (m.2 17) from ((fr2 Fm430 17 rfl).trans ((fr2 Fm34 17 rfl).trans ((fr2 Fm19 17 rfl).trans (fr2 Fm5 17 rfl)))))]; assumption), (show CN (m430.2 65) (m430.2 67) (m430.1 28) by rewrite [(show (m430.2 65) = (m34.2 65) from (fr2 Fm430 65 rfl)), (show (m430.2 67) = (m34.2 67) from (fr2 Fm430 67 rfl)), (show (m430.1 28) = (m34.1 28) from (fr1 Fm430 28 rfl))]; assumption), (show (m430.1 7) ≠ 0 by rewrite [(show (m430.1 7) = (m34.1 7) from (fr1 Fm430 7 rfl))]; omega), (show TdP (m430.2 65) (m430.1 28) (m430.1 22) (m430.1 99) (m430.2 101) (m430.2 103) (m430.2 105) (m430.2 106) (m430.2 107) (m430.2 108) by rewrite [(show (m430.2 65) = (m34.2 65) from (fr2 Fm430 65 rfl)), (show (m430.1 28) = (m34.1 28) from (fr1 Fm430 28 rfl)), (show (m430.1 22) = (m.1 22) from ((fr1 Fm430 22 rfl).trans ((fr1 Fm34 22 rfl).trans ((fr1 Fm19 22 rfl).trans (fr1 Fm5 22 rfl))))), (show (m430.1 99) = (m34.1 99) from (fr1 Fm430 99 rfl)), (show (m430.2 101) = (m34.2 101) from (fr2 Fm430 101 rfl)), (show (m430.2 103) = (m34.2 103) from (fr2 Fm430 103 rfl)), (show (m430.2 105) = (m34.2 105) from (fr2 Fm430 105 rfl)), (show (m430.2 106) = (m34.2 106) from (fr2 Fm430 106 rfl)), (show (m430.2 107) = (m34.2 107) from (fr2 Fm430 107 rfl)), (show (m430.2 108) = (m34.2 108) from (fr2 Fm430 108 rfl))]; assumption)⟩) (fun rr447 k448 => ?_)
                    obtain ⟨m449, Tm449, Fm449, h450, h451, h452, c453, rfl⟩ := k448
                    refine ⟨_, _, rfl, ?_⟩
                    refine T_nb (st' := []) rfl ?_
                    have g454 : 0 ≤ m449.1 7 ∧ m449.1 7 ≤ 330 := Tm449.1 7
                    have g455 : 0 ≤ m449.1 8 ∧ m449.1 8 ≤ 4000 := Tm449.1 8
                    have g456 : 0 ≤ m449.1 9 ∧ m449.1 9 ≤ 4000 := Tm449.1 9
                    have g457 : 0 ≤ m449.1 10 ∧ m449.1 10 ≤ 8 := Tm449.1 10
                    have g458 : (-1) ≤ m449.1 11 ∧ m449.1 11 ≤ 4000 := Tm449.1 11
                    have g459 : 0 ≤ m449.1 28 ∧ m449.1 28 ≤ 800 := Tm449.1 28
                    have g460 : 0 ≤ m449.1 69 ∧ m449.1 69 ≤ 1024 := Tm449.1 69
                    have g461 : 0 ≤ m449.1 70 ∧ m449.1 70 ≤ 4000 := Tm449.1 70
                    have g462 : 0 ≤ m449.1 71 ∧ m449.1 71 ≤ 1 := Tm449.1 71
                    have g463 : (-9223372036854775808) ≤ m449.1 72 ∧ m449.1 72 ≤ 9223372036854775807 := Tm449.1 72
                    have g464 : 0 ≤ m449.1 99 ∧ m449.1 99 ≤ 240 := Tm449.1 99
                    by_cases hf465 : (m449.1 10) = 0
                    · skip
                      replace h450 : (m430.1 10) = 0 := h450 hf465
                      replace h451 : LxP (m449.1 7) (m449.1 8) (m449.1 9) (m430.1 6) (m449.1 10) := h451
                      rewrite [(show (m430.1 6) = (m.1 6) from ((fr1 Fm430 6 rfl).trans ((fr1 Fm34 6 rfl).trans ((fr1 Fm19 6 rfl).trans (fr1 Fm5 6 rfl)))))] at h451
                      have hLx := h451
                      replace h452 : (m449.1 99) = (m430.1 99) + 1 := h452
                      rewrite [(show (m430.1 99) = (m34.1 99) from (fr1 Fm430 99 rfl))] at h452
                      have hTS := h452
                      obtain ⟨c466, c467, c468, c469, c470⟩ := c453 hf465
                      replace c466 : (m430.1 8) + 1 ≤ (m449.1 8) := c466
                      rewrite [(show (m430.1 8) = (m34.1 8) from (fr1 Fm430 8 rfl))] at c466
                      replace c467 : (m430.1 28) ≤ (m449.1 28) := c467
                      rewrite [(show (m430.1 28) = (m34.1 28) from (fr1 Fm430 28 rfl))] at c467
                      replace c468 : CN (m449.2 65) (m449.2 67) (m449.1 28) := c468
                      have hCN := c468
                      replace c469 : agr (m430.2 65) (m449.2 65) (m430.1 28) := c469
                      rewrite [(show (m430.2 65) = (m34.2 65) from (fr2 Fm430 65 rfl)), (show (m430.1 28) = (m34.1 28) from (fr1 Fm430 28 rfl))] at c469
                      have hAg := c469
                      replace c470 : TdP (m449.2 65) (m449.1 28) (m430.1 22) (m449.1 99) (m449.2 101) (m449.2 103) (m449.2 105) (m449.2 106) (m449.2 107) (m449.2 108) := c470
                      rewrite [(show (m430.1 22) = (m.1 22) from ((fr1 Fm430 22 rfl).trans ((fr1 Fm34 22 rfl).trans ((fr1 Fm19 22 rfl).trans (fr1 Fm5 22 rfl)))))] at c470
                      have pTd := c470
                      clear c453
                      have u471 : (m.1 8) + 1 ≤ (m449.1 8) := by omega
                      have hAgC : agr (m.2 65) (m449.2 65) (m.1 28) := by first | exact agr_r _ _ | exact hAgC | exact agr_t hAgC hAg (by omega)
                      have pSp : SpP (m449.2 65) (m449.1 28) (m449.1 99) (m.1 26) (m430.1 27) (m430.2 60) (m430.2 61) (upI (m34.2 120) x431 (m34.1 99)) (m34.2 121) (m34.2 122) (m430.2 63) := by
                        try rw [hS9]
                        rw [hS0, hS1, hS2]
                        rw [hS3]; exact SpP_add (SpP_f pSp hAg (by omega) (by omega) (agr_u (Int.le_refl _)) (agr_u (Int.le_refl _)) (agr_u (Int.le_refl _)) (agr_r _ _) (agr_r _ _) (agr_u (Int.le_refl _))) ⟨by rw [upI_s]; exact hBi, fun _ => by rw [upI_s]; omega, fun h => by rw [upI_s] at h; omega, fun h => by rw [upI_s] at h; omega⟩
                      have hBK : ∀ j, 0 ≤ j → j < (m34.1 119) → (m34.2 117) j < (m430.1 27) := fun j j0 j1 => Int.lt_trans (hBK j j0 j1) (by omega)
                      refine T_goto 18 rfl (fun _ => rfl) ?_
                      refine Tm_lv (a := [(0, .ref 189)]) rfl rfl ⟨rfl, trivial⟩ ?_
                      exact ih40 (mO m449 [] []) Tm449 (fr_m (fr_s Fm449 (fr_m (fr_s Fm430 (fr_m (fr_s Fm34 (fr_m fr_0 rfl rfl) rfl rfl) rfl rfl) rfl rfl) rfl rfl) rfl rfl) rfl rfl) (show LxP (m449.1 7) (m449.1 8) (m449.1 9) (m.1 6) (m449.1 10) by first | exact hLx | exact (fun _ => hLx (by omega)) | (intro h9; exfalso; omega)) (fun _ => ⟨(show (m.1 8) + 1 ≤ (m449.1 8) by omega), (show ∀ j, 0 ≤ j → j < (m449.1 119) → (m449.2 117) j < (m449.1 27) by rewrite [(show (m449.1 119) = (m34.1 119) from ((fr1 Fm449 119 rfl).trans (fr1 Fm430 119 rfl))), (show (m449.2 117) = (m34.2 117) from ((fr2 Fm449 117 rfl).trans (fr2 Fm430 117 rfl))), (show (m449.1 27) = (m430.1 27) from (fr1 Fm449 27 rfl))]; exact hBK), (show CN (m449.2 65) (m449.2 67) (m449.1 28) by exact hCN), (show (m.1 28) ≤ (m449.1 28) by omega), (show agr (m.2 65) (m449.2 65) (m.1 28) by exact hAgC), (show TdP (m449.2 65) (m449.1 28) (m.1 22) (m449.1 99) (m449.2 101) (m449.2 103) (m449.2 105) (m449.2 106) (m449.2 107) (m449.2 108) by exact pTd), (show SpP (m449.2 65) (m449.1 28) (m449.1 99) (m.1 26) (m449.1 27) (m449.2 60) (m449.2 61) (m449.2 120) (m449.2 121) (m449.2 122) (m449.2 63) by rewrite [(show (m449.1 27) = (m430.1 27) from (fr1 Fm449 27 rfl)), (show (m449.2 60) = (m430.2 60) from (fr2 Fm449 60 rfl)), (show (m449.2 61) = (m430.2 61) from (fr2 Fm449 61 rfl)), (show (m449.2 120) = (upI (m34.2 120) x431 (m34.1 99)) from (fr2 Fm449 120 rfl)), (show (m449.2 121) = (m34.2 121) from ((fr2 Fm449 121 rfl).trans (fr2 Fm430 121 rfl))), (show (m449.2 122) = (m34.2 122) from ((fr2 Fm449 122 rfl).trans (fr2 Fm430 122 rfl))), (show (m449.2 63) = (m430.2 63) from (fr2 Fm449 63 rfl))]; first | exact pSp | exact fun s s0 s1 => absurd s1 (by omega)), (show (m449.1 99) ≤ 192 + (m449.1 27) by rewrite [(show (m449.1 27) = (m430.1 27) from (fr1 Fm449 27 rfl))]; omega), (show (m.1 99) ≤ (m449.1 99) by omega)⟩) (show 1000000 * (8 - (m449.1 10)) + (4000 - (m449.1 8)) < (n39 : Int) by omega)
                    · skip
                      clear c453
                      clear h450
                      replace h451 : LxP (m449.1 7) (m449.1 8) (m449.1 9) (m430.1 6) (m449.1 10) := h451
                      rewrite [(show (m430.1 6) = (m.1 6) from ((fr1 Fm430 6 rfl).trans ((fr1 Fm34 6 rfl).trans ((fr1 Fm19 6 rfl).trans (fr1 Fm5 6 rfl)))))] at h451
                      have hLx := h451
                      replace h452 : (m449.1 99) = (m430.1 99) + 1 := h452
                      rewrite [(show (m430.1 99) = (m34.1 99) from (fr1 Fm430 99 rfl))] at h452
                      have hTS := h452
                      have hf472 : 1 ≤ (m449.1 10) := by omega
                      refine T_goto 18 rfl (fun _ => rfl) ?_
                      refine Tm_lv (a := [(0, .ref 189)]) rfl rfl ⟨rfl, trivial⟩ ?_
                      exact ih40 (mO m449 [] []) Tm449 (fr_m (fr_s Fm449 (fr_m (fr_s Fm430 (fr_m (fr_s Fm34 (fr_m fr_0 rfl rfl) rfl rfl) rfl rfl) rfl rfl) rfl rfl) rfl rfl) rfl rfl) (show LxP (m449.1 7) (m449.1 8) (m449.1 9) (m.1 6) (m449.1 10) by first | exact hLx | exact (fun _ => hLx (by omega)) | (intro h9; exfalso; omega)) (fun (h : (m449.1 10) = 0) => absurd h (by omega)) (show 1000000 * (8 - (m449.1 10)) + (4000 - (m449.1 8)) < (n39 : Int) by omega)
                  · skip
                    clear c434
                    clear h433
                    have hf473 : 1 ≤ (m430.1 10) := by omega
                    refine T_sto 45 [(1, .int (i32 x431)), (0, .ref 189)] rfl (fun _ => rfl) ?_
                    refine T_gf 49 (.ref 279) rfl rfl rfl rfl rfl rfl ?_
                    refine T_ld 50 (.int (i32 x431)) rfl (fun _ => rfl) ?_
                    refine T_gf 54 (.int (i32 (m34.1 99))) rfl rfl rfl rfl (mfv_c (F := fun x => .int (i32 x)) rfl (show (m430.1 99) = (m34.1 99) from (fr1 Fm430 99 rfl))) rfl ?_
                    have G474 : ∀ j, 0 ≤ (upI (m34.2 120) x431 (m34.1 99)) j ∧ (upI (m34.2 120) x431 (m34.1 99)) j ≤ 240 := upI_rg (Tm34.2.1 120) ⟨by omega, by omega⟩
                    refine T_iast (a' := [(120, upI (m34.2 120) x431 (m34.1 99))]) 55 120 (m34.2 120) rfl rfl rfl (by omega) (show x431 < (48 : Int) by omega) (show (m430.2 120) = (m34.2 120) from (fr2 Fm430 120 rfl)) rfl ?_
                    refine T_gf 59 (.int (i32 (m430.1 10))) rfl rfl rfl rfl rfl rfl ?_
                    refine T_if 66 62 rfl rfl rfl (r32 (by omega) (by omega)) (fun (h475 : (m430.1 10) ≠ 0) => ?_) (fun (h475 : ¬ ((m430.1 10) ≠ 0)) => by exfalso; omega)
                    refine T_goto 18 rfl (fun _ => rfl) ?_
                    refine Tm_lv (a := [(0, .ref 189)]) rfl rfl ⟨rfl, trivial⟩ ?_
                    exact ih40 (mO m430 [] [(120, upI (m34.2 120) x431 (m34.1 99))]) (Ty_mO Tm430 rfl rfl trivial ⟨G474, trivial⟩) (fr_m (fr_s Fm430 (fr_m (fr_s Fm34 (fr_m fr_0 rfl rfl) rfl rfl) rfl rfl) rfl rfl) rfl rfl) (show LxP (m430.1 7) (m430.1 8) (m430.1 9) (m.1 6) (m430.1 10) by rewrite [(show (m430.1 7) = (m34.1 7) from (fr1 Fm430 7 rfl)), (show (m430.1 8) = (m34.1 8) from (fr1 Fm430 8 rfl)), (show (m430.1 9) = (m34.1 9) from (fr1 Fm430 9 rfl))]; first | exact hLx | exact (fun _ => hLx (by omega)) | (intro h9; exfalso; omega)) (fun (h : (m430.1 10) = 0) => absurd h (by omega)) (show 1000000 * (8 - (m430.1 10)) + (4000 - (m430.1 8)) < (n39 : Int) by rewrite [(show (m430.1 8) = (m34.1 8) from (fr1 Fm430 8 rfl))]; omega)
            · skip
              clear c38
              have hf476 : 1 ≤ (m34.1 10) := by omega
              refine T_gf 22 (.int (i32 (m34.1 10))) rfl rfl rfl rfl rfl rfl ?_
              refine T_if 249 25 rfl rfl rfl (r32 (by omega) (by omega)) (fun (h477 : (m34.1 10) ≠ 0) => ?_) (fun (h477 : ¬ ((m34.1 10) ≠ 0)) => by exfalso; omega)
              refine T_ret rfl (fun _ => rfl) ?_
              exact ⟨(mO m34 [] []), Tm34, (fr_m (fr_s Fm34 (fr_m (fr_s Fm19 (fr_m (fr_s Fm5 (fr_m fr_0 rfl rfl) rfl rfl) rfl rfl) rfl rfl) rfl rfl) rfl rfl) rfl rfl), (show (m34.1 10) = 0 → (m.1 10) = 0 by omega), (show LxP (m34.1 7) (m34.1 8) (m34.1 9) (m.1 6) (m34.1 10) by first | (first | exact hLx | exact (fun _ => hLx (by omega)) | (intro h9; exfalso; omega)) | (exfalso; omega)), (fun (h : (m34.1 10) = 0) => absurd h (by omega)), rfl⟩
        exact L18_35 ((1000000 * (8 - (m19.1 10)) + (4000 - (m19.1 8)) : Int) + 1).toNat (mO m19 [] []) Tm19 (fr_m fr_0 rfl rfl) (show LxP (m19.1 7) (m19.1 8) (m19.1 9) (m.1 6) (m19.1 10) by first | exact hLx | exact (fun _ => hLx (by omega)) | (intro h9; exfalso; omega)) (fun _ => ⟨(show (m.1 8) + 1 ≤ (m19.1 8) by omega), (show ∀ j, 0 ≤ j → j < (m19.1 119) → (m19.2 117) j < (m19.1 27) by rewrite [(show (m19.1 27) = (m.1 27) from ((fr1 Fm19 27 rfl).trans (fr1 Fm5 27 rfl)))]; exact hBK), (show CN (m19.2 65) (m19.2 67) (m19.1 28) by rewrite [(show (m19.2 65) = (m.2 65) from ((fr2 Fm19 65 rfl).trans (fr2 Fm5 65 rfl))), (show (m19.2 67) = (m.2 67) from ((fr2 Fm19 67 rfl).trans (fr2 Fm5 67 rfl))), (show (m19.1 28) = (m.1 28) from ((fr1 Fm19 28 rfl).trans (fr1 Fm5 28 rfl)))]; exact hCN), (show (m.1 28) ≤ (m19.1 28) by rewrite [(show (m19.1 28) = (m.1 28) from ((fr1 Fm19 28 rfl).trans (fr1 Fm5 28 rfl)))]; omega), (show agr (m.2 65) (m19.2 65) (m.1 28) by rewrite [(show (m19.2 65) = (m.2 65) from ((fr2 Fm19 65 rfl).trans (fr2 Fm5 65 rfl)))]; exact hAgC), (show TdP (m19.2 65) (m19.1 28) (m.1 22) (m19.1 99) (m19.2 101) (m19.2 103) (m19.2 105) (m19.2 106) (m19.2 107) (m19.2 108) by rewrite [(show (m19.2 65) = (m.2 65) from ((fr2 Fm19 65 rfl).trans (fr2 Fm5 65 rfl))), (show (m19.1 28) = (m.1 28) from ((fr1 Fm19 28 rfl).trans (fr1 Fm5 28 rfl))), (show (m19.1 99) = (m.1 99) from ((fr1 Fm19 99 rfl).trans (fr1 Fm5 99 rfl))), (show (m19.2 101) = (m.2 101) from ((fr2 Fm19 101 rfl).trans (fr2 Fm5 101 rfl))), (show (m19.2 103) = (m.2 103) from ((fr2 Fm19 103 rfl).trans (fr2 Fm5 103 rfl))), (show (m19.2 105) = (m.2 105) from ((fr2 Fm19 105 rfl).trans (fr2 Fm5 105 rfl))), (show (m19.2 106) = (m.2 106) from ((fr2 Fm19 106 rfl).trans (fr2 Fm5 106 rfl))), (show (m19.2 107) = (m.2 107) from ((fr2 Fm19 107 rfl).trans (fr2 Fm5 107 rfl))), (show (m19.2 108) = (m.2 108) from ((fr2 Fm19 108 rfl).trans (fr2 Fm5 108 rfl)))]; exact pTd), (show SpP (m19.2 65) (m19.1 28) (m19.1 99) (m.1 26) (m19.1 27) (m19.2 60) (m19.2 61) (m19.2 120) (m19.2 121) (m19.2 122) (m19.2 63) by rewrite [(show (m19.2 65) = (m.2 65) from ((fr2 Fm19 65 rfl).trans (fr2 Fm5 65 rfl))), (show (m19.1 28) = (m.1 28) from ((fr1 Fm19 28 rfl).trans (fr1 Fm5 28 rfl))), (show (m19.1 99) = (m.1 99) from ((fr1 Fm19 99 rfl).trans (fr1 Fm5 99 rfl))), (show (m19.1 27) = (m.1 27) from ((fr1 Fm19 27 rfl).trans (fr1 Fm5 27 rfl))), (show (m19.2 60) = (m.2 60) from ((fr2 Fm19 60 rfl).trans (fr2 Fm5 60 rfl))), (show (m19.2 61) = (m.2 61) from ((fr2 Fm19 61 rfl).trans (fr2 Fm5 61 rfl))), (show (m19.2 120) = (m.2 120) from ((fr2 Fm19 120 rfl).trans (fr2 Fm5 120 rfl))), (show (m19.2 121) = (m.2 121) from ((fr2 Fm19 121 rfl).trans (fr2 Fm5 121 rfl))), (show (m19.2 122) = (m.2 122) from ((fr2 Fm19 122 rfl).trans (fr2 Fm5 122 rfl))), (show (m19.2 63) = (m.2 63) from ((fr2 Fm19 63 rfl).trans (fr2 Fm5 63 rfl)))]; first | exact pSp | exact fun s s0 s1 => absurd s1 (by omega)), (show (m19.1 99) ≤ 192 + (m19.1 27) by rewrite [(show (m19.1 99) = (m.1 99) from ((fr1 Fm19 99 rfl).trans (fr1 Fm5 99 rfl))), (show (m19.1 27) = (m.1 27) from ((fr1 Fm19 27 rfl).trans (fr1 Fm5 27 rfl)))]; omega), (show (m.1 99) ≤ (m19.1 99) by rewrite [(show (m19.1 99) = (m.1 99) from ((fr1 Fm19 99 rfl).trans (fr1 Fm5 99 rfl)))]; omega)⟩) (show 1000000 * (8 - (m19.1 10)) + (4000 - (m19.1 8)) < ((((1000000 * (8 - (m19.1 10)) + (4000 - (m19.1 8)) : Int) + 1).toNat : Nat) : Int) by omega)
      · skip
        clear c22
        clear h20
        replace h21 : LxP (m19.1 7) (m19.1 8) (m19.1 9) (m5.1 6) (m19.1 10) := h21
        rewrite [(show (m5.1 6) = (m.1 6) from (fr1 Fm5 6 rfl))] at h21
        have hLx := h21
        have hf478 : 1 ≤ (m19.1 10) := by omega
        refine T_gf 22 (.int (i32 (m19.1 10))) rfl rfl rfl rfl rfl rfl ?_
        refine T_if 249 25 rfl rfl rfl (r32 (by omega) (by omega)) (fun (h479 : (m19.1 10) ≠ 0) => ?_) (fun (h479 : ¬ ((m19.1 10) ≠ 0)) => by exfalso; omega)
        refine T_ret rfl (fun _ => rfl) ?_
        exact ⟨(mO m19 [] []), Tm19, (fr_m (fr_s Fm19 (fr_m (fr_s Fm5 (fr_m fr_0 rfl rfl) rfl rfl) rfl rfl) rfl rfl) rfl rfl), (show (m19.1 10) = 0 → (m.1 10) = 0 by omega), (show LxP (m19.1 7) (m19.1 8) (m19.1 9) (m.1 6) (m19.1 10) by first | (first | exact hLx | exact (fun _ => hLx (by omega)) | (intro h9; exfalso; omega)) | (exfalso; omega)), (fun (h : (m19.1 10) = 0) => absurd h (by omega)), rfl⟩
    · skip
      replace h6 : LxP (m5.1 7) (m5.1 8) (m5.1 9) (m.1 6) (m5.1 10) := h6
      have hLx := h6
      clear h7
      replace h8 : (m.1 8) ≤ (m5.1 8) := h8
      clear h9
      have hf480 : 1 ≤ (m5.1 10) := by omega
      refine T_ld 8 (.ref 189) rfl (fun _ => rfl) ?_
      refine T_ld 9 (.int (i32 0)) rfl (fun _ => rfl) ?_
      refine T_pf (l' := [(119, 0)]) 12 0 rfl rfl rfl rfl rfl rfl ?_
      refine T_ld 13 (.ref 189) rfl (fun _ => rfl) ?_
      refine T_ld 14 (.int (i32 (-1))) rfl (fun _ => rfl) ?_
      refine T_ld 15 (.int (i32 (-1))) rfl (fun _ => rfl) ?_
      refine T_call 18 280 [.ref 189, .int (i32 (-1)), .int (i32 (-1))] [] rfl (fun _ => rfl) rfl (c_openBlock w (mO m5 [(119, 0)] []) c N D (by omega) (Ty_mO Tm5 rfl rfl ⟨⟨(by omega : (0 : Int) ≤ 0), (by omega : (0 : Int) ≤ 8)⟩, trivial⟩ trivial) (-1) (-1) ⟨by decide, by decide⟩ ⟨by decide, by decide⟩ (show LxP (m5.1 7) (m5.1 8) (m5.1 9) (m5.1 6) (m5.1 10) by rewrite [(show (m5.1 6) = (m.1 6) from (fr1 Fm5 6 rfl))]; first | exact hLx | exact (fun _ => hLx (by omega)) | (intro h9; exfalso; omega)) (show (-1) ≤ (-1 : Int) ∧ (-1 : Int) ≤ 47 by omega) (show (-1) ≤ (-1 : Int) ∧ (-1 : Int) ≤ 1 by omega) (fun (h : (m5.1 10) = 0) => absurd h (by omega))) (fun rr481 k482 => ?_)
      obtain ⟨m483, Tm483, Fm483, h484, h485, c486, rfl⟩ := k482
      refine ⟨_, _, rfl, ?_⟩
      refine T_nb (st' := []) rfl ?_
      have g487 : 0 ≤ m483.1 7 ∧ m483.1 7 ≤ 330 := Tm483.1 7
      have g488 : 0 ≤ m483.1 8 ∧ m483.1 8 ≤ 4000 := Tm483.1 8
      have g489 : 0 ≤ m483.1 9 ∧ m483.1 9 ≤ 4000 := Tm483.1 9
      have g490 : 0 ≤ m483.1 10 ∧ m483.1 10 ≤ 8 := Tm483.1 10
      have g491 : (-1) ≤ m483.1 11 ∧ m483.1 11 ≤ 4000 := Tm483.1 11
      have g492 : 0 ≤ m483.1 119 ∧ m483.1 119 ≤ 8 := Tm483.1 119
      replace h484 : (m483.1 10) = 0 → (m5.1 10) = 0 := h484
      replace h485 : LxP (m483.1 7) (m483.1 8) (m483.1 9) (m5.1 6) (m483.1 10) := h485
      rewrite [(show (m5.1 6) = (m.1 6) from (fr1 Fm5 6 rfl))] at h485
      have hf493 : 1 ≤ (m483.1 10) := by omega
      clear c486
      clear h484
      have hLx := h485
      refine T_gf 22 (.int (i32 (m483.1 10))) rfl rfl rfl rfl rfl rfl ?_
      refine T_if 249 25 rfl rfl rfl (r32 (by omega) (by omega)) (fun (h494 : (m483.1 10) ≠ 0) => ?_) (fun (h494 : ¬ ((m483.1 10) ≠ 0)) => by exfalso; omega)
      refine T_ret rfl (fun _ => rfl) ?_
      exact ⟨(mO m483 [] []), Tm483, (fr_m (fr_s Fm483 (fr_m (fr_s Fm5 (fr_m fr_0 rfl rfl) rfl rfl) rfl rfl) rfl rfl) rfl rfl), (show (m483.1 10) = 0 → (m.1 10) = 0 by omega), (show LxP (m483.1 7) (m483.1 8) (m483.1 9) (m.1 6) (m483.1 10) by first | (first | exact hLx | exact (fun _ => hLx (by omega)) | (intro h9; exfalso; omega)) | (exfalso; omega)), (fun (h : (m483.1 10) = 0) => absurd h (by omega)), rfl⟩
  · skip
    clear hC
    refine T_ld 1 (.ref 189) rfl (fun _ => rfl) ?_
    refine T_ld 4 (.int (i32 319)) rfl (fun _ => rfl) ?_
    refine T_call 7 232 [.ref 189, .int (i32 319)] [] rfl (fun _ => rfl) rfl (d_need w (mO m [] []) c N D (by omega) hT 319 ⟨by decide, by decide⟩ (show 1 ≤ (319 : Int) by omega) (show LxP (m.1 7) (m.1 8) (m.1 9) (m.1 6) (m.1 10) by first | exact hLx | (intro h9; exfalso; omega) | (intro h9; have h8 := hLx (by omega); omega))) (fun rr495 k496 => ?_)
    obtain ⟨m497, Tm497, Fm497, h498, h499, h500, h501, rfl⟩ := k496
    refine ⟨_, _, rfl, ?_⟩
    refine T_nb (st' := []) rfl ?_
    have g502 : 0 ≤ m497.1 7 ∧ m497.1 7 ≤ 330 := Tm497.1 7
    have g503 : 0 ≤ m497.1 8 ∧ m497.1 8 ≤ 4000 := Tm497.1 8
    have g504 : 0 ≤ m497.1 9 ∧ m497.1 9 ≤ 4000 := Tm497.1 9
    have g505 : 0 ≤ m497.1 10 ∧ m497.1 10 ≤ 8 := Tm497.1 10
    have g506 : (-1) ≤ m497.1 11 ∧ m497.1 11 ≤ 4000 := Tm497.1 11
    replace h498 : LxP (m497.1 7) (m497.1 8) (m497.1 9) (m.1 6) (m497.1 10) := h498
    replace h499 : (m497.1 10) = 0 → (m.1 10) = 0 ∧ (m.1 7) = (319 : Int) := h499
    replace h500 : (m.1 8) ≤ (m497.1 8) := h500
    replace h501 : (m497.1 10) = 0 → (m.1 8) + (m.1 9) ≤ (m497.1 8) := h501
    have hf507 : 1 ≤ (m497.1 10) := by omega
    clear h499
    clear h501
    have hLx := h498
    refine T_ld 8 (.ref 189) rfl (fun _ => rfl) ?_
    refine T_ld 9 (.int (i32 0)) rfl (fun _ => rfl) ?_
    refine T_pf (l' := [(119, 0)]) 12 0 rfl rfl rfl rfl rfl rfl ?_
    refine T_ld 13 (.ref 189) rfl (fun _ => rfl) ?_
    refine T_ld 14 (.int (i32 (-1))) rfl (fun _ => rfl) ?_
    refine T_ld 15 (.int (i32 (-1))) rfl (fun _ => rfl) ?_
    refine T_call 18 280 [.ref 189, .int (i32 (-1)), .int (i32 (-1))] [] rfl (fun _ => rfl) rfl (c_openBlock w (mO m497 [(119, 0)] []) c N D (by omega) (Ty_mO Tm497 rfl rfl ⟨⟨(by omega : (0 : Int) ≤ 0), (by omega : (0 : Int) ≤ 8)⟩, trivial⟩ trivial) (-1) (-1) ⟨by decide, by decide⟩ ⟨by decide, by decide⟩ (show LxP (m497.1 7) (m497.1 8) (m497.1 9) (m497.1 6) (m497.1 10) by rewrite [(show (m497.1 6) = (m.1 6) from (fr1 Fm497 6 rfl))]; first | exact hLx | exact (fun _ => hLx (by omega)) | (intro h9; exfalso; omega)) (show (-1) ≤ (-1 : Int) ∧ (-1 : Int) ≤ 47 by omega) (show (-1) ≤ (-1 : Int) ∧ (-1 : Int) ≤ 1 by omega) (fun (h : (m497.1 10) = 0) => absurd h (by omega))) (fun rr508 k509 => ?_)
    obtain ⟨m510, Tm510, Fm510, h511, h512, c513, rfl⟩ := k509
    refine ⟨_, _, rfl, ?_⟩
    refine T_nb (st' := []) rfl ?_
    have g514 : 0 ≤ m510.1 7 ∧ m510.1 7 ≤ 330 := Tm510.1 7
    have g515 : 0 ≤ m510.1 8 ∧ m510.1 8 ≤ 4000 := Tm510.1 8
    have g516 : 0 ≤ m510.1 9 ∧ m510.1 9 ≤ 4000 := Tm510.1 9
    have g517 : 0 ≤ m510.1 10 ∧ m510.1 10 ≤ 8 := Tm510.1 10
    have g518 : (-1) ≤ m510.1 11 ∧ m510.1 11 ≤ 4000 := Tm510.1 11
    have g519 : 0 ≤ m510.1 119 ∧ m510.1 119 ≤ 8 := Tm510.1 119
    replace h511 : (m510.1 10) = 0 → (m497.1 10) = 0 := h511
    replace h512 : LxP (m510.1 7) (m510.1 8) (m510.1 9) (m497.1 6) (m510.1 10) := h512
    rewrite [(show (m497.1 6) = (m.1 6) from (fr1 Fm497 6 rfl))] at h512
    have hf520 : 1 ≤ (m510.1 10) := by omega
    clear c513
    clear h511
    have hLx := h512
    refine T_gf 22 (.int (i32 (m510.1 10))) rfl rfl rfl rfl rfl rfl ?_
    refine T_if 249 25 rfl rfl rfl (r32 (by omega) (by omega)) (fun (h521 : (m510.1 10) ≠ 0) => ?_) (fun (h521 : ¬ ((m510.1 10) ≠ 0)) => by exfalso; omega)
    refine T_ret rfl (fun _ => rfl) ?_
    exact ⟨(mO m510 [] []), Tm510, (fr_m (fr_s Fm510 (fr_m (fr_s Fm497 (fr_m fr_0 rfl rfl) rfl rfl) rfl rfl) rfl rfl) rfl rfl), (show (m510.1 10) = 0 → (m.1 10) = 0 by omega), (show LxP (m510.1 7) (m510.1 8) (m510.1 9) (m.1 6) (m510.1 10) by first | (first | exact hLx | exact (fun _ => hLx (by omega)) | (intro h9; exfalso; omega)) | (exfalso; omega)), (fun (h : (m510.1 10) = 0) => absurd h (by omega)), rfl⟩
def fF_takeEmit : List Nat := [7, 8, 9, 10, 11, 12, 125]
def fA_takeEmit : List Nat := [123, 124]
def Q_takeEmit (m : mR) (c : Nat → Option am_C) (N : Nat) : ag_Re af_T → Prop := fun R => ∃ (M : mR), Ty M ∧ fr fF_takeEmit fA_takeEmit m M ∧ ((M.1 10) = 0 → (m.1 10) = 0) ∧ (LxP (M.1 7) (M.1 8) (M.1 9) (m.1 6) (M.1 10)) ∧ (M.1 10 = 0 → ((m.1 8) + 1 ≤ (M.1 8)) ∧ (∀ j, 0 ≤ j → j < (M.1 125) → (M.2 124) j < (m.1 20))) ∧ R = (.inl (none), (mhp M c, N), 0, 0)
set_option maxHeartbeats 3000000 in
theorem c_takeEmit (w : wX) (m : mR) (c : Nat → Option am_C) (N D : Nat) (hD : 7 ≤ D) (hT : Ty m) (hLx0 : LxP (m.1 7) (m.1 8) (m.1 9) (m.1 6) (m.1 10)) (hNM0 : ∀ k, (m.2 14) k + (m.2 15) k ≤ 4000) (hC : m.1 10 = 0 → (PN (m.1 13) (m.1 19) (m.1 20) (m.1 21) (m.1 22) (m.1 23) (m.1 25) (m.1 26) (m.2 16) (m.2 17))) : TC w D 283 [.ref 189] (mhp m c, N) (Q_takeEmit m c N) := by
  obtain ⟨D, rfl⟩ : ∃ k, D = k + 1 := ⟨D - 1, by omega⟩
  have hLx := hLx0
  have hNM := hNM0
  have f7 : 0 ≤ m.1 7 ∧ m.1 7 ≤ 330 := hT.1 7
  have f8 : 0 ≤ m.1 8 ∧ m.1 8 ≤ 4000 := hT.1 8
  have f9 : 0 ≤ m.1 9 ∧ m.1 9 ≤ 4000 := hT.1 9
  have f10 : 0 ≤ m.1 10 ∧ m.1 10 ≤ 8 := hT.1 10
  have f11 : (-1) ≤ m.1 11 ∧ m.1 11 ≤ 4000 := hT.1 11
  have f125 : 0 ≤ m.1 125 ∧ m.1 125 ≤ 12 := hT.1 125
  have f25 : 0 ≤ m.1 25 ∧ m.1 25 ≤ 16 := hT.1 25
  have f22 : 0 ≤ m.1 22 ∧ m.1 22 ≤ 8 := hT.1 22
  have f19 : 0 ≤ m.1 19 ∧ m.1 19 ≤ 12 := hT.1 19
  have f20 : 0 ≤ m.1 20 ∧ m.1 20 ≤ 12 := hT.1 20
  have f21 : 0 ≤ m.1 21 ∧ m.1 21 ≤ 16 := hT.1 21
  have f13 : 0 ≤ m.1 13 ∧ m.1 13 ≤ 120 := hT.1 13
  have f6 : 0 ≤ m.1 6 ∧ m.1 6 ≤ 4000 := hT.1 6
  have f23 : 0 ≤ m.1 23 ∧ m.1 23 ≤ 16 := hT.1 23
  have f26 : 0 ≤ m.1 26 ∧ m.1 26 ≤ 8 := hT.1 26
  refine Tc_of rfl ?_
  show TT w D pm_283 (0, [(0, .ref 189)], [], (mhp (mO m [] []) c, N), 0, 0) (Q_takeEmit m c N)
  by_cases hf0 : m.1 10 = 0
  · skip
    have pPN := hC hf0
    have h7 := hLx (by omega)
    have hNM := hNM0
    refine T_ld 1 (.ref 189) rfl (fun _ => rfl) ?_
    refine T_ld 4 (.int (i32 323)) rfl (fun _ => rfl) ?_
    refine T_call 7 232 [.ref 189, .int (i32 323)] [] rfl (fun _ => rfl) rfl (d_need w (mO m [] []) c N D (by omega) hT 323 ⟨by decide, by decide⟩ (show 1 ≤ (323 : Int) by omega) (show LxP (m.1 7) (m.1 8) (m.1 9) (m.1 6) (m.1 10) by first | exact hLx | (intro h9; exfalso; omega) | (intro h9; have h8 := hLx (by omega); omega))) (fun rr1 k2 => ?_)
    obtain ⟨m3, Tm3, Fm3, h4, h5, h6, h7, rfl⟩ := k2
    refine ⟨_, _, rfl, ?_⟩
    refine T_nb (st' := []) rfl ?_
    have g8 : 0 ≤ m3.1 7 ∧ m3.1 7 ≤ 330 := Tm3.1 7
    have g9 : 0 ≤ m3.1 8 ∧ m3.1 8 ≤ 4000 := Tm3.1 8
    have g10 : 0 ≤ m3.1 9 ∧ m3.1 9 ≤ 4000 := Tm3.1 9
    have g11 : 0 ≤ m3.1 10 ∧ m3.1 10 ≤ 8 := Tm3.1 10
    have g12 : (-1) ≤ m3.1 11 ∧ m3.1 11 ≤ 4000 := Tm3.1 11
    by_cases hf13 : (m3.1 10) = 0
    · skip
      replace h4 : LxP (m3.1 7) (m3.1 8) (m3.1 9) (m.1 6) (m3.1 10) := h4
      have hLx := h4
      replace h5 : (m.1 10) = 0 ∧ (m.1 7) = (323 : Int) := h5 hf13
      replace h6 : (m.1 8) ≤ (m3.1 8) := h6
      replace h7 : (m.1 8) + (m.1 9) ≤ (m3.1 8) := h7 hf13
      have u14 : (m.1 8) + 1 ≤ (m3.1 8) := by omega
      refine T_ld 8 (.int (i32 0)) rfl (fun _ => rfl) ?_
      refine T_sto 9 [(1, .int (i32 0)), (0, .ref 189)] rfl (fun _ => rfl) ?_
      have L9_17 : ∀ (n24 : Nat) (v15 : Int) (m16 : mR), (R32 v15) → Ty m16 → fr [] [123] (mO m3 [] []) m16 → (0 ≤ v15) → (v15 ≤ 12) → (∀ j, 0 ≤ j → j < v15 → (m16.2 123) j = 0) → 12 - v15 < (n24 : Int) → TT w D pm_283 (9, [(0, .ref 189), (1, .int (i32 v15))], [], (mhp (mO m16 [] []) c, N), 0, 0) (Q_takeEmit m c N) := by
        intro n24
        induction n24 with
        | zero =>
          intro v15 m16 q21 Tm16 Fm16 ic18 ic19 ic20 hmu
          obtain ⟨q21a, q21b⟩ := id q21
          have hz := ic20
          exfalso
          omega
        | succ n24 ih =>
          intro v15 m16 q21 Tm16 Fm16 ic18 ic19 ic20 hmu
          obtain ⟨q21a, q21b⟩ := id q21
          have hz := ic20
          have ih25 := ih
          refine T_ld 10 (.int (i32 v15)) rfl (fun _ => rfl) ?_
          refine T_ld 12 (.int (i32 12)) rfl (fun _ => rfl) ?_
          refine T_icmp 28 15 rfl rfl rfl (r32 (by omega) (by omega)) ⟨by decide, by decide⟩ (fun (h26 : (12 : Int) ≤ v15) => ?_) (fun (h26 : ¬ ((12 : Int) ≤ v15)) => ?_)
          · skip
            refine T_ld 29 (.ref 189) rfl (fun _ => rfl) ?_
            refine T_ld 30 (.int (i32 0)) rfl (fun _ => rfl) ?_
            refine T_pf (l' := [(125, 0)]) 33 0 rfl rfl rfl rfl rfl rfl ?_
            have hct : (0 : Int) = ct (m16.2 123) 12 := (ctN_z 12 (fun j a b => hz j a (by omega))).symm
            have hEM : ∀ j, 0 ≤ j → j < (0 : Int) → (m.2 124) j < (m.1 20) := fun j j0 j1 => by omega
            refine T_ld 34 (.int (i32 1)) rfl (fun _ => rfl) ?_
            refine T_sto 35 [(1, .int (i32 1)), (0, .ref 189)] rfl (fun _ => rfl) ?_
            refine T_fl (Ty_mO Tm16 rfl rfl ⟨⟨(by omega : (0 : Int) ≤ 0), (by omega : (0 : Int) ≤ 12)⟩, trivial⟩ trivial) (fun m27 Tm27 Fm27 => ?_)
            have L35_30 : ∀ (n38 : Nat) (v28 : Int) (m29 : mR), (R32 v28) → Ty m29 → fr [7, 8, 9, 10, 11, 12, 125] [123, 124] (mO m27 [] []) m29 → (0 ≤ v28) → (v28 ≤ 1) → (LxP (m29.1 7) (m29.1 8) (m29.1 9) (m.1 6) (m29.1 10)) → (v28 = 0 ∨ v28 = 1) → ((m29.1 10) = 0 → ((m.1 8) + 1 ≤ (m29.1 8)) ∧ ((m29.1 125) = ct (m29.2 123) 12) ∧ (∀ j, 0 ≤ j → j < (m29.1 125) → (m29.2 124) j < (m.1 20))) → 1000000 * (8 - (m29.1 10)) + 2 * (4000 - (m29.1 8)) + v28 < (n38 : Int) → TT w D pm_283 (35, [(0, .ref 189), (1, .int (i32 v28))], [], (mhp (mO m29 [] []) c, N), 0, 0) (Q_takeEmit m c N) := by
              intro n38
              induction n38 with
              | zero =>
                intro v28 m29 q35 Tm29 Fm29 ic31 ic32 ic33 ic34 c37 hmu
                obtain ⟨q35a, q35b⟩ := id q35
                have q36_7 : 0 ≤ m29.1 7 ∧ m29.1 7 ≤ 330 := Tm29.1 7
                have q36_8 : 0 ≤ m29.1 8 ∧ m29.1 8 ≤ 4000 := Tm29.1 8
                have q36_9 : 0 ≤ m29.1 9 ∧ m29.1 9 ≤ 4000 := Tm29.1 9
                have q36_10 : 0 ≤ m29.1 10 ∧ m29.1 10 ≤ 8 := Tm29.1 10
                have q36_11 : (-1) ≤ m29.1 11 ∧ m29.1 11 ≤ 4000 := Tm29.1 11
                have q36_125 : 0 ≤ m29.1 125 ∧ m29.1 125 ≤ 12 := Tm29.1 125
                have hLx := ic33
                exfalso
                omega
              | succ n38 ih =>
                intro v28 m29 q35 Tm29 Fm29 ic31 ic32 ic33 ic34 c37 hmu
                obtain ⟨q35a, q35b⟩ := id q35
                have q36_7 : 0 ≤ m29.1 7 ∧ m29.1 7 ≤ 330 := Tm29.1 7
                have q36_8 : 0 ≤ m29.1 8 ∧ m29.1 8 ≤ 4000 := Tm29.1 8
                have q36_9 : 0 ≤ m29.1 9 ∧ m29.1 9 ≤ 4000 := Tm29.1 9
                have q36_10 : 0 ≤ m29.1 10 ∧ m29.1 10 ≤ 8 := Tm29.1 10
                have q36_11 : (-1) ≤ m29.1 11 ∧ m29.1 11 ≤ 4000 := Tm29.1 11
                have q36_125 : 0 ≤ m29.1 125 ∧ m29.1 125 ≤ 12 := Tm29.1 125
                have hLx := ic33
                have ih39 := ih
                by_cases hf40 : (m29.1 10) = 0
                · skip
                  obtain ⟨c41, c42, c43⟩ := c37 hf40
                  clear c37
                  have hct := c42
                  have hEM := c43
                  refine T_ld 36 (.int (i32 v28)) rfl (fun _ => rfl) ?_
                  refine T_if 148 39 rfl rfl rfl (r32 (by omega) (by omega)) (fun (h44 : v28 = 0) => ?_) (fun (h44 : ¬ (v28 = 0)) => ?_)
                  · skip
                    refine T_ld 149 (.ref 189) rfl (fun _ => rfl) ?_
                    refine T_ld 151 (.int (i32 59)) rfl (fun _ => rfl) ?_
                    refine T_call 154 232 [.ref 189, .int (i32 59)] [] rfl (fun _ => rfl) rfl (d_need w (mO m29 [] []) c N D (by omega) Tm29 59 ⟨by decide, by decide⟩ (show 1 ≤ (59 : Int) by omega) (show LxP (m29.1 7) (m29.1 8) (m29.1 9) (m29.1 6) (m29.1 10) by rewrite [(show (m29.1 6) = (m.1 6) from ((fr1 Fm29 6 rfl).trans ((fr1 Fm27 6 rfl).trans ((fr1 Fm16 6 rfl).trans (fr1 Fm3 6 rfl)))))]; first | exact hLx | (intro h9; exfalso; omega) | (intro h9; have h8 := hLx (by omega); omega))) (fun rr45 k46 => ?_)
                    obtain ⟨m47, Tm47, Fm47, h48, h49, h50, h51, rfl⟩ := k46
                    refine ⟨_, _, rfl, ?_⟩
                    refine T_nb (st' := []) rfl ?_
                    have g52 : 0 ≤ m47.1 7 ∧ m47.1 7 ≤ 330 := Tm47.1 7
                    have g53 : 0 ≤ m47.1 8 ∧ m47.1 8 ≤ 4000 := Tm47.1 8
                    have g54 : 0 ≤ m47.1 9 ∧ m47.1 9 ≤ 4000 := Tm47.1 9
                    have g55 : 0 ≤ m47.1 10 ∧ m47.1 10 ≤ 8 := Tm47.1 10
                    have g56 : (-1) ≤ m47.1 11 ∧ m47.1 11 ≤ 4000 := Tm47.1 11
                    by_cases hf57 : (m47.1 10) = 0
                    · skip
                      replace h48 : LxP (m47.1 7) (m47.1 8) (m47.1 9) (m29.1 6) (m47.1 10) := h48
                      rewrite [(show (m29.1 6) = (m.1 6) from ((fr1 Fm29 6 rfl).trans ((fr1 Fm27 6 rfl).trans ((fr1 Fm16 6 rfl).trans (fr1 Fm3 6 rfl)))))] at h48
                      have hLx := h48
                      replace h49 : (m29.1 10) = 0 ∧ (m29.1 7) = (59 : Int) := h49 hf57
                      replace h50 : (m29.1 8) ≤ (m47.1 8) := h50
                      replace h51 : (m29.1 8) + (m29.1 9) ≤ (m47.1 8) := h51 hf57
                      have u58 : (m29.1 8) ≤ (m47.1 8) := by omega
                      have u59 : (m.1 8) + 1 ≤ (m47.1 8) := by omega
                      clear g8 g9 g10 g11 g12 h4 h6 h7 u14 ic20 q36_7 q36_9 q36_11 ic33 h49 h51
                      refine T_ret rfl (fun _ => rfl) ?_
                      exact ⟨(mO m47 [] []), Tm47, (fr_m (fr_s Fm47 (fr_m (fr_s Fm29 (fr_m (fr_s Fm27 (fr_m (fr_s Fm16 (fr_m (fr_s Fm3 (fr_m fr_0 rfl rfl) rfl rfl) rfl rfl) rfl rfl) rfl rfl) rfl rfl) rfl rfl) rfl rfl) rfl rfl) rfl rfl) rfl rfl), (show (m47.1 10) = 0 → (m.1 10) = 0 by omega), (show LxP (m47.1 7) (m47.1 8) (m47.1 9) (m.1 6) (m47.1 10) by first | (first | exact hLx | exact (fun _ => hLx (by omega)) | (intro h9; exfalso; omega)) | (exfalso; omega)), (fun _ => ⟨(show (m.1 8) + 1 ≤ (m47.1 8) by omega), (show ∀ j, 0 ≤ j → j < (m47.1 125) → (m47.2 124) j < (m.1 20) by rewrite [(show (m47.1 125) = (m29.1 125) from (fr1 Fm47 125 rfl)), (show (m47.2 124) = (m29.2 124) from (fr2 Fm47 124 rfl))]; first | (exact hEM) | (exfalso; omega))⟩), rfl⟩
                    · skip
                      replace h48 : LxP (m47.1 7) (m47.1 8) (m47.1 9) (m29.1 6) (m47.1 10) := h48
                      rewrite [(show (m29.1 6) = (m.1 6) from ((fr1 Fm29 6 rfl).trans ((fr1 Fm27 6 rfl).trans ((fr1 Fm16 6 rfl).trans (fr1 Fm3 6 rfl)))))] at h48
                      have hLx := h48
                      clear h49
                      replace h50 : (m29.1 8) ≤ (m47.1 8) := h50
                      clear h51
                      have hf60 : 1 ≤ (m47.1 10) := by omega
                      clear g8 g9 g10 g11 g12 h4 h6 h7 u14 ic20 q36_7 q36_9 q36_11 ic33
                      refine T_ret rfl (fun _ => rfl) ?_
                      exact ⟨(mO m47 [] []), Tm47, (fr_m (fr_s Fm47 (fr_m (fr_s Fm29 (fr_m (fr_s Fm27 (fr_m (fr_s Fm16 (fr_m (fr_s Fm3 (fr_m fr_0 rfl rfl) rfl rfl) rfl rfl) rfl rfl) rfl rfl) rfl rfl) rfl rfl) rfl rfl) rfl rfl) rfl rfl) rfl rfl), (show (m47.1 10) = 0 → (m.1 10) = 0 by omega), (show LxP (m47.1 7) (m47.1 8) (m47.1 9) (m.1 6) (m47.1 10) by first | (first | exact hLx | exact (fun _ => hLx (by omega)) | (intro h9; exfalso; omega)) | (exfalso; omega)), (fun (h : (m47.1 10) = 0) => absurd h (by omega)), rfl⟩
                  · skip
                    refine T_gf 43 (.int (i32 (m29.1 10))) rfl rfl rfl rfl rfl rfl ?_
                    refine T_if 148 46 rfl rfl rfl (r32 (by omega) (by omega)) (fun (h61 : (m29.1 10) ≠ 0) => by exfalso; omega) (fun (h61 : ¬ ((m29.1 10) ≠ 0)) => ?_)
                    have h7 := hLx (by omega)
                    refine T_gf 50 (.int (i32 (m29.1 8))) rfl rfl rfl rfl rfl rfl ?_
                    refine T_sto 51 [(2, .int (i32 (m29.1 8))), (0, .ref 189), (1, .int (i32 v28))] rfl (fun _ => rfl) ?_
                    refine T_ld 52 (.ref 189) rfl (fun _ => rfl) ?_
                    refine T_ld 53 (.int (i32 2)) rfl (fun _ => rfl) ?_
                    have hOL : (m29.1 10) = 0 → ∀ k, 0 ≤ k → k < (m.1 13) → (m.2 16) k = 2 → 0 ≤ (m.2 17) k ∧ (m.2 17) k < (m.1 20) := fun _ k h1 h2 h3 => by
                      have h4 := PNl_2 pPN k h1 h2 h3
                      omega
                    refine T_call 56 236 [.ref 189, .int (i32 2)] [] rfl (fun _ => rfl) rfl (d_oldName w (mO m29 [] []) c N D (by omega) Tm29 2 (m.1 20) ⟨by decide, by decide⟩ (show LxP (m29.1 7) (m29.1 8) (m29.1 9) (m29.1 6) (m29.1 10) by rewrite [(show (m29.1 6) = (m.1 6) from ((fr1 Fm29 6 rfl).trans ((fr1 Fm27 6 rfl).trans ((fr1 Fm16 6 rfl).trans (fr1 Fm3 6 rfl)))))]; first | exact hLx | (intro h9; exfalso; omega) | (intro h9; have h8 := hLx (by omega); omega)) (show ∀ k, (m29.2 14) k + (m29.2 15) k ≤ 4000 by rewrite [(show (m29.2 14) = (m.2 14) from ((fr2 Fm29 14 rfl).trans ((fr2 Fm27 14 rfl).trans ((fr2 Fm16 14 rfl).trans (fr2 Fm3 14 rfl))))), (show (m29.2 15) = (m.2 15) from ((fr2 Fm29 15 rfl).trans ((fr2 Fm27 15 rfl).trans ((fr2 Fm16 15 rfl).trans (fr2 Fm3 15 rfl)))))]; first | exact p1 | exact hNM) (show 1 ≤ (2 : Int) ∧ (2 : Int) ≤ 7 ∧ (2 : Int) ≠ 5 by omega) (show (m.1 20) ≤ 16 by omega) (show (m29.1 10) = 0 → ∀ k, 0 ≤ k → k < (m29.1 13) → (m29.2 16) k = (2 : Int) → 0 ≤ (m29.2 17) k ∧ (m29.2 17) k < (m.1 20) by rewrite [(show (m29.1 13) = (m.1 13) from ((fr1 Fm29 13 rfl).trans ((fr1 Fm27 13 rfl).trans ((fr1 Fm16 13 rfl).trans (fr1 Fm3 13 rfl))))), (show (m29.2 16) = (m.2 16) from ((fr2 Fm29 16 rfl).trans ((fr2 Fm27 16 rfl).trans ((fr2 Fm16 16 rfl).trans (fr2 Fm3 16 rfl))))), (show (m29.2 17) = (m.2 17) from ((fr2 Fm29 17 rfl).trans ((fr2 Fm27 17 rfl).trans ((fr2 Fm16 17 rfl).trans (fr2 Fm3 17 rfl)))))]; first | exact hOL | (intro h; exfalso; omega)) (show (2 : Int) = 3 → 3 ≤ (m.1 20) by omega)) (fun rr62 k63 => ?_)
                    obtain ⟨m64, oo, Tm64, Fm64, g65, h66, h67, h68, h69, h70, h71, rfl⟩ := k63
                    refine ⟨_, _, rfl, ?_⟩
                    refine T_nb (st' := [.int (i32 oo)]) rfl ?_
                    obtain ⟨g65a, g65b⟩ := g65
                    have g72 : 0 ≤ m64.1 7 ∧ m64.1 7 ≤ 330 := Tm64.1 7
                    have g73 : 0 ≤ m64.1 8 ∧ m64.1 8 ≤ 4000 := Tm64.1 8
                    have g74 : 0 ≤ m64.1 9 ∧ m64.1 9 ≤ 4000 := Tm64.1 9
                    have g75 : 0 ≤ m64.1 10 ∧ m64.1 10 ≤ 8 := Tm64.1 10
                    have g76 : (-1) ≤ m64.1 11 ∧ m64.1 11 ≤ 4000 := Tm64.1 11
                    by_cases hf77 : (m64.1 10) = 0
                    · skip
                      replace h66 : LxP (m64.1 7) (m64.1 8) (m64.1 9) (m29.1 6) (m64.1 10) := h66
                      rewrite [(show (m29.1 6) = (m.1 6) from ((fr1 Fm29 6 rfl).trans ((fr1 Fm27 6 rfl).trans ((fr1 Fm16 6 rfl).trans (fr1 Fm3 6 rfl)))))] at h66
                      have hLx := h66
                      replace h67 : (m29.1 8) ≤ (m64.1 8) := h67
                      replace h68 : (m29.1 10) = 0 ∧ (m29.1 8) + (m29.1 9) ≤ (m64.1 8) := h68 hf77
                      replace h69 : (m29.1 7) = 1 := h69 hf77
                      replace h70 : 0 ≤ oo ∧ (oo < (m.1 20) ∨ oo = 0) := h70
                      replace h71 : oo < (m.1 20) := h71 hf77
                      have u78 : (m29.1 8) + 1 ≤ (m64.1 8) := by omega
                      have u79 : (m.1 8) + 1 ≤ (m64.1 8) := by omega
                      clear g8 g9 g10 g11 g12 h4 h6 h7 u14 ic20 q36_7 q36_9 q36_11 ic33 h68 h69
                      refine T_sto 57 [(3, .int (i32 oo)), (2, .int (i32 (m29.1 8))), (0, .ref 189), (1, .int (i32 v28))] rfl (fun _ => rfl) ?_
                      refine T_gf 61 (.int (i32 (m64.1 10))) rfl rfl rfl rfl rfl rfl ?_
                      refine T_if 80 64 rfl rfl rfl (r32 (by omega) (by omega)) (fun (h80 : (m64.1 10) ≠ 0) => by exfalso; omega) (fun (h80 : ¬ ((m64.1 10) ≠ 0)) => ?_)
                      refine T_gf 68 (.ref 282) rfl rfl rfl rfl rfl rfl ?_
                      refine T_ld 69 (.int (i32 oo)) rfl (fun _ => rfl) ?_
                      refine T_bald 70 123 (m29.2 123) rfl rfl rfl (by omega) (show oo < (12 : Int) by omega) (show (m64.2 123) = (m29.2 123) from (fr2 Fm64 123 rfl)) ?_
                      have e81 : 0 ≤ (m29.2 123) oo ∧ (m29.2 123) oo ≤ 1 := (Tm29.2.1 123) oo
                      refine T_if 80 73 rfl rfl rfl (r32 (by omega) (by omega)) (fun (h82 : (m29.2 123) oo = 0) => ?_) (fun (h82 : ¬ ((m29.2 123) oo = 0)) => ?_)
                      · skip
                        refine T_gf 84 (.int (i32 (m64.1 10))) rfl rfl rfl rfl rfl rfl ?_
                        refine T_if 88 87 rfl rfl rfl (r32 (by omega) (by omega)) (fun (h83 : (m64.1 10) ≤ 0) => ?_) (fun (h83 : ¬ ((m64.1 10) ≤ 0)) => by exfalso; omega)
                        have hcs := ct_set (f := (m29.2 123)) (i := oo) (n := 12) (Tm29.2.1 123) (by omega) (by omega) (by omega)
                        refine T_gf 92 (.ref 282) rfl rfl rfl rfl rfl rfl ?_
                        refine T_ld 93 (.int (i32 oo)) rfl (fun _ => rfl) ?_
                        refine T_ld 94 (.int (i32 1)) rfl (fun _ => rfl) ?_
                        have G84 : ∀ j, 0 ≤ (upI (m29.2 123) oo 1) j ∧ (upI (m29.2 123) oo 1) j ≤ 1 := upI_rg (Tm29.2.1 123) ⟨by omega, by omega⟩
                        refine T_bast (a' := [(123, upI (m29.2 123) oo 1)]) 95 123 (m29.2 123) rfl rfl rfl (by omega) (show oo < (12 : Int) by omega) (by omega) (show (m64.2 123) = (m29.2 123) from (fr2 Fm64 123 rfl)) rfl ?_
                        refine T_gf 99 (.ref 283) rfl rfl rfl rfl rfl rfl ?_
                        refine T_gf 103 (.int (i32 (m29.1 125))) rfl rfl rfl rfl (mfv_c (F := fun x => .int (i32 x)) rfl (show (m64.1 125) = (m29.1 125) from (fr1 Fm64 125 rfl))) rfl ?_
                        refine T_ld 104 (.int (i32 oo)) rfl (fun _ => rfl) ?_
                        have G85 : ∀ j, 0 ≤ (upI (m29.2 124) (m29.1 125) oo) j ∧ (upI (m29.2 124) (m29.1 125) oo) j ≤ 11 := upI_rg (Tm29.2.1 124) ⟨by omega, by omega⟩
                        refine T_iast (a' := [(123, upI (m29.2 123) oo 1), (124, upI (m29.2 124) (m29.1 125) oo)]) 105 124 (m29.2 124) rfl rfl rfl (by omega) (show (m29.1 125) < (12 : Int) by omega) (show (m64.2 124) = (m29.2 124) from (fr2 Fm64 124 rfl)) rfl ?_
                        refine T_ld 106 (.ref 189) rfl (fun _ => rfl) ?_
                        refine T_ld 107 (.ref 189) rfl (fun _ => rfl) ?_
                        refine T_gf1 110 (.int (i32 (m29.1 125))) rfl rfl (mfv_c (F := fun x => .int (i32 x)) rfl (show (m64.1 125) = (m29.1 125) from (fr1 Fm64 125 rfl))) rfl ?_
                        refine T_ld 111 (.int (i32 1)) rfl (fun _ => rfl) ?_
                        refine T_iadd 112 rfl rfl ?_
                        refine T_pf (l' := [(125, (m29.1 125) + 1)]) 115 ((m29.1 125) + 1) rfl rfl rfl rfl rfl rfl ?_
                        have g86 : 0 ≤ (m29.1 125) + 1 ∧ (m29.1 125) + 1 ≤ 12 := ⟨by omega, by omega⟩
                        refine T_gf 119 (.int (i32 (m64.1 10))) rfl rfl rfl rfl rfl rfl ?_
                        refine T_if 135 122 rfl rfl rfl (r32 (by omega) (by omega)) (fun (h87 : (m64.1 10) ≠ 0) => by exfalso; omega) (fun (h87 : ¬ ((m64.1 10) ≠ 0)) => ?_)
                        refine T_gf 126 (.int (i32 (m64.1 7))) rfl rfl rfl rfl rfl rfl ?_
                        refine T_ld 128 (.int (i32 44)) rfl (fun _ => rfl) ?_
                        refine T_icmp 135 131 rfl rfl rfl (r32 (by omega) (by omega)) ⟨by decide, by decide⟩ (fun (h88 : (m64.1 7) ≠ 44) => ?_) (fun (h88 : ¬ ((m64.1 7) ≠ 44)) => ?_)
                        · skip
                          refine T_ld 136 (.int (i32 0)) rfl (fun _ => rfl) ?_
                          refine T_sto 137 [(1, .int (i32 0)), (3, .int (i32 oo)), (2, .int (i32 (m29.1 8))), (0, .ref 189)] rfl (fun _ => rfl) ?_
                          refine T_ld 138 (.int (i32 0)) rfl (fun _ => rfl) ?_
                          refine T_if 145 141 rfl rfl rfl ⟨by decide, by decide⟩ (fun _ => ?_) (fun h89 => absurd (show (0 : Int) = 0 by decide) h89)
                          refine T_goto 35 rfl (fun _ => rfl) ?_
                          refine Tm_lv (a := [(0, .ref 189), (1, .int (i32 0))]) rfl rfl ⟨rfl, rfl, trivial⟩ ?_
                          exact ih39 0 (mO m64 [(125, (m29.1 125) + 1)] [(123, upI (m29.2 123) oo 1), (124, upI (m29.2 124) (m29.1 125) oo)]) ⟨by decide, by decide⟩ (Ty_mO Tm64 rfl rfl ⟨g86, trivial⟩ ⟨G84, G85, trivial⟩) (fr_m (fr_s Fm64 (fr_m (fr_s Fm29 (fr_m fr_0 rfl rfl) rfl rfl) rfl rfl) rfl rfl) rfl rfl) (show 0 ≤ (0 : Int) by omega) (show (0 : Int) ≤ 1 by omega) (show LxP (m64.1 7) (m64.1 8) (m64.1 9) (m.1 6) (m64.1 10) by first | exact hLx | exact (fun _ => hLx (by omega)) | (intro h9; exfalso; omega)) (show (0 : Int) = 0 ∨ (0 : Int) = 1 by omega) (fun _ => ⟨(show (m.1 8) + 1 ≤ (m64.1 8) by omega), (show ((m29.1 125) + 1) = ct (upI (m29.2 123) oo 1) 12 by first | exact hct | omega), (show ∀ j, 0 ≤ j → j < ((m29.1 125) + 1) → (upI (m29.2 124) (m29.1 125) oo) j < (m.1 20) by first | exact hEM | (intro j j0 j1; unfold upI; split; (omega); (exact hEM j j0 (by omega))))⟩) (show 1000000 * (8 - (m64.1 10)) + 2 * (4000 - (m64.1 8)) + (0 : Int) < (n38 : Int) by omega)
                        · skip
                          refine T_ld 132 (.int (i32 1)) rfl (fun _ => rfl) ?_
                          refine T_goto 136 rfl (fun _ => rfl) ?_
                          refine T_sto 137 [(1, .int (i32 1)), (3, .int (i32 oo)), (2, .int (i32 (m29.1 8))), (0, .ref 189)] rfl (fun _ => rfl) ?_
                          refine T_ld 138 (.int (i32 1)) rfl (fun _ => rfl) ?_
                          refine T_if 145 141 rfl rfl rfl ⟨by decide, by decide⟩ (fun h90 => absurd (show (1 : Int) = 0 from h90) (by decide)) (fun _ => ?_)
                          refine T_ld 142 (.ref 189) rfl (fun _ => rfl) ?_
                          have h7 := hLx (by omega)
                          refine T_call 145 212 [.ref 189] [] rfl (fun _ => rfl) rfl (d_next w (mO m64 [(125, (m29.1 125) + 1)] [(123, upI (m29.2 123) oo 1), (124, upI (m29.2 124) (m29.1 125) oo)]) c N D (by omega) (Ty_mO Tm64 rfl rfl ⟨g86, trivial⟩ ⟨G84, G85, trivial⟩) (show (m64.1 10) = 0 → (m64.1 8) + (m64.1 9) ≤ (m64.1 6) by rewrite [(show (m64.1 6) = (m.1 6) from ((fr1 Fm64 6 rfl).trans ((fr1 Fm29 6 rfl).trans ((fr1 Fm27 6 rfl).trans ((fr1 Fm16 6 rfl).trans (fr1 Fm3 6 rfl))))))]; first | omega | (intro h9; have h8 := hLx h9; omega))) (fun rr91 k92 => ?_)
                          obtain ⟨m93, Tm93, Fm93, h94, h95, h96, h97, rfl⟩ := k92
                          refine ⟨_, _, rfl, ?_⟩
                          refine T_nb (st' := []) rfl ?_
                          have g98 : 0 ≤ m93.1 7 ∧ m93.1 7 ≤ 330 := Tm93.1 7
                          have g99 : 0 ≤ m93.1 8 ∧ m93.1 8 ≤ 4000 := Tm93.1 8
                          have g100 : 0 ≤ m93.1 9 ∧ m93.1 9 ≤ 4000 := Tm93.1 9
                          have g101 : 0 ≤ m93.1 10 ∧ m93.1 10 ≤ 8 := Tm93.1 10
                          have g102 : (-1) ≤ m93.1 11 ∧ m93.1 11 ≤ 4000 := Tm93.1 11
                          by_cases hf103 : (m93.1 10) = 0
                          · skip
                            replace h94 : LxP (m93.1 7) (m93.1 8) (m93.1 9) (m64.1 6) (m93.1 10) := h94
                            rewrite [(show (m64.1 6) = (m.1 6) from ((fr1 Fm64 6 rfl).trans ((fr1 Fm29 6 rfl).trans ((fr1 Fm27 6 rfl).trans ((fr1 Fm16 6 rfl).trans (fr1 Fm3 6 rfl))))))] at h94
                            have hLx := h94
                            replace h95 : (m64.1 10) = 0 := h95 hf103
                            replace h96 : (m64.1 8) ≤ (m93.1 8) := h96
                            replace h97 : (m64.1 8) + (m64.1 9) ≤ (m93.1 8) := h97 hf103
                            have u104 : (m29.1 8) + 1 ≤ (m93.1 8) := by omega
                            have u105 : (m.1 8) + 1 ≤ (m93.1 8) := by omega
                            clear g72 g73 g74 g75 g76 h66 h67 u79 u78 h80 h83 h87 h88 h95 h96 h97
                            refine T_goto 35 rfl (fun _ => rfl) ?_
                            refine Tm_lv (a := [(0, .ref 189), (1, .int (i32 1))]) rfl rfl ⟨rfl, rfl, trivial⟩ ?_
                            exact ih39 1 (mO m93 [] []) ⟨by decide, by decide⟩ Tm93 (fr_m (fr_s Fm93 (fr_m (fr_s Fm64 (fr_m (fr_s Fm29 (fr_m fr_0 rfl rfl) rfl rfl) rfl rfl) rfl rfl) rfl rfl) rfl rfl) rfl rfl) (show 0 ≤ (1 : Int) by omega) (show (1 : Int) ≤ 1 by omega) (show LxP (m93.1 7) (m93.1 8) (m93.1 9) (m.1 6) (m93.1 10) by first | exact hLx | exact (fun _ => hLx (by omega)) | (intro h9; exfalso; omega)) (show (1 : Int) = 0 ∨ (1 : Int) = 1 by omega) (fun _ => ⟨(show (m.1 8) + 1 ≤ (m93.1 8) by omega), (show (m93.1 125) = ct (m93.2 123) 12 by rewrite [(show (m93.1 125) = ((m29.1 125) + 1) from (fr1 Fm93 125 rfl)), (show (m93.2 123) = (upI (m29.2 123) oo 1) from (fr2 Fm93 123 rfl))]; first | exact hct | omega), (show ∀ j, 0 ≤ j → j < (m93.1 125) → (m93.2 124) j < (m.1 20) by rewrite [(show (m93.1 125) = ((m29.1 125) + 1) from (fr1 Fm93 125 rfl)), (show (m93.2 124) = (upI (m29.2 124) (m29.1 125) oo) from (fr2 Fm93 124 rfl))]; first | exact hEM | (intro j j0 j1; unfold upI; split; (omega); (exact hEM j j0 (by omega))))⟩) (show 1000000 * (8 - (m93.1 10)) + 2 * (4000 - (m93.1 8)) + (1 : Int) < (n38 : Int) by omega)
                          · skip
                            replace h94 : LxP (m93.1 7) (m93.1 8) (m93.1 9) (m64.1 6) (m93.1 10) := h94
                            rewrite [(show (m64.1 6) = (m.1 6) from ((fr1 Fm64 6 rfl).trans ((fr1 Fm29 6 rfl).trans ((fr1 Fm27 6 rfl).trans ((fr1 Fm16 6 rfl).trans (fr1 Fm3 6 rfl))))))] at h94
                            have hLx := h94
                            clear h95
                            replace h96 : (m64.1 8) ≤ (m93.1 8) := h96
                            clear h97
                            have hf106 : 1 ≤ (m93.1 10) := by omega
                            clear g72 g73 g74 g75 g76 h66 h67 u79 u78 h80 h83 h87 h88 h96
                            refine T_goto 35 rfl (fun _ => rfl) ?_
                            refine Tm_lv (a := [(0, .ref 189), (1, .int (i32 1))]) rfl rfl ⟨rfl, rfl, trivial⟩ ?_
                            exact ih39 1 (mO m93 [] []) ⟨by decide, by decide⟩ Tm93 (fr_m (fr_s Fm93 (fr_m (fr_s Fm64 (fr_m (fr_s Fm29 (fr_m fr_0 rfl rfl) rfl rfl) rfl rfl) rfl rfl) rfl rfl) rfl rfl) rfl rfl) (show 0 ≤ (1 : Int) by omega) (show (1 : Int) ≤ 1 by omega) (show LxP (m93.1 7) (m93.1 8) (m93.1 9) (m.1 6) (m93.1 10) by first | exact hLx | exact (fun _ => hLx (by omega)) | (intro h9; exfalso; omega)) (show (1 : Int) = 0 ∨ (1 : Int) = 1 by omega) (fun (h : (m93.1 10) = 0) => absurd h (by omega)) (show 1000000 * (8 - (m93.1 10)) + 2 * (4000 - (m93.1 8)) + (1 : Int) < (n38 : Int) by omega)
                      · skip
                        refine T_ld 74 (.ref 189) rfl (fun _ => rfl) ?_
                        refine T_ld 76 (.int (i32 8)) rfl (fun _ => rfl) ?_
                        refine T_ld 77 (.int (i32 (m29.1 8))) rfl (fun _ => rfl) ?_
                        refine T_call 80 222 [.ref 189, .int (i32 8), .int (i32 (m29.1 8))] [] rfl (fun _ => rfl) rfl (d_wrong w (mO m64 [] []) c N D (by omega) Tm64 8 (m29.1 8) ⟨by decide, by decide⟩ (r32 (by omega) (by omega)) (show 1 ≤ (8 : Int) ∧ (8 : Int) ≤ 8 by omega) (show 0 ≤ (m29.1 8) ∧ (m29.1 8) ≤ 4000 by omega)) (fun rr107 k108 => ?_)
                        obtain ⟨m109, Tm109, Fm109, h110, rfl⟩ := k108
                        refine ⟨_, _, rfl, ?_⟩
                        refine T_nb (st' := []) rfl ?_
                        have g111 : 0 ≤ m109.1 10 ∧ m109.1 10 ≤ 8 := Tm109.1 10
                        have g112 : (-1) ≤ m109.1 11 ∧ m109.1 11 ≤ 4000 := Tm109.1 11
                        replace h110 : (0 < (m64.1 10) → (m109.1 10) = (m64.1 10) ∧ (m109.1 11) = (m64.1 11)) ∧ ((m64.1 10) ≤ 0 → (m109.1 10) = (8 : Int) ∧ (m109.1 11) = (m29.1 8)) := h110
                        have hf113 : 1 ≤ (m109.1 10) := by omega
                        clear g75 g76 h66 h80 h110
                        refine T_gf 84 (.int (i32 (m109.1 10))) rfl rfl rfl rfl rfl rfl ?_
                        refine T_if 88 87 rfl rfl rfl (r32 (by omega) (by omega)) (fun (h114 : (m109.1 10) ≤ 0) => by exfalso; omega) (fun (h114 : ¬ ((m109.1 10) ≤ 0)) => ?_)
                        refine T_ret rfl (fun _ => rfl) ?_
                        exact ⟨(mO m109 [] []), Tm109, (fr_m (fr_s Fm109 (fr_m (fr_s Fm64 (fr_m (fr_s Fm29 (fr_m (fr_s Fm27 (fr_m (fr_s Fm16 (fr_m (fr_s Fm3 (fr_m fr_0 rfl rfl) rfl rfl) rfl rfl) rfl rfl) rfl rfl) rfl rfl) rfl rfl) rfl rfl) rfl rfl) rfl rfl) rfl rfl) rfl rfl) rfl rfl), (show (m109.1 10) = 0 → (m.1 10) = 0 by omega), (show LxP (m109.1 7) (m109.1 8) (m109.1 9) (m.1 6) (m109.1 10) by rewrite [(show (m109.1 7) = (m64.1 7) from (fr1 Fm109 7 rfl)), (show (m109.1 8) = (m64.1 8) from (fr1 Fm109 8 rfl)), (show (m109.1 9) = (m64.1 9) from (fr1 Fm109 9 rfl))]; first | (first | exact hLx | exact (fun _ => hLx (by omega)) | (intro h9; exfalso; omega)) | (exfalso; omega)), (fun (h : (m109.1 10) = 0) => absurd h (by omega)), rfl⟩
                    · skip
                      replace h66 : LxP (m64.1 7) (m64.1 8) (m64.1 9) (m29.1 6) (m64.1 10) := h66
                      rewrite [(show (m29.1 6) = (m.1 6) from ((fr1 Fm29 6 rfl).trans ((fr1 Fm27 6 rfl).trans ((fr1 Fm16 6 rfl).trans (fr1 Fm3 6 rfl)))))] at h66
                      have hLx := h66
                      replace h67 : (m29.1 8) ≤ (m64.1 8) := h67
                      clear h68
                      clear h69
                      replace h70 : 0 ≤ oo ∧ (oo < (m.1 20) ∨ oo = 0) := h70
                      clear h71
                      have hf115 : 1 ≤ (m64.1 10) := by omega
                      clear g8 g9 g10 g11 g12 h4 h6 h7 u14 ic20 q36_7 q36_9 q36_11 ic33
                      refine T_sto 57 [(3, .int (i32 oo)), (2, .int (i32 (m29.1 8))), (0, .ref 189), (1, .int (i32 v28))] rfl (fun _ => rfl) ?_
                      refine T_gf 61 (.int (i32 (m64.1 10))) rfl rfl rfl rfl rfl rfl ?_
                      refine T_if 80 64 rfl rfl rfl (r32 (by omega) (by omega)) (fun (h116 : (m64.1 10) ≠ 0) => ?_) (fun (h116 : ¬ ((m64.1 10) ≠ 0)) => by exfalso; omega)
                      refine T_gf 84 (.int (i32 (m64.1 10))) rfl rfl rfl rfl rfl rfl ?_
                      refine T_if 88 87 rfl rfl rfl (r32 (by omega) (by omega)) (fun (h117 : (m64.1 10) ≤ 0) => by exfalso; omega) (fun (h117 : ¬ ((m64.1 10) ≤ 0)) => ?_)
                      refine T_ret rfl (fun _ => rfl) ?_
                      exact ⟨(mO m64 [] []), Tm64, (fr_m (fr_s Fm64 (fr_m (fr_s Fm29 (fr_m (fr_s Fm27 (fr_m (fr_s Fm16 (fr_m (fr_s Fm3 (fr_m fr_0 rfl rfl) rfl rfl) rfl rfl) rfl rfl) rfl rfl) rfl rfl) rfl rfl) rfl rfl) rfl rfl) rfl rfl) rfl rfl), (show (m64.1 10) = 0 → (m.1 10) = 0 by omega), (show LxP (m64.1 7) (m64.1 8) (m64.1 9) (m.1 6) (m64.1 10) by first | (first | exact hLx | exact (fun _ => hLx (by omega)) | (intro h9; exfalso; omega)) | (exfalso; omega)), (fun (h : (m64.1 10) = 0) => absurd h (by omega)), rfl⟩
                · skip
                  clear c37
                  have hf118 : 1 ≤ (m29.1 10) := by omega
                  refine T_ld 36 (.int (i32 v28)) rfl (fun _ => rfl) ?_
                  refine T_if 148 39 rfl rfl rfl (r32 (by omega) (by omega)) (fun (h119 : v28 = 0) => ?_) (fun (h119 : ¬ (v28 = 0)) => ?_)
                  · skip
                    refine T_ld 149 (.ref 189) rfl (fun _ => rfl) ?_
                    refine T_ld 151 (.int (i32 59)) rfl (fun _ => rfl) ?_
                    refine T_call 154 232 [.ref 189, .int (i32 59)] [] rfl (fun _ => rfl) rfl (d_need w (mO m29 [] []) c N D (by omega) Tm29 59 ⟨by decide, by decide⟩ (show 1 ≤ (59 : Int) by omega) (show LxP (m29.1 7) (m29.1 8) (m29.1 9) (m29.1 6) (m29.1 10) by rewrite [(show (m29.1 6) = (m.1 6) from ((fr1 Fm29 6 rfl).trans ((fr1 Fm27 6 rfl).trans ((fr1 Fm16 6 rfl).trans (fr1 Fm3 6 rfl)))))]; first | exact hLx | (intro h9; exfalso; omega) | (intro h9; have h8 := hLx (by omega); omega))) (fun rr120 k121 => ?_)
                    obtain ⟨m122, Tm122, Fm122, h123, h124, h125, h126, rfl⟩ := k121
                    refine ⟨_, _, rfl, ?_⟩
                    refine T_nb (st' := []) rfl ?_
                    have g127 : 0 ≤ m122.1 7 ∧ m122.1 7 ≤ 330 := Tm122.1 7
                    have g128 : 0 ≤ m122.1 8 ∧ m122.1 8 ≤ 4000 := Tm122.1 8
                    have g129 : 0 ≤ m122.1 9 ∧ m122.1 9 ≤ 4000 := Tm122.1 9
                    have g130 : 0 ≤ m122.1 10 ∧ m122.1 10 ≤ 8 := Tm122.1 10
                    have g131 : (-1) ≤ m122.1 11 ∧ m122.1 11 ≤ 4000 := Tm122.1 11
                    replace h123 : LxP (m122.1 7) (m122.1 8) (m122.1 9) (m29.1 6) (m122.1 10) := h123
                    rewrite [(show (m29.1 6) = (m.1 6) from ((fr1 Fm29 6 rfl).trans ((fr1 Fm27 6 rfl).trans ((fr1 Fm16 6 rfl).trans (fr1 Fm3 6 rfl)))))] at h123
                    replace h124 : (m122.1 10) = 0 → (m29.1 10) = 0 ∧ (m29.1 7) = (59 : Int) := h124
                    replace h125 : (m29.1 8) ≤ (m122.1 8) := h125
                    replace h126 : (m122.1 10) = 0 → (m29.1 8) + (m29.1 9) ≤ (m122.1 8) := h126
                    have hf132 : 1 ≤ (m122.1 10) := by omega
                    clear h124
                    clear h126
                    have hLx := h123
                    clear g8 g9 g10 g11 g12 h4 h6 h7 u14 ic20 q36_7 q36_9 q36_11 ic33
                    refine T_ret rfl (fun _ => rfl) ?_
                    exact ⟨(mO m122 [] []), Tm122, (fr_m (fr_s Fm122 (fr_m (fr_s Fm29 (fr_m (fr_s Fm27 (fr_m (fr_s Fm16 (fr_m (fr_s Fm3 (fr_m fr_0 rfl rfl) rfl rfl) rfl rfl) rfl rfl) rfl rfl) rfl rfl) rfl rfl) rfl rfl) rfl rfl) rfl rfl) rfl rfl), (show (m122.1 10) = 0 → (m.1 10) = 0 by omega), (show LxP (m122.1 7) (m122.1 8) (m122.1 9) (m.1 6) (m122.1 10) by first | (first | exact hLx | exact (fun _ => hLx (by omega)) | (intro h9; exfalso; omega)) | (exfalso; omega)), (fun (h : (m122.1 10) = 0) => absurd h (by omega)), rfl⟩
                  · skip
                    refine T_gf 43 (.int (i32 (m29.1 10))) rfl rfl rfl rfl rfl rfl ?_
                    refine T_if 148 46 rfl rfl rfl (r32 (by omega) (by omega)) (fun (h133 : (m29.1 10) ≠ 0) => ?_) (fun (h133 : ¬ ((m29.1 10) ≠ 0)) => by exfalso; omega)
                    refine T_ld 149 (.ref 189) rfl (fun _ => rfl) ?_
                    refine T_ld 151 (.int (i32 59)) rfl (fun _ => rfl) ?_
                    refine T_call 154 232 [.ref 189, .int (i32 59)] [] rfl (fun _ => rfl) rfl (d_need w (mO m29 [] []) c N D (by omega) Tm29 59 ⟨by decide, by decide⟩ (show 1 ≤ (59 : Int) by omega) (show LxP (m29.1 7) (m29.1 8) (m29.1 9) (m29.1 6) (m29.1 10) by rewrite [(show (m29.1 6) = (m.1 6) from ((fr1 Fm29 6 rfl).trans ((fr1 Fm27 6 rfl).trans ((fr1 Fm16 6 rfl).trans (fr1 Fm3 6 rfl)))))]; first | exact hLx | (intro h9; exfalso; omega) | (intro h9; have h8 := hLx (by omega); omega))) (fun rr134 k135 => ?_)
                    obtain ⟨m136, Tm136, Fm136, h137, h138, h139, h140, rfl⟩ := k135
                    refine ⟨_, _, rfl, ?_⟩
                    refine T_nb (st' := []) rfl ?_
                    have g141 : 0 ≤ m136.1 7 ∧ m136.1 7 ≤ 330 := Tm136.1 7
                    have g142 : 0 ≤ m136.1 8 ∧ m136.1 8 ≤ 4000 := Tm136.1 8
                    have g143 : 0 ≤ m136.1 9 ∧ m136.1 9 ≤ 4000 := Tm136.1 9
                    have g144 : 0 ≤ m136.1 10 ∧ m136.1 10 ≤ 8 := Tm136.1 10
                    have g145 : (-1) ≤ m136.1 11 ∧ m136.1 11 ≤ 4000 := Tm136.1 11
                    replace h137 : LxP (m136.1 7) (m136.1 8) (m136.1 9) (m29.1 6) (m136.1 10) := h137
                    rewrite [(show (m29.1 6) = (m.1 6) from ((fr1 Fm29 6 rfl).trans ((fr1 Fm27 6 rfl).trans ((fr1 Fm16 6 rfl).trans (fr1 Fm3 6 rfl)))))] at h137
                    replace h138 : (m136.1 10) = 0 → (m29.1 10) = 0 ∧ (m29.1 7) = (59 : Int) := h138
                    replace h139 : (m29.1 8) ≤ (m136.1 8) := h139
                    replace h140 : (m136.1 10) = 0 → (m29.1 8) + (m29.1 9) ≤ (m136.1 8) := h140
                    have hf146 : 1 ≤ (m136.1 10) := by omega
                    clear h138
                    clear h140
                    have hLx := h137
                    clear g8 g9 g10 g11 g12 h4 h6 h7 u14 ic20 q36_7 q36_9 q36_11 ic33
                    refine T_ret rfl (fun _ => rfl) ?_
                    exact ⟨(mO m136 [] []), Tm136, (fr_m (fr_s Fm136 (fr_m (fr_s Fm29 (fr_m (fr_s Fm27 (fr_m (fr_s Fm16 (fr_m (fr_s Fm3 (fr_m fr_0 rfl rfl) rfl rfl) rfl rfl) rfl rfl) rfl rfl) rfl rfl) rfl rfl) rfl rfl) rfl rfl) rfl rfl) rfl rfl), (show (m136.1 10) = 0 → (m.1 10) = 0 by omega), (show LxP (m136.1 7) (m136.1 8) (m136.1 9) (m.1 6) (m136.1 10) by first | (first | exact hLx | exact (fun _ => hLx (by omega)) | (intro h9; exfalso; omega)) | (exfalso; omega)), (fun (h : (m136.1 10) = 0) => absurd h (by omega)), rfl⟩
            refine Tm_lv (a := [(0, .ref 189), (1, .int (i32 1))]) rfl rfl ⟨rfl, rfl, trivial⟩ ?_
            exact L35_30 ((1000000 * (8 - (m3.1 10)) + 2 * (4000 - (m3.1 8)) + (1 : Int) : Int) + 1).toNat 1 (mO m27 [] []) ⟨by decide, by decide⟩ Tm27 (fr_m fr_0 rfl rfl) (show 0 ≤ (1 : Int) by omega) (show (1 : Int) ≤ 1 by omega) (show LxP (m27.1 7) (m27.1 8) (m27.1 9) (m.1 6) (m27.1 10) by rewrite [(show (m27.1 7) = (m3.1 7) from ((fr1 Fm27 7 rfl).trans (fr1 Fm16 7 rfl))), (show (m27.1 8) = (m3.1 8) from ((fr1 Fm27 8 rfl).trans (fr1 Fm16 8 rfl))), (show (m27.1 9) = (m3.1 9) from ((fr1 Fm27 9 rfl).trans (fr1 Fm16 9 rfl))), (show (m27.1 10) = (m3.1 10) from ((fr1 Fm27 10 rfl).trans (fr1 Fm16 10 rfl)))]; first | exact hLx | exact (fun _ => hLx (by omega)) | (intro h9; exfalso; omega)) (show (1 : Int) = 0 ∨ (1 : Int) = 1 by omega) (fun _ => ⟨(show (m.1 8) + 1 ≤ (m27.1 8) by rewrite [(show (m27.1 8) = (m3.1 8) from ((fr1 Fm27 8 rfl).trans (fr1 Fm16 8 rfl)))]; omega), (show (m27.1 125) = ct (m27.2 123) 12 by rewrite [(show (m27.1 125) = 0 from (fr1 Fm27 125 rfl)), (show (m27.2 123) = (m16.2 123) from (fr2 Fm27 123 rfl))]; first | exact hct | omega), (show ∀ j, 0 ≤ j → j < (m27.1 125) → (m27.2 124) j < (m.1 20) by rewrite [(show (m27.1 125) = 0 from (fr1 Fm27 125 rfl)), (show (m27.2 124) = (m.2 124) from ((fr2 Fm27 124 rfl).trans ((fr2 Fm16 124 rfl).trans (fr2 Fm3 124 rfl))))]; first | exact hEM | (intro j j0 j1; unfold upI; split; (omega); (exact hEM j j0 (by omega))))⟩) (show 1000000 * (8 - (m27.1 10)) + 2 * (4000 - (m27.1 8)) + (1 : Int) < ((((1000000 * (8 - (m3.1 10)) + 2 * (4000 - (m3.1 8)) + (1 : Int) : Int) + 1).toNat : Nat) : Int) by rewrite [(show (m27.1 10) = (m3.1 10) from ((fr1 Fm27 10 rfl).trans (fr1 Fm16 10 rfl))), (show (m27.1 8) = (m3.1 8) from ((fr1 Fm27 8 rfl).trans (fr1 Fm16 8 rfl)))]; omega)
          · skip
            refine T_gf 19 (.ref 282) rfl rfl rfl rfl rfl rfl ?_
            refine T_ld 20 (.int (i32 v15)) rfl (fun _ => rfl) ?_
            refine T_ld 21 (.int (i32 0)) rfl (fun _ => rfl) ?_
            have G147 : ∀ j, 0 ≤ (upI (m16.2 123) v15 0) j ∧ (upI (m16.2 123) v15 0) j ≤ 1 := upI_rg (Tm16.2.1 123) ⟨by omega, by omega⟩
            refine T_bast (a' := [(123, upI (m16.2 123) v15 0)]) 22 123 (m16.2 123) rfl rfl rfl (by omega) (show v15 < (12 : Int) by omega) (by omega) rfl rfl ?_
            refine T_iinc 25 [(1, .int (i32 (v15 + 1))), (0, .ref 189)] rfl rfl (by decide) rfl rfl ?_
            refine T_goto 9 rfl (fun _ => rfl) ?_
            refine Tm_lv (a := [(0, .ref 189), (1, .int (i32 (v15 + 1)))]) rfl rfl ⟨rfl, rfl, trivial⟩ ?_
            exact ih25 (v15 + 1) (mO m16 [] [(123, upI (m16.2 123) v15 0)]) (r32 (by omega) (by omega)) (Ty_mO Tm16 rfl rfl trivial ⟨G147, trivial⟩) (fr_m (fr_s Fm16 (fr_m fr_0 rfl rfl) rfl rfl) rfl rfl) (show 0 ≤ (v15 + 1) by omega) (show (v15 + 1) ≤ 12 by omega) (show ∀ j, 0 ≤ j → j < (v15 + 1) → (upI (m16.2 123) v15 0) j = 0 by first | (intro j a b; omega) | (intro j a b; by_cases e : j = v15; (rw [e, upI_s]); (rw [upI_n e]; exact hz j a (by omega)))) (show 12 - (v15 + 1) < (n24 : Int) by omega)
      refine Tm_lv (a := [(0, .ref 189), (1, .int (i32 0))]) rfl rfl ⟨rfl, rfl, trivial⟩ ?_
      exact L9_17 ((12 - (0 : Int) : Int) + 1).toNat 0 (mO m3 [] []) ⟨by decide, by decide⟩ Tm3 (fr_m fr_0 rfl rfl) (show 0 ≤ (0 : Int) by omega) (show (0 : Int) ≤ 12 by omega) (show ∀ j, 0 ≤ j → j < (0 : Int) → (m3.2 123) j = 0 by rewrite [(show (m3.2 123) = (m.2 123) from (fr2 Fm3 123 rfl))]; first | (intro j a b; omega) | (intro j a b; by_cases e : j = v15; (rw [e, upI_s]); (rw [upI_n e]; exact hz j a (by omega)))) (show 12 - (0 : Int) < ((((12 - (0 : Int) : Int) + 1).toNat : Nat) : Int) by omega)
    · skip
      replace h4 : LxP (m3.1 7) (m3.1 8) (m3.1 9) (m.1 6) (m3.1 10) := h4
      have hLx := h4
      clear h5
      replace h6 : (m.1 8) ≤ (m3.1 8) := h6
      clear h7
      have hf148 : 1 ≤ (m3.1 10) := by omega
      refine T_ld 8 (.int (i32 0)) rfl (fun _ => rfl) ?_
      refine T_sto 9 [(1, .int (i32 0)), (0, .ref 189)] rfl (fun _ => rfl) ?_
      have L9_151 : ∀ (n158 : Nat) (v149 : Int) (m150 : mR), (R32 v149) → Ty m150 → fr [] [123] (mO m3 [] []) m150 → (0 ≤ v149) → (v149 ≤ 12) → (∀ j, 0 ≤ j → j < v149 → (m150.2 123) j = 0) → 12 - v149 < (n158 : Int) → TT w D pm_283 (9, [(0, .ref 189), (1, .int (i32 v149))], [], (mhp (mO m150 [] []) c, N), 0, 0) (Q_takeEmit m c N) := by
        intro n158
        induction n158 with
        | zero =>
          intro v149 m150 q155 Tm150 Fm150 ic152 ic153 ic154 hmu
          obtain ⟨q155a, q155b⟩ := id q155
          have hz := ic154
          exfalso
          omega
        | succ n158 ih =>
          intro v149 m150 q155 Tm150 Fm150 ic152 ic153 ic154 hmu
          obtain ⟨q155a, q155b⟩ := id q155
          have hz := ic154
          have ih159 := ih
          refine T_ld 10 (.int (i32 v149)) rfl (fun _ => rfl) ?_
          refine T_ld 12 (.int (i32 12)) rfl (fun _ => rfl) ?_
          refine T_icmp 28 15 rfl rfl rfl (r32 (by omega) (by omega)) ⟨by decide, by decide⟩ (fun (h160 : (12 : Int) ≤ v149) => ?_) (fun (h160 : ¬ ((12 : Int) ≤ v149)) => ?_)
          · skip
            refine T_ld 29 (.ref 189) rfl (fun _ => rfl) ?_
            refine T_ld 30 (.int (i32 0)) rfl (fun _ => rfl) ?_
            refine T_pf (l' := [(125, 0)]) 33 0 rfl rfl rfl rfl rfl rfl ?_
            refine T_ld 34 (.int (i32 1)) rfl (fun _ => rfl) ?_
            refine T_sto 35 [(1, .int (i32 1)), (0, .ref 189)] rfl (fun _ => rfl) ?_
            refine T_ld 36 (.int (i32 1)) rfl (fun _ => rfl) ?_
            refine T_if 148 39 rfl rfl rfl ⟨by decide, by decide⟩ (fun h161 => absurd (show (1 : Int) = 0 from h161) (by decide)) (fun _ => ?_)
            refine T_gf 43 (.int (i32 (m3.1 10))) rfl rfl rfl rfl (mfv_c (F := fun x => .int (i32 x)) rfl (show (m150.1 10) = (m3.1 10) from (fr1 Fm150 10 rfl))) rfl ?_
            refine T_if 148 46 rfl rfl rfl (r32 (by omega) (by omega)) (fun (h162 : (m3.1 10) ≠ 0) => ?_) (fun (h162 : ¬ ((m3.1 10) ≠ 0)) => by exfalso; omega)
            refine T_ld 149 (.ref 189) rfl (fun _ => rfl) ?_
            refine T_ld 151 (.int (i32 59)) rfl (fun _ => rfl) ?_
            refine T_call 154 232 [.ref 189, .int (i32 59)] [] rfl (fun _ => rfl) rfl (d_need w (mO m150 [(125, 0)] []) c N D (by omega) (Ty_mO Tm150 rfl rfl ⟨⟨(by omega : (0 : Int) ≤ 0), (by omega : (0 : Int) ≤ 12)⟩, trivial⟩ trivial) 59 ⟨by decide, by decide⟩ (show 1 ≤ (59 : Int) by omega) (show LxP (m150.1 7) (m150.1 8) (m150.1 9) (m150.1 6) (m150.1 10) by rewrite [(show (m150.1 7) = (m3.1 7) from (fr1 Fm150 7 rfl)), (show (m150.1 8) = (m3.1 8) from (fr1 Fm150 8 rfl)), (show (m150.1 9) = (m3.1 9) from (fr1 Fm150 9 rfl)), (show (m150.1 6) = (m.1 6) from ((fr1 Fm150 6 rfl).trans (fr1 Fm3 6 rfl))), (show (m150.1 10) = (m3.1 10) from (fr1 Fm150 10 rfl))]; first | exact hLx | (intro h9; exfalso; omega) | (intro h9; have h8 := hLx (by omega); omega))) (fun rr163 k164 => ?_)
            obtain ⟨m165, Tm165, Fm165, h166, h167, h168, h169, rfl⟩ := k164
            refine ⟨_, _, rfl, ?_⟩
            refine T_nb (st' := []) rfl ?_
            have g170 : 0 ≤ m165.1 7 ∧ m165.1 7 ≤ 330 := Tm165.1 7
            have g171 : 0 ≤ m165.1 8 ∧ m165.1 8 ≤ 4000 := Tm165.1 8
            have g172 : 0 ≤ m165.1 9 ∧ m165.1 9 ≤ 4000 := Tm165.1 9
            have g173 : 0 ≤ m165.1 10 ∧ m165.1 10 ≤ 8 := Tm165.1 10
            have g174 : (-1) ≤ m165.1 11 ∧ m165.1 11 ≤ 4000 := Tm165.1 11
            replace h166 : LxP (m165.1 7) (m165.1 8) (m165.1 9) (m150.1 6) (m165.1 10) := h166
            rewrite [(show (m150.1 6) = (m.1 6) from ((fr1 Fm150 6 rfl).trans (fr1 Fm3 6 rfl)))] at h166
            replace h167 : (m165.1 10) = 0 → (m150.1 10) = 0 ∧ (m150.1 7) = (59 : Int) := h167
            rewrite [(show (m150.1 10) = (m3.1 10) from (fr1 Fm150 10 rfl)), (show (m150.1 7) = (m3.1 7) from (fr1 Fm150 7 rfl))] at h167
            replace h168 : (m150.1 8) ≤ (m165.1 8) := h168
            rewrite [(show (m150.1 8) = (m3.1 8) from (fr1 Fm150 8 rfl))] at h168
            replace h169 : (m165.1 10) = 0 → (m150.1 8) + (m150.1 9) ≤ (m165.1 8) := h169
            rewrite [(show (m150.1 8) = (m3.1 8) from (fr1 Fm150 8 rfl)), (show (m150.1 9) = (m3.1 9) from (fr1 Fm150 9 rfl))] at h169
            have hf175 : 1 ≤ (m165.1 10) := by omega
            clear h167
            clear h169
            have hLx := h166
            clear g8 g9 g10 g11 g12 h4 h6 hf148 h162 h168
            refine T_ret rfl (fun _ => rfl) ?_
            exact ⟨(mO m165 [] []), Tm165, (fr_m (fr_s Fm165 (fr_m (fr_s Fm150 (fr_m (fr_s Fm3 (fr_m fr_0 rfl rfl) rfl rfl) rfl rfl) rfl rfl) rfl rfl) rfl rfl) rfl rfl), (show (m165.1 10) = 0 → (m.1 10) = 0 by omega), (show LxP (m165.1 7) (m165.1 8) (m165.1 9) (m.1 6) (m165.1 10) by first | (first | exact hLx | exact (fun _ => hLx (by omega)) | (intro h9; exfalso; omega)) | (exfalso; omega)), (fun (h : (m165.1 10) = 0) => absurd h (by omega)), rfl⟩
          · skip
            refine T_gf 19 (.ref 282) rfl rfl rfl rfl rfl rfl ?_
            refine T_ld 20 (.int (i32 v149)) rfl (fun _ => rfl) ?_
            refine T_ld 21 (.int (i32 0)) rfl (fun _ => rfl) ?_
            have G176 : ∀ j, 0 ≤ (upI (m150.2 123) v149 0) j ∧ (upI (m150.2 123) v149 0) j ≤ 1 := upI_rg (Tm150.2.1 123) ⟨by omega, by omega⟩
            refine T_bast (a' := [(123, upI (m150.2 123) v149 0)]) 22 123 (m150.2 123) rfl rfl rfl (by omega) (show v149 < (12 : Int) by omega) (by omega) rfl rfl ?_
            refine T_iinc 25 [(1, .int (i32 (v149 + 1))), (0, .ref 189)] rfl rfl (by decide) rfl rfl ?_
            refine T_goto 9 rfl (fun _ => rfl) ?_
            refine Tm_lv (a := [(0, .ref 189), (1, .int (i32 (v149 + 1)))]) rfl rfl ⟨rfl, rfl, trivial⟩ ?_
            exact ih159 (v149 + 1) (mO m150 [] [(123, upI (m150.2 123) v149 0)]) (r32 (by omega) (by omega)) (Ty_mO Tm150 rfl rfl trivial ⟨G176, trivial⟩) (fr_m (fr_s Fm150 (fr_m fr_0 rfl rfl) rfl rfl) rfl rfl) (show 0 ≤ (v149 + 1) by omega) (show (v149 + 1) ≤ 12 by omega) (show ∀ j, 0 ≤ j → j < (v149 + 1) → (upI (m150.2 123) v149 0) j = 0 by first | (intro j a b; omega) | (intro j a b; by_cases e : j = v149; (rw [e, upI_s]); (rw [upI_n e]; exact hz j a (by omega)))) (show 12 - (v149 + 1) < (n158 : Int) by omega)
      refine Tm_lv (a := [(0, .ref 189), (1, .int (i32 0))]) rfl rfl ⟨rfl, rfl, trivial⟩ ?_
      exact L9_151 ((12 - (0 : Int) : Int) + 1).toNat 0 (mO m3 [] []) ⟨by decide, by decide⟩ Tm3 (fr_m fr_0 rfl rfl) (show 0 ≤ (0 : Int) by omega) (show (0 : Int) ≤ 12 by omega) (show ∀ j, 0 ≤ j → j < (0 : Int) → (m3.2 123) j = 0 by rewrite [(show (m3.2 123) = (m.2 123) from (fr2 Fm3 123 rfl))]; first | (intro j a b; omega) | (intro j a b; by_cases e : j = v149; (rw [e, upI_s]); (rw [upI_n e]; exact hz j a (by omega)))) (show 12 - (0 : Int) < ((((12 - (0 : Int) : Int) + 1).toNat : Nat) : Int) by omega)
  · skip
    clear hC
    refine T_ld 1 (.ref 189) rfl (fun _ => rfl) ?_
    refine T_ld 4 (.int (i32 323)) rfl (fun _ => rfl) ?_
    refine T_call 7 232 [.ref 189, .int (i32 323)] [] rfl (fun _ => rfl) rfl (d_need w (mO m [] []) c N D (by omega) hT 323 ⟨by decide, by decide⟩ (show 1 ≤ (323 : Int) by omega) (show LxP (m.1 7) (m.1 8) (m.1 9) (m.1 6) (m.1 10) by first | exact hLx | (intro h9; exfalso; omega) | (intro h9; have h8 := hLx (by omega); omega))) (fun rr177 k178 => ?_)
    obtain ⟨m179, Tm179, Fm179, h180, h181, h182, h183, rfl⟩ := k178
    refine ⟨_, _, rfl, ?_⟩
    refine T_nb (st' := []) rfl ?_
    have g184 : 0 ≤ m179.1 7 ∧ m179.1 7 ≤ 330 := Tm179.1 7
    have g185 : 0 ≤ m179.1 8 ∧ m179.1 8 ≤ 4000 := Tm179.1 8
    have g186 : 0 ≤ m179.1 9 ∧ m179.1 9 ≤ 4000 := Tm179.1 9
    have g187 : 0 ≤ m179.1 10 ∧ m179.1 10 ≤ 8 := Tm179.1 10
    have g188 : (-1) ≤ m179.1 11 ∧ m179.1 11 ≤ 4000 := Tm179.1 11
    replace h180 : LxP (m179.1 7) (m179.1 8) (m179.1 9) (m.1 6) (m179.1 10) := h180
    replace h181 : (m179.1 10) = 0 → (m.1 10) = 0 ∧ (m.1 7) = (323 : Int) := h181
    replace h182 : (m.1 8) ≤ (m179.1 8) := h182
    replace h183 : (m179.1 10) = 0 → (m.1 8) + (m.1 9) ≤ (m179.1 8) := h183
    have hf189 : 1 ≤ (m179.1 10) := by omega
    clear h181
    clear h183
    have hLx := h180
    refine T_ld 8 (.int (i32 0)) rfl (fun _ => rfl) ?_
    refine T_sto 9 [(1, .int (i32 0)), (0, .ref 189)] rfl (fun _ => rfl) ?_
    have L9_192 : ∀ (n199 : Nat) (v190 : Int) (m191 : mR), (R32 v190) → Ty m191 → fr [] [123] (mO m179 [] []) m191 → (0 ≤ v190) → (v190 ≤ 12) → (∀ j, 0 ≤ j → j < v190 → (m191.2 123) j = 0) → 12 - v190 < (n199 : Int) → TT w D pm_283 (9, [(0, .ref 189), (1, .int (i32 v190))], [], (mhp (mO m191 [] []) c, N), 0, 0) (Q_takeEmit m c N) := by
      intro n199
      induction n199 with
      | zero =>
        intro v190 m191 q196 Tm191 Fm191 ic193 ic194 ic195 hmu
        obtain ⟨q196a, q196b⟩ := id q196
        have hz := ic195
        exfalso
        omega
      | succ n199 ih =>
        intro v190 m191 q196 Tm191 Fm191 ic193 ic194 ic195 hmu
        obtain ⟨q196a, q196b⟩ := id q196
        have hz := ic195
        have ih200 := ih
        refine T_ld 10 (.int (i32 v190)) rfl (fun _ => rfl) ?_
        refine T_ld 12 (.int (i32 12)) rfl (fun _ => rfl) ?_
        refine T_icmp 28 15 rfl rfl rfl (r32 (by omega) (by omega)) ⟨by decide, by decide⟩ (fun (h201 : (12 : Int) ≤ v190) => ?_) (fun (h201 : ¬ ((12 : Int) ≤ v190)) => ?_)
        · skip
          refine T_ld 29 (.ref 189) rfl (fun _ => rfl) ?_
          refine T_ld 30 (.int (i32 0)) rfl (fun _ => rfl) ?_
          refine T_pf (l' := [(125, 0)]) 33 0 rfl rfl rfl rfl rfl rfl ?_
          refine T_ld 34 (.int (i32 1)) rfl (fun _ => rfl) ?_
          refine T_sto 35 [(1, .int (i32 1)), (0, .ref 189)] rfl (fun _ => rfl) ?_
          refine T_ld 36 (.int (i32 1)) rfl (fun _ => rfl) ?_
          refine T_if 148 39 rfl rfl rfl ⟨by decide, by decide⟩ (fun h202 => absurd (show (1 : Int) = 0 from h202) (by decide)) (fun _ => ?_)
          refine T_gf 43 (.int (i32 (m179.1 10))) rfl rfl rfl rfl (mfv_c (F := fun x => .int (i32 x)) rfl (show (m191.1 10) = (m179.1 10) from (fr1 Fm191 10 rfl))) rfl ?_
          refine T_if 148 46 rfl rfl rfl (r32 (by omega) (by omega)) (fun (h203 : (m179.1 10) ≠ 0) => ?_) (fun (h203 : ¬ ((m179.1 10) ≠ 0)) => by exfalso; omega)
          refine T_ld 149 (.ref 189) rfl (fun _ => rfl) ?_
          refine T_ld 151 (.int (i32 59)) rfl (fun _ => rfl) ?_
          refine T_call 154 232 [.ref 189, .int (i32 59)] [] rfl (fun _ => rfl) rfl (d_need w (mO m191 [(125, 0)] []) c N D (by omega) (Ty_mO Tm191 rfl rfl ⟨⟨(by omega : (0 : Int) ≤ 0), (by omega : (0 : Int) ≤ 12)⟩, trivial⟩ trivial) 59 ⟨by decide, by decide⟩ (show 1 ≤ (59 : Int) by omega) (show LxP (m191.1 7) (m191.1 8) (m191.1 9) (m191.1 6) (m191.1 10) by rewrite [(show (m191.1 7) = (m179.1 7) from (fr1 Fm191 7 rfl)), (show (m191.1 8) = (m179.1 8) from (fr1 Fm191 8 rfl)), (show (m191.1 9) = (m179.1 9) from (fr1 Fm191 9 rfl)), (show (m191.1 6) = (m.1 6) from ((fr1 Fm191 6 rfl).trans (fr1 Fm179 6 rfl))), (show (m191.1 10) = (m179.1 10) from (fr1 Fm191 10 rfl))]; first | exact hLx | (intro h9; exfalso; omega) | (intro h9; have h8 := hLx (by omega); omega))) (fun rr204 k205 => ?_)
          obtain ⟨m206, Tm206, Fm206, h207, h208, h209, h210, rfl⟩ := k205
          refine ⟨_, _, rfl, ?_⟩
          refine T_nb (st' := []) rfl ?_
          have g211 : 0 ≤ m206.1 7 ∧ m206.1 7 ≤ 330 := Tm206.1 7
          have g212 : 0 ≤ m206.1 8 ∧ m206.1 8 ≤ 4000 := Tm206.1 8
          have g213 : 0 ≤ m206.1 9 ∧ m206.1 9 ≤ 4000 := Tm206.1 9
          have g214 : 0 ≤ m206.1 10 ∧ m206.1 10 ≤ 8 := Tm206.1 10
          have g215 : (-1) ≤ m206.1 11 ∧ m206.1 11 ≤ 4000 := Tm206.1 11
          replace h207 : LxP (m206.1 7) (m206.1 8) (m206.1 9) (m191.1 6) (m206.1 10) := h207
          rewrite [(show (m191.1 6) = (m.1 6) from ((fr1 Fm191 6 rfl).trans (fr1 Fm179 6 rfl)))] at h207
          replace h208 : (m206.1 10) = 0 → (m191.1 10) = 0 ∧ (m191.1 7) = (59 : Int) := h208
          rewrite [(show (m191.1 10) = (m179.1 10) from (fr1 Fm191 10 rfl)), (show (m191.1 7) = (m179.1 7) from (fr1 Fm191 7 rfl))] at h208
          replace h209 : (m191.1 8) ≤ (m206.1 8) := h209
          rewrite [(show (m191.1 8) = (m179.1 8) from (fr1 Fm191 8 rfl))] at h209
          replace h210 : (m206.1 10) = 0 → (m191.1 8) + (m191.1 9) ≤ (m206.1 8) := h210
          rewrite [(show (m191.1 8) = (m179.1 8) from (fr1 Fm191 8 rfl)), (show (m191.1 9) = (m179.1 9) from (fr1 Fm191 9 rfl))] at h210
          have hf216 : 1 ≤ (m206.1 10) := by omega
          clear h208
          clear h210
          have hLx := h207
          clear g184 g185 g186 g187 g188 hf189 h180 h182 h203 h209
          refine T_ret rfl (fun _ => rfl) ?_
          exact ⟨(mO m206 [] []), Tm206, (fr_m (fr_s Fm206 (fr_m (fr_s Fm191 (fr_m (fr_s Fm179 (fr_m fr_0 rfl rfl) rfl rfl) rfl rfl) rfl rfl) rfl rfl) rfl rfl) rfl rfl), (show (m206.1 10) = 0 → (m.1 10) = 0 by omega), (show LxP (m206.1 7) (m206.1 8) (m206.1 9) (m.1 6) (m206.1 10) by first | (first | exact hLx | exact (fun _ => hLx (by omega)) | (intro h9; exfalso; omega)) | (exfalso; omega)), (fun (h : (m206.1 10) = 0) => absurd h (by omega)), rfl⟩
        · skip
          refine T_gf 19 (.ref 282) rfl rfl rfl rfl rfl rfl ?_
          refine T_ld 20 (.int (i32 v190)) rfl (fun _ => rfl) ?_
          refine T_ld 21 (.int (i32 0)) rfl (fun _ => rfl) ?_
          have G217 : ∀ j, 0 ≤ (upI (m191.2 123) v190 0) j ∧ (upI (m191.2 123) v190 0) j ≤ 1 := upI_rg (Tm191.2.1 123) ⟨by omega, by omega⟩
          refine T_bast (a' := [(123, upI (m191.2 123) v190 0)]) 22 123 (m191.2 123) rfl rfl rfl (by omega) (show v190 < (12 : Int) by omega) (by omega) rfl rfl ?_
          refine T_iinc 25 [(1, .int (i32 (v190 + 1))), (0, .ref 189)] rfl rfl (by decide) rfl rfl ?_
          refine T_goto 9 rfl (fun _ => rfl) ?_
          refine Tm_lv (a := [(0, .ref 189), (1, .int (i32 (v190 + 1)))]) rfl rfl ⟨rfl, rfl, trivial⟩ ?_
          exact ih200 (v190 + 1) (mO m191 [] [(123, upI (m191.2 123) v190 0)]) (r32 (by omega) (by omega)) (Ty_mO Tm191 rfl rfl trivial ⟨G217, trivial⟩) (fr_m (fr_s Fm191 (fr_m fr_0 rfl rfl) rfl rfl) rfl rfl) (show 0 ≤ (v190 + 1) by omega) (show (v190 + 1) ≤ 12 by omega) (show ∀ j, 0 ≤ j → j < (v190 + 1) → (upI (m191.2 123) v190 0) j = 0 by first | (intro j a b; omega) | (intro j a b; by_cases e : j = v190; (rw [e, upI_s]); (rw [upI_n e]; exact hz j a (by omega)))) (show 12 - (v190 + 1) < (n199 : Int) by omega)
    refine Tm_lv (a := [(0, .ref 189), (1, .int (i32 0))]) rfl rfl ⟨rfl, rfl, trivial⟩ ?_
    exact L9_192 ((12 - (0 : Int) : Int) + 1).toNat 0 (mO m179 [] []) ⟨by decide, by decide⟩ Tm179 (fr_m fr_0 rfl rfl) (show 0 ≤ (0 : Int) by omega) (show (0 : Int) ≤ 12 by omega) (show ∀ j, 0 ≤ j → j < (0 : Int) → (m179.2 123) j = 0 by rewrite [(show (m179.2 123) = (m.2 123) from (fr2 Fm179 123 rfl))]; first | (intro j a b; omega) | (intro j a b; by_cases e : j = v190; (rw [e, upI_s]); (rw [upI_n e]; exact hz j a (by omega)))) (show 12 - (0 : Int) < ((((12 - (0 : Int) : Int) + 1).toNat : Nat) : Int) by omega)
