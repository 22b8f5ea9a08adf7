def Q_openBlock (m : mR) (c : Nat → Option am_C) (N : Nat) (i : Int) (b : Int) : ag_Re af_T → Prop := fun R => ∃ (M : mR), Ty M ∧ ((M.1 10) = 0 → (m.1 10) = 0) ∧ (LxP (M.1 7) (M.1 8) (M.1 9) (m.1 6) (M.1 10)) ∧ (M.1 10 = 0 → ((m.1 8) + 1 ≤ (M.1 8)) ∧ ((M.1 119) = (m.1 119) + 1) ∧ (∀ j, 0 ≤ j → j < (M.1 119) → (M.2 117) j < (m.1 27))) ∧ R = (.inl (none), (mhp (mO m [(7, (M.1 7)), (8, (M.1 8)), (9, (M.1 9)), (10, (M.1 10)), (11, (M.1 11)), (12, (M.1 12)), (119, (M.1 119))] [(117, (M.2 117)), (118, (M.2 118))]) c, N), 0, 0)
set_option maxHeartbeats 8000000 in
theorem c_openBlock (w : wX) (m : mR) (c : Nat → Option am_C) (N D : Nat) (hD : 7 ≤ D) (hT : Ty m) (i : Int) (b : Int) (qi : R32 i) (qb : R32 b) (hLx0 : LxP (m.1 7) (m.1 8) (m.1 9) (m.1 6) (m.1 10)) (p1 : (-1) ≤ i ∧ i ≤ 47) (p2 : (-1) ≤ b ∧ b ≤ 1) (hC : m.1 10 = 0 → (∀ j, 0 ≤ j → j < (m.1 119) → (m.2 117) j < (m.1 27)) ∧ (i < (m.1 27))) : TC w D 280 [.ref 189, .int (i32 i), .int (i32 b)] (mhp m c, N) (Q_openBlock m c N i b) := by
  obtain ⟨D, rfl⟩ : ∃ k, D = k + 1 := ⟨D - 1, by omega⟩
  obtain ⟨qia, qib⟩ := id qi
  obtain ⟨qba, qbb⟩ := id qb
  have hLx := hLx0
  have f7 : 0 ≤ m.1 7 ∧ m.1 7 ≤ 330 := hT.1 7
  have f8 : 0 ≤ m.1 8 ∧ m.1 8 ≤ 4000 := hT.1 8
  have f9 : 0 ≤ m.1 9 ∧ m.1 9 ≤ 4000 := hT.1 9
  have f10 : 0 ≤ m.1 10 ∧ m.1 10 ≤ 8 := hT.1 10
  have f11 : (-1) ≤ m.1 11 ∧ m.1 11 ≤ 4000 := hT.1 11
  have f12 : (-9223372036854775808) ≤ m.1 12 ∧ m.1 12 ≤ 9223372036854775807 := hT.1 12
  have f119 : 0 ≤ m.1 119 ∧ m.1 119 ≤ 8 := hT.1 119
  have f6 : 0 ≤ m.1 6 ∧ m.1 6 ≤ 4000 := hT.1 6
  have f27 : 0 ≤ m.1 27 ∧ m.1 27 ≤ 48 := hT.1 27
  refine Tc_of rfl ?_
  show TT w D pm_280 (0, [(0, .ref 189), (1, .int (i32 i)), (2, .int (i32 b))], [], (mhp m c, N), 0, 0) (Q_openBlock m c N i b)
  rw [show (mhp m c, N) = (mhp (mO m [(7, (m.1 7)), (8, (m.1 8)), (9, (m.1 9)), (10, (m.1 10)), (11, (m.1 11)), (12, (m.1 12)), (119, (m.1 119))] [(117, (m.2 117)), (118, (m.2 118))]) c, N) from congrArg (fun M => (mhp M c, N)) (mO_pad m [7, 8, 9, 10, 11, 12, 119] [117, 118])]
  by_cases hf0 : m.1 10 = 0
  · skip
    obtain ⟨hBK, c1⟩ := hC hf0
    have h7 := hLx (by omega)
    have J40_5 : ∀ (m4 : mR), (Ty m4) → (1 ≤ (m4.1 10)) → ((m4.1 10) ≤ 8) → TT w D pm_280 (40, [(0, .ref 189), (1, .int (i32 i)), (2, .int (i32 b))], [], (mhp (mO m [(7, (m4.1 7)), (8, (m4.1 8)), (9, (m4.1 9)), (10, (m4.1 10)), (11, (m4.1 11)), (12, (m4.1 12)), (119, (m.1 119))] [(117, (m.2 117)), (118, (m.2 118))]) c, N), 0, 0) (Q_openBlock m c N i b) := by
      intro m4 q6 ic7 ic8
      have q6_7 : 0 ≤ m4.1 7 ∧ m4.1 7 ≤ 330 := q6.1 7
      have q6_8 : 0 ≤ m4.1 8 ∧ m4.1 8 ≤ 4000 := q6.1 8
      have q6_9 : 0 ≤ m4.1 9 ∧ m4.1 9 ≤ 4000 := q6.1 9
      have q6_10 : 0 ≤ m4.1 10 ∧ m4.1 10 ≤ 8 := q6.1 10
      have q6_11 : (-1) ≤ m4.1 11 ∧ m4.1 11 ≤ 4000 := q6.1 11
      have q6_12 : (-9223372036854775808) ≤ m4.1 12 ∧ m4.1 12 ≤ 9223372036854775807 := q6.1 12
      refine T_gf 44 (.int (i32 (m4.1 10))) rfl rfl rfl rfl rfl rfl ?_
      refine T_if 48 47 rfl rfl rfl (r32 (by omega) (by omega)) (fun (h10 : (m4.1 10) ≤ 0) => by exfalso; omega) (fun (h10 : ¬ ((m4.1 10) ≤ 0)) => ?_)
      refine T_ret rfl (fun _ => rfl) ?_
      exact ⟨(mO m [(7, (m4.1 7)), (8, (m4.1 8)), (9, (m4.1 9)), (10, (m4.1 10)), (11, (m4.1 11)), (12, (m4.1 12)), (119, (m.1 119))] [(117, (m.2 117)), (118, (m.2 118))]), (Ty_mO hT rfl rfl ⟨(q6.1 7), (q6.1 8), (q6.1 9), (q6.1 10), (q6.1 11), (q6.1 12), f119, trivial⟩ ⟨(hT.2.1 117), (hT.2.1 118), trivial⟩), (show (m4.1 10) = 0 → (m.1 10) = 0 by omega), (show LxP (m4.1 7) (m4.1 8) (m4.1 9) (m.1 6) (m4.1 10) by first | (first | exact hLx | exact (fun _ => hLx (by omega)) | (intro h9; exfalso; omega)) | (exfalso; omega)), (fun (h : (m4.1 10) = 0) => absurd h (by omega)), rfl⟩
    refine T_gf 4 (.int (i32 (m.1 10))) rfl rfl rfl rfl rfl rfl ?_
    refine T_if 34 7 rfl rfl rfl (r32 (by omega) (by omega)) (fun (h11 : (m.1 10) ≠ 0) => by exfalso; omega) (fun (h11 : ¬ ((m.1 10) ≠ 0)) => ?_)
    refine T_gf 11 (.int (i32 (m.1 7))) rfl rfl rfl rfl rfl rfl ?_
    refine T_ld 13 (.int (i32 123)) rfl (fun _ => rfl) ?_
    refine T_icmp 34 16 rfl rfl rfl (r32 (by omega) (by omega)) ⟨by decide, by decide⟩ (fun (h12 : (m.1 7) ≠ 123) => ?_) (fun (h12 : ¬ ((m.1 7) ≠ 123)) => ?_)
    · skip
      refine T_ld 35 (.ref 189) rfl (fun _ => rfl) ?_
      refine T_ld 37 (.int (i32 123)) rfl (fun _ => rfl) ?_
      refine T_call 40 232 [.ref 189, .int (i32 123)] [] rfl (fun _ => rfl) rfl (c_need w (mO m [(7, (m.1 7)), (8, (m.1 8)), (9, (m.1 9)), (10, (m.1 10)), (11, (m.1 11)), (12, (m.1 12)), (119, (m.1 119))] [(117, (m.2 117)), (118, (m.2 118))]) c N D (by omega) (Ty_mO hT rfl rfl ⟨f7, f8, f9, f10, f11, f12, f119, trivial⟩ ⟨(hT.2.1 117), (hT.2.1 118), trivial⟩) 123 ⟨by decide, by decide⟩ (show 1 ≤ (123 : Int) by omega) (show LxP (m.1 7) (m.1 8) (m.1 9) (m.1 6) (m.1 10) by first | exact hLx | (intro h9; exfalso; omega) | (intro h9; have h8 := hLx (by omega); omega))) (fun rr13 k14 => ?_)
      obtain ⟨y15, y17, y19, y21, y23, y25, g16, g18, g20, g22, g24, g26, h27, h28, h29, h30, rfl⟩ := k14
      refine ⟨_, _, rfl, ?_⟩
      refine T_nf2 (st' := []) (l' := [(7, y15), (8, y17), (9, y19), (10, y21), (11, y23), (12, y25), (119, (m.1 119))]) (a' := [(117, (m.2 117)), (118, (m.2 118))]) [7, 8, 9, 10, 11, 12] [] rfl ⟨rfl, rfl, rfl, rfl, rfl, rfl, rfl, rfl, rfl, rfl, rfl, rfl, rfl, rfl, trivial⟩ ⟨rfl, rfl, rfl, rfl, trivial⟩ rfl rfl (by decide) (by decide) ?_
      by_cases hf31 : y21 = 0
      · skip
        subst hf31
        replace h27 : LxP y15 y17 y19 (m.1 6) (0 : Int) := h27
        have hLx := h27
        replace h28 : (m.1 10) = 0 ∧ (m.1 7) = (123 : Int) := h28 rfl
        replace h29 : (m.1 8) ≤ y17 := h29
        replace h30 : (m.1 8) + (m.1 9) ≤ y17 := h30 rfl
        have u32 : (m.1 8) + 1 ≤ y17 := by omega
        clear g22
        refine T_gf 44 (.int (i32 0)) rfl rfl rfl rfl rfl rfl ?_
        refine T_if 48 47 rfl rfl rfl ⟨by decide, by decide⟩ (fun _ => ?_) (fun h33 => absurd (show (0 : Int) ≤ 0 by decide) h33)
        refine T_gf 52 (.ref 277) rfl rfl rfl rfl rfl rfl ?_
        refine T_gf 56 (.int (i32 (m.1 119))) rfl rfl rfl rfl rfl rfl ?_
        refine T_ld 57 (.int (i32 i)) rfl (fun _ => rfl) ?_
        have G34 : ∀ j, (-1) ≤ (upI (m.2 117) (m.1 119) i) j ∧ (upI (m.2 117) (m.1 119) i) j ≤ 47 := upI_rg (hT.2.1 117) ⟨by omega, by omega⟩
        refine T_iast (a' := [(117, upI (m.2 117) (m.1 119) i), (118, (m.2 118))]) 58 117 (m.2 117) rfl rfl rfl (by omega) (show (m.1 119) < (8 : Int) by omega) rfl rfl ?_
        refine T_gf 62 (.ref 278) rfl rfl rfl rfl rfl rfl ?_
        refine T_gf 66 (.int (i32 (m.1 119))) rfl rfl rfl rfl rfl rfl ?_
        refine T_ld 67 (.int (i32 b)) rfl (fun _ => rfl) ?_
        have G35 : ∀ j, (-1) ≤ (upI (m.2 118) (m.1 119) b) j ∧ (upI (m.2 118) (m.1 119) b) j ≤ 1 := upI_rg (hT.2.1 118) ⟨by omega, by omega⟩
        refine T_iast (a' := [(117, upI (m.2 117) (m.1 119) i), (118, upI (m.2 118) (m.1 119) b)]) 68 118 (m.2 118) rfl rfl rfl (by omega) (show (m.1 119) < (8 : Int) by omega) rfl rfl ?_
        refine T_ld 69 (.ref 189) rfl (fun _ => rfl) ?_
        refine T_ld 70 (.ref 189) rfl (fun _ => rfl) ?_
        refine T_gf1 73 (.int (i32 (m.1 119))) rfl rfl rfl rfl ?_
        refine T_ld 74 (.int (i32 1)) rfl (fun _ => rfl) ?_
        refine T_iadd 75 rfl rfl ?_
        refine T_pf (l' := [(7, y15), (8, y17), (9, y19), (10, 0), (11, y23), (12, y25), (119, (m.1 119) + 1)]) 78 ((m.1 119) + 1) rfl rfl rfl rfl rfl rfl ?_
        have g36 : 0 ≤ (m.1 119) + 1 ∧ (m.1 119) + 1 ≤ 8 := ⟨by omega, by omega⟩
        refine T_ret rfl (fun _ => rfl) ?_
        exact ⟨(mO m [(7, y15), (8, y17), (9, y19), (10, 0), (11, y23), (12, y25), (119, (m.1 119) + 1)] [(117, upI (m.2 117) (m.1 119) i), (118, upI (m.2 118) (m.1 119) b)]), (Ty_mO hT rfl rfl ⟨g16, g18, g20, ⟨(by omega : (0 : Int) ≤ 0), (by omega : (0 : Int) ≤ 8)⟩, g24, g26, g36, trivial⟩ ⟨G34, G35, trivial⟩), (show (0 : Int) = 0 → (m.1 10) = 0 by omega), (show LxP y15 y17 y19 (m.1 6) (0 : Int) by first | (first | exact hLx | exact (fun _ => hLx (by omega)) | (intro h9; exfalso; omega)) | (exfalso; omega)), (fun _ => ⟨(show (m.1 8) + 1 ≤ y17 by omega), (show ((m.1 119) + 1) = (m.1 119) + 1 by omega), (show ∀ j, 0 ≤ j → j < ((m.1 119) + 1) → (upI (m.2 117) (m.1 119) i) j < (m.1 27) by first | (intro j j0 j1; unfold upI; split; (omega); (exact hBK j j0 (by omega))) | (exfalso; omega))⟩), rfl⟩
      · skip
        replace h27 : LxP y15 y17 y19 (m.1 6) y21 := h27
        have hLx := h27
        clear h28
        replace h29 : (m.1 8) ≤ y17 := h29
        clear h30
        have hf37 : 1 ≤ y21 := by omega
        exact J40_5 (mO m [(7, y15), (8, y17), (9, y19), (10, y21), (11, y23), (12, y25), (119, (m.1 119))] [(117, (m.2 117)), (118, (m.2 118))]) (Ty_mO hT rfl rfl ⟨g16, g18, g20, g22, g24, g26, f119, trivial⟩ ⟨(hT.2.1 117), (hT.2.1 118), trivial⟩) (show 1 ≤ y21 by omega) (show y21 ≤ 8 by omega)
    · skip
      refine T_gf 20 (.int (i32 (m.1 119))) rfl rfl rfl rfl rfl rfl ?_
      refine T_ld 22 (.int (i32 8)) rfl (fun _ => rfl) ?_
      refine T_icmp 34 25 rfl rfl rfl (r32 (by omega) (by omega)) ⟨by decide, by decide⟩ (fun (h38 : (m.1 119) ≠ 8) => ?_) (fun (h38 : ¬ ((m.1 119) ≠ 8)) => ?_)
      · skip
        refine T_ld 35 (.ref 189) rfl (fun _ => rfl) ?_
        refine T_ld 37 (.int (i32 123)) rfl (fun _ => rfl) ?_
        refine T_call 40 232 [.ref 189, .int (i32 123)] [] rfl (fun _ => rfl) rfl (c_need w (mO m [(7, (m.1 7)), (8, (m.1 8)), (9, (m.1 9)), (10, (m.1 10)), (11, (m.1 11)), (12, (m.1 12)), (119, (m.1 119))] [(117, (m.2 117)), (118, (m.2 118))]) c N D (by omega) (Ty_mO hT rfl rfl ⟨f7, f8, f9, f10, f11, f12, f119, trivial⟩ ⟨(hT.2.1 117), (hT.2.1 118), trivial⟩) 123 ⟨by decide, by decide⟩ (show 1 ≤ (123 : Int) by omega) (show LxP (m.1 7) (m.1 8) (m.1 9) (m.1 6) (m.1 10) by first | exact hLx | (intro h9; exfalso; omega) | (intro h9; have h8 := hLx (by omega); omega))) (fun rr39 k40 => ?_)
        obtain ⟨y41, y43, y45, y47, y49, y51, g42, g44, g46, g48, g50, g52, h53, h54, h55, h56, rfl⟩ := k40
        refine ⟨_, _, rfl, ?_⟩
        refine T_nf2 (st' := []) (l' := [(7, y41), (8, y43), (9, y45), (10, y47), (11, y49), (12, y51), (119, (m.1 119))]) (a' := [(117, (m.2 117)), (118, (m.2 118))]) [7, 8, 9, 10, 11, 12] [] rfl ⟨rfl, rfl, rfl, rfl, rfl, rfl, rfl, rfl, rfl, rfl, rfl, rfl, rfl, rfl, trivial⟩ ⟨rfl, rfl, rfl, rfl, trivial⟩ rfl rfl (by decide) (by decide) ?_
        by_cases hf57 : y47 = 0
        · skip
          subst hf57
          replace h53 : LxP y41 y43 y45 (m.1 6) (0 : Int) := h53
          have hLx := h53
          replace h54 : (m.1 10) = 0 ∧ (m.1 7) = (123 : Int) := h54 rfl
          replace h55 : (m.1 8) ≤ y43 := h55
          replace h56 : (m.1 8) + (m.1 9) ≤ y43 := h56 rfl
          have u58 : (m.1 8) + 1 ≤ y43 := by omega
          clear g48
          refine T_gf 44 (.int (i32 0)) rfl rfl rfl rfl rfl rfl ?_
          refine T_if 48 47 rfl rfl rfl ⟨by decide, by decide⟩ (fun _ => ?_) (fun h59 => absurd (show (0 : Int) ≤ 0 by decide) h59)
          refine T_gf 52 (.ref 277) rfl rfl rfl rfl rfl rfl ?_
          refine T_gf 56 (.int (i32 (m.1 119))) rfl rfl rfl rfl rfl rfl ?_
          refine T_ld 57 (.int (i32 i)) rfl (fun _ => rfl) ?_
          have G60 : ∀ j, (-1) ≤ (upI (m.2 117) (m.1 119) i) j ∧ (upI (m.2 117) (m.1 119) i) j ≤ 47 := upI_rg (hT.2.1 117) ⟨by omega, by omega⟩
          refine T_iast (a' := [(117, upI (m.2 117) (m.1 119) i), (118, (m.2 118))]) 58 117 (m.2 117) rfl rfl rfl (by omega) (show (m.1 119) < (8 : Int) by omega) rfl rfl ?_
          refine T_gf 62 (.ref 278) rfl rfl rfl rfl rfl rfl ?_
          refine T_gf 66 (.int (i32 (m.1 119))) rfl rfl rfl rfl rfl rfl ?_
          refine T_ld 67 (.int (i32 b)) rfl (fun _ => rfl) ?_
          have G61 : ∀ j, (-1) ≤ (upI (m.2 118) (m.1 119) b) j ∧ (upI (m.2 118) (m.1 119) b) j ≤ 1 := upI_rg (hT.2.1 118) ⟨by omega, by omega⟩
          refine T_iast (a' := [(117, upI (m.2 117) (m.1 119) i), (118, upI (m.2 118) (m.1 119) b)]) 68 118 (m.2 118) rfl rfl rfl (by omega) (show (m.1 119) < (8 : Int) by omega) rfl rfl ?_
          refine T_ld 69 (.ref 189) rfl (fun _ => rfl) ?_
          refine T_ld 70 (.ref 189) rfl (fun _ => rfl) ?_
          refine T_gf1 73 (.int (i32 (m.1 119))) rfl rfl rfl rfl ?_
          refine T_ld 74 (.int (i32 1)) rfl (fun _ => rfl) ?_
          refine T_iadd 75 rfl rfl ?_
          refine T_pf (l' := [(7, y41), (8, y43), (9, y45), (10, 0), (11, y49), (12, y51), (119, (m.1 119) + 1)]) 78 ((m.1 119) + 1) rfl rfl rfl rfl rfl rfl ?_
          have g62 : 0 ≤ (m.1 119) + 1 ∧ (m.1 119) + 1 ≤ 8 := ⟨by omega, by omega⟩
          refine T_ret rfl (fun _ => rfl) ?_
          exact ⟨(mO m [(7, y41), (8, y43), (9, y45), (10, 0), (11, y49), (12, y51), (119, (m.1 119) + 1)] [(117, upI (m.2 117) (m.1 119) i), (118, upI (m.2 118) (m.1 119) b)]), (Ty_mO hT rfl rfl ⟨g42, g44, g46, ⟨(by omega : (0 : Int) ≤ 0), (by omega : (0 : Int) ≤ 8)⟩, g50, g52, g62, trivial⟩ ⟨G60, G61, trivial⟩), (show (0 : Int) = 0 → (m.1 10) = 0 by omega), (show LxP y41 y43 y45 (m.1 6) (0 : Int) by first | (first | exact hLx | exact (fun _ => hLx (by omega)) | (intro h9; exfalso; omega)) | (exfalso; omega)), (fun _ => ⟨(show (m.1 8) + 1 ≤ y43 by omega), (show ((m.1 119) + 1) = (m.1 119) + 1 by omega), (show ∀ j, 0 ≤ j → j < ((m.1 119) + 1) → (upI (m.2 117) (m.1 119) i) j < (m.1 27) by first | (intro j j0 j1; unfold upI; split; (omega); (exact hBK j j0 (by omega))) | (exfalso; omega))⟩), rfl⟩
        · skip
          replace h53 : LxP y41 y43 y45 (m.1 6) y47 := h53
          have hLx := h53
          clear h54
          replace h55 : (m.1 8) ≤ y43 := h55
          clear h56
          have hf63 : 1 ≤ y47 := by omega
          exact J40_5 (mO m [(7, y41), (8, y43), (9, y45), (10, y47), (11, y49), (12, y51), (119, (m.1 119))] [(117, (m.2 117)), (118, (m.2 118))]) (Ty_mO hT rfl rfl ⟨g42, g44, g46, g48, g50, g52, f119, trivial⟩ ⟨(hT.2.1 117), (hT.2.1 118), trivial⟩) (show 1 ≤ y47 by omega) (show y47 ≤ 8 by omega)
      · skip
        refine T_ld 26 (.ref 189) rfl (fun _ => rfl) ?_
        refine T_ld 27 (.int (i32 4)) rfl (fun _ => rfl) ?_
        refine T_gf 31 (.int (i32 (m.1 8))) rfl rfl rfl rfl rfl rfl ?_
        refine T_call 34 222 [.ref 189, .int (i32 4), .int (i32 (m.1 8))] [] rfl (fun _ => rfl) rfl (c_wrong w (mO m [(7, (m.1 7)), (8, (m.1 8)), (9, (m.1 9)), (10, (m.1 10)), (11, (m.1 11)), (12, (m.1 12)), (119, (m.1 119))] [(117, (m.2 117)), (118, (m.2 118))]) c N D (by omega) (Ty_mO hT rfl rfl ⟨f7, f8, f9, f10, f11, f12, f119, trivial⟩ ⟨(hT.2.1 117), (hT.2.1 118), trivial⟩) 4 (m.1 8) ⟨by decide, by decide⟩ (r32 (by omega) (by omega)) (show 1 ≤ (4 : Int) ∧ (4 : Int) ≤ 8 by omega) (show 0 ≤ (m.1 8) ∧ (m.1 8) ≤ 4000 by omega)) (fun rr64 k65 => ?_)
        obtain ⟨y66, y68, g67, g69, h70, rfl⟩ := k65
        refine ⟨_, _, rfl, ?_⟩
        refine T_nf2 (st' := []) (l' := [(7, (m.1 7)), (8, (m.1 8)), (9, (m.1 9)), (10, y66), (11, y68), (12, (m.1 12)), (119, (m.1 119))]) (a' := [(117, (m.2 117)), (118, (m.2 118))]) [10, 11] [] rfl ⟨rfl, rfl, rfl, rfl, rfl, rfl, rfl, rfl, rfl, rfl, rfl, rfl, rfl, rfl, rfl, rfl, rfl, trivial⟩ ⟨rfl, rfl, rfl, rfl, trivial⟩ rfl rfl (by decide) (by decide) ?_
        replace h70 : (0 < (m.1 10) → y66 = (m.1 10) ∧ y68 = (m.1 11)) ∧ ((m.1 10) ≤ 0 → y66 = (4 : Int) ∧ y68 = (m.1 8)) := h70
        have hf71 : 1 ≤ y66 := by omega
        refine T_ld 35 (.ref 189) rfl (fun _ => rfl) ?_
        refine T_ld 37 (.int (i32 123)) rfl (fun _ => rfl) ?_
        refine T_call 40 232 [.ref 189, .int (i32 123)] [] rfl (fun _ => rfl) rfl (c_need w (mO m [(7, (m.1 7)), (8, (m.1 8)), (9, (m.1 9)), (10, y66), (11, y68), (12, (m.1 12)), (119, (m.1 119))] [(117, (m.2 117)), (118, (m.2 118))]) c N D (by omega) (Ty_mO hT rfl rfl ⟨f7, f8, f9, g67, g69, f12, f119, trivial⟩ ⟨(hT.2.1 117), (hT.2.1 118), trivial⟩) 123 ⟨by decide, by decide⟩ (show 1 ≤ (123 : Int) by omega) (show LxP (m.1 7) (m.1 8) (m.1 9) (m.1 6) y66 by first | exact hLx | (intro h9; exfalso; omega) | (intro h9; have h8 := hLx (by omega); omega))) (fun rr72 k73 => ?_)
        obtain ⟨y74, y76, y78, y80, y82, y84, g75, g77, g79, g81, g83, g85, h86, h87, h88, h89, rfl⟩ := k73
        refine ⟨_, _, rfl, ?_⟩
        refine T_nf2 (st' := []) (l' := [(7, y74), (8, y76), (9, y78), (10, y80), (11, y82), (12, y84), (119, (m.1 119))]) (a' := [(117, (m.2 117)), (118, (m.2 118))]) [7, 8, 9, 10, 11, 12] [] rfl ⟨rfl, rfl, rfl, rfl, rfl, rfl, rfl, rfl, rfl, rfl, rfl, rfl, rfl, rfl, trivial⟩ ⟨rfl, rfl, rfl, rfl, trivial⟩ rfl rfl (by decide) (by decide) ?_
        replace h86 : LxP y74 y76 y78 (m.1 6) y80 := h86
        replace h87 : y80 = 0 → y66 = 0 ∧ (m.1 7) = (123 : Int) := h87
        replace h88 : (m.1 8) ≤ y76 := h88
        replace h89 : y80 = 0 → (m.1 8) + (m.1 9) ≤ y76 := h89
        have hf90 : 1 ≤ y80 := by omega
        clear h87
        clear h89
        have hLx := h86
        clear g67 g69 hf71 h70
        exact J40_5 (mO m [(7, y74), (8, y76), (9, y78), (10, y80), (11, y82), (12, y84), (119, (m.1 119))] [(117, (m.2 117)), (118, (m.2 118))]) (Ty_mO hT rfl rfl ⟨g75, g77, g79, g81, g83, g85, f119, trivial⟩ ⟨(hT.2.1 117), (hT.2.1 118), trivial⟩) (show 1 ≤ y80 by omega) (show y80 ≤ 8 by omega)
  · skip
    clear hC
    refine T_gf 4 (.int (i32 (m.1 10))) rfl rfl rfl rfl rfl rfl ?_
    refine T_if 34 7 rfl rfl rfl (r32 (by omega) (by omega)) (fun (h91 : (m.1 10) ≠ 0) => ?_) (fun (h91 : ¬ ((m.1 10) ≠ 0)) => by exfalso; omega)
    refine T_ld 35 (.ref 189) rfl (fun _ => rfl) ?_
    refine T_ld 37 (.int (i32 123)) rfl (fun _ => rfl) ?_
    refine T_call 40 232 [.ref 189, .int (i32 123)] [] rfl (fun _ => rfl) rfl (c_need w (mO m [(7, (m.1 7)), (8, (m.1 8)), (9, (m.1 9)), (10, (m.1 10)), (11, (m.1 11)), (12, (m.1 12)), (119, (m.1 119))] [(117, (m.2 117)), (118, (m.2 118))]) c N D (by omega) (Ty_mO hT rfl rfl ⟨f7, f8, f9, f10, f11, f12, f119, trivial⟩ ⟨(hT.2.1 117), (hT.2.1 118), trivial⟩) 123 ⟨by decide, by decide⟩ (show 1 ≤ (123 : Int) by omega) (show LxP (m.1 7) (m.1 8) (m.1 9) (m.1 6) (m.1 10) by first | exact hLx | (intro h9; exfalso; omega) | (intro h9; have h8 := hLx (by omega); omega))) (fun rr92 k93 => ?_)
    obtain ⟨y94, y96, y98, y100, y102, y104, g95, g97, g99, g101, g103, g105, h106, h107, h108, h109, rfl⟩ := k93
    refine ⟨_, _, rfl, ?_⟩
    refine T_nf2 (st' := []) (l' := [(7, y94), (8, y96), (9, y98), (10, y100), (11, y102), (12, y104), (119, (m.1 119))]) (a' := [(117, (m.2 117)), (118, (m.2 118))]) [7, 8, 9, 10, 11, 12] [] rfl ⟨rfl, rfl, rfl, rfl, rfl, rfl, rfl, rfl, rfl, rfl, rfl, rfl, rfl, rfl, trivial⟩ ⟨rfl, rfl, rfl, rfl, trivial⟩ rfl rfl (by decide) (by decide) ?_
    replace h106 : LxP y94 y96 y98 (m.1 6) y100 := h106
    replace h107 : y100 = 0 → (m.1 10) = 0 ∧ (m.1 7) = (123 : Int) := h107
    replace h108 : (m.1 8) ≤ y96 := h108
    replace h109 : y100 = 0 → (m.1 8) + (m.1 9) ≤ y96 := h109
    have hf110 : 1 ≤ y100 := by omega
    clear h107
    clear h109
    have hLx := h106
    refine T_gf 44 (.int (i32 y100)) rfl rfl rfl rfl rfl rfl ?_
    refine T_if 48 47 rfl rfl rfl (r32 (by omega) (by omega)) (fun (h111 : y100 ≤ 0) => by exfalso; omega) (fun (h111 : ¬ (y100 ≤ 0)) => ?_)
    refine T_ret rfl (fun _ => rfl) ?_
    exact ⟨(mO m [(7, y94), (8, y96), (9, y98), (10, y100), (11, y102), (12, y104), (119, (m.1 119))] [(117, (m.2 117)), (118, (m.2 118))]), (Ty_mO hT rfl rfl ⟨g95, g97, g99, g101, g103, g105, f119, trivial⟩ ⟨(hT.2.1 117), (hT.2.1 118), trivial⟩), (show y100 = 0 → (m.1 10) = 0 by omega), (show LxP y94 y96 y98 (m.1 6) y100 by first | (first | exact hLx | exact (fun _ => hLx (by omega)) | (intro h9; exfalso; omega)) | (exfalso; omega)), (fun (h : y100 = 0) => absurd h (by omega)), rfl⟩
def Q_newStep (m : mR) (c : Nat → Option am_C) (N : Nat) (k : Int) : ag_Re af_T → Prop := fun R => ∃ (M : mR) (r : Int), Ty M ∧ (0 ≤ r ∧ r ≤ 47) ∧ ((M.1 10) = 0 → (m.1 10) = 0) ∧ (M.1 10 = 0 → (r = (m.1 27)) ∧ ((M.1 27) = (m.1 27) + 1) ∧ ((M.2 60) = upI (m.2 60) (m.1 27) k) ∧ ((M.2 61) = upI (m.2 61) (m.1 27) ((m.2 117) ((m.1 119) - 1))) ∧ ((M.2 63) = upI (m.2 63) (m.1 27) (-1))) ∧ R = (.inl (some (.int (i32 r))), (mhp (mO m [(10, (M.1 10)), (11, (M.1 11)), (27, (M.1 27))] [(60, (M.2 60)), (61, (M.2 61)), (62, (M.2 62)), (63, (M.2 63))]) c, N), 0, 0)
set_option maxHeartbeats 8000000 in
theorem c_newStep (w : wX) (m : mR) (c : Nat → Option am_C) (N D : Nat) (hD : 2 ≤ D) (hT : Ty m) (k : Int) (qk : R32 k) (p0 : 0 ≤ k ∧ k ≤ 2) (p1 : 1 ≤ (m.1 119)) (hf0 : m.1 10 = 0) (hC : (∀ j, 0 ≤ j → j < (m.1 119) → (m.2 117) j < (m.1 27))) : TC w D 281 [.ref 189, .int (i32 k)] (mhp m c, N) (Q_newStep m c N k) := by
  obtain ⟨D, rfl⟩ : ∃ k, D = k + 1 := ⟨D - 1, by omega⟩
  obtain ⟨qka, qkb⟩ := id qk
  have f10 : 0 ≤ m.1 10 ∧ m.1 10 ≤ 8 := hT.1 10
  have f11 : (-1) ≤ m.1 11 ∧ m.1 11 ≤ 4000 := hT.1 11
  have f27 : 0 ≤ m.1 27 ∧ m.1 27 ≤ 48 := hT.1 27
  have f119 : 0 ≤ m.1 119 ∧ m.1 119 ≤ 8 := hT.1 119
  refine Tc_of rfl ?_
  show TT w D pm_281 (0, [(0, .ref 189), (1, .int (i32 k))], [], (mhp m c, N), 0, 0) (Q_newStep m c N k)
  rw [show (mhp m c, N) = (mhp (mO m [(10, (m.1 10)), (11, (m.1 11)), (27, (m.1 27))] [(60, (m.2 60)), (61, (m.2 61)), (62, (m.2 62)), (63, (m.2 63))]) c, N) from congrArg (fun M => (mhp M c, N)) (mO_pad m [10, 11, 27] [60, 61, 62, 63])]
  have hBK := hC
  refine T_gf 4 (.int (i32 (m.1 27))) rfl rfl rfl rfl rfl rfl ?_
  refine T_ld 6 (.int (i32 48)) rfl (fun _ => rfl) ?_
  refine T_icmp 18 9 rfl rfl rfl (r32 (by omega) (by omega)) ⟨by decide, by decide⟩ (fun (h2 : (m.1 27) ≠ 48) => ?_) (fun (h2 : ¬ ((m.1 27) ≠ 48)) => ?_)
  · skip
    refine T_gf 22 (.int (i32 (m.1 10))) rfl rfl rfl rfl rfl rfl ?_
    refine T_if 27 25 rfl rfl rfl (r32 (by omega) (by omega)) (fun (h3 : (m.1 10) ≤ 0) => ?_) (fun (h3 : ¬ ((m.1 10) ≤ 0)) => by exfalso; omega)
    refine T_gf 31 (.ref 230) rfl rfl rfl rfl rfl rfl ?_
    refine T_gf 35 (.int (i32 (m.1 27))) rfl rfl rfl rfl rfl rfl ?_
    refine T_ld 36 (.int (i32 k)) rfl (fun _ => rfl) ?_
    have G4 : ∀ j, 0 ≤ (upI (m.2 60) (m.1 27) k) j ∧ (upI (m.2 60) (m.1 27) k) j ≤ 2 := upI_rg (hT.2.1 60) ⟨by omega, by omega⟩
    refine T_iast (a' := [(60, upI (m.2 60) (m.1 27) k), (61, (m.2 61)), (62, (m.2 62)), (63, (m.2 63))]) 37 60 (m.2 60) rfl rfl rfl (by omega) (show (m.1 27) < (48 : Int) by omega) rfl rfl ?_
    refine T_gf 41 (.ref 231) rfl rfl rfl rfl rfl rfl ?_
    refine T_gf 45 (.int (i32 (m.1 27))) rfl rfl rfl rfl rfl rfl ?_
    refine T_gf 49 (.ref 277) rfl rfl rfl rfl rfl rfl ?_
    refine T_gf 53 (.int (i32 (m.1 119))) rfl rfl rfl rfl rfl rfl ?_
    refine T_ld 54 (.int (i32 1)) rfl (fun _ => rfl) ?_
    refine T_isub 55 rfl rfl ?_
    refine T_iald 56 117 (m.2 117) rfl rfl rfl (by omega) (show ((m.1 119) - 1) < (8 : Int) by omega) rfl ?_
    have e5 : (-1) ≤ m.2 117 ((m.1 119) - 1) ∧ m.2 117 ((m.1 119) - 1) ≤ 47 := hT.2.1 117 ((m.1 119) - 1)
    have G6 : ∀ j, (-1) ≤ (upI (m.2 61) (m.1 27) ((m.2 117) ((m.1 119) - 1))) j ∧ (upI (m.2 61) (m.1 27) ((m.2 117) ((m.1 119) - 1))) j ≤ 47 := upI_rg (hT.2.1 61) ⟨by omega, by omega⟩
    refine T_iast (a' := [(60, upI (m.2 60) (m.1 27) k), (61, upI (m.2 61) (m.1 27) ((m.2 117) ((m.1 119) - 1))), (62, (m.2 62)), (63, (m.2 63))]) 57 61 (m.2 61) rfl rfl rfl (by omega) (show (m.1 27) < (48 : Int) by omega) rfl rfl ?_
    refine T_gf 61 (.ref 232) rfl rfl rfl rfl rfl rfl ?_
    refine T_gf 65 (.int (i32 (m.1 27))) rfl rfl rfl rfl rfl rfl ?_
    refine T_gf 69 (.ref 278) rfl rfl rfl rfl rfl rfl ?_
    refine T_gf 73 (.int (i32 (m.1 119))) rfl rfl rfl rfl rfl rfl ?_
    refine T_ld 74 (.int (i32 1)) rfl (fun _ => rfl) ?_
    refine T_isub 75 rfl rfl ?_
    refine T_iald 76 118 (m.2 118) rfl rfl rfl (by omega) (show ((m.1 119) - 1) < (8 : Int) by omega) rfl ?_
    have e7 : (-1) ≤ m.2 118 ((m.1 119) - 1) ∧ m.2 118 ((m.1 119) - 1) ≤ 1 := hT.2.1 118 ((m.1 119) - 1)
    have G8 : ∀ j, (-1) ≤ (upI (m.2 62) (m.1 27) ((m.2 118) ((m.1 119) - 1))) j ∧ (upI (m.2 62) (m.1 27) ((m.2 118) ((m.1 119) - 1))) j ≤ 1 := upI_rg (hT.2.1 62) ⟨by omega, by omega⟩
    refine T_iast (a' := [(60, upI (m.2 60) (m.1 27) k), (61, upI (m.2 61) (m.1 27) ((m.2 117) ((m.1 119) - 1))), (62, upI (m.2 62) (m.1 27) ((m.2 118) ((m.1 119) - 1))), (63, (m.2 63))]) 77 62 (m.2 62) rfl rfl rfl (by omega) (show (m.1 27) < (48 : Int) by omega) rfl rfl ?_
    refine T_gf 81 (.ref 233) rfl rfl rfl rfl rfl rfl ?_
    refine T_gf 85 (.int (i32 (m.1 27))) rfl rfl rfl rfl rfl rfl ?_
    refine T_ld 86 (.int (i32 (-1))) rfl (fun _ => rfl) ?_
    have G9 : ∀ j, (-1) ≤ (upI (m.2 63) (m.1 27) (-1)) j ∧ (upI (m.2 63) (m.1 27) (-1)) j ≤ 7 := upI_rg (hT.2.1 63) ⟨by omega, by omega⟩
    refine T_iast (a' := [(60, upI (m.2 60) (m.1 27) k), (61, upI (m.2 61) (m.1 27) ((m.2 117) ((m.1 119) - 1))), (62, upI (m.2 62) (m.1 27) ((m.2 118) ((m.1 119) - 1))), (63, upI (m.2 63) (m.1 27) (-1))]) 87 63 (m.2 63) rfl rfl rfl (by omega) (show (m.1 27) < (48 : Int) by omega) rfl rfl ?_
    refine T_ld 88 (.ref 189) rfl (fun _ => rfl) ?_
    refine T_ld 89 (.ref 189) rfl (fun _ => rfl) ?_
    refine T_gf1 92 (.int (i32 (m.1 27))) rfl rfl rfl rfl ?_
    refine T_ld 93 (.int (i32 1)) rfl (fun _ => rfl) ?_
    refine T_iadd 94 rfl rfl ?_
    refine T_pf (l' := [(10, (m.1 10)), (11, (m.1 11)), (27, (m.1 27) + 1)]) 97 ((m.1 27) + 1) rfl rfl rfl rfl rfl rfl ?_
    have g10 : 0 ≤ (m.1 27) + 1 ∧ (m.1 27) + 1 ≤ 48 := ⟨by omega, by omega⟩
    refine T_gf 101 (.int (i32 ((m.1 27) + 1))) rfl rfl rfl rfl rfl rfl ?_
    refine T_ld 102 (.int (i32 1)) rfl (fun _ => rfl) ?_
    refine T_isub 103 rfl rfl ?_
    refine T_ret rfl (fun _ => rfl) ?_
    exact ⟨(mO m [(10, (m.1 10)), (11, (m.1 11)), (27, (m.1 27) + 1)] [(60, upI (m.2 60) (m.1 27) k), (61, upI (m.2 61) (m.1 27) ((m.2 117) ((m.1 119) - 1))), (62, upI (m.2 62) (m.1 27) ((m.2 118) ((m.1 119) - 1))), (63, upI (m.2 63) (m.1 27) (-1))]), ((m.1 27) + 1) - 1, (Ty_mO hT rfl rfl ⟨f10, f11, g10, trivial⟩ ⟨G4, G6, G8, G9, trivial⟩), ⟨by omega, by omega⟩, (show (m.1 10) = 0 → (m.1 10) = 0 by omega), (fun _ => ⟨(show (((m.1 27) + 1) - 1) = (m.1 27) by omega), (show ((m.1 27) + 1) = (m.1 27) + 1 by omega), (show (upI (m.2 60) (m.1 27) k) = upI (m.2 60) (m.1 27) k by rfl), (show (upI (m.2 61) (m.1 27) ((m.2 117) ((m.1 119) - 1))) = upI (m.2 61) (m.1 27) ((m.2 117) ((m.1 119) - 1)) by rfl), (show (upI (m.2 63) (m.1 27) (-1)) = upI (m.2 63) (m.1 27) (-1) by rfl)⟩), rfl⟩
  · skip
    refine T_ld 10 (.ref 189) rfl (fun _ => rfl) ?_
    refine T_ld 11 (.int (i32 4)) rfl (fun _ => rfl) ?_
    have f8 : 0 ≤ m.1 8 ∧ m.1 8 ≤ 4000 := hT.1 8
    refine T_gf 15 (.int (i32 (m.1 8))) rfl rfl rfl rfl rfl rfl ?_
    refine T_call 18 222 [.ref 189, .int (i32 4), .int (i32 (m.1 8))] [] rfl (fun _ => rfl) rfl (c_wrong w (mO m [(10, (m.1 10)), (11, (m.1 11)), (27, (m.1 27))] [(60, (m.2 60)), (61, (m.2 61)), (62, (m.2 62)), (63, (m.2 63))]) c N D (by omega) (Ty_mO hT rfl rfl ⟨f10, f11, f27, trivial⟩ ⟨(hT.2.1 60), (hT.2.1 61), (hT.2.1 62), (hT.2.1 63), trivial⟩) 4 (m.1 8) ⟨by decide, by decide⟩ (r32 (by omega) (by omega)) (show 1 ≤ (4 : Int) ∧ (4 : Int) ≤ 8 by omega) (show 0 ≤ (m.1 8) ∧ (m.1 8) ≤ 4000 by omega)) (fun rr11 k12 => ?_)
    obtain ⟨y13, y15, g14, g16, h17, rfl⟩ := k12
    refine ⟨_, _, rfl, ?_⟩
    refine T_nf2 (st' := []) (l' := [(10, y13), (11, y15), (27, (m.1 27))]) (a' := [(60, (m.2 60)), (61, (m.2 61)), (62, (m.2 62)), (63, (m.2 63))]) [10, 11] [] rfl ⟨rfl, rfl, rfl, rfl, rfl, rfl, trivial⟩ ⟨rfl, rfl, rfl, rfl, rfl, rfl, rfl, rfl, trivial⟩ rfl rfl (by decide) (by decide) ?_
    replace h17 : (0 < (m.1 10) → y13 = (m.1 10) ∧ y15 = (m.1 11)) ∧ ((m.1 10) ≤ 0 → y13 = (4 : Int) ∧ y15 = (m.1 8)) := h17
    have hf18 : 1 ≤ y13 := by omega
    refine T_gf 22 (.int (i32 y13)) rfl rfl rfl rfl rfl rfl ?_
    refine T_if 27 25 rfl rfl rfl (r32 (by omega) (by omega)) (fun (h19 : y13 ≤ 0) => by exfalso; omega) (fun (h19 : ¬ (y13 ≤ 0)) => ?_)
    refine T_ld 26 (.int (i32 0)) rfl (fun _ => rfl) ?_
    refine T_ret rfl (fun _ => rfl) ?_
    exact ⟨(mO m [(10, y13), (11, y15), (27, (m.1 27))] [(60, (m.2 60)), (61, (m.2 61)), (62, (m.2 62)), (63, (m.2 63))]), 0, (Ty_mO hT rfl rfl ⟨g14, g16, f27, trivial⟩ ⟨(hT.2.1 60), (hT.2.1 61), (hT.2.1 62), (hT.2.1 63), trivial⟩), ⟨by omega, by omega⟩, (show y13 = 0 → (m.1 10) = 0 by omega), (fun (h : y13 = 0) => absurd h (by omega)), rfl⟩
def Q_closeBlock (m : mR) (c : Nat → Option am_C) (N : Nat) : ag_Re af_T → Prop := fun R => ∃ (M : mR), Ty M ∧ ((M.1 10) = 0 → (m.1 10) = 0) ∧ (LxP (M.1 7) (M.1 8) (M.1 9) (m.1 6) (M.1 10)) ∧ (M.1 10 = 0 → ((m.1 8) + 1 ≤ (M.1 8)) ∧ (∀ j, 0 ≤ j → j < (M.1 119) → (M.2 117) j < (m.1 27))) ∧ R = (.inl (none), (mhp (mO m [(7, (M.1 7)), (8, (M.1 8)), (9, (M.1 9)), (10, (M.1 10)), (11, (M.1 11)), (12, (M.1 12)), (119, (M.1 119))] [(117, (M.2 117)), (118, (M.2 118))]) c, N), 0, 0)
set_option maxHeartbeats 8000000 in
theorem c_closeBlock (w : wX) (m : mR) (c : Nat → Option am_C) (N D : Nat) (hD : 8 ≤ D) (hT : Ty m) (hLx0 : LxP (m.1 7) (m.1 8) (m.1 9) (m.1 6) (m.1 10)) (p1 : 1 ≤ (m.1 119)) (hf0 : m.1 10 = 0) (hC : (∀ j, 0 ≤ j → j < (m.1 119) → (m.2 117) j < (m.1 27))) : TC w D 282 [.ref 189] (mhp m c, N) (Q_closeBlock m c N) := by
  obtain ⟨D, rfl⟩ : ∃ k, D = k + 1 := ⟨D - 1, by omega⟩
  have hLx := hLx0
  have f7 : 0 ≤ m.1 7 ∧ m.1 7 ≤ 330 := hT.1 7
  have f8 : 0 ≤ m.1 8 ∧ m.1 8 ≤ 4000 := hT.1 8
  have f9 : 0 ≤ m.1 9 ∧ m.1 9 ≤ 4000 := hT.1 9
  have f10 : 0 ≤ m.1 10 ∧ m.1 10 ≤ 8 := hT.1 10
  have f11 : (-1) ≤ m.1 11 ∧ m.1 11 ≤ 4000 := hT.1 11
  have f12 : (-9223372036854775808) ≤ m.1 12 ∧ m.1 12 ≤ 9223372036854775807 := hT.1 12
  have f119 : 0 ≤ m.1 119 ∧ m.1 119 ≤ 8 := hT.1 119
  have f6 : 0 ≤ m.1 6 ∧ m.1 6 ≤ 4000 := hT.1 6
  have f27 : 0 ≤ m.1 27 ∧ m.1 27 ≤ 48 := hT.1 27
  refine Tc_of rfl ?_
  show TT w D pm_282 (0, [(0, .ref 189)], [], (mhp m c, N), 0, 0) (Q_closeBlock m c N)
  rw [show (mhp m c, N) = (mhp (mO m [(7, (m.1 7)), (8, (m.1 8)), (9, (m.1 9)), (10, (m.1 10)), (11, (m.1 11)), (12, (m.1 12)), (119, (m.1 119))] [(117, (m.2 117)), (118, (m.2 118))]) c, N) from congrArg (fun M => (mhp M c, N)) (mO_pad m [7, 8, 9, 10, 11, 12, 119] [117, 118])]
  have hBK := hC
  have h7 := hLx (by omega)
  refine T_ld 1 (.ref 189) rfl (fun _ => rfl) ?_
  refine T_ld 3 (.int (i32 125)) rfl (fun _ => rfl) ?_
  refine T_call 6 232 [.ref 189, .int (i32 125)] [] rfl (fun _ => rfl) rfl (c_need w (mO m [(7, (m.1 7)), (8, (m.1 8)), (9, (m.1 9)), (10, (m.1 10)), (11, (m.1 11)), (12, (m.1 12)), (119, (m.1 119))] [(117, (m.2 117)), (118, (m.2 118))]) c N D (by omega) (Ty_mO hT rfl rfl ⟨f7, f8, f9, f10, f11, f12, f119, trivial⟩ ⟨(hT.2.1 117), (hT.2.1 118), trivial⟩) 125 ⟨by decide, by decide⟩ (show 1 ≤ (125 : Int) by omega) (show LxP (m.1 7) (m.1 8) (m.1 9) (m.1 6) (m.1 10) by first | exact hLx | (intro h9; exfalso; omega) | (intro h9; have h8 := hLx (by omega); omega))) (fun rr1 k2 => ?_)
  obtain ⟨y3, y5, y7, y9, y11, y13, g4, g6, g8, g10, g12, g14, h15, h16, h17, h18, rfl⟩ := k2
  refine ⟨_, _, rfl, ?_⟩
  refine T_nf2 (st' := []) (l' := [(7, y3), (8, y5), (9, y7), (10, y9), (11, y11), (12, y13), (119, (m.1 119))]) (a' := [(117, (m.2 117)), (118, (m.2 118))]) [7, 8, 9, 10, 11, 12] [] rfl ⟨rfl, rfl, rfl, rfl, rfl, rfl, rfl, rfl, rfl, rfl, rfl, rfl, rfl, rfl, trivial⟩ ⟨rfl, rfl, rfl, rfl, trivial⟩ rfl rfl (by decide) (by decide) ?_
  by_cases hf19 : y9 = 0
  · skip
    subst hf19
    replace h15 : LxP y3 y5 y7 (m.1 6) (0 : Int) := h15
    have hLx := h15
    replace h16 : (m.1 10) = 0 ∧ (m.1 7) = (125 : Int) := h16 rfl
    replace h17 : (m.1 8) ≤ y5 := h17
    replace h18 : (m.1 8) + (m.1 9) ≤ y5 := h18 rfl
    have u20 : (m.1 8) + 1 ≤ y5 := by omega
    clear g10
    refine T_gf 10 (.int (i32 0)) rfl rfl rfl rfl rfl rfl ?_
    refine T_if 14 13 rfl rfl rfl ⟨by decide, by decide⟩ (fun _ => ?_) (fun h21 => absurd (show (0 : Int) ≤ 0 by decide) h21)
    refine T_ld 15 (.ref 189) rfl (fun _ => rfl) ?_
    refine T_ld 16 (.ref 189) rfl (fun _ => rfl) ?_
    refine T_gf1 19 (.int (i32 (m.1 119))) rfl rfl rfl rfl ?_
    refine T_ld 20 (.int (i32 1)) rfl (fun _ => rfl) ?_
    refine T_isub 21 rfl rfl ?_
    refine T_pf (l' := [(7, y3), (8, y5), (9, y7), (10, 0), (11, y11), (12, y13), (119, (m.1 119) - 1)]) 24 ((m.1 119) - 1) rfl rfl rfl rfl rfl rfl ?_
    have g22 : 0 ≤ (m.1 119) - 1 ∧ (m.1 119) - 1 ≤ 8 := ⟨by omega, by omega⟩
    refine T_gf 28 (.int (i32 ((m.1 119) - 1))) rfl rfl rfl rfl rfl rfl ?_
    refine T_if 54 31 rfl rfl rfl (r32 (by omega) (by omega)) (fun (h23 : (m.1 119) - 1 = 0) => ?_) (fun (h23 : ¬ ((m.1 119) - 1 = 0)) => ?_)
    · skip
      refine T_ret rfl (fun _ => rfl) ?_
      exact ⟨(mO m [(7, y3), (8, y5), (9, y7), (10, 0), (11, y11), (12, y13), (119, (m.1 119) - 1)] [(117, (m.2 117)), (118, (m.2 118))]), (Ty_mO hT rfl rfl ⟨g4, g6, g8, ⟨(by omega : (0 : Int) ≤ 0), (by omega : (0 : Int) ≤ 8)⟩, g12, g14, g22, trivial⟩ ⟨(hT.2.1 117), (hT.2.1 118), trivial⟩), (show (0 : Int) = 0 → (m.1 10) = 0 by omega), (show LxP y3 y5 y7 (m.1 6) (0 : Int) by first | (first | exact hLx | exact (fun _ => hLx (by omega)) | (intro h9; exfalso; omega)) | (exfalso; omega)), (fun _ => ⟨(show (m.1 8) + 1 ≤ y5 by omega), (show ∀ j, 0 ≤ j → j < ((m.1 119) - 1) → (m.2 117) j < (m.1 27) by first | (first | exact hBK | exact fun j j0 j1 => hBK j j0 (by omega)) | (exfalso; omega))⟩), rfl⟩
    · skip
      refine T_gf 35 (.ref 278) rfl rfl rfl rfl rfl rfl ?_
      refine T_gf 39 (.int (i32 ((m.1 119) - 1))) rfl rfl rfl rfl rfl rfl ?_
      refine T_iald 40 118 (m.2 118) rfl rfl rfl (by omega) (show ((m.1 119) - 1) < (8 : Int) by omega) rfl ?_
      have e24 : (-1) ≤ (m.2 118) ((m.1 119) - 1) ∧ (m.2 118) ((m.1 119) - 1) ≤ 1 := (hT.2.1 118) ((m.1 119) - 1)
      refine T_ld 41 (.int (i32 1)) rfl (fun _ => rfl) ?_
      refine T_icmp 54 44 rfl rfl rfl (r32 (by omega) (by omega)) ⟨by decide, by decide⟩ (fun (h25 : (m.2 118) ((m.1 119) - 1) ≠ 1) => ?_) (fun (h25 : ¬ ((m.2 118) ((m.1 119) - 1) ≠ 1)) => ?_)
      · skip
        refine T_ret rfl (fun _ => rfl) ?_
        exact ⟨(mO m [(7, y3), (8, y5), (9, y7), (10, 0), (11, y11), (12, y13), (119, (m.1 119) - 1)] [(117, (m.2 117)), (118, (m.2 118))]), (Ty_mO hT rfl rfl ⟨g4, g6, g8, ⟨(by omega : (0 : Int) ≤ 0), (by omega : (0 : Int) ≤ 8)⟩, g12, g14, g22, trivial⟩ ⟨(hT.2.1 117), (hT.2.1 118), trivial⟩), (show (0 : Int) = 0 → (m.1 10) = 0 by omega), (show LxP y3 y5 y7 (m.1 6) (0 : Int) by first | (first | exact hLx | exact (fun _ => hLx (by omega)) | (intro h9; exfalso; omega)) | (exfalso; omega)), (fun _ => ⟨(show (m.1 8) + 1 ≤ y5 by omega), (show ∀ j, 0 ≤ j → j < ((m.1 119) - 1) → (m.2 117) j < (m.1 27) by first | (first | exact hBK | exact fun j j0 j1 => hBK j j0 (by omega)) | (exfalso; omega))⟩), rfl⟩
      · skip
        refine T_gf 48 (.int (i32 y3)) rfl rfl rfl rfl rfl rfl ?_
        refine T_ld 51 (.int (i32 322)) rfl (fun _ => rfl) ?_
        refine T_icmp 55 54 rfl rfl rfl (r32 (by omega) (by omega)) ⟨by decide, by decide⟩ (fun (h26 : y3 = 322) => ?_) (fun (h26 : ¬ (y3 = 322)) => ?_)
        · skip
          refine T_gf 59 (.ref 277) rfl rfl rfl rfl rfl rfl ?_
          refine T_gf 63 (.int (i32 ((m.1 119) - 1))) rfl rfl rfl rfl rfl rfl ?_
          refine T_iald 64 117 (m.2 117) rfl rfl rfl (by omega) (show ((m.1 119) - 1) < (8 : Int) by omega) rfl ?_
          have e27 : (-1) ≤ (m.2 117) ((m.1 119) - 1) ∧ (m.2 117) ((m.1 119) - 1) ≤ 47 := (hT.2.1 117) ((m.1 119) - 1)
          refine T_sto 65 [(1, .int (i32 ((m.2 117) ((m.1 119) - 1)))), (0, .ref 189)] rfl (fun _ => rfl) ?_
          refine T_ld 66 (.ref 189) rfl (fun _ => rfl) ?_
          have hbi := hBK ((m.1 119) - 1) (by omega) (by omega)
          have hBK1 : ∀ j, 0 ≤ j → j < ((m.1 119) - 1) → (m.2 117) j < (m.1 27) := fun j j0 j1 => hBK j j0 (by omega)
          refine T_call 69 212 [.ref 189] [] rfl (fun _ => rfl) rfl (c_next w (mO m [(7, y3), (8, y5), (9, y7), (10, 0), (11, y11), (12, y13), (119, (m.1 119) - 1)] [(117, (m.2 117)), (118, (m.2 118))]) c N D (by omega) (Ty_mO hT rfl rfl ⟨g4, g6, g8, ⟨(by omega : (0 : Int) ≤ 0), (by omega : (0 : Int) ≤ 8)⟩, g12, g14, g22, trivial⟩ ⟨(hT.2.1 117), (hT.2.1 118), trivial⟩) (show (0 : Int) = 0 → y5 + y7 ≤ (m.1 6) by first | omega | (intro h9; have h8 := hLx h9; omega))) (fun rr28 k29 => ?_)
          obtain ⟨y30, y32, y34, y36, y38, y40, g31, g33, g35, g37, g39, g41, h42, h43, h44, h45, rfl⟩ := k29
          refine ⟨_, _, rfl, ?_⟩
          refine T_nf2 (st' := []) (l' := [(7, y30), (8, y32), (9, y34), (10, y36), (11, y38), (12, y40), (119, (m.1 119) - 1)]) (a' := [(117, (m.2 117)), (118, (m.2 118))]) [7, 8, 9, 10, 11, 12] [] rfl ⟨rfl, rfl, rfl, rfl, rfl, rfl, rfl, rfl, rfl, rfl, rfl, rfl, rfl, rfl, trivial⟩ ⟨rfl, rfl, rfl, rfl, trivial⟩ rfl rfl (by decide) (by decide) ?_
          by_cases hf46 : y36 = 0
          · skip
            subst hf46
            replace h42 : LxP y30 y32 y34 (m.1 6) (0 : Int) := h42
            have hLx := h42
            replace h43 : (0 : Int) = 0 := h43 rfl
            replace h44 : y5 ≤ y32 := h44
            replace h45 : y5 + y7 ≤ y32 := h45 rfl
            have u47 : (m.1 8) + 1 ≤ y32 := by omega
            clear g4 g6 g8 g12 g14 h15 h17 h18 u20 h26 g37 h44 h45
            refine T_ld 70 (.ref 189) rfl (fun _ => rfl) ?_
            refine T_ld 71 (.int (i32 ((m.2 117) ((m.1 119) - 1)))) rfl (fun _ => rfl) ?_
            refine T_ld 72 (.int (i32 0)) rfl (fun _ => rfl) ?_
            refine T_call 75 280 [.ref 189, .int (i32 ((m.2 117) ((m.1 119) - 1))), .int (i32 0)] [] rfl (fun _ => rfl) rfl (c_openBlock w (mO m [(7, y30), (8, y32), (9, y34), (10, 0), (11, y38), (12, y40), (119, (m.1 119) - 1)] [(117, (m.2 117)), (118, (m.2 118))]) c N D (by omega) (Ty_mO hT rfl rfl ⟨g31, g33, g35, ⟨(by omega : (0 : Int) ≤ 0), (by omega : (0 : Int) ≤ 8)⟩, g39, g41, g22, trivial⟩ ⟨(hT.2.1 117), (hT.2.1 118), trivial⟩) ((m.2 117) ((m.1 119) - 1)) 0 (r32 (by omega) (by omega)) ⟨by decide, by decide⟩ (show LxP y30 y32 y34 (m.1 6) (0 : Int) by first | exact hLx | exact (fun _ => hLx (by omega)) | (intro h9; exfalso; omega)) (show (-1) ≤ ((m.2 117) ((m.1 119) - 1)) ∧ ((m.2 117) ((m.1 119) - 1)) ≤ 47 by omega) (show (-1) ≤ (0 : Int) ∧ (0 : Int) ≤ 1 by omega) (fun _ => ⟨(show ∀ j, 0 ≤ j → j < ((m.1 119) - 1) → (m.2 117) j < (m.1 27) by assumption), (show ((m.2 117) ((m.1 119) - 1)) < (m.1 27) by omega)⟩)) (fun rr48 k49 => ?_)
            obtain ⟨m50, hT51, h52, h53, c54, rfl⟩ := k49
            refine ⟨_, _, rfl, ?_⟩
            refine T_nf2 (st' := []) (l' := [(7, (m50.1 7)), (8, (m50.1 8)), (9, (m50.1 9)), (10, (m50.1 10)), (11, (m50.1 11)), (12, (m50.1 12)), (119, (m50.1 119))]) (a' := [(117, (m50.2 117)), (118, (m50.2 118))]) [7, 8, 9, 10, 11, 12, 119] [117, 118] rfl ⟨rfl, rfl, rfl, rfl, rfl, rfl, rfl, rfl, rfl, rfl, rfl, rfl, rfl, rfl, trivial⟩ ⟨rfl, rfl, rfl, rfl, trivial⟩ rfl rfl (by decide) (by decide) ?_
            have g55 : 0 ≤ m50.1 7 ∧ m50.1 7 ≤ 330 := hT51.1 7
            have g56 : 0 ≤ m50.1 8 ∧ m50.1 8 ≤ 4000 := hT51.1 8
            have g57 : 0 ≤ m50.1 9 ∧ m50.1 9 ≤ 4000 := hT51.1 9
            have g58 : 0 ≤ m50.1 10 ∧ m50.1 10 ≤ 8 := hT51.1 10
            have g59 : (-1) ≤ m50.1 11 ∧ m50.1 11 ≤ 4000 := hT51.1 11
            have g60 : (-9223372036854775808) ≤ m50.1 12 ∧ m50.1 12 ≤ 9223372036854775807 := hT51.1 12
            have g61 : 0 ≤ m50.1 119 ∧ m50.1 119 ≤ 8 := hT51.1 119
            by_cases hf62 : (m50.1 10) = 0
            · skip
              replace h52 : (0 : Int) = 0 := h52 hf62
              replace h53 : LxP (m50.1 7) (m50.1 8) (m50.1 9) (m.1 6) (m50.1 10) := h53
              have hLx := h53
              obtain ⟨c63, c64, c65⟩ := c54 hf62
              replace c63 : y32 + 1 ≤ (m50.1 8) := c63
              replace c64 : (m50.1 119) = ((m.1 119) - 1) + 1 := c64
              replace c65 : ∀ j, 0 ≤ j → j < (m50.1 119) → (m50.2 117) j < (m.1 27) := c65
              have hBK := c65
              clear c54
              have u66 : (m.1 8) + 1 ≤ (m50.1 8) := by omega
              clear g31 g33 g35 g39 g41 h42 u47 c63
              refine T_ret rfl (fun _ => rfl) ?_
              exact ⟨(mO m [(7, (m50.1 7)), (8, (m50.1 8)), (9, (m50.1 9)), (10, (m50.1 10)), (11, (m50.1 11)), (12, (m50.1 12)), (119, (m50.1 119))] [(117, (m50.2 117)), (118, (m50.2 118))]), (Ty_mO hT rfl rfl ⟨(hT51.1 7), (hT51.1 8), (hT51.1 9), (hT51.1 10), (hT51.1 11), (hT51.1 12), (hT51.1 119), trivial⟩ ⟨(hT51.2.1 117), (hT51.2.1 118), trivial⟩), (show (m50.1 10) = 0 → (m.1 10) = 0 by omega), (show LxP (m50.1 7) (m50.1 8) (m50.1 9) (m.1 6) (m50.1 10) by first | (first | exact hLx | exact (fun _ => hLx (by omega)) | (intro h9; exfalso; omega)) | (exfalso; omega)), (fun _ => ⟨(show (m.1 8) + 1 ≤ (m50.1 8) by omega), (show ∀ j, 0 ≤ j → j < (m50.1 119) → (m50.2 117) j < (m.1 27) by first | (first | exact hBK | exact fun j j0 j1 => hBK j j0 (by omega)) | (exfalso; omega))⟩), rfl⟩
            · skip
              clear c54
              clear h52
              replace h53 : LxP (m50.1 7) (m50.1 8) (m50.1 9) (m.1 6) (m50.1 10) := h53
              have hLx := h53
              have hf67 : 1 ≤ (m50.1 10) := by omega
              clear g31 g33 g35 g39 g41 h42 u47
              refine T_ret rfl (fun _ => rfl) ?_
              exact ⟨(mO m [(7, (m50.1 7)), (8, (m50.1 8)), (9, (m50.1 9)), (10, (m50.1 10)), (11, (m50.1 11)), (12, (m50.1 12)), (119, (m50.1 119))] [(117, (m50.2 117)), (118, (m50.2 118))]), (Ty_mO hT rfl rfl ⟨(hT51.1 7), (hT51.1 8), (hT51.1 9), (hT51.1 10), (hT51.1 11), (hT51.1 12), (hT51.1 119), trivial⟩ ⟨(hT51.2.1 117), (hT51.2.1 118), trivial⟩), (show (m50.1 10) = 0 → (m.1 10) = 0 by omega), (show LxP (m50.1 7) (m50.1 8) (m50.1 9) (m.1 6) (m50.1 10) by first | (first | exact hLx | exact (fun _ => hLx (by omega)) | (intro h9; exfalso; omega)) | (exfalso; omega)), (fun (h : (m50.1 10) = 0) => absurd h (by omega)), rfl⟩
          · skip
            replace h42 : LxP y30 y32 y34 (m.1 6) y36 := h42
            have hLx := h42
            clear h43
            replace h44 : y5 ≤ y32 := h44
            clear h45
            have hf68 : 1 ≤ y36 := by omega
            clear g4 g6 g8 g12 g14 h15 h17 h18 u20 h26 h44
            refine T_ld 70 (.ref 189) rfl (fun _ => rfl) ?_
            refine T_ld 71 (.int (i32 ((m.2 117) ((m.1 119) - 1)))) rfl (fun _ => rfl) ?_
            refine T_ld 72 (.int (i32 0)) rfl (fun _ => rfl) ?_
            refine T_call 75 280 [.ref 189, .int (i32 ((m.2 117) ((m.1 119) - 1))), .int (i32 0)] [] rfl (fun _ => rfl) rfl (c_openBlock w (mO m [(7, y30), (8, y32), (9, y34), (10, y36), (11, y38), (12, y40), (119, (m.1 119) - 1)] [(117, (m.2 117)), (118, (m.2 118))]) c N D (by omega) (Ty_mO hT rfl rfl ⟨g31, g33, g35, g37, g39, g41, g22, trivial⟩ ⟨(hT.2.1 117), (hT.2.1 118), trivial⟩) ((m.2 117) ((m.1 119) - 1)) 0 (r32 (by omega) (by omega)) ⟨by decide, by decide⟩ (show LxP y30 y32 y34 (m.1 6) y36 by first | exact hLx | exact (fun _ => hLx (by omega)) | (intro h9; exfalso; omega)) (show (-1) ≤ ((m.2 117) ((m.1 119) - 1)) ∧ ((m.2 117) ((m.1 119) - 1)) ≤ 47 by omega) (show (-1) ≤ (0 : Int) ∧ (0 : Int) ≤ 1 by omega) (fun (h : y36 = 0) => absurd h (by omega))) (fun rr69 k70 => ?_)
            obtain ⟨m71, hT72, h73, h74, c75, rfl⟩ := k70
            refine ⟨_, _, rfl, ?_⟩
            refine T_nf2 (st' := []) (l' := [(7, (m71.1 7)), (8, (m71.1 8)), (9, (m71.1 9)), (10, (m71.1 10)), (11, (m71.1 11)), (12, (m71.1 12)), (119, (m71.1 119))]) (a' := [(117, (m71.2 117)), (118, (m71.2 118))]) [7, 8, 9, 10, 11, 12, 119] [117, 118] rfl ⟨rfl, rfl, rfl, rfl, rfl, rfl, rfl, rfl, rfl, rfl, rfl, rfl, rfl, rfl, trivial⟩ ⟨rfl, rfl, rfl, rfl, trivial⟩ rfl rfl (by decide) (by decide) ?_
            have g76 : 0 ≤ m71.1 7 ∧ m71.1 7 ≤ 330 := hT72.1 7
            have g77 : 0 ≤ m71.1 8 ∧ m71.1 8 ≤ 4000 := hT72.1 8
            have g78 : 0 ≤ m71.1 9 ∧ m71.1 9 ≤ 4000 := hT72.1 9
            have g79 : 0 ≤ m71.1 10 ∧ m71.1 10 ≤ 8 := hT72.1 10
            have g80 : (-1) ≤ m71.1 11 ∧ m71.1 11 ≤ 4000 := hT72.1 11
            have g81 : (-9223372036854775808) ≤ m71.1 12 ∧ m71.1 12 ≤ 9223372036854775807 := hT72.1 12
            have g82 : 0 ≤ m71.1 119 ∧ m71.1 119 ≤ 8 := hT72.1 119
            replace h73 : (m71.1 10) = 0 → y36 = 0 := h73
            replace h74 : LxP (m71.1 7) (m71.1 8) (m71.1 9) (m.1 6) (m71.1 10) := h74
            have hf83 : 1 ≤ (m71.1 10) := by omega
            clear c75
            clear h73
            have hLx := h74
            clear g31 g33 g35 g37 g39 g41 h42 hf68
            refine T_ret rfl (fun _ => rfl) ?_
            exact ⟨(mO m [(7, (m71.1 7)), (8, (m71.1 8)), (9, (m71.1 9)), (10, (m71.1 10)), (11, (m71.1 11)), (12, (m71.1 12)), (119, (m71.1 119))] [(117, (m71.2 117)), (118, (m71.2 118))]), (Ty_mO hT rfl rfl ⟨(hT72.1 7), (hT72.1 8), (hT72.1 9), (hT72.1 10), (hT72.1 11), (hT72.1 12), (hT72.1 119), trivial⟩ ⟨(hT72.2.1 117), (hT72.2.1 118), trivial⟩), (show (m71.1 10) = 0 → (m.1 10) = 0 by omega), (show LxP (m71.1 7) (m71.1 8) (m71.1 9) (m.1 6) (m71.1 10) by first | (first | exact hLx | exact (fun _ => hLx (by omega)) | (intro h9; exfalso; omega)) | (exfalso; omega)), (fun (h : (m71.1 10) = 0) => absurd h (by omega)), rfl⟩
        · skip
          refine T_ret rfl (fun _ => rfl) ?_
          exact ⟨(mO m [(7, y3), (8, y5), (9, y7), (10, 0), (11, y11), (12, y13), (119, (m.1 119) - 1)] [(117, (m.2 117)), (118, (m.2 118))]), (Ty_mO hT rfl rfl ⟨g4, g6, g8, ⟨(by omega : (0 : Int) ≤ 0), (by omega : (0 : Int) ≤ 8)⟩, g12, g14, g22, trivial⟩ ⟨(hT.2.1 117), (hT.2.1 118), trivial⟩), (show (0 : Int) = 0 → (m.1 10) = 0 by omega), (show LxP y3 y5 y7 (m.1 6) (0 : Int) by first | (first | exact hLx | exact (fun _ => hLx (by omega)) | (intro h9; exfalso; omega)) | (exfalso; omega)), (fun _ => ⟨(show (m.1 8) + 1 ≤ y5 by omega), (show ∀ j, 0 ≤ j → j < ((m.1 119) - 1) → (m.2 117) j < (m.1 27) by first | (first | exact hBK | exact fun j j0 j1 => hBK j j0 (by omega)) | (exfalso; omega))⟩), rfl⟩
  · skip
    replace h15 : LxP y3 y5 y7 (m.1 6) y9 := h15
    have hLx := h15
    clear h16
    replace h17 : (m.1 8) ≤ y5 := h17
    clear h18
    have hf84 : 1 ≤ y9 := by omega
    refine T_gf 10 (.int (i32 y9)) rfl rfl rfl rfl rfl rfl ?_
    refine T_if 14 13 rfl rfl rfl (r32 (by omega) (by omega)) (fun (h85 : y9 ≤ 0) => by exfalso; omega) (fun (h85 : ¬ (y9 ≤ 0)) => ?_)
    refine T_ret rfl (fun _ => rfl) ?_
    exact ⟨(mO m [(7, y3), (8, y5), (9, y7), (10, y9), (11, y11), (12, y13), (119, (m.1 119))] [(117, (m.2 117)), (118, (m.2 118))]), (Ty_mO hT rfl rfl ⟨g4, g6, g8, g10, g12, g14, f119, trivial⟩ ⟨(hT.2.1 117), (hT.2.1 118), trivial⟩), (show y9 = 0 → (m.1 10) = 0 by omega), (show LxP y3 y5 y7 (m.1 6) y9 by first | (first | exact hLx | exact (fun _ => hLx (by omega)) | (intro h9; exfalso; omega)) | (exfalso; omega)), (fun (h : y9 = 0) => absurd h (by omega)), rfl⟩
def Q_takeControl (m : mR) (c : Nat → Option am_C) (N : Nat) : ag_Re af_T → Prop := fun R => ∃ (M : mR), Ty M ∧ ((M.1 10) = 0 → (m.1 10) = 0) ∧ (LxP (M.1 7) (M.1 8) (M.1 9) (m.1 6) (M.1 10)) ∧ (M.1 10 = 0 → ((m.1 8) + 1 ≤ (M.1 8)) ∧ (CN (M.2 65) (M.2 67) (M.1 28)) ∧ ((m.1 28) ≤ (M.1 28)) ∧ (agr (m.2 65) (M.2 65) (m.1 28)) ∧ (TdP (M.2 65) (M.1 28) (m.1 22) (M.1 99) (M.2 101) (M.2 103) (M.2 105) (M.2 106) (M.2 107) (M.2 108)) ∧ (SpP (M.2 65) (M.1 28) (M.1 99) (m.1 26) (M.1 27) (M.2 60) (M.2 61) (M.2 120) (M.2 121) (M.2 122) (M.2 63))) ∧ R = (.inl (none), (mhp (mO m [(7, (M.1 7)), (8, (M.1 8)), (9, (M.1 9)), (10, (M.1 10)), (11, (M.1 11)), (12, (M.1 12)), (27, (M.1 27)), (28, (M.1 28)), (69, (M.1 69)), (70, (M.1 70)), (71, (M.1 71)), (72, (M.1 72)), (73, (M.1 73)), (74, (M.1 74)), (75, (M.1 75)), (99, (M.1 99)), (100, (M.1 100)), (119, (M.1 119))] [(59, (M.2 59)), (60, (M.2 60)), (61, (M.2 61)), (62, (M.2 62)), (63, (M.2 63)), (65, (M.2 65)), (66, (M.2 66)), (67, (M.2 67)), (68, (M.2 68)), (76, (M.2 76)), (77, (M.2 77)), (78, (M.2 78)), (79, (M.2 79)), (80, (M.2 80)), (81, (M.2 81)), (82, (M.2 82)), (83, (M.2 83)), (84, (M.2 84)), (85, (M.2 85)), (86, (M.2 86)), (87, (M.2 87)), (88, (M.2 88)), (89, (M.2 89)), (90, (M.2 90)), (91, (M.2 91)), (92, (M.2 92)), (101, (M.2 101)), (102, (M.2 102)), (103, (M.2 103)), (104, (M.2 104)), (105, (M.2 105)), (106, (M.2 106)), (107, (M.2 107)), (108, (M.2 108)), (117, (M.2 117)), (118, (M.2 118)), (120, (M.2 120)), (121, (M.2 121)), (122, (M.2 122))]) c, N), 0, 0)
set_option maxHeartbeats 8000000 in
theorem c_takeControl (w : wX) (m : mR) (c : Nat → Option am_C) (N D : Nat) (hD : 14 ≤ D) (hT : Ty m) (hLx0 : LxP (m.1 7) (m.1 8) (m.1 9) (m.1 6) (m.1 10)) (hNM0 : ∀ k, (m.2 14) k + (m.2 15) k ≤ 4000) (hFA0 : ∀ k, (m.2 31) k + (m.2 32) k ≤ 4000) (hPA0 : ∀ k, (m.2 47) k + (m.2 48) k ≤ 4000) (hC : m.1 10 = 0 → (PN (m.1 13) (m.1 19) (m.1 20) (m.1 21) (m.1 22) (m.1 23) (m.1 25) (m.1 26) (m.2 16) (m.2 17)) ∧ (CN (m.2 65) (m.2 67) (m.1 28)) ∧ (TdP (m.2 65) (m.1 28) (m.1 22) (m.1 99) (m.2 101) (m.2 103) (m.2 105) (m.2 106) (m.2 107) (m.2 108)) ∧ ((m.1 27) = 0) ∧ ((m.1 99) ≤ 192)) : TC w D 279 [.ref 189] (mhp m c, N) (Q_takeControl m c N) := by
  obtain ⟨D, rfl⟩ : ∃ k, D = k + 1 := ⟨D - 1, by omega⟩
  have hLx := hLx0
  have hNM := hNM0
  have hFA := hFA0
  have hPA := hPA0
  have f7 : 0 ≤ m.1 7 ∧ m.1 7 ≤ 330 := hT.1 7
  have f8 : 0 ≤ m.1 8 ∧ m.1 8 ≤ 4000 := hT.1 8
  have f9 : 0 ≤ m.1 9 ∧ m.1 9 ≤ 4000 := hT.1 9
  have f10 : 0 ≤ m.1 10 ∧ m.1 10 ≤ 8 := hT.1 10
  have f11 : (-1) ≤ m.1 11 ∧ m.1 11 ≤ 4000 := hT.1 11
  have f12 : (-9223372036854775808) ≤ m.1 12 ∧ m.1 12 ≤ 9223372036854775807 := hT.1 12
  have f27 : 0 ≤ m.1 27 ∧ m.1 27 ≤ 48 := hT.1 27
  have f28 : 0 ≤ m.1 28 ∧ m.1 28 ≤ 800 := hT.1 28
  have f69 : 0 ≤ m.1 69 ∧ m.1 69 ≤ 1024 := hT.1 69
  have f70 : 0 ≤ m.1 70 ∧ m.1 70 ≤ 4000 := hT.1 70
  have f71 : 0 ≤ m.1 71 ∧ m.1 71 ≤ 1 := hT.1 71
  have f72 : (-9223372036854775808) ≤ m.1 72 ∧ m.1 72 ≤ 9223372036854775807 := hT.1 72
  have f73 : 0 ≤ m.1 73 ∧ m.1 73 ≤ 60 := hT.1 73
  have f74 : 0 ≤ m.1 74 ∧ m.1 74 ≤ 24 := hT.1 74
  have f75 : 0 ≤ m.1 75 ∧ m.1 75 ≤ 3 := hT.1 75
  have f99 : 0 ≤ m.1 99 ∧ m.1 99 ≤ 240 := hT.1 99
  have f100 : 0 ≤ m.1 100 ∧ m.1 100 ≤ 64 := hT.1 100
  have f119 : 0 ≤ m.1 119 ∧ m.1 119 ≤ 8 := hT.1 119
  have f25 : 0 ≤ m.1 25 ∧ m.1 25 ≤ 16 := hT.1 25
  have f22 : 0 ≤ m.1 22 ∧ m.1 22 ≤ 8 := hT.1 22
  have f19 : 0 ≤ m.1 19 ∧ m.1 19 ≤ 12 := hT.1 19
  have f20 : 0 ≤ m.1 20 ∧ m.1 20 ≤ 12 := hT.1 20
  have f21 : 0 ≤ m.1 21 ∧ m.1 21 ≤ 16 := hT.1 21
  have f13 : 0 ≤ m.1 13 ∧ m.1 13 ≤ 120 := hT.1 13
  have f6 : 0 ≤ m.1 6 ∧ m.1 6 ≤ 4000 := hT.1 6
  have f23 : 0 ≤ m.1 23 ∧ m.1 23 ≤ 16 := hT.1 23
  have f26 : 0 ≤ m.1 26 ∧ m.1 26 ≤ 8 := hT.1 26
  refine Tc_of rfl ?_
  show TT w D pm_279 (0, [(0, .ref 189)], [], (mhp m c, N), 0, 0) (Q_takeControl m c N)
  rw [show (mhp m c, N) = (mhp (mO m [(7, (m.1 7)), (8, (m.1 8)), (9, (m.1 9)), (10, (m.1 10)), (11, (m.1 11)), (12, (m.1 12)), (27, (m.1 27)), (28, (m.1 28)), (69, (m.1 69)), (70, (m.1 70)), (71, (m.1 71)), (72, (m.1 72)), (73, (m.1 73)), (74, (m.1 74)), (75, (m.1 75)), (99, (m.1 99)), (100, (m.1 100)), (119, (m.1 119))] [(59, (m.2 59)), (60, (m.2 60)), (61, (m.2 61)), (62, (m.2 62)), (63, (m.2 63)), (65, (m.2 65)), (66, (m.2 66)), (67, (m.2 67)), (68, (m.2 68)), (76, (m.2 76)), (77, (m.2 77)), (78, (m.2 78)), (79, (m.2 79)), (80, (m.2 80)), (81, (m.2 81)), (82, (m.2 82)), (83, (m.2 83)), (84, (m.2 84)), (85, (m.2 85)), (86, (m.2 86)), (87, (m.2 87)), (88, (m.2 88)), (89, (m.2 89)), (90, (m.2 90)), (91, (m.2 91)), (92, (m.2 92)), (101, (m.2 101)), (102, (m.2 102)), (103, (m.2 103)), (104, (m.2 104)), (105, (m.2 105)), (106, (m.2 106)), (107, (m.2 107)), (108, (m.2 108)), (117, (m.2 117)), (118, (m.2 118)), (120, (m.2 120)), (121, (m.2 121)), (122, (m.2 122))]) c, N) from congrArg (fun M => (mhp M c, N)) (mO_pad m [7, 8, 9, 10, 11, 12, 27, 28, 69, 70, 71, 72, 73, 74, 75, 99, 100, 119] [59, 60, 61, 62, 63, 65, 66, 67, 68, 76, 77, 78, 79, 80, 81, 82, 83, 84, 85, 86, 87, 88, 89, 90, 91, 92, 101, 102, 103, 104, 105, 106, 107, 108, 117, 118, 120, 121, 122])]
  by_cases hf0 : m.1 10 = 0
  · skip
    obtain ⟨pPN, hCN, pTd, c1, c2⟩ := hC hf0
    have h7 := hLx (by omega)
    have hAgC := agr_r (m.2 65) (m.1 28)
    have hNM := hNM0
    refine T_ld 1 (.ref 189) rfl (fun _ => rfl) ?_
    refine T_ld 4 (.int (i32 319)) rfl (fun _ => rfl) ?_
    refine T_call 7 232 [.ref 189, .int (i32 319)] [] rfl (fun _ => rfl) rfl (c_need w (mO m [(7, (m.1 7)), (8, (m.1 8)), (9, (m.1 9)), (10, (m.1 10)), (11, (m.1 11)), (12, (m.1 12)), (27, (m.1 27)), (28, (m.1 28)), (69, (m.1 69)), (70, (m.1 70)), (71, (m.1 71)), (72, (m.1 72)), (73, (m.1 73)), (74, (m.1 74)), (75, (m.1 75)), (99, (m.1 99)), (100, (m.1 100)), (119, (m.1 119))] [(59, (m.2 59)), (60, (m.2 60)), (61, (m.2 61)), (62, (m.2 62)), (63, (m.2 63)), (65, (m.2 65)), (66, (m.2 66)), (67, (m.2 67)), (68, (m.2 68)), (76, (m.2 76)), (77, (m.2 77)), (78, (m.2 78)), (79, (m.2 79)), (80, (m.2 80)), (81, (m.2 81)), (82, (m.2 82)), (83, (m.2 83)), (84, (m.2 84)), (85, (m.2 85)), (86, (m.2 86)), (87, (m.2 87)), (88, (m.2 88)), (89, (m.2 89)), (90, (m.2 90)), (91, (m.2 91)), (92, (m.2 92)), (101, (m.2 101)), (102, (m.2 102)), (103, (m.2 103)), (104, (m.2 104)), (105, (m.2 105)), (106, (m.2 106)), (107, (m.2 107)), (108, (m.2 108)), (117, (m.2 117)), (118, (m.2 118)), (120, (m.2 120)), (121, (m.2 121)), (122, (m.2 122))]) c N D (by omega) (Ty_mO hT rfl rfl ⟨f7, f8, f9, f10, f11, f12, f27, f28, f69, f70, f71, f72, f73, f74, f75, f99, f100, f119, trivial⟩ ⟨(hT.2.1 59), (hT.2.1 60), (hT.2.1 61), (hT.2.1 62), (hT.2.1 63), (hT.2.1 65), (hT.2.1 66), (hT.2.1 67), (hT.2.1 68), (hT.2.1 76), (hT.2.1 77), (hT.2.1 78), (hT.2.1 79), (hT.2.1 80), (hT.2.1 81), (hT.2.1 82), (hT.2.1 83), (hT.2.1 84), (hT.2.1 85), (hT.2.1 86), (hT.2.1 87), (hT.2.1 88), (hT.2.1 89), (hT.2.1 90), (hT.2.1 91), (hT.2.1 92), (hT.2.1 101), (hT.2.1 102), (hT.2.1 103), (hT.2.1 104), (hT.2.1 105), (hT.2.1 106), (hT.2.1 107), (hT.2.1 108), (hT.2.1 117), (hT.2.1 118), (hT.2.1 120), (hT.2.1 121), (hT.2.1 122), trivial⟩) 319 ⟨by decide, by decide⟩ (show 1 ≤ (319 : Int) by omega) (show LxP (m.1 7) (m.1 8) (m.1 9) (m.1 6) (m.1 10) by first | exact hLx | (intro h9; exfalso; omega) | (intro h9; have h8 := hLx (by omega); omega))) (fun rr3 k4 => ?_)
    obtain ⟨y5, y7, y9, y11, y13, y15, g6, g8, g10, g12, g14, g16, h17, h18, h19, h20, rfl⟩ := k4
    refine ⟨_, _, rfl, ?_⟩
    refine T_nf2 (st' := []) (l' := [(7, y5), (8, y7), (9, y9), (10, y11), (11, y13), (12, y15), (27, (m.1 27)), (28, (m.1 28)), (69, (m.1 69)), (70, (m.1 70)), (71, (m.1 71)), (72, (m.1 72)), (73, (m.1 73)), (74, (m.1 74)), (75, (m.1 75)), (99, (m.1 99)), (100, (m.1 100)), (119, (m.1 119))]) (a' := [(59, (m.2 59)), (60, (m.2 60)), (61, (m.2 61)), (62, (m.2 62)), (63, (m.2 63)), (65, (m.2 65)), (66, (m.2 66)), (67, (m.2 67)), (68, (m.2 68)), (76, (m.2 76)), (77, (m.2 77)), (78, (m.2 78)), (79, (m.2 79)), (80, (m.2 80)), (81, (m.2 81)), (82, (m.2 82)), (83, (m.2 83)), (84, (m.2 84)), (85, (m.2 85)), (86, (m.2 86)), (87, (m.2 87)), (88, (m.2 88)), (89, (m.2 89)), (90, (m.2 90)), (91, (m.2 91)), (92, (m.2 92)), (101, (m.2 101)), (102, (m.2 102)), (103, (m.2 103)), (104, (m.2 104)), (105, (m.2 105)), (106, (m.2 106)), (107, (m.2 107)), (108, (m.2 108)), (117, (m.2 117)), (118, (m.2 118)), (120, (m.2 120)), (121, (m.2 121)), (122, (m.2 122))]) [7, 8, 9, 10, 11, 12] [] rfl ⟨rfl, rfl, rfl, rfl, rfl, rfl, rfl, rfl, rfl, rfl, rfl, rfl, rfl, rfl, rfl, rfl, rfl, rfl, rfl, rfl, rfl, rfl, rfl, rfl, rfl, rfl, rfl, rfl, rfl, rfl, rfl, rfl, rfl, rfl, rfl, rfl, trivial⟩ ⟨rfl, rfl, rfl, rfl, rfl, rfl, rfl, rfl, rfl, rfl, rfl, rfl, rfl, rfl, rfl, rfl, rfl, rfl, rfl, rfl, rfl, rfl, rfl, rfl, rfl, rfl, rfl, rfl, rfl, rfl, rfl, rfl, rfl, rfl, rfl, rfl, rfl, rfl, rfl, rfl, rfl, rfl, rfl, rfl, rfl, rfl, rfl, rfl, rfl, rfl, rfl, rfl, rfl, rfl, rfl, rfl, rfl, rfl, rfl, rfl, rfl, rfl, rfl, rfl, rfl, rfl, rfl, rfl, rfl, rfl, rfl, rfl, rfl, rfl, rfl, rfl, rfl, rfl, trivial⟩ rfl rfl (by decide) (by decide) ?_
    by_cases hf21 : y11 = 0
    · skip
      subst hf21
      replace h17 : LxP y5 y7 y9 (m.1 6) (0 : Int) := h17
      have hLx := h17
      replace h18 : (m.1 10) = 0 ∧ (m.1 7) = (319 : Int) := h18 rfl
      replace h19 : (m.1 8) ≤ y7 := h19
      replace h20 : (m.1 8) + (m.1 9) ≤ y7 := h20 rfl
      have u22 : (m.1 8) + 1 ≤ y7 := by omega
      have hAgC : agr (m.2 65) (m.2 65) (m.1 28) := by first | exact agr_r _ _ | exact hAgC | exact agr_t hAgC hAg (by omega)
      refine T_ld 8 (.ref 189) rfl (fun _ => rfl) ?_
      refine T_ld 9 (.int (i32 0)) rfl (fun _ => rfl) ?_
      refine T_pf (l' := [(7, y5), (8, y7), (9, y9), (10, 0), (11, y13), (12, y15), (27, (m.1 27)), (28, (m.1 28)), (69, (m.1 69)), (70, (m.1 70)), (71, (m.1 71)), (72, (m.1 72)), (73, (m.1 73)), (74, (m.1 74)), (75, (m.1 75)), (99, (m.1 99)), (100, (m.1 100)), (119, 0)]) 12 0 rfl rfl rfl rfl rfl rfl ?_
      have hBK : ∀ j, 0 ≤ j → j < (0 : Int) → (m.2 117) j < (m.1 27) := fun j j0 j1 => by omega
      refine T_ld 13 (.ref 189) rfl (fun _ => rfl) ?_
      refine T_ld 14 (.int (i32 (-1))) rfl (fun _ => rfl) ?_
      refine T_ld 15 (.int (i32 (-1))) rfl (fun _ => rfl) ?_
      refine T_call 18 280 [.ref 189, .int (i32 (-1)), .int (i32 (-1))] [] rfl (fun _ => rfl) rfl (c_openBlock w (mO m [(7, y5), (8, y7), (9, y9), (10, 0), (11, y13), (12, y15), (27, (m.1 27)), (28, (m.1 28)), (69, (m.1 69)), (70, (m.1 70)), (71, (m.1 71)), (72, (m.1 72)), (73, (m.1 73)), (74, (m.1 74)), (75, (m.1 75)), (99, (m.1 99)), (100, (m.1 100)), (119, 0)] [(59, (m.2 59)), (60, (m.2 60)), (61, (m.2 61)), (62, (m.2 62)), (63, (m.2 63)), (65, (m.2 65)), (66, (m.2 66)), (67, (m.2 67)), (68, (m.2 68)), (76, (m.2 76)), (77, (m.2 77)), (78, (m.2 78)), (79, (m.2 79)), (80, (m.2 80)), (81, (m.2 81)), (82, (m.2 82)), (83, (m.2 83)), (84, (m.2 84)), (85, (m.2 85)), (86, (m.2 86)), (87, (m.2 87)), (88, (m.2 88)), (89, (m.2 89)), (90, (m.2 90)), (91, (m.2 91)), (92, (m.2 92)), (101, (m.2 101)), (102, (m.2 102)), (103, (m.2 103)), (104, (m.2 104)), (105, (m.2 105)), (106, (m.2 106)), (107, (m.2 107)), (108, (m.2 108)), (117, (m.2 117)), (118, (m.2 118)), (120, (m.2 120)), (121, (m.2 121)), (122, (m.2 122))]) c N D (by omega) (Ty_mO hT rfl rfl ⟨g6, g8, g10, ⟨(by omega : (0 : Int) ≤ 0), (by omega : (0 : Int) ≤ 8)⟩, g14, g16, f27, f28, f69, f70, f71, f72, f73, f74, f75, f99, f100, ⟨(by omega : (0 : Int) ≤ 0), (by omega : (0 : Int) ≤ 8)⟩, trivial⟩ ⟨(hT.2.1 59), (hT.2.1 60), (hT.2.1 61), (hT.2.1 62), (hT.2.1 63), (hT.2.1 65), (hT.2.1 66), (hT.2.1 67), (hT.2.1 68), (hT.2.1 76), (hT.2.1 77), (hT.2.1 78), (hT.2.1 79), (hT.2.1 80), (hT.2.1 81), (hT.2.1 82), (hT.2.1 83), (hT.2.1 84), (hT.2.1 85), (hT.2.1 86), (hT.2.1 87), (hT.2.1 88), (hT.2.1 89), (hT.2.1 90), (hT.2.1 91), (hT.2.1 92), (hT.2.1 101), (hT.2.1 102), (hT.2.1 103), (hT.2.1 104), (hT.2.1 105), (hT.2.1 106), (hT.2.1 107), (hT.2.1 108), (hT.2.1 117), (hT.2.1 118), (hT.2.1 120), (hT.2.1 121), (hT.2.1 122), trivial⟩) (-1) (-1) ⟨by decide, by decide⟩ ⟨by decide, by decide⟩ (show LxP y5 y7 y9 (m.1 6) (0 : Int) by first | exact hLx | exact (fun _ => hLx (by omega)) | (intro h9; exfalso; omega)) (show (-1) ≤ (-1 : Int) ∧ (-1 : Int) ≤ 47 by omega) (show (-1) ≤ (-1 : Int) ∧ (-1 : Int) ≤ 1 by omega) (fun _ => ⟨(show ∀ j, 0 ≤ j → j < (0 : Int) → (m.2 117) j < (m.1 27) by assumption), (show (-1 : Int) < (m.1 27) by omega)⟩)) (fun rr23 k24 => ?_)
      obtain ⟨m25, hT26, h27, h28, c29, rfl⟩ := k24
      refine ⟨_, _, rfl, ?_⟩
      refine T_nf2 (st' := []) (l' := [(7, (m25.1 7)), (8, (m25.1 8)), (9, (m25.1 9)), (10, (m25.1 10)), (11, (m25.1 11)), (12, (m25.1 12)), (27, (m.1 27)), (28, (m.1 28)), (69, (m.1 69)), (70, (m.1 70)), (71, (m.1 71)), (72, (m.1 72)), (73, (m.1 73)), (74, (m.1 74)), (75, (m.1 75)), (99, (m.1 99)), (100, (m.1 100)), (119, (m25.1 119))]) (a' := [(59, (m.2 59)), (60, (m.2 60)), (61, (m.2 61)), (62, (m.2 62)), (63, (m.2 63)), (65, (m.2 65)), (66, (m.2 66)), (67, (m.2 67)), (68, (m.2 68)), (76, (m.2 76)), (77, (m.2 77)), (78, (m.2 78)), (79, (m.2 79)), (80, (m.2 80)), (81, (m.2 81)), (82, (m.2 82)), (83, (m.2 83)), (84, (m.2 84)), (85, (m.2 85)), (86, (m.2 86)), (87, (m.2 87)), (88, (m.2 88)), (89, (m.2 89)), (90, (m.2 90)), (91, (m.2 91)), (92, (m.2 92)), (101, (m.2 101)), (102, (m.2 102)), (103, (m.2 103)), (104, (m.2 104)), (105, (m.2 105)), (106, (m.2 106)), (107, (m.2 107)), (108, (m.2 108)), (117, (m25.2 117)), (118, (m25.2 118)), (120, (m.2 120)), (121, (m.2 121)), (122, (m.2 122))]) [7, 8, 9, 10, 11, 12, 119] [117, 118] rfl ⟨rfl, rfl, rfl, rfl, rfl, rfl, rfl, rfl, rfl, rfl, rfl, rfl, rfl, rfl, rfl, rfl, rfl, rfl, rfl, rfl, rfl, rfl, rfl, rfl, rfl, rfl, rfl, rfl, rfl, rfl, rfl, rfl, rfl, rfl, rfl, rfl, rfl, rfl, rfl, rfl, rfl, rfl, rfl, rfl, rfl, rfl, rfl, trivial⟩ ⟨rfl, rfl, rfl, rfl, rfl, rfl, rfl, rfl, rfl, rfl, rfl, rfl, rfl, rfl, rfl, rfl, rfl, rfl, rfl, rfl, rfl, rfl, rfl, rfl, rfl, rfl, rfl, rfl, rfl, rfl, rfl, rfl, rfl, rfl, rfl, rfl, rfl, rfl, rfl, rfl, rfl, rfl, rfl, rfl, rfl, rfl, rfl, rfl, rfl, rfl, rfl, rfl, rfl, rfl, rfl, rfl, rfl, rfl, rfl, rfl, rfl, rfl, rfl, rfl, rfl, rfl, rfl, rfl, rfl, rfl, rfl, rfl, rfl, rfl, rfl, rfl, rfl, rfl, rfl, rfl, rfl, rfl, rfl, rfl, rfl, rfl, rfl, rfl, rfl, rfl, rfl, rfl, rfl, rfl, rfl, rfl, rfl, rfl, rfl, rfl, rfl, rfl, rfl, rfl, rfl, rfl, rfl, rfl, rfl, rfl, rfl, rfl, trivial⟩ rfl rfl (by decide) (by decide) ?_
      have g30 : 0 ≤ m25.1 7 ∧ m25.1 7 ≤ 330 := hT26.1 7
      have g31 : 0 ≤ m25.1 8 ∧ m25.1 8 ≤ 4000 := hT26.1 8
      have g32 : 0 ≤ m25.1 9 ∧ m25.1 9 ≤ 4000 := hT26.1 9
      have g33 : 0 ≤ m25.1 10 ∧ m25.1 10 ≤ 8 := hT26.1 10
      have g34 : (-1) ≤ m25.1 11 ∧ m25.1 11 ≤ 4000 := hT26.1 11
      have g35 : (-9223372036854775808) ≤ m25.1 12 ∧ m25.1 12 ≤ 9223372036854775807 := hT26.1 12
      have g36 : 0 ≤ m25.1 119 ∧ m25.1 119 ≤ 8 := hT26.1 119
      by_cases hf37 : (m25.1 10) = 0
      · skip
        replace h27 : (0 : Int) = 0 := h27 hf37
        replace h28 : LxP (m25.1 7) (m25.1 8) (m25.1 9) (m.1 6) (m25.1 10) := h28
        have hLx := h28
        obtain ⟨c38, c39, c40⟩ := c29 hf37
        replace c38 : y7 + 1 ≤ (m25.1 8) := c38
        replace c39 : (m25.1 119) = (0 : Int) + 1 := c39
        replace c40 : ∀ j, 0 ≤ j → j < (m25.1 119) → (m25.2 117) j < (m.1 27) := c40
        have hBK := c40
        clear c29
        have u41 : (m.1 8) + 1 ≤ (m25.1 8) := by omega
        have hAgC : agr (m.2 65) (m.2 65) (m.1 28) := by first | exact agr_r _ _ | exact hAgC | exact agr_t hAgC hAg (by omega)
        have L18_43 : ∀ (n : Nat) (m42 : mR), (Ty m42) → (LxP (m42.1 7) (m42.1 8) (m42.1 9) (m.1 6) (m42.1 10)) → ((m42.1 10) = 0 → ((m.1 8) + 1 ≤ (m42.1 8)) ∧ (∀ j, 0 ≤ j → j < (m42.1 119) → (m42.2 117) j < (m42.1 27)) ∧ (CN (m42.2 65) (m42.2 67) (m42.1 28)) ∧ ((m.1 28) ≤ (m42.1 28)) ∧ (agr (m.2 65) (m42.2 65) (m.1 28)) ∧ (TdP (m42.2 65) (m42.1 28) (m.1 22) (m42.1 99) (m42.2 101) (m42.2 103) (m42.2 105) (m42.2 106) (m42.2 107) (m42.2 108)) ∧ (SpP (m42.2 65) (m42.1 28) (m42.1 99) (m.1 26) (m42.1 27) (m42.2 60) (m42.2 61) (m42.2 120) (m42.2 121) (m42.2 122) (m42.2 63)) ∧ ((m42.1 99) ≤ 192 + (m42.1 27))) → 1000000 * (8 - (m42.1 10)) + (4000 - (m42.1 8)) < (n : Int) → TT w D pm_279 (18, [(0, .ref 189)], [], (mhp (mO m [(7, (m42.1 7)), (8, (m42.1 8)), (9, (m42.1 9)), (10, (m42.1 10)), (11, (m42.1 11)), (12, (m42.1 12)), (27, (m42.1 27)), (28, (m42.1 28)), (69, (m42.1 69)), (70, (m42.1 70)), (71, (m42.1 71)), (72, (m42.1 72)), (73, (m42.1 73)), (74, (m42.1 74)), (75, (m42.1 75)), (99, (m42.1 99)), (100, (m42.1 100)), (119, (m42.1 119))] [(59, (m42.2 59)), (60, (m42.2 60)), (61, (m42.2 61)), (62, (m42.2 62)), (63, (m42.2 63)), (65, (m42.2 65)), (66, (m42.2 66)), (67, (m42.2 67)), (68, (m42.2 68)), (76, (m42.2 76)), (77, (m42.2 77)), (78, (m42.2 78)), (79, (m42.2 79)), (80, (m42.2 80)), (81, (m42.2 81)), (82, (m42.2 82)), (83, (m42.2 83)), (84, (m42.2 84)), (85, (m42.2 85)), (86, (m42.2 86)), (87, (m42.2 87)), (88, (m42.2 88)), (89, (m42.2 89)), (90, (m42.2 90)), (91, (m42.2 91)), (92, (m42.2 92)), (101, (m42.2 101)), (102, (m42.2 102)), (103, (m42.2 103)), (104, (m42.2 104)), (105, (m42.2 105)), (106, (m42.2 106)), (107, (m42.2 107)), (108, (m42.2 108)), (117, (m42.2 117)), (118, (m42.2 118)), (120, (m42.2 120)), (121, (m42.2 121)), (122, (m42.2 122))]) c, N), 0, 0) (Q_takeControl m c N) := by
          intro n
          induction n with
          | zero =>
            intro m42 q44 ic45 c46 hmu
            have q44_7 : 0 ≤ m42.1 7 ∧ m42.1 7 ≤ 330 := q44.1 7
            have q44_8 : 0 ≤ m42.1 8 ∧ m42.1 8 ≤ 4000 := q44.1 8
            have q44_9 : 0 ≤ m42.1 9 ∧ m42.1 9 ≤ 4000 := q44.1 9
            have q44_10 : 0 ≤ m42.1 10 ∧ m42.1 10 ≤ 8 := q44.1 10
            have q44_11 : (-1) ≤ m42.1 11 ∧ m42.1 11 ≤ 4000 := q44.1 11
            have q44_12 : (-9223372036854775808) ≤ m42.1 12 ∧ m42.1 12 ≤ 9223372036854775807 := q44.1 12
            have q44_27 : 0 ≤ m42.1 27 ∧ m42.1 27 ≤ 48 := q44.1 27
            have q44_28 : 0 ≤ m42.1 28 ∧ m42.1 28 ≤ 800 := q44.1 28
            have q44_69 : 0 ≤ m42.1 69 ∧ m42.1 69 ≤ 1024 := q44.1 69
            have q44_70 : 0 ≤ m42.1 70 ∧ m42.1 70 ≤ 4000 := q44.1 70
            have q44_71 : 0 ≤ m42.1 71 ∧ m42.1 71 ≤ 1 := q44.1 71
            have q44_72 : (-9223372036854775808) ≤ m42.1 72 ∧ m42.1 72 ≤ 9223372036854775807 := q44.1 72
            have q44_73 : 0 ≤ m42.1 73 ∧ m42.1 73 ≤ 60 := q44.1 73
            have q44_74 : 0 ≤ m42.1 74 ∧ m42.1 74 ≤ 24 := q44.1 74
            have q44_75 : 0 ≤ m42.1 75 ∧ m42.1 75 ≤ 3 := q44.1 75
            have q44_99 : 0 ≤ m42.1 99 ∧ m42.1 99 ≤ 240 := q44.1 99
            have q44_100 : 0 ≤ m42.1 100 ∧ m42.1 100 ≤ 64 := q44.1 100
            have q44_119 : 0 ≤ m42.1 119 ∧ m42.1 119 ≤ 8 := q44.1 119
            have hLx := ic45
            exfalso
            omega
          | succ n ih =>
            intro m42 q44 ic45 c46 hmu
            have q44_7 : 0 ≤ m42.1 7 ∧ m42.1 7 ≤ 330 := q44.1 7
            have q44_8 : 0 ≤ m42.1 8 ∧ m42.1 8 ≤ 4000 := q44.1 8
            have q44_9 : 0 ≤ m42.1 9 ∧ m42.1 9 ≤ 4000 := q44.1 9
            have q44_10 : 0 ≤ m42.1 10 ∧ m42.1 10 ≤ 8 := q44.1 10
            have q44_11 : (-1) ≤ m42.1 11 ∧ m42.1 11 ≤ 4000 := q44.1 11
            have q44_12 : (-9223372036854775808) ≤ m42.1 12 ∧ m42.1 12 ≤ 9223372036854775807 := q44.1 12
            have q44_27 : 0 ≤ m42.1 27 ∧ m42.1 27 ≤ 48 := q44.1 27
            have q44_28 : 0 ≤ m42.1 28 ∧ m42.1 28 ≤ 800 := q44.1 28
            have q44_69 : 0 ≤ m42.1 69 ∧ m42.1 69 ≤ 1024 := q44.1 69
            have q44_70 : 0 ≤ m42.1 70 ∧ m42.1 70 ≤ 4000 := q44.1 70
            have q44_71 : 0 ≤ m42.1 71 ∧ m42.1 71 ≤ 1 := q44.1 71
            have q44_72 : (-9223372036854775808) ≤ m42.1 72 ∧ m42.1 72 ≤ 9223372036854775807 := q44.1 72
            have q44_73 : 0 ≤ m42.1 73 ∧ m42.1 73 ≤ 60 := q44.1 73
            have q44_74 : 0 ≤ m42.1 74 ∧ m42.1 74 ≤ 24 := q44.1 74
            have q44_75 : 0 ≤ m42.1 75 ∧ m42.1 75 ≤ 3 := q44.1 75
            have q44_99 : 0 ≤ m42.1 99 ∧ m42.1 99 ≤ 240 := q44.1 99
            have q44_100 : 0 ≤ m42.1 100 ∧ m42.1 100 ≤ 64 := q44.1 100
            have q44_119 : 0 ≤ m42.1 119 ∧ m42.1 119 ≤ 8 := q44.1 119
            have hLx := ic45
            have ih47 := ih
            by_cases hf48 : (m42.1 10) = 0
            · skip
              obtain ⟨c49, c50, c51, c52, c53, c54, c55, c56⟩ := c46 hf48
              clear c46
              have hBK := c50
              have hCN := c51
              have hAgC := c53
              have pTd := c54
              have pSp := c55
              refine T_gf 22 (.int (i32 (m42.1 10))) rfl rfl rfl rfl rfl rfl ?_
              refine T_if 249 25 rfl rfl rfl (r32 (by omega) (by omega)) (fun (h57 : (m42.1 10) ≠ 0) => by exfalso; omega) (fun (h57 : ¬ ((m42.1 10) ≠ 0)) => ?_)
              refine T_gf 29 (.int (i32 (m42.1 119))) rfl rfl rfl rfl rfl rfl ?_
              refine T_if 249 32 rfl rfl rfl (r32 (by omega) (by omega)) (fun (h58 : (m42.1 119) ≤ 0) => ?_) (fun (h58 : ¬ ((m42.1 119) ≤ 0)) => ?_)
              · skip
                refine T_ret rfl (fun _ => rfl) ?_
                exact ⟨(mO m [(7, (m42.1 7)), (8, (m42.1 8)), (9, (m42.1 9)), (10, (m42.1 10)), (11, (m42.1 11)), (12, (m42.1 12)), (27, (m42.1 27)), (28, (m42.1 28)), (69, (m42.1 69)), (70, (m42.1 70)), (71, (m42.1 71)), (72, (m42.1 72)), (73, (m42.1 73)), (74, (m42.1 74)), (75, (m42.1 75)), (99, (m42.1 99)), (100, (m42.1 100)), (119, (m42.1 119))] [(59, (m42.2 59)), (60, (m42.2 60)), (61, (m42.2 61)), (62, (m42.2 62)), (63, (m42.2 63)), (65, (m42.2 65)), (66, (m42.2 66)), (67, (m42.2 67)), (68, (m42.2 68)), (76, (m42.2 76)), (77, (m42.2 77)), (78, (m42.2 78)), (79, (m42.2 79)), (80, (m42.2 80)), (81, (m42.2 81)), (82, (m42.2 82)), (83, (m42.2 83)), (84, (m42.2 84)), (85, (m42.2 85)), (86, (m42.2 86)), (87, (m42.2 87)), (88, (m42.2 88)), (89, (m42.2 89)), (90, (m42.2 90)), (91, (m42.2 91)), (92, (m42.2 92)), (101, (m42.2 101)), (102, (m42.2 102)), (103, (m42.2 103)), (104, (m42.2 104)), (105, (m42.2 105)), (106, (m42.2 106)), (107, (m42.2 107)), (108, (m42.2 108)), (117, (m42.2 117)), (118, (m42.2 118)), (120, (m42.2 120)), (121, (m42.2 121)), (122, (m42.2 122))]), (Ty_mO hT rfl rfl ⟨(q44.1 7), (q44.1 8), (q44.1 9), (q44.1 10), (q44.1 11), (q44.1 12), (q44.1 27), (q44.1 28), (q44.1 69), (q44.1 70), (q44.1 71), (q44.1 72), (q44.1 73), (q44.1 74), (q44.1 75), (q44.1 99), (q44.1 100), (q44.1 119), trivial⟩ ⟨(q44.2.1 59), (q44.2.1 60), (q44.2.1 61), (q44.2.1 62), (q44.2.1 63), (q44.2.1 65), (q44.2.1 66), (q44.2.1 67), (q44.2.1 68), (q44.2.1 76), (q44.2.1 77), (q44.2.1 78), (q44.2.1 79), (q44.2.1 80), (q44.2.1 81), (q44.2.1 82), (q44.2.1 83), (q44.2.1 84), (q44.2.1 85), (q44.2.1 86), (q44.2.1 87), (q44.2.1 88), (q44.2.1 89), (q44.2.1 90), (q44.2.1 91), (q44.2.1 92), (q44.2.1 101), (q44.2.1 102), (q44.2.1 103), (q44.2.1 104), (q44.2.1 105), (q44.2.1 106), (q44.2.1 107), (q44.2.1 108), (q44.2.1 117), (q44.2.1 118), (q44.2.1 120), (q44.2.1 121), (q44.2.1 122), trivial⟩), (show (m42.1 10) = 0 → (m.1 10) = 0 by omega), (show LxP (m42.1 7) (m42.1 8) (m42.1 9) (m.1 6) (m42.1 10) by first | (first | exact hLx | exact (fun _ => hLx (by omega)) | (intro h9; exfalso; omega)) | (exfalso; omega)), (fun _ => ⟨(show (m.1 8) + 1 ≤ (m42.1 8) by omega), (show CN (m42.2 65) (m42.2 67) (m42.1 28) by first | (exact hCN) | (exfalso; omega)), (show (m.1 28) ≤ (m42.1 28) by omega), (show agr (m.2 65) (m42.2 65) (m.1 28) by first | (exact hAgC) | (exfalso; omega)), (show TdP (m42.2 65) (m42.1 28) (m.1 22) (m42.1 99) (m42.2 101) (m42.2 103) (m42.2 105) (m42.2 106) (m42.2 107) (m42.2 108) by first | (exact pTd) | (exfalso; omega)), (show SpP (m42.2 65) (m42.1 28) (m42.1 99) (m.1 26) (m42.1 27) (m42.2 60) (m42.2 61) (m42.2 120) (m42.2 121) (m42.2 122) (m42.2 63) by first | (exact pSp) | (exfalso; omega))⟩), rfl⟩
              · skip
                have h7 := hLx (by omega)
                have hBi := hBK ((m42.1 119) - 1) (by omega) (by omega)
                refine T_ld 33 (.ref 189) rfl (fun _ => rfl) ?_
                refine T_call 36 269 [.ref 189] [] rfl (fun _ => rfl) rfl (c_isStatement w (mO m [(7, (m42.1 7)), (8, (m42.1 8)), (9, (m42.1 9)), (10, (m42.1 10)), (11, (m42.1 11)), (12, (m42.1 12)), (27, (m42.1 27)), (28, (m42.1 28)), (69, (m42.1 69)), (70, (m42.1 70)), (71, (m42.1 71)), (72, (m42.1 72)), (73, (m42.1 73)), (74, (m42.1 74)), (75, (m42.1 75)), (99, (m42.1 99)), (100, (m42.1 100)), (119, (m42.1 119))] [(59, (m42.2 59)), (60, (m42.2 60)), (61, (m42.2 61)), (62, (m42.2 62)), (63, (m42.2 63)), (65, (m42.2 65)), (66, (m42.2 66)), (67, (m42.2 67)), (68, (m42.2 68)), (76, (m42.2 76)), (77, (m42.2 77)), (78, (m42.2 78)), (79, (m42.2 79)), (80, (m42.2 80)), (81, (m42.2 81)), (82, (m42.2 82)), (83, (m42.2 83)), (84, (m42.2 84)), (85, (m42.2 85)), (86, (m42.2 86)), (87, (m42.2 87)), (88, (m42.2 88)), (89, (m42.2 89)), (90, (m42.2 90)), (91, (m42.2 91)), (92, (m42.2 92)), (101, (m42.2 101)), (102, (m42.2 102)), (103, (m42.2 103)), (104, (m42.2 104)), (105, (m42.2 105)), (106, (m42.2 106)), (107, (m42.2 107)), (108, (m42.2 108)), (117, (m42.2 117)), (118, (m42.2 118)), (120, (m42.2 120)), (121, (m42.2 121)), (122, (m42.2 122))]) c N D (by omega) (Ty_mO hT rfl rfl ⟨(q44.1 7), (q44.1 8), (q44.1 9), (q44.1 10), (q44.1 11), (q44.1 12), (q44.1 27), (q44.1 28), (q44.1 69), (q44.1 70), (q44.1 71), (q44.1 72), (q44.1 73), (q44.1 74), (q44.1 75), (q44.1 99), (q44.1 100), (q44.1 119), trivial⟩ ⟨(q44.2.1 59), (q44.2.1 60), (q44.2.1 61), (q44.2.1 62), (q44.2.1 63), (q44.2.1 65), (q44.2.1 66), (q44.2.1 67), (q44.2.1 68), (q44.2.1 76), (q44.2.1 77), (q44.2.1 78), (q44.2.1 79), (q44.2.1 80), (q44.2.1 81), (q44.2.1 82), (q44.2.1 83), (q44.2.1 84), (q44.2.1 85), (q44.2.1 86), (q44.2.1 87), (q44.2.1 88), (q44.2.1 89), (q44.2.1 90), (q44.2.1 91), (q44.2.1 92), (q44.2.1 101), (q44.2.1 102), (q44.2.1 103), (q44.2.1 104), (q44.2.1 105), (q44.2.1 106), (q44.2.1 107), (q44.2.1 108), (q44.2.1 117), (q44.2.1 118), (q44.2.1 120), (q44.2.1 121), (q44.2.1 122), trivial⟩) ) (fun rr59 k60 => ?_)
                obtain ⟨x61, g62, h63, rfl⟩ := k60
                refine ⟨_, _, rfl, ?_⟩
                refine T_nf2 (st' := [.int (i32 x61)]) (l' := [(7, (m42.1 7)), (8, (m42.1 8)), (9, (m42.1 9)), (10, (m42.1 10)), (11, (m42.1 11)), (12, (m42.1 12)), (27, (m42.1 27)), (28, (m42.1 28)), (69, (m42.1 69)), (70, (m42.1 70)), (71, (m42.1 71)), (72, (m42.1 72)), (73, (m42.1 73)), (74, (m42.1 74)), (75, (m42.1 75)), (99, (m42.1 99)), (100, (m42.1 100)), (119, (m42.1 119))]) (a' := [(59, (m42.2 59)), (60, (m42.2 60)), (61, (m42.2 61)), (62, (m42.2 62)), (63, (m42.2 63)), (65, (m42.2 65)), (66, (m42.2 66)), (67, (m42.2 67)), (68, (m42.2 68)), (76, (m42.2 76)), (77, (m42.2 77)), (78, (m42.2 78)), (79, (m42.2 79)), (80, (m42.2 80)), (81, (m42.2 81)), (82, (m42.2 82)), (83, (m42.2 83)), (84, (m42.2 84)), (85, (m42.2 85)), (86, (m42.2 86)), (87, (m42.2 87)), (88, (m42.2 88)), (89, (m42.2 89)), (90, (m42.2 90)), (91, (m42.2 91)), (92, (m42.2 92)), (101, (m42.2 101)), (102, (m42.2 102)), (103, (m42.2 103)), (104, (m42.2 104)), (105, (m42.2 105)), (106, (m42.2 106)), (107, (m42.2 107)), (108, (m42.2 108)), (117, (m42.2 117)), (118, (m42.2 118)), (120, (m42.2 120)), (121, (m42.2 121)), (122, (m42.2 122))]) [] [] rfl ⟨rfl, rfl, rfl, rfl, rfl, rfl, rfl, rfl, rfl, rfl, rfl, rfl, rfl, rfl, rfl, rfl, rfl, rfl, rfl, rfl, rfl, rfl, rfl, rfl, rfl, rfl, rfl, rfl, rfl, rfl, rfl, rfl, rfl, rfl, rfl, rfl, trivial⟩ ⟨rfl, rfl, rfl, rfl, rfl, rfl, rfl, rfl, rfl, rfl, rfl, rfl, rfl, rfl, rfl, rfl, rfl, rfl, rfl, rfl, rfl, rfl, rfl, rfl, rfl, rfl, rfl, rfl, rfl, rfl, rfl, rfl, rfl, rfl, rfl, rfl, rfl, rfl, rfl, rfl, rfl, rfl, rfl, rfl, rfl, rfl, rfl, rfl, rfl, rfl, rfl, rfl, rfl, rfl, rfl, rfl, rfl, rfl, rfl, rfl, rfl, rfl, rfl, rfl, rfl, rfl, rfl, rfl, rfl, rfl, rfl, rfl, rfl, rfl, rfl, rfl, rfl, rfl, trivial⟩ rfl rfl (by decide) (by decide) ?_
                obtain ⟨g62a, g62b⟩ := g62
                replace h63 : x61 = 1 → (m42.1 7) ≠ 0 := h63
                have u64 : (m.1 8) + 1 ≤ (m42.1 8) := by omega
                have hAgC : agr (m.2 65) (m42.2 65) (m.1 28) := by first | exact agr_r _ _ | exact hAgC | exact agr_t hAgC hAg (by omega)
                refine T_if 69 39 rfl rfl rfl (r32 (by omega) (by omega)) (fun (h65 : x61 = 0) => ?_) (fun (h65 : ¬ (x61 = 0)) => ?_)
                · skip
                  refine T_gf 73 (.int (i32 (m42.1 7))) rfl rfl rfl rfl rfl rfl ?_
                  refine T_ld 76 (.int (i32 320)) rfl (fun _ => rfl) ?_
                  refine T_icmp 155 79 rfl rfl rfl (r32 (by omega) (by omega)) ⟨by decide, by decide⟩ (fun (h66 : (m42.1 7) ≠ 320) => ?_) (fun (h66 : ¬ ((m42.1 7) ≠ 320)) => ?_)
                  · skip
                    refine T_gf 159 (.int (i32 (m42.1 7))) rfl rfl rfl rfl rfl rfl ?_
                    refine T_ld 162 (.int (i32 321)) rfl (fun _ => rfl) ?_
                    refine T_icmp 242 165 rfl rfl rfl (r32 (by omega) (by omega)) ⟨by decide, by decide⟩ (fun (h67 : (m42.1 7) ≠ 321) => ?_) (fun (h67 : ¬ ((m42.1 7) ≠ 321)) => ?_)
                    · skip
                      refine T_ld 243 (.ref 189) rfl (fun _ => rfl) ?_
                      refine T_call 246 282 [.ref 189] [] rfl (fun _ => rfl) rfl (c_closeBlock w (mO m [(7, (m42.1 7)), (8, (m42.1 8)), (9, (m42.1 9)), (10, (m42.1 10)), (11, (m42.1 11)), (12, (m42.1 12)), (27, (m42.1 27)), (28, (m42.1 28)), (69, (m42.1 69)), (70, (m42.1 70)), (71, (m42.1 71)), (72, (m42.1 72)), (73, (m42.1 73)), (74, (m42.1 74)), (75, (m42.1 75)), (99, (m42.1 99)), (100, (m42.1 100)), (119, (m42.1 119))] [(59, (m42.2 59)), (60, (m42.2 60)), (61, (m42.2 61)), (62, (m42.2 62)), (63, (m42.2 63)), (65, (m42.2 65)), (66, (m42.2 66)), (67, (m42.2 67)), (68, (m42.2 68)), (76, (m42.2 76)), (77, (m42.2 77)), (78, (m42.2 78)), (79, (m42.2 79)), (80, (m42.2 80)), (81, (m42.2 81)), (82, (m42.2 82)), (83, (m42.2 83)), (84, (m42.2 84)), (85, (m42.2 85)), (86, (m42.2 86)), (87, (m42.2 87)), (88, (m42.2 88)), (89, (m42.2 89)), (90, (m42.2 90)), (91, (m42.2 91)), (92, (m42.2 92)), (101, (m42.2 101)), (102, (m42.2 102)), (103, (m42.2 103)), (104, (m42.2 104)), (105, (m42.2 105)), (106, (m42.2 106)), (107, (m42.2 107)), (108, (m42.2 108)), (117, (m42.2 117)), (118, (m42.2 118)), (120, (m42.2 120)), (121, (m42.2 121)), (122, (m42.2 122))]) c N D (by omega) (Ty_mO hT rfl rfl ⟨(q44.1 7), (q44.1 8), (q44.1 9), (q44.1 10), (q44.1 11), (q44.1 12), (q44.1 27), (q44.1 28), (q44.1 69), (q44.1 70), (q44.1 71), (q44.1 72), (q44.1 73), (q44.1 74), (q44.1 75), (q44.1 99), (q44.1 100), (q44.1 119), trivial⟩ ⟨(q44.2.1 59), (q44.2.1 60), (q44.2.1 61), (q44.2.1 62), (q44.2.1 63), (q44.2.1 65), (q44.2.1 66), (q44.2.1 67), (q44.2.1 68), (q44.2.1 76), (q44.2.1 77), (q44.2.1 78), (q44.2.1 79), (q44.2.1 80), (q44.2.1 81), (q44.2.1 82), (q44.2.1 83), (q44.2.1 84), (q44.2.1 85), (q44.2.1 86), (q44.2.1 87), (q44.2.1 88), (q44.2.1 89), (q44.2.1 90), (q44.2.1 91), (q44.2.1 92), (q44.2.1 101), (q44.2.1 102), (q44.2.1 103), (q44.2.1 104), (q44.2.1 105), (q44.2.1 106), (q44.2.1 107), (q44.2.1 108), (q44.2.1 117), (q44.2.1 118), (q44.2.1 120), (q44.2.1 121), (q44.2.1 122), trivial⟩) (show LxP (m42.1 7) (m42.1 8) (m42.1 9) (m.1 6) (m42.1 10) by first | exact hLx | exact (fun _ => hLx (by omega)) | (intro h9; exfalso; omega)) (show 1 ≤ (m42.1 119) by omega) (show (m42.1 10) = 0 by omega) (show ∀ j, 0 ≤ j → j < (m42.1 119) → (m42.2 117) j < (m42.1 27) by assumption)) (fun rr68 k69 => ?_)
                      obtain ⟨m70, hT71, h72, h73, c74, rfl⟩ := k69
                      refine ⟨_, _, rfl, ?_⟩
                      refine T_nf2 (st' := []) (l' := [(7, (m70.1 7)), (8, (m70.1 8)), (9, (m70.1 9)), (10, (m70.1 10)), (11, (m70.1 11)), (12, (m70.1 12)), (27, (m42.1 27)), (28, (m42.1 28)), (69, (m42.1 69)), (70, (m42.1 70)), (71, (m42.1 71)), (72, (m42.1 72)), (73, (m42.1 73)), (74, (m42.1 74)), (75, (m42.1 75)), (99, (m42.1 99)), (100, (m42.1 100)), (119, (m70.1 119))]) (a' := [(59, (m42.2 59)), (60, (m42.2 60)), (61, (m42.2 61)), (62, (m42.2 62)), (63, (m42.2 63)), (65, (m42.2 65)), (66, (m42.2 66)), (67, (m42.2 67)), (68, (m42.2 68)), (76, (m42.2 76)), (77, (m42.2 77)), (78, (m42.2 78)), (79, (m42.2 79)), (80, (m42.2 80)), (81, (m42.2 81)), (82, (m42.2 82)), (83, (m42.2 83)), (84, (m42.2 84)), (85, (m42.2 85)), (86, (m42.2 86)), (87, (m42.2 87)), (88, (m42.2 88)), (89, (m42.2 89)), (90, (m42.2 90)), (91, (m42.2 91)), (92, (m42.2 92)), (101, (m42.2 101)), (102, (m42.2 102)), (103, (m42.2 103)), (104, (m42.2 104)), (105, (m42.2 105)), (106, (m42.2 106)), (107, (m42.2 107)), (108, (m42.2 108)), (117, (m70.2 117)), (118, (m70.2 118)), (120, (m42.2 120)), (121, (m42.2 121)), (122, (m42.2 122))]) [7, 8, 9, 10, 11, 12, 119] [117, 118] rfl ⟨rfl, rfl, rfl, rfl, rfl, rfl, rfl, rfl, rfl, rfl, rfl, rfl, rfl, rfl, rfl, rfl, rfl, rfl, rfl, rfl, rfl, rfl, rfl, rfl, rfl, rfl, rfl, rfl, rfl, rfl, rfl, rfl, rfl, rfl, rfl, rfl, rfl, rfl, rfl, rfl, rfl, rfl, rfl, rfl, rfl, rfl, rfl, trivial⟩ ⟨rfl, rfl, rfl, rfl, rfl, rfl, rfl, rfl, rfl, rfl, rfl, rfl, rfl, rfl, rfl, rfl, rfl, rfl, rfl, rfl, rfl, rfl, rfl, rfl, rfl, rfl, rfl, rfl, rfl, rfl, rfl, rfl, rfl, rfl, rfl, rfl, rfl, rfl, rfl, rfl, rfl, rfl, rfl, rfl, rfl, rfl, rfl, rfl, rfl, rfl, rfl, rfl, rfl, rfl, rfl, rfl, rfl, rfl, rfl, rfl, rfl, rfl, rfl, rfl, rfl, rfl, rfl, rfl, rfl, rfl, rfl, rfl, rfl, rfl, rfl, rfl, rfl, rfl, rfl, rfl, rfl, rfl, rfl, rfl, rfl, rfl, rfl, rfl, rfl, rfl, rfl, rfl, rfl, rfl, rfl, rfl, rfl, rfl, rfl, rfl, rfl, rfl, rfl, rfl, rfl, rfl, rfl, rfl, rfl, rfl, rfl, rfl, trivial⟩ rfl rfl (by decide) (by decide) ?_
                      have g75 : 0 ≤ m70.1 7 ∧ m70.1 7 ≤ 330 := hT71.1 7
                      have g76 : 0 ≤ m70.1 8 ∧ m70.1 8 ≤ 4000 := hT71.1 8
                      have g77 : 0 ≤ m70.1 9 ∧ m70.1 9 ≤ 4000 := hT71.1 9
                      have g78 : 0 ≤ m70.1 10 ∧ m70.1 10 ≤ 8 := hT71.1 10
                      have g79 : (-1) ≤ m70.1 11 ∧ m70.1 11 ≤ 4000 := hT71.1 11
                      have g80 : (-9223372036854775808) ≤ m70.1 12 ∧ m70.1 12 ≤ 9223372036854775807 := hT71.1 12
                      have g81 : 0 ≤ m70.1 119 ∧ m70.1 119 ≤ 8 := hT71.1 119
                      by_cases hf82 : (m70.1 10) = 0
                      · skip
                        replace h72 : (m42.1 10) = 0 := h72 hf82
                        replace h73 : LxP (m70.1 7) (m70.1 8) (m70.1 9) (m.1 6) (m70.1 10) := h73
                        have hLx := h73
                        obtain ⟨c83, c84⟩ := c74 hf82
                        replace c83 : (m42.1 8) + 1 ≤ (m70.1 8) := c83
                        replace c84 : ∀ j, 0 ≤ j → j < (m70.1 119) → (m70.2 117) j < (m42.1 27) := c84
                        have hBK := c84
                        clear c74
                        have u85 : (m.1 8) + 1 ≤ (m70.1 8) := by omega
                        have hAgC : agr (m.2 65) (m42.2 65) (m.1 28) := by first | exact agr_r _ _ | exact hAgC | exact agr_t hAgC hAg (by omega)
                        refine T_goto 18 rfl (fun _ => rfl) ?_
                        exact ih47 (mO m [(7, (m70.1 7)), (8, (m70.1 8)), (9, (m70.1 9)), (10, (m70.1 10)), (11, (m70.1 11)), (12, (m70.1 12)), (27, (m42.1 27)), (28, (m42.1 28)), (69, (m42.1 69)), (70, (m42.1 70)), (71, (m42.1 71)), (72, (m42.1 72)), (73, (m42.1 73)), (74, (m42.1 74)), (75, (m42.1 75)), (99, (m42.1 99)), (100, (m42.1 100)), (119, (m70.1 119))] [(59, (m42.2 59)), (60, (m42.2 60)), (61, (m42.2 61)), (62, (m42.2 62)), (63, (m42.2 63)), (65, (m42.2 65)), (66, (m42.2 66)), (67, (m42.2 67)), (68, (m42.2 68)), (76, (m42.2 76)), (77, (m42.2 77)), (78, (m42.2 78)), (79, (m42.2 79)), (80, (m42.2 80)), (81, (m42.2 81)), (82, (m42.2 82)), (83, (m42.2 83)), (84, (m42.2 84)), (85, (m42.2 85)), (86, (m42.2 86)), (87, (m42.2 87)), (88, (m42.2 88)), (89, (m42.2 89)), (90, (m42.2 90)), (91, (m42.2 91)), (92, (m42.2 92)), (101, (m42.2 101)), (102, (m42.2 102)), (103, (m42.2 103)), (104, (m42.2 104)), (105, (m42.2 105)), (106, (m42.2 106)), (107, (m42.2 107)), (108, (m42.2 108)), (117, (m70.2 117)), (118, (m70.2 118)), (120, (m42.2 120)), (121, (m42.2 121)), (122, (m42.2 122))]) (Ty_mO hT rfl rfl ⟨(hT71.1 7), (hT71.1 8), (hT71.1 9), (hT71.1 10), (hT71.1 11), (hT71.1 12), (q44.1 27), (q44.1 28), (q44.1 69), (q44.1 70), (q44.1 71), (q44.1 72), (q44.1 73), (q44.1 74), (q44.1 75), (q44.1 99), (q44.1 100), (hT71.1 119), trivial⟩ ⟨(q44.2.1 59), (q44.2.1 60), (q44.2.1 61), (q44.2.1 62), (q44.2.1 63), (q44.2.1 65), (q44.2.1 66), (q44.2.1 67), (q44.2.1 68), (q44.2.1 76), (q44.2.1 77), (q44.2.1 78), (q44.2.1 79), (q44.2.1 80), (q44.2.1 81), (q44.2.1 82), (q44.2.1 83), (q44.2.1 84), (q44.2.1 85), (q44.2.1 86), (q44.2.1 87), (q44.2.1 88), (q44.2.1 89), (q44.2.1 90), (q44.2.1 91), (q44.2.1 92), (q44.2.1 101), (q44.2.1 102), (q44.2.1 103), (q44.2.1 104), (q44.2.1 105), (q44.2.1 106), (q44.2.1 107), (q44.2.1 108), (hT71.2.1 117), (hT71.2.1 118), (q44.2.1 120), (q44.2.1 121), (q44.2.1 122), trivial⟩) (show LxP (m70.1 7) (m70.1 8) (m70.1 9) (m.1 6) (m70.1 10) by exact hLx) (fun _ => ⟨(show (m.1 8) + 1 ≤ (m70.1 8) by omega), (show ∀ j, 0 ≤ j → j < (m70.1 119) → (m70.2 117) j < (m42.1 27) by exact hBK), (show CN (m42.2 65) (m42.2 67) (m42.1 28) by exact hCN), (show (m.1 28) ≤ (m42.1 28) by omega), (show agr (m.2 65) (m42.2 65) (m.1 28) by exact hAgC), (show TdP (m42.2 65) (m42.1 28) (m.1 22) (m42.1 99) (m42.2 101) (m42.2 103) (m42.2 105) (m42.2 106) (m42.2 107) (m42.2 108) by exact pTd), (show SpP (m42.2 65) (m42.1 28) (m42.1 99) (m.1 26) (m42.1 27) (m42.2 60) (m42.2 61) (m42.2 120) (m42.2 121) (m42.2 122) (m42.2 63) by first | exact pSp | exact fun s s0 s1 => absurd s1 (by omega)), (show (m42.1 99) ≤ 192 + (m42.1 27) by omega)⟩) (show 1000000 * (8 - (m70.1 10)) + (4000 - (m70.1 8)) < (n : Int) by omega)
                      · skip
                        clear c74
                        clear h72
                        replace h73 : LxP (m70.1 7) (m70.1 8) (m70.1 9) (m.1 6) (m70.1 10) := h73
                        have hLx := h73
                        have hf86 : 1 ≤ (m70.1 10) := by omega
                        refine T_goto 18 rfl (fun _ => rfl) ?_
                        exact ih47 (mO m [(7, (m70.1 7)), (8, (m70.1 8)), (9, (m70.1 9)), (10, (m70.1 10)), (11, (m70.1 11)), (12, (m70.1 12)), (27, (m42.1 27)), (28, (m42.1 28)), (69, (m42.1 69)), (70, (m42.1 70)), (71, (m42.1 71)), (72, (m42.1 72)), (73, (m42.1 73)), (74, (m42.1 74)), (75, (m42.1 75)), (99, (m42.1 99)), (100, (m42.1 100)), (119, (m70.1 119))] [(59, (m42.2 59)), (60, (m42.2 60)), (61, (m42.2 61)), (62, (m42.2 62)), (63, (m42.2 63)), (65, (m42.2 65)), (66, (m42.2 66)), (67, (m42.2 67)), (68, (m42.2 68)), (76, (m42.2 76)), (77, (m42.2 77)), (78, (m42.2 78)), (79, (m42.2 79)), (80, (m42.2 80)), (81, (m42.2 81)), (82, (m42.2 82)), (83, (m42.2 83)), (84, (m42.2 84)), (85, (m42.2 85)), (86, (m42.2 86)), (87, (m42.2 87)), (88, (m42.2 88)), (89, (m42.2 89)), (90, (m42.2 90)), (91, (m42.2 91)), (92, (m42.2 92)), (101, (m42.2 101)), (102, (m42.2 102)), (103, (m42.2 103)), (104, (m42.2 104)), (105, (m42.2 105)), (106, (m42.2 106)), (107, (m42.2 107)), (108, (m42.2 108)), (117, (m70.2 117)), (118, (m70.2 118)), (120, (m42.2 120)), (121, (m42.2 121)), (122, (m42.2 122))]) (Ty_mO hT rfl rfl ⟨(hT71.1 7), (hT71.1 8), (hT71.1 9), (hT71.1 10), (hT71.1 11), (hT71.1 12), (q44.1 27), (q44.1 28), (q44.1 69), (q44.1 70), (q44.1 71), (q44.1 72), (q44.1 73), (q44.1 74), (q44.1 75), (q44.1 99), (q44.1 100), (hT71.1 119), trivial⟩ ⟨(q44.2.1 59), (q44.2.1 60), (q44.2.1 61), (q44.2.1 62), (q44.2.1 63), (q44.2.1 65), (q44.2.1 66), (q44.2.1 67), (q44.2.1 68), (q44.2.1 76), (q44.2.1 77), (q44.2.1 78), (q44.2.1 79), (q44.2.1 80), (q44.2.1 81), (q44.2.1 82), (q44.2.1 83), (q44.2.1 84), (q44.2.1 85), (q44.2.1 86), (q44.2.1 87), (q44.2.1 88), (q44.2.1 89), (q44.2.1 90), (q44.2.1 91), (q44.2.1 92), (q44.2.1 101), (q44.2.1 102), (q44.2.1 103), (q44.2.1 104), (q44.2.1 105), (q44.2.1 106), (q44.2.1 107), (q44.2.1 108), (hT71.2.1 117), (hT71.2.1 118), (q44.2.1 120), (q44.2.1 121), (q44.2.1 122), trivial⟩) (show LxP (m70.1 7) (m70.1 8) (m70.1 9) (m.1 6) (m70.1 10) by exact hLx) (fun (h : (m70.1 10) = 0) => absurd h (by omega)) (show 1000000 * (8 - (m70.1 10)) + (4000 - (m70.1 8)) < (n : Int) by omega)
                    · skip
                      refine T_ld 166 (.ref 189) rfl (fun _ => rfl) ?_
                      refine T_ld 167 (.int (i32 1)) rfl (fun _ => rfl) ?_
                      refine T_call 170 281 [.ref 189, .int (i32 1)] [] rfl (fun _ => rfl) rfl (c_newStep w (mO m [(7, (m42.1 7)), (8, (m42.1 8)), (9, (m42.1 9)), (10, (m42.1 10)), (11, (m42.1 11)), (12, (m42.1 12)), (27, (m42.1 27)), (28, (m42.1 28)), (69, (m42.1 69)), (70, (m42.1 70)), (71, (m42.1 71)), (72, (m42.1 72)), (73, (m42.1 73)), (74, (m42.1 74)), (75, (m42.1 75)), (99, (m42.1 99)), (100, (m42.1 100)), (119, (m42.1 119))] [(59, (m42.2 59)), (60, (m42.2 60)), (61, (m42.2 61)), (62, (m42.2 62)), (63, (m42.2 63)), (65, (m42.2 65)), (66, (m42.2 66)), (67, (m42.2 67)), (68, (m42.2 68)), (76, (m42.2 76)), (77, (m42.2 77)), (78, (m42.2 78)), (79, (m42.2 79)), (80, (m42.2 80)), (81, (m42.2 81)), (82, (m42.2 82)), (83, (m42.2 83)), (84, (m42.2 84)), (85, (m42.2 85)), (86, (m42.2 86)), (87, (m42.2 87)), (88, (m42.2 88)), (89, (m42.2 89)), (90, (m42.2 90)), (91, (m42.2 91)), (92, (m42.2 92)), (101, (m42.2 101)), (102, (m42.2 102)), (103, (m42.2 103)), (104, (m42.2 104)), (105, (m42.2 105)), (106, (m42.2 106)), (107, (m42.2 107)), (108, (m42.2 108)), (117, (m42.2 117)), (118, (m42.2 118)), (120, (m42.2 120)), (121, (m42.2 121)), (122, (m42.2 122))]) c N D (by omega) (Ty_mO hT rfl rfl ⟨(q44.1 7), (q44.1 8), (q44.1 9), (q44.1 10), (q44.1 11), (q44.1 12), (q44.1 27), (q44.1 28), (q44.1 69), (q44.1 70), (q44.1 71), (q44.1 72), (q44.1 73), (q44.1 74), (q44.1 75), (q44.1 99), (q44.1 100), (q44.1 119), trivial⟩ ⟨(q44.2.1 59), (q44.2.1 60), (q44.2.1 61), (q44.2.1 62), (q44.2.1 63), (q44.2.1 65), (q44.2.1 66), (q44.2.1 67), (q44.2.1 68), (q44.2.1 76), (q44.2.1 77), (q44.2.1 78), (q44.2.1 79), (q44.2.1 80), (q44.2.1 81), (q44.2.1 82), (q44.2.1 83), (q44.2.1 84), (q44.2.1 85), (q44.2.1 86), (q44.2.1 87), (q44.2.1 88), (q44.2.1 89), (q44.2.1 90), (q44.2.1 91), (q44.2.1 92), (q44.2.1 101), (q44.2.1 102), (q44.2.1 103), (q44.2.1 104), (q44.2.1 105), (q44.2.1 106), (q44.2.1 107), (q44.2.1 108), (q44.2.1 117), (q44.2.1 118), (q44.2.1 120), (q44.2.1 121), (q44.2.1 122), trivial⟩) 1 ⟨by decide, by decide⟩ (show 0 ≤ (1 : Int) ∧ (1 : Int) ≤ 2 by omega) (show 1 ≤ (m42.1 119) by omega) (show (m42.1 10) = 0 by omega) (show ∀ j, 0 ≤ j → j < (m42.1 119) → (m42.2 117) j < (m42.1 27) by assumption)) (fun rr87 k88 => ?_)
                      obtain ⟨m89, x91, hT90, g92, h93, c94, rfl⟩ := k88
                      refine ⟨_, _, rfl, ?_⟩
                      refine T_nf2 (st' := [.int (i32 x91)]) (l' := [(7, (m42.1 7)), (8, (m42.1 8)), (9, (m42.1 9)), (10, (m89.1 10)), (11, (m89.1 11)), (12, (m42.1 12)), (27, (m89.1 27)), (28, (m42.1 28)), (69, (m42.1 69)), (70, (m42.1 70)), (71, (m42.1 71)), (72, (m42.1 72)), (73, (m42.1 73)), (74, (m42.1 74)), (75, (m42.1 75)), (99, (m42.1 99)), (100, (m42.1 100)), (119, (m42.1 119))]) (a' := [(59, (m42.2 59)), (60, (m89.2 60)), (61, (m89.2 61)), (62, (m89.2 62)), (63, (m89.2 63)), (65, (m42.2 65)), (66, (m42.2 66)), (67, (m42.2 67)), (68, (m42.2 68)), (76, (m42.2 76)), (77, (m42.2 77)), (78, (m42.2 78)), (79, (m42.2 79)), (80, (m42.2 80)), (81, (m42.2 81)), (82, (m42.2 82)), (83, (m42.2 83)), (84, (m42.2 84)), (85, (m42.2 85)), (86, (m42.2 86)), (87, (m42.2 87)), (88, (m42.2 88)), (89, (m42.2 89)), (90, (m42.2 90)), (91, (m42.2 91)), (92, (m42.2 92)), (101, (m42.2 101)), (102, (m42.2 102)), (103, (m42.2 103)), (104, (m42.2 104)), (105, (m42.2 105)), (106, (m42.2 106)), (107, (m42.2 107)), (108, (m42.2 108)), (117, (m42.2 117)), (118, (m42.2 118)), (120, (m42.2 120)), (121, (m42.2 121)), (122, (m42.2 122))]) [10, 11, 27] [60, 61, 62, 63] rfl ⟨rfl, rfl, rfl, rfl, rfl, rfl, rfl, rfl, rfl, rfl, rfl, rfl, rfl, rfl, rfl, rfl, rfl, rfl, rfl, rfl, rfl, rfl, rfl, rfl, rfl, rfl, rfl, rfl, rfl, rfl, rfl, rfl, rfl, rfl, rfl, rfl, rfl, rfl, rfl, rfl, trivial⟩ ⟨rfl, rfl, rfl, rfl, rfl, rfl, rfl, rfl, rfl, rfl, rfl, rfl, rfl, rfl, rfl, rfl, rfl, rfl, rfl, rfl, rfl, rfl, rfl, rfl, rfl, rfl, rfl, rfl, rfl, rfl, rfl, rfl, rfl, rfl, rfl, rfl, rfl, rfl, rfl, rfl, rfl, rfl, rfl, rfl, rfl, rfl, rfl, rfl, rfl, rfl, rfl, rfl, rfl, rfl, rfl, rfl, rfl, rfl, rfl, rfl, rfl, rfl, rfl, rfl, rfl, rfl, rfl, rfl, rfl, rfl, rfl, rfl, rfl, rfl, rfl, rfl, rfl, rfl, rfl, trivial⟩ rfl rfl (by decide) (by decide) ?_
                      obtain ⟨g92a, g92b⟩ := g92
                      have g95 : 0 ≤ m89.1 10 ∧ m89.1 10 ≤ 8 := hT90.1 10
                      have g96 : (-1) ≤ m89.1 11 ∧ m89.1 11 ≤ 4000 := hT90.1 11
                      have g97 : 0 ≤ m89.1 27 ∧ m89.1 27 ≤ 48 := hT90.1 27
                      by_cases hf98 : (m89.1 10) = 0
                      · skip
                        replace h93 : (m42.1 10) = 0 := h93 hf98
                        obtain ⟨c99, c100, c101, c102, c103⟩ := c94 hf98
                        replace c99 : x91 = (m42.1 27) := c99
                        have hS9 := c99
                        replace c100 : (m89.1 27) = (m42.1 27) + 1 := c100
                        have hS0 := c100
                        replace c101 : (m89.2 60) = upI (m42.2 60) (m42.1 27) (1 : Int) := c101
                        have hS1 := c101
                        replace c102 : (m89.2 61) = upI (m42.2 61) (m42.1 27) ((m42.2 117) ((m42.1 119) - 1)) := c102
                        have hS2 := c102
                        replace c103 : (m89.2 63) = upI (m42.2 63) (m42.1 27) (-1) := c103
                        have hS3 := c103
                        clear c94
                        have u104 : (m.1 8) + 1 ≤ (m42.1 8) := by omega
                        have hAgC : agr (m.2 65) (m42.2 65) (m.1 28) := by first | exact agr_r _ _ | exact hAgC | exact agr_t hAgC hAg (by omega)
                        refine T_sto 171 [(1, .int (i32 x91)), (0, .ref 189)] rfl (fun _ => rfl) ?_
                        subst hS9
                        refine T_ld 172 (.ref 189) rfl (fun _ => rfl) ?_
                        refine T_call 175 212 [.ref 189] [] rfl (fun _ => rfl) rfl (c_next w (mO m [(7, (m42.1 7)), (8, (m42.1 8)), (9, (m42.1 9)), (10, (m89.1 10)), (11, (m89.1 11)), (12, (m42.1 12)), (27, (m89.1 27)), (28, (m42.1 28)), (69, (m42.1 69)), (70, (m42.1 70)), (71, (m42.1 71)), (72, (m42.1 72)), (73, (m42.1 73)), (74, (m42.1 74)), (75, (m42.1 75)), (99, (m42.1 99)), (100, (m42.1 100)), (119, (m42.1 119))] [(59, (m42.2 59)), (60, (m89.2 60)), (61, (m89.2 61)), (62, (m89.2 62)), (63, (m89.2 63)), (65, (m42.2 65)), (66, (m42.2 66)), (67, (m42.2 67)), (68, (m42.2 68)), (76, (m42.2 76)), (77, (m42.2 77)), (78, (m42.2 78)), (79, (m42.2 79)), (80, (m42.2 80)), (81, (m42.2 81)), (82, (m42.2 82)), (83, (m42.2 83)), (84, (m42.2 84)), (85, (m42.2 85)), (86, (m42.2 86)), (87, (m42.2 87)), (88, (m42.2 88)), (89, (m42.2 89)), (90, (m42.2 90)), (91, (m42.2 91)), (92, (m42.2 92)), (101, (m42.2 101)), (102, (m42.2 102)), (103, (m42.2 103)), (104, (m42.2 104)), (105, (m42.2 105)), (106, (m42.2 106)), (107, (m42.2 107)), (108, (m42.2 108)), (117, (m42.2 117)), (118, (m42.2 118)), (120, (m42.2 120)), (121, (m42.2 121)), (122, (m42.2 122))]) c N D (by omega) (Ty_mO hT rfl rfl ⟨(q44.1 7), (q44.1 8), (q44.1 9), (hT90.1 10), (hT90.1 11), (q44.1 12), (hT90.1 27), (q44.1 28), (q44.1 69), (q44.1 70), (q44.1 71), (q44.1 72), (q44.1 73), (q44.1 74), (q44.1 75), (q44.1 99), (q44.1 100), (q44.1 119), trivial⟩ ⟨(q44.2.1 59), (hT90.2.1 60), (hT90.2.1 61), (hT90.2.1 62), (hT90.2.1 63), (q44.2.1 65), (q44.2.1 66), (q44.2.1 67), (q44.2.1 68), (q44.2.1 76), (q44.2.1 77), (q44.2.1 78), (q44.2.1 79), (q44.2.1 80), (q44.2.1 81), (q44.2.1 82), (q44.2.1 83), (q44.2.1 84), (q44.2.1 85), (q44.2.1 86), (q44.2.1 87), (q44.2.1 88), (q44.2.1 89), (q44.2.1 90), (q44.2.1 91), (q44.2.1 92), (q44.2.1 101), (q44.2.1 102), (q44.2.1 103), (q44.2.1 104), (q44.2.1 105), (q44.2.1 106), (q44.2.1 107), (q44.2.1 108), (q44.2.1 117), (q44.2.1 118), (q44.2.1 120), (q44.2.1 121), (q44.2.1 122), trivial⟩) (show (m89.1 10) = 0 → (m42.1 8) + (m42.1 9) ≤ (m.1 6) by first | omega | (intro h9; have h8 := hLx h9; omega))) (fun rr105 k106 => ?_)
                        obtain ⟨y107, y109, y111, y113, y115, y117, g108, g110, g112, g114, g116, g118, h119, h120, h121, h122, rfl⟩ := k106
                        refine ⟨_, _, rfl, ?_⟩
                        refine T_nf2 (st' := []) (l' := [(7, y107), (8, y109), (9, y111), (10, y113), (11, y115), (12, y117), (27, (m89.1 27)), (28, (m42.1 28)), (69, (m42.1 69)), (70, (m42.1 70)), (71, (m42.1 71)), (72, (m42.1 72)), (73, (m42.1 73)), (74, (m42.1 74)), (75, (m42.1 75)), (99, (m42.1 99)), (100, (m42.1 100)), (119, (m42.1 119))]) (a' := [(59, (m42.2 59)), (60, (m89.2 60)), (61, (m89.2 61)), (62, (m89.2 62)), (63, (m89.2 63)), (65, (m42.2 65)), (66, (m42.2 66)), (67, (m42.2 67)), (68, (m42.2 68)), (76, (m42.2 76)), (77, (m42.2 77)), (78, (m42.2 78)), (79, (m42.2 79)), (80, (m42.2 80)), (81, (m42.2 81)), (82, (m42.2 82)), (83, (m42.2 83)), (84, (m42.2 84)), (85, (m42.2 85)), (86, (m42.2 86)), (87, (m42.2 87)), (88, (m42.2 88)), (89, (m42.2 89)), (90, (m42.2 90)), (91, (m42.2 91)), (92, (m42.2 92)), (101, (m42.2 101)), (102, (m42.2 102)), (103, (m42.2 103)), (104, (m42.2 104)), (105, (m42.2 105)), (106, (m42.2 106)), (107, (m42.2 107)), (108, (m42.2 108)), (117, (m42.2 117)), (118, (m42.2 118)), (120, (m42.2 120)), (121, (m42.2 121)), (122, (m42.2 122))]) [7, 8, 9, 10, 11, 12] [] rfl ⟨rfl, rfl, rfl, rfl, rfl, rfl, rfl, rfl, rfl, rfl, rfl, rfl, rfl, rfl, rfl, rfl, rfl, rfl, rfl, rfl, rfl, rfl, rfl, rfl, rfl, rfl, rfl, rfl, rfl, rfl, rfl, rfl, rfl, rfl, rfl, rfl, trivial⟩ ⟨rfl, rfl, rfl, rfl, rfl, rfl, rfl, rfl, rfl, rfl, rfl, rfl, rfl, rfl, rfl, rfl, rfl, rfl, rfl, rfl, rfl, rfl, rfl, rfl, rfl, rfl, rfl, rfl, rfl, rfl, rfl, rfl, rfl, rfl, rfl, rfl, rfl, rfl, rfl, rfl, rfl, rfl, rfl, rfl, rfl, rfl, rfl, rfl, rfl, rfl, rfl, rfl, rfl, rfl, rfl, rfl, rfl, rfl, rfl, rfl, rfl, rfl, rfl, rfl, rfl, rfl, rfl, rfl, rfl, rfl, rfl, rfl, rfl, rfl, rfl, rfl, rfl, rfl, trivial⟩ rfl rfl (by decide) (by decide) ?_
                        by_cases hf123 : y113 = 0
                        · skip
                          subst hf123
                          replace h119 : LxP y107 y109 y111 (m.1 6) (0 : Int) := h119
                          have hLx := h119
                          replace h120 : (m89.1 10) = 0 := h120 rfl
                          replace h121 : (m42.1 8) ≤ y109 := h121
                          replace h122 : (m42.1 8) + (m42.1 9) ≤ y109 := h122 rfl
                          have u124 : (m.1 8) + 1 ≤ y109 := by omega
                          have hAgC : agr (m.2 65) (m42.2 65) (m.1 28) := by first | exact agr_r _ _ | exact hAgC | exact agr_t hAgC hAg (by omega)
                          refine T_gf 179 (.ref 280) rfl rfl rfl rfl rfl rfl ?_
                          refine T_ld 180 (.int (i32 x91)) rfl (fun _ => rfl) ?_
                          refine T_gf 184 (.int (i32 (m42.1 28))) rfl rfl rfl rfl rfl rfl ?_
                          have G125 : ∀ j, 0 ≤ (upI (m42.2 121) x91 (m42.1 28)) j ∧ (upI (m42.2 121) x91 (m42.1 28)) j ≤ 800 := upI_rg (q44.2.1 121) ⟨by omega, by omega⟩
                          refine T_iast (a' := [(59, (m42.2 59)), (60, (m89.2 60)), (61, (m89.2 61)), (62, (m89.2 62)), (63, (m89.2 63)), (65, (m42.2 65)), (66, (m42.2 66)), (67, (m42.2 67)), (68, (m42.2 68)), (76, (m42.2 76)), (77, (m42.2 77)), (78, (m42.2 78)), (79, (m42.2 79)), (80, (m42.2 80)), (81, (m42.2 81)), (82, (m42.2 82)), (83, (m42.2 83)), (84, (m42.2 84)), (85, (m42.2 85)), (86, (m42.2 86)), (87, (m42.2 87)), (88, (m42.2 88)), (89, (m42.2 89)), (90, (m42.2 90)), (91, (m42.2 91)), (92, (m42.2 92)), (101, (m42.2 101)), (102, (m42.2 102)), (103, (m42.2 103)), (104, (m42.2 104)), (105, (m42.2 105)), (106, (m42.2 106)), (107, (m42.2 107)), (108, (m42.2 108)), (117, (m42.2 117)), (118, (m42.2 118)), (120, (m42.2 120)), (121, upI (m42.2 121) x91 (m42.1 28)), (122, (m42.2 122))]) 185 121 (m42.2 121) rfl rfl rfl (by omega) (show x91 < (48 : Int) by omega) rfl rfl ?_
                          refine T_gf 189 (.int (i32 0)) rfl rfl rfl rfl rfl rfl ?_
                          refine T_if 196 192 rfl rfl rfl ⟨by decide, by decide⟩ (fun h126 => absurd (show (0 : Int) ≠ 0 from h126) (by decide)) (fun _ => ?_)
                          refine T_ld 193 (.ref 189) rfl (fun _ => rfl) ?_
                          refine T_call 196 244 [.ref 189] [] rfl (fun _ => rfl) rfl (c_readExpr w (mO m [(7, y107), (8, y109), (9, y111), (10, 0), (11, y115), (12, y117), (27, (m89.1 27)), (28, (m42.1 28)), (69, (m42.1 69)), (70, (m42.1 70)), (71, (m42.1 71)), (72, (m42.1 72)), (73, (m42.1 73)), (74, (m42.1 74)), (75, (m42.1 75)), (99, (m42.1 99)), (100, (m42.1 100)), (119, (m42.1 119))] [(59, (m42.2 59)), (60, (m89.2 60)), (61, (m89.2 61)), (62, (m89.2 62)), (63, (m89.2 63)), (65, (m42.2 65)), (66, (m42.2 66)), (67, (m42.2 67)), (68, (m42.2 68)), (76, (m42.2 76)), (77, (m42.2 77)), (78, (m42.2 78)), (79, (m42.2 79)), (80, (m42.2 80)), (81, (m42.2 81)), (82, (m42.2 82)), (83, (m42.2 83)), (84, (m42.2 84)), (85, (m42.2 85)), (86, (m42.2 86)), (87, (m42.2 87)), (88, (m42.2 88)), (89, (m42.2 89)), (90, (m42.2 90)), (91, (m42.2 91)), (92, (m42.2 92)), (101, (m42.2 101)), (102, (m42.2 102)), (103, (m42.2 103)), (104, (m42.2 104)), (105, (m42.2 105)), (106, (m42.2 106)), (107, (m42.2 107)), (108, (m42.2 108)), (117, (m42.2 117)), (118, (m42.2 118)), (120, (m42.2 120)), (121, upI (m42.2 121) x91 (m42.1 28)), (122, (m42.2 122))]) c N D (by omega) (Ty_mO hT rfl rfl ⟨g108, g110, g112, ⟨(by omega : (0 : Int) ≤ 0), (by omega : (0 : Int) ≤ 8)⟩, g116, g118, (hT90.1 27), (q44.1 28), (q44.1 69), (q44.1 70), (q44.1 71), (q44.1 72), (q44.1 73), (q44.1 74), (q44.1 75), (q44.1 99), (q44.1 100), (q44.1 119), trivial⟩ ⟨(q44.2.1 59), (hT90.2.1 60), (hT90.2.1 61), (hT90.2.1 62), (hT90.2.1 63), (q44.2.1 65), (q44.2.1 66), (q44.2.1 67), (q44.2.1 68), (q44.2.1 76), (q44.2.1 77), (q44.2.1 78), (q44.2.1 79), (q44.2.1 80), (q44.2.1 81), (q44.2.1 82), (q44.2.1 83), (q44.2.1 84), (q44.2.1 85), (q44.2.1 86), (q44.2.1 87), (q44.2.1 88), (q44.2.1 89), (q44.2.1 90), (q44.2.1 91), (q44.2.1 92), (q44.2.1 101), (q44.2.1 102), (q44.2.1 103), (q44.2.1 104), (q44.2.1 105), (q44.2.1 106), (q44.2.1 107), (q44.2.1 108), (q44.2.1 117), (q44.2.1 118), (q44.2.1 120), G125, (q44.2.1 122), trivial⟩) (show LxP y107 y109 y111 (m.1 6) (0 : Int) by first | exact hLx | exact (fun _ => hLx (by omega)) | (intro h9; exfalso; omega)) (show ∀ k, (m.2 14) k + (m.2 15) k ≤ 4000 by assumption) (show ∀ k, (m.2 31) k + (m.2 32) k ≤ 4000 by assumption) (show ∀ k, (m.2 47) k + (m.2 48) k ≤ 4000 by assumption) (fun _ => ⟨(show PN (m.1 13) (m.1 19) (m.1 20) (m.1 21) (m.1 22) (m.1 23) (m.1 25) (m.1 26) (m.2 16) (m.2 17) by assumption), (show CN (m42.2 65) (m42.2 67) (m42.1 28) by assumption)⟩)) (fun rr127 k128 => ?_)
                          obtain ⟨m129, hT130, h131, h132, c133, rfl⟩ := k128
                          refine ⟨_, _, rfl, ?_⟩
                          refine T_nf2 (st' := []) (l' := [(7, (m129.1 7)), (8, (m129.1 8)), (9, (m129.1 9)), (10, (m129.1 10)), (11, (m129.1 11)), (12, (m129.1 12)), (27, (m89.1 27)), (28, (m129.1 28)), (69, (m129.1 69)), (70, (m129.1 70)), (71, (m129.1 71)), (72, (m129.1 72)), (73, (m129.1 73)), (74, (m129.1 74)), (75, (m129.1 75)), (99, (m42.1 99)), (100, (m42.1 100)), (119, (m42.1 119))]) (a' := [(59, (m42.2 59)), (60, (m89.2 60)), (61, (m89.2 61)), (62, (m89.2 62)), (63, (m89.2 63)), (65, (m129.2 65)), (66, (m129.2 66)), (67, (m129.2 67)), (68, (m129.2 68)), (76, (m129.2 76)), (77, (m129.2 77)), (78, (m129.2 78)), (79, (m129.2 79)), (80, (m129.2 80)), (81, (m129.2 81)), (82, (m129.2 82)), (83, (m129.2 83)), (84, (m129.2 84)), (85, (m129.2 85)), (86, (m129.2 86)), (87, (m129.2 87)), (88, (m129.2 88)), (89, (m129.2 89)), (90, (m129.2 90)), (91, (m129.2 91)), (92, (m129.2 92)), (101, (m42.2 101)), (102, (m42.2 102)), (103, (m42.2 103)), (104, (m42.2 104)), (105, (m42.2 105)), (106, (m42.2 106)), (107, (m42.2 107)), (108, (m42.2 108)), (117, (m42.2 117)), (118, (m42.2 118)), (120, (m42.2 120)), (121, upI (m42.2 121) x91 (m42.1 28)), (122, (m42.2 122))]) [7, 8, 9, 10, 11, 12, 28, 69, 70, 71, 72, 73, 74, 75] [65, 66, 67, 68, 76, 77, 78, 79, 80, 81, 82, 83, 84, 85, 86, 87, 88, 89, 90, 91, 92] rfl ⟨rfl, rfl, rfl, rfl, rfl, rfl, rfl, rfl, rfl, rfl, rfl, rfl, rfl, rfl, rfl, rfl, rfl, rfl, rfl, rfl, rfl, rfl, rfl, rfl, rfl, rfl, rfl, rfl, rfl, rfl, rfl, rfl, rfl, rfl, rfl, rfl, rfl, trivial⟩ ⟨rfl, rfl, rfl, rfl, rfl, rfl, rfl, rfl, rfl, rfl, rfl, rfl, rfl, rfl, rfl, rfl, rfl, rfl, rfl, rfl, rfl, rfl, rfl, rfl, rfl, rfl, rfl, rfl, rfl, rfl, rfl, rfl, rfl, rfl, rfl, rfl, rfl, rfl, rfl, rfl, rfl, rfl, rfl, rfl, rfl, rfl, rfl, rfl, rfl, rfl, rfl, rfl, rfl, rfl, rfl, rfl, rfl, rfl, rfl, rfl, rfl, rfl, rfl, rfl, rfl, rfl, rfl, rfl, rfl, rfl, rfl, rfl, rfl, rfl, rfl, rfl, rfl, rfl, rfl, rfl, rfl, rfl, rfl, trivial⟩ rfl rfl (by decide) (by decide) ?_
                          have g134 : 0 ≤ m129.1 7 ∧ m129.1 7 ≤ 330 := hT130.1 7
                          have g135 : 0 ≤ m129.1 8 ∧ m129.1 8 ≤ 4000 := hT130.1 8
                          have g136 : 0 ≤ m129.1 9 ∧ m129.1 9 ≤ 4000 := hT130.1 9
                          have g137 : 0 ≤ m129.1 10 ∧ m129.1 10 ≤ 8 := hT130.1 10
                          have g138 : (-1) ≤ m129.1 11 ∧ m129.1 11 ≤ 4000 := hT130.1 11
                          have g139 : (-9223372036854775808) ≤ m129.1 12 ∧ m129.1 12 ≤ 9223372036854775807 := hT130.1 12
                          have g140 : 0 ≤ m129.1 28 ∧ m129.1 28 ≤ 800 := hT130.1 28
                          have g141 : 0 ≤ m129.1 69 ∧ m129.1 69 ≤ 1024 := hT130.1 69
                          have g142 : 0 ≤ m129.1 70 ∧ m129.1 70 ≤ 4000 := hT130.1 70
                          have g143 : 0 ≤ m129.1 71 ∧ m129.1 71 ≤ 1 := hT130.1 71
                          have g144 : (-9223372036854775808) ≤ m129.1 72 ∧ m129.1 72 ≤ 9223372036854775807 := hT130.1 72
                          have g145 : 0 ≤ m129.1 73 ∧ m129.1 73 ≤ 60 := hT130.1 73
                          have g146 : 0 ≤ m129.1 74 ∧ m129.1 74 ≤ 24 := hT130.1 74
                          have g147 : 0 ≤ m129.1 75 ∧ m129.1 75 ≤ 3 := hT130.1 75
                          by_cases hf148 : (m129.1 10) = 0
                          · skip
                            replace h131 : (0 : Int) = 0 := h131 hf148
                            replace h132 : LxP (m129.1 7) (m129.1 8) (m129.1 9) (m.1 6) (m129.1 10) := h132
                            have hLx := h132
                            obtain ⟨c149, c150, c151, c152, c153, c154⟩ := c133 hf148
                            replace c149 : y109 + 1 ≤ (m129.1 8) := c149
                            replace c150 : (m129.1 69) ≤ 64 := c150
                            replace c151 : (m42.1 28) ≤ (m129.1 28) := c151
                            replace c152 : okc (m129.2 65) (m42.1 28) (m129.1 28) := c152
                            have hOk := c152
                            replace c153 : CN (m129.2 65) (m129.2 67) (m129.1 28) := c153
                            have hCN := c153
                            replace c154 : agr (m42.2 65) (m129.2 65) (m42.1 28) := c154
                            have hAg := c154
                            clear c133
                            have u155 : (m.1 8) + 1 ≤ (m129.1 8) := by omega
                            have hAgC : agr (m.2 65) (m129.2 65) (m.1 28) := by first | exact agr_r _ _ | exact hAgC | exact agr_t hAgC hAg (by omega)
                            refine T_gf 200 (.ref 281) rfl rfl rfl rfl rfl rfl ?_
                            refine T_ld 201 (.int (i32 x91)) rfl (fun _ => rfl) ?_
                            refine T_gf 205 (.int (i32 (m129.1 28))) rfl rfl rfl rfl rfl rfl ?_
                            have G156 : ∀ j, 0 ≤ (upI (m42.2 122) x91 (m129.1 28)) j ∧ (upI (m42.2 122) x91 (m129.1 28)) j ≤ 800 := upI_rg (q44.2.1 122) ⟨by omega, by omega⟩
                            refine T_iast (a' := [(59, (m42.2 59)), (60, (m89.2 60)), (61, (m89.2 61)), (62, (m89.2 62)), (63, (m89.2 63)), (65, (m129.2 65)), (66, (m129.2 66)), (67, (m129.2 67)), (68, (m129.2 68)), (76, (m129.2 76)), (77, (m129.2 77)), (78, (m129.2 78)), (79, (m129.2 79)), (80, (m129.2 80)), (81, (m129.2 81)), (82, (m129.2 82)), (83, (m129.2 83)), (84, (m129.2 84)), (85, (m129.2 85)), (86, (m129.2 86)), (87, (m129.2 87)), (88, (m129.2 88)), (89, (m129.2 89)), (90, (m129.2 90)), (91, (m129.2 91)), (92, (m129.2 92)), (101, (m42.2 101)), (102, (m42.2 102)), (103, (m42.2 103)), (104, (m42.2 104)), (105, (m42.2 105)), (106, (m42.2 106)), (107, (m42.2 107)), (108, (m42.2 108)), (117, (m42.2 117)), (118, (m42.2 118)), (120, (m42.2 120)), (121, upI (m42.2 121) x91 (m42.1 28)), (122, upI (m42.2 122) x91 (m129.1 28))]) 206 122 (m42.2 122) rfl rfl rfl (by omega) (show x91 < (48 : Int) by omega) rfl rfl ?_
                            have pSp : SpP (m129.2 65) (m129.1 28) (m42.1 99) (m.1 26) (m89.1 27) (m89.2 60) (m89.2 61) (m42.2 120) (upI (m42.2 121) x91 (m42.1 28)) (upI (m42.2 122) x91 (m129.1 28)) (m89.2 63) := by
                              rw [hS0, hS1, hS2]
                              rw [hS3]; exact SpP_add (SpP_f pSp hAg (by omega) (by omega) (agr_u (Int.le_refl _)) (agr_u (Int.le_refl _)) (agr_r _ _) (agr_u (Int.le_refl _)) (agr_u (Int.le_refl _)) (agr_u (Int.le_refl _))) ⟨by rw [upI_s]; exact hBi, fun h => by rw [upI_s] at h; omega, fun _ => by rw [upI_s, upI_s]; exact ⟨hOk, by omega⟩, fun h => by rw [upI_s] at h; omega⟩
                            have hBK : ∀ j, 0 ≤ j → j < (m42.1 119) → (m42.2 117) j < (m89.1 27) := fun j j0 j1 => Int.lt_trans (hBK j j0 j1) (by omega)
                            have pTd : TdP (m129.2 65) (m129.1 28) (m.1 22) (m42.1 99) (m42.2 101) (m42.2 103) (m42.2 105) (m42.2 106) (m42.2 107) (m42.2 108) := TdP_g pTd hAg (by omega)
                            refine T_gf 210 (.int (i32 (m129.1 10))) rfl rfl rfl rfl rfl rfl ?_
                            refine T_if 233 213 rfl rfl rfl (r32 (by omega) (by omega)) (fun (h157 : (m129.1 10) ≠ 0) => by exfalso; omega) (fun (h157 : ¬ ((m129.1 10) ≠ 0)) => ?_)
                            refine T_ld 214 (.ref 189) rfl (fun _ => rfl) ?_
                            refine T_gf 218 (.int (i32 (m129.1 69))) rfl rfl rfl rfl rfl rfl ?_
                            refine T_gf 222 (.int (i32 (m129.1 71))) rfl rfl rfl rfl rfl rfl ?_
                            refine T_gf 226 (.long (i64 (m129.1 72))) rfl rfl rfl rfl rfl rfl ?_
                            refine T_gf 230 (.int (i32 (m129.1 70))) rfl rfl rfl rfl rfl rfl ?_
                            refine T_call 233 258 [.ref 189, .int (i32 (m129.1 69)), .int (i32 (m129.1 71)), .long (i64 (m129.1 72)), .int (i32 (m129.1 70))] [] rfl (fun _ => rfl) rfl (c_wantBit w (mO m [(7, (m129.1 7)), (8, (m129.1 8)), (9, (m129.1 9)), (10, (m129.1 10)), (11, (m129.1 11)), (12, (m129.1 12)), (27, (m89.1 27)), (28, (m129.1 28)), (69, (m129.1 69)), (70, (m129.1 70)), (71, (m129.1 71)), (72, (m129.1 72)), (73, (m129.1 73)), (74, (m129.1 74)), (75, (m129.1 75)), (99, (m42.1 99)), (100, (m42.1 100)), (119, (m42.1 119))] [(59, (m42.2 59)), (60, (m89.2 60)), (61, (m89.2 61)), (62, (m89.2 62)), (63, (m89.2 63)), (65, (m129.2 65)), (66, (m129.2 66)), (67, (m129.2 67)), (68, (m129.2 68)), (76, (m129.2 76)), (77, (m129.2 77)), (78, (m129.2 78)), (79, (m129.2 79)), (80, (m129.2 80)), (81, (m129.2 81)), (82, (m129.2 82)), (83, (m129.2 83)), (84, (m129.2 84)), (85, (m129.2 85)), (86, (m129.2 86)), (87, (m129.2 87)), (88, (m129.2 88)), (89, (m129.2 89)), (90, (m129.2 90)), (91, (m129.2 91)), (92, (m129.2 92)), (101, (m42.2 101)), (102, (m42.2 102)), (103, (m42.2 103)), (104, (m42.2 104)), (105, (m42.2 105)), (106, (m42.2 106)), (107, (m42.2 107)), (108, (m42.2 108)), (117, (m42.2 117)), (118, (m42.2 118)), (120, (m42.2 120)), (121, upI (m42.2 121) x91 (m42.1 28)), (122, upI (m42.2 122) x91 (m129.1 28))]) c N D (by omega) (Ty_mO hT rfl rfl ⟨(hT130.1 7), (hT130.1 8), (hT130.1 9), (hT130.1 10), (hT130.1 11), (hT130.1 12), (hT90.1 27), (hT130.1 28), (hT130.1 69), (hT130.1 70), (hT130.1 71), (hT130.1 72), (hT130.1 73), (hT130.1 74), (hT130.1 75), (q44.1 99), (q44.1 100), (q44.1 119), trivial⟩ ⟨(q44.2.1 59), (hT90.2.1 60), (hT90.2.1 61), (hT90.2.1 62), (hT90.2.1 63), (hT130.2.1 65), (hT130.2.1 66), (hT130.2.1 67), (hT130.2.1 68), (hT130.2.1 76), (hT130.2.1 77), (hT130.2.1 78), (hT130.2.1 79), (hT130.2.1 80), (hT130.2.1 81), (hT130.2.1 82), (hT130.2.1 83), (hT130.2.1 84), (hT130.2.1 85), (hT130.2.1 86), (hT130.2.1 87), (hT130.2.1 88), (hT130.2.1 89), (hT130.2.1 90), (hT130.2.1 91), (hT130.2.1 92), (q44.2.1 101), (q44.2.1 102), (q44.2.1 103), (q44.2.1 104), (q44.2.1 105), (q44.2.1 106), (q44.2.1 107), (q44.2.1 108), (q44.2.1 117), (q44.2.1 118), (q44.2.1 120), G125, G156, trivial⟩) (m129.1 69) (m129.1 71) (m129.1 72) (m129.1 70) (r32 (by omega) (by omega)) (r32 (by omega) (by omega)) (r64 (by omega) (by omega)) (r32 (by omega) (by omega)) (show 0 ≤ (m129.1 70) ∧ (m129.1 70) ≤ 4000 by omega) (fun _ => trivial)) (fun rr158 k159 => ?_)
                            obtain ⟨m160, hT161, h162, c163, rfl⟩ := k159
                            refine ⟨_, _, rfl, ?_⟩
                            refine T_nf2 (st' := []) (l' := [(7, (m129.1 7)), (8, (m129.1 8)), (9, (m129.1 9)), (10, (m160.1 10)), (11, (m160.1 11)), (12, (m129.1 12)), (27, (m89.1 27)), (28, (m129.1 28)), (69, (m129.1 69)), (70, (m129.1 70)), (71, (m129.1 71)), (72, (m129.1 72)), (73, (m129.1 73)), (74, (m129.1 74)), (75, (m129.1 75)), (99, (m42.1 99)), (100, (m42.1 100)), (119, (m42.1 119))]) (a' := [(59, (m42.2 59)), (60, (m89.2 60)), (61, (m89.2 61)), (62, (m89.2 62)), (63, (m89.2 63)), (65, (m129.2 65)), (66, (m129.2 66)), (67, (m129.2 67)), (68, (m129.2 68)), (76, (m129.2 76)), (77, (m129.2 77)), (78, (m129.2 78)), (79, (m129.2 79)), (80, (m129.2 80)), (81, (m129.2 81)), (82, (m129.2 82)), (83, (m129.2 83)), (84, (m129.2 84)), (85, (m129.2 85)), (86, (m129.2 86)), (87, (m129.2 87)), (88, (m129.2 88)), (89, (m129.2 89)), (90, (m129.2 90)), (91, (m129.2 91)), (92, (m129.2 92)), (101, (m42.2 101)), (102, (m42.2 102)), (103, (m42.2 103)), (104, (m42.2 104)), (105, (m42.2 105)), (106, (m42.2 106)), (107, (m42.2 107)), (108, (m42.2 108)), (117, (m42.2 117)), (118, (m42.2 118)), (120, (m42.2 120)), (121, upI (m42.2 121) x91 (m42.1 28)), (122, upI (m42.2 122) x91 (m129.1 28))]) [10, 11] [] rfl ⟨rfl, rfl, rfl, rfl, rfl, rfl, rfl, rfl, rfl, rfl, rfl, rfl, rfl, rfl, rfl, rfl, rfl, rfl, rfl, rfl, rfl, rfl, rfl, rfl, rfl, rfl, rfl, rfl, rfl, rfl, rfl, rfl, rfl, rfl, rfl, rfl, rfl, rfl, rfl, trivial⟩ ⟨rfl, rfl, rfl, rfl, rfl, rfl, rfl, rfl, rfl, rfl, rfl, rfl, rfl, rfl, rfl, rfl, rfl, rfl, rfl, rfl, rfl, rfl, rfl, rfl, rfl, rfl, rfl, rfl, rfl, rfl, rfl, rfl, rfl, rfl, rfl, rfl, rfl, rfl, rfl, rfl, rfl, rfl, rfl, rfl, rfl, rfl, rfl, rfl, rfl, rfl, rfl, rfl, rfl, rfl, rfl, rfl, rfl, rfl, rfl, rfl, rfl, rfl, rfl, rfl, rfl, rfl, rfl, rfl, rfl, rfl, rfl, rfl, rfl, rfl, rfl, rfl, rfl, rfl, trivial⟩ rfl rfl (by decide) (by decide) ?_
                            have g164 : 0 ≤ m160.1 10 ∧ m160.1 10 ≤ 8 := hT161.1 10
                            have g165 : (-1) ≤ m160.1 11 ∧ m160.1 11 ≤ 4000 := hT161.1 11
                            by_cases hf166 : (m160.1 10) = 0
                            · skip
                              replace h162 : (m129.1 10) = 0 := h162 hf166
                              clear c163
                              have u167 : (m.1 8) + 1 ≤ (m129.1 8) := by omega
                              have hAgC : agr (m.2 65) (m129.2 65) (m.1 28) := by first | exact agr_r _ _ | exact hAgC | exact agr_t hAgC hAg (by omega)
                              refine T_ld 234 (.ref 189) rfl (fun _ => rfl) ?_
                              refine T_ld 235 (.int (i32 x91)) rfl (fun _ => rfl) ?_
                              refine T_ld 236 (.int (i32 1)) rfl (fun _ => rfl) ?_
                              refine T_call 239 280 [.ref 189, .int (i32 x91), .int (i32 1)] [] rfl (fun _ => rfl) rfl (c_openBlock w (mO m [(7, (m129.1 7)), (8, (m129.1 8)), (9, (m129.1 9)), (10, (m160.1 10)), (11, (m160.1 11)), (12, (m129.1 12)), (27, (m89.1 27)), (28, (m129.1 28)), (69, (m129.1 69)), (70, (m129.1 70)), (71, (m129.1 71)), (72, (m129.1 72)), (73, (m129.1 73)), (74, (m129.1 74)), (75, (m129.1 75)), (99, (m42.1 99)), (100, (m42.1 100)), (119, (m42.1 119))] [(59, (m42.2 59)), (60, (m89.2 60)), (61, (m89.2 61)), (62, (m89.2 62)), (63, (m89.2 63)), (65, (m129.2 65)), (66, (m129.2 66)), (67, (m129.2 67)), (68, (m129.2 68)), (76, (m129.2 76)), (77, (m129.2 77)), (78, (m129.2 78)), (79, (m129.2 79)), (80, (m129.2 80)), (81, (m129.2 81)), (82, (m129.2 82)), (83, (m129.2 83)), (84, (m129.2 84)), (85, (m129.2 85)), (86, (m129.2 86)), (87, (m129.2 87)), (88, (m129.2 88)), (89, (m129.2 89)), (90, (m129.2 90)), (91, (m129.2 91)), (92, (m129.2 92)), (101, (m42.2 101)), (102, (m42.2 102)), (103, (m42.2 103)), (104, (m42.2 104)), (105, (m42.2 105)), (106, (m42.2 106)), (107, (m42.2 107)), (108, (m42.2 108)), (117, (m42.2 117)), (118, (m42.2 118)), (120, (m42.2 120)), (121, upI (m42.2 121) x91 (m42.1 28)), (122, upI (m42.2 122) x91 (m129.1 28))]) c N D (by omega) (Ty_mO hT rfl rfl ⟨(hT130.1 7), (hT130.1 8), (hT130.1 9), (hT161.1 10), (hT161.1 11), (hT130.1 12), (hT90.1 27), (hT130.1 28), (hT130.1 69), (hT130.1 70), (hT130.1 71), (hT130.1 72), (hT130.1 73), (hT130.1 74), (hT130.1 75), (q44.1 99), (q44.1 100), (q44.1 119), trivial⟩ ⟨(q44.2.1 59), (hT90.2.1 60), (hT90.2.1 61), (hT90.2.1 62), (hT90.2.1 63), (hT130.2.1 65), (hT130.2.1 66), (hT130.2.1 67), (hT130.2.1 68), (hT130.2.1 76), (hT130.2.1 77), (hT130.2.1 78), (hT130.2.1 79), (hT130.2.1 80), (hT130.2.1 81), (hT130.2.1 82), (hT130.2.1 83), (hT130.2.1 84), (hT130.2.1 85), (hT130.2.1 86), (hT130.2.1 87), (hT130.2.1 88), (hT130.2.1 89), (hT130.2.1 90), (hT130.2.1 91), (hT130.2.1 92), (q44.2.1 101), (q44.2.1 102), (q44.2.1 103), (q44.2.1 104), (q44.2.1 105), (q44.2.1 106), (q44.2.1 107), (q44.2.1 108), (q44.2.1 117), (q44.2.1 118), (q44.2.1 120), G125, G156, trivial⟩) x91 1 (r32 (by omega) (by omega)) ⟨by decide, by decide⟩ (show LxP (m129.1 7) (m129.1 8) (m129.1 9) (m.1 6) (m160.1 10) by first | exact hLx | exact (fun _ => hLx (by omega)) | (intro h9; exfalso; omega)) (show (-1) ≤ x91 ∧ x91 ≤ 47 by omega) (show (-1) ≤ (1 : Int) ∧ (1 : Int) ≤ 1 by omega) (fun _ => ⟨(show ∀ j, 0 ≤ j → j < (m42.1 119) → (m42.2 117) j < (m89.1 27) by assumption), (show x91 < (m89.1 27) by omega)⟩)) (fun rr168 k169 => ?_)
                              obtain ⟨m170, hT171, h172, h173, c174, rfl⟩ := k169
                              refine ⟨_, _, rfl, ?_⟩
                              refine T_nf2 (st' := []) (l' := [(7, (m170.1 7)), (8, (m170.1 8)), (9, (m170.1 9)), (10, (m170.1 10)), (11, (m170.1 11)), (12, (m170.1 12)), (27, (m89.1 27)), (28, (m129.1 28)), (69, (m129.1 69)), (70, (m129.1 70)), (71, (m129.1 71)), (72, (m129.1 72)), (73, (m129.1 73)), (74, (m129.1 74)), (75, (m129.1 75)), (99, (m42.1 99)), (100, (m42.1 100)), (119, (m170.1 119))]) (a' := [(59, (m42.2 59)), (60, (m89.2 60)), (61, (m89.2 61)), (62, (m89.2 62)), (63, (m89.2 63)), (65, (m129.2 65)), (66, (m129.2 66)), (67, (m129.2 67)), (68, (m129.2 68)), (76, (m129.2 76)), (77, (m129.2 77)), (78, (m129.2 78)), (79, (m129.2 79)), (80, (m129.2 80)), (81, (m129.2 81)), (82, (m129.2 82)), (83, (m129.2 83)), (84, (m129.2 84)), (85, (m129.2 85)), (86, (m129.2 86)), (87, (m129.2 87)), (88, (m129.2 88)), (89, (m129.2 89)), (90, (m129.2 90)), (91, (m129.2 91)), (92, (m129.2 92)), (101, (m42.2 101)), (102, (m42.2 102)), (103, (m42.2 103)), (104, (m42.2 104)), (105, (m42.2 105)), (106, (m42.2 106)), (107, (m42.2 107)), (108, (m42.2 108)), (117, (m170.2 117)), (118, (m170.2 118)), (120, (m42.2 120)), (121, upI (m42.2 121) x91 (m42.1 28)), (122, upI (m42.2 122) x91 (m129.1 28))]) [7, 8, 9, 10, 11, 12, 119] [117, 118] rfl ⟨rfl, rfl, rfl, rfl, rfl, rfl, rfl, rfl, rfl, rfl, rfl, rfl, rfl, rfl, rfl, rfl, rfl, rfl, rfl, rfl, rfl, rfl, rfl, rfl, rfl, rfl, rfl, rfl, rfl, rfl, rfl, rfl, rfl, rfl, rfl, rfl, rfl, rfl, rfl, rfl, rfl, rfl, rfl, rfl, rfl, rfl, rfl, trivial⟩ ⟨rfl, rfl, rfl, rfl, rfl, rfl, rfl, rfl, rfl, rfl, rfl, rfl, rfl, rfl, rfl, rfl, rfl, rfl, rfl, rfl, rfl, rfl, rfl, rfl, rfl, rfl, rfl, rfl, rfl, rfl, rfl, rfl, rfl, rfl, rfl, rfl, rfl, rfl, rfl, rfl, rfl, rfl, rfl, rfl, rfl, rfl, rfl, rfl, rfl, rfl, rfl, rfl, rfl, rfl, rfl, rfl, rfl, rfl, rfl, rfl, rfl, rfl, rfl, rfl, rfl, rfl, rfl, rfl, rfl, rfl, rfl, rfl, rfl, rfl, rfl, rfl, rfl, rfl, rfl, rfl, rfl, rfl, rfl, rfl, rfl, rfl, rfl, rfl, rfl, rfl, rfl, rfl, rfl, rfl, rfl, rfl, rfl, rfl, rfl, rfl, rfl, rfl, rfl, rfl, rfl, rfl, rfl, rfl, rfl, rfl, rfl, rfl, trivial⟩ rfl rfl (by decide) (by decide) ?_
                              have g175 : 0 ≤ m170.1 7 ∧ m170.1 7 ≤ 330 := hT171.1 7
                              have g176 : 0 ≤ m170.1 8 ∧ m170.1 8 ≤ 4000 := hT171.1 8
                              have g177 : 0 ≤ m170.1 9 ∧ m170.1 9 ≤ 4000 := hT171.1 9
                              have g178 : 0 ≤ m170.1 10 ∧ m170.1 10 ≤ 8 := hT171.1 10
                              have g179 : (-1) ≤ m170.1 11 ∧ m170.1 11 ≤ 4000 := hT171.1 11
                              have g180 : (-9223372036854775808) ≤ m170.1 12 ∧ m170.1 12 ≤ 9223372036854775807 := hT171.1 12
                              have g181 : 0 ≤ m170.1 119 ∧ m170.1 119 ≤ 8 := hT171.1 119
                              by_cases hf182 : (m170.1 10) = 0
                              · skip
                                replace h172 : (m160.1 10) = 0 := h172 hf182
                                replace h173 : LxP (m170.1 7) (m170.1 8) (m170.1 9) (m.1 6) (m170.1 10) := h173
                                have hLx := h173
                                obtain ⟨c183, c184, c185⟩ := c174 hf182
                                replace c183 : (m129.1 8) + 1 ≤ (m170.1 8) := c183
                                replace c184 : (m170.1 119) = (m42.1 119) + 1 := c184
                                replace c185 : ∀ j, 0 ≤ j → j < (m170.1 119) → (m170.2 117) j < (m89.1 27) := c185
                                have hBK := c185
                                clear c174
                                have u186 : (m.1 8) + 1 ≤ (m170.1 8) := by omega
                                have hAgC : agr (m.2 65) (m129.2 65) (m.1 28) := by first | exact agr_r _ _ | exact hAgC | exact agr_t hAgC hAg (by omega)
                                refine T_goto 18 rfl (fun _ => rfl) ?_
                                refine Tm_lv (a := [(0, .ref 189)]) rfl rfl ⟨rfl, trivial⟩ ?_
                                exact ih47 (mO m [(7, (m170.1 7)), (8, (m170.1 8)), (9, (m170.1 9)), (10, (m170.1 10)), (11, (m170.1 11)), (12, (m170.1 12)), (27, (m89.1 27)), (28, (m129.1 28)), (69, (m129.1 69)), (70, (m129.1 70)), (71, (m129.1 71)), (72, (m129.1 72)), (73, (m129.1 73)), (74, (m129.1 74)), (75, (m129.1 75)), (99, (m42.1 99)), (100, (m42.1 100)), (119, (m170.1 119))] [(59, (m42.2 59)), (60, (m89.2 60)), (61, (m89.2 61)), (62, (m89.2 62)), (63, (m89.2 63)), (65, (m129.2 65)), (66, (m129.2 66)), (67, (m129.2 67)), (68, (m129.2 68)), (76, (m129.2 76)), (77, (m129.2 77)), (78, (m129.2 78)), (79, (m129.2 79)), (80, (m129.2 80)), (81, (m129.2 81)), (82, (m129.2 82)), (83, (m129.2 83)), (84, (m129.2 84)), (85, (m129.2 85)), (86, (m129.2 86)), (87, (m129.2 87)), (88, (m129.2 88)), (89, (m129.2 89)), (90, (m129.2 90)), (91, (m129.2 91)), (92, (m129.2 92)), (101, (m42.2 101)), (102, (m42.2 102)), (103, (m42.2 103)), (104, (m42.2 104)), (105, (m42.2 105)), (106, (m42.2 106)), (107, (m42.2 107)), (108, (m42.2 108)), (117, (m170.2 117)), (118, (m170.2 118)), (120, (m42.2 120)), (121, upI (m42.2 121) x91 (m42.1 28)), (122, upI (m42.2 122) x91 (m129.1 28))]) (Ty_mO hT rfl rfl ⟨(hT171.1 7), (hT171.1 8), (hT171.1 9), (hT171.1 10), (hT171.1 11), (hT171.1 12), (hT90.1 27), (hT130.1 28), (hT130.1 69), (hT130.1 70), (hT130.1 71), (hT130.1 72), (hT130.1 73), (hT130.1 74), (hT130.1 75), (q44.1 99), (q44.1 100), (hT171.1 119), trivial⟩ ⟨(q44.2.1 59), (hT90.2.1 60), (hT90.2.1 61), (hT90.2.1 62), (hT90.2.1 63), (hT130.2.1 65), (hT130.2.1 66), (hT130.2.1 67), (hT130.2.1 68), (hT130.2.1 76), (hT130.2.1 77), (hT130.2.1 78), (hT130.2.1 79), (hT130.2.1 80), (hT130.2.1 81), (hT130.2.1 82), (hT130.2.1 83), (hT130.2.1 84), (hT130.2.1 85), (hT130.2.1 86), (hT130.2.1 87), (hT130.2.1 88), (hT130.2.1 89), (hT130.2.1 90), (hT130.2.1 91), (hT130.2.1 92), (q44.2.1 101), (q44.2.1 102), (q44.2.1 103), (q44.2.1 104), (q44.2.1 105), (q44.2.1 106), (q44.2.1 107), (q44.2.1 108), (hT171.2.1 117), (hT171.2.1 118), (q44.2.1 120), G125, G156, trivial⟩) (show LxP (m170.1 7) (m170.1 8) (m170.1 9) (m.1 6) (m170.1 10) by exact hLx) (fun _ => ⟨(show (m.1 8) + 1 ≤ (m170.1 8) by omega), (show ∀ j, 0 ≤ j → j < (m170.1 119) → (m170.2 117) j < (m89.1 27) by exact hBK), (show CN (m129.2 65) (m129.2 67) (m129.1 28) by exact hCN), (show (m.1 28) ≤ (m129.1 28) by omega), (show agr (m.2 65) (m129.2 65) (m.1 28) by exact hAgC), (show TdP (m129.2 65) (m129.1 28) (m.1 22) (m42.1 99) (m42.2 101) (m42.2 103) (m42.2 105) (m42.2 106) (m42.2 107) (m42.2 108) by exact pTd), (show SpP (m129.2 65) (m129.1 28) (m42.1 99) (m.1 26) (m89.1 27) (m89.2 60) (m89.2 61) (m42.2 120) (upI (m42.2 121) x91 (m42.1 28)) (upI (m42.2 122) x91 (m129.1 28)) (m89.2 63) by first | exact pSp | exact fun s s0 s1 => absurd s1 (by omega)), (show (m42.1 99) ≤ 192 + (m89.1 27) by omega)⟩) (show 1000000 * (8 - (m170.1 10)) + (4000 - (m170.1 8)) < (n : Int) by omega)
                              · skip
                                clear c174
                                clear h172
                                replace h173 : LxP (m170.1 7) (m170.1 8) (m170.1 9) (m.1 6) (m170.1 10) := h173
                                have hLx := h173
                                have hf187 : 1 ≤ (m170.1 10) := by omega
                                refine T_goto 18 rfl (fun _ => rfl) ?_
                                refine Tm_lv (a := [(0, .ref 189)]) rfl rfl ⟨rfl, trivial⟩ ?_
                                exact ih47 (mO m [(7, (m170.1 7)), (8, (m170.1 8)), (9, (m170.1 9)), (10, (m170.1 10)), (11, (m170.1 11)), (12, (m170.1 12)), (27, (m89.1 27)), (28, (m129.1 28)), (69, (m129.1 69)), (70, (m129.1 70)), (71, (m129.1 71)), (72, (m129.1 72)), (73, (m129.1 73)), (74, (m129.1 74)), (75, (m129.1 75)), (99, (m42.1 99)), (100, (m42.1 100)), (119, (m170.1 119))] [(59, (m42.2 59)), (60, (m89.2 60)), (61, (m89.2 61)), (62, (m89.2 62)), (63, (m89.2 63)), (65, (m129.2 65)), (66, (m129.2 66)), (67, (m129.2 67)), (68, (m129.2 68)), (76, (m129.2 76)), (77, (m129.2 77)), (78, (m129.2 78)), (79, (m129.2 79)), (80, (m129.2 80)), (81, (m129.2 81)), (82, (m129.2 82)), (83, (m129.2 83)), (84, (m129.2 84)), (85, (m129.2 85)), (86, (m129.2 86)), (87, (m129.2 87)), (88, (m129.2 88)), (89, (m129.2 89)), (90, (m129.2 90)), (91, (m129.2 91)), (92, (m129.2 92)), (101, (m42.2 101)), (102, (m42.2 102)), (103, (m42.2 103)), (104, (m42.2 104)), (105, (m42.2 105)), (106, (m42.2 106)), (107, (m42.2 107)), (108, (m42.2 108)), (117, (m170.2 117)), (118, (m170.2 118)), (120, (m42.2 120)), (121, upI (m42.2 121) x91 (m42.1 28)), (122, upI (m42.2 122) x91 (m129.1 28))]) (Ty_mO hT rfl rfl ⟨(hT171.1 7), (hT171.1 8), (hT171.1 9), (hT171.1 10), (hT171.1 11), (hT171.1 12), (hT90.1 27), (hT130.1 28), (hT130.1 69), (hT130.1 70), (hT130.1 71), (hT130.1 72), (hT130.1 73), (hT130.1 74), (hT130.1 75), (q44.1 99), (q44.1 100), (hT171.1 119), trivial⟩ ⟨(q44.2.1 59), (hT90.2.1 60), (hT90.2.1 61), (hT90.2.1 62), (hT90.2.1 63), (hT130.2.1 65), (hT130.2.1 66), (hT130.2.1 67), (hT130.2.1 68), (hT130.2.1 76), (hT130.2.1 77), (hT130.2.1 78), (hT130.2.1 79), (hT130.2.1 80), (hT130.2.1 81), (hT130.2.1 82), (hT130.2.1 83), (hT130.2.1 84), (hT130.2.1 85), (hT130.2.1 86), (hT130.2.1 87), (hT130.2.1 88), (hT130.2.1 89), (hT130.2.1 90), (hT130.2.1 91), (hT130.2.1 92), (q44.2.1 101), (q44.2.1 102), (q44.2.1 103), (q44.2.1 104), (q44.2.1 105), (q44.2.1 106), (q44.2.1 107), (q44.2.1 108), (hT171.2.1 117), (hT171.2.1 118), (q44.2.1 120), G125, G156, trivial⟩) (show LxP (m170.1 7) (m170.1 8) (m170.1 9) (m.1 6) (m170.1 10) by exact hLx) (fun (h : (m170.1 10) = 0) => absurd h (by omega)) (show 1000000 * (8 - (m170.1 10)) + (4000 - (m170.1 8)) < (n : Int) by omega)
                            · skip
                              clear c163
                              clear h162
                              have hf188 : 1 ≤ (m160.1 10) := by omega
                              refine T_ld 234 (.ref 189) rfl (fun _ => rfl) ?_
                              refine T_ld 235 (.int (i32 x91)) rfl (fun _ => rfl) ?_
                              refine T_ld 236 (.int (i32 1)) rfl (fun _ => rfl) ?_
                              refine T_call 239 280 [.ref 189, .int (i32 x91), .int (i32 1)] [] rfl (fun _ => rfl) rfl (c_openBlock w (mO m [(7, (m129.1 7)), (8, (m129.1 8)), (9, (m129.1 9)), (10, (m160.1 10)), (11, (m160.1 11)), (12, (m129.1 12)), (27, (m89.1 27)), (28, (m129.1 28)), (69, (m129.1 69)), (70, (m129.1 70)), (71, (m129.1 71)), (72, (m129.1 72)), (73, (m129.1 73)), (74, (m129.1 74)), (75, (m129.1 75)), (99, (m42.1 99)), (100, (m42.1 100)), (119, (m42.1 119))] [(59, (m42.2 59)), (60, (m89.2 60)), (61, (m89.2 61)), (62, (m89.2 62)), (63, (m89.2 63)), (65, (m129.2 65)), (66, (m129.2 66)), (67, (m129.2 67)), (68, (m129.2 68)), (76, (m129.2 76)), (77, (m129.2 77)), (78, (m129.2 78)), (79, (m129.2 79)), (80, (m129.2 80)), (81, (m129.2 81)), (82, (m129.2 82)), (83, (m129.2 83)), (84, (m129.2 84)), (85, (m129.2 85)), (86, (m129.2 86)), (87, (m129.2 87)), (88, (m129.2 88)), (89, (m129.2 89)), (90, (m129.2 90)), (91, (m129.2 91)), (92, (m129.2 92)), (101, (m42.2 101)), (102, (m42.2 102)), (103, (m42.2 103)), (104, (m42.2 104)), (105, (m42.2 105)), (106, (m42.2 106)), (107, (m42.2 107)), (108, (m42.2 108)), (117, (m42.2 117)), (118, (m42.2 118)), (120, (m42.2 120)), (121, upI (m42.2 121) x91 (m42.1 28)), (122, upI (m42.2 122) x91 (m129.1 28))]) c N D (by omega) (Ty_mO hT rfl rfl ⟨(hT130.1 7), (hT130.1 8), (hT130.1 9), (hT161.1 10), (hT161.1 11), (hT130.1 12), (hT90.1 27), (hT130.1 28), (hT130.1 69), (hT130.1 70), (hT130.1 71), (hT130.1 72), (hT130.1 73), (hT130.1 74), (hT130.1 75), (q44.1 99), (q44.1 100), (q44.1 119), trivial⟩ ⟨(q44.2.1 59), (hT90.2.1 60), (hT90.2.1 61), (hT90.2.1 62), (hT90.2.1 63), (hT130.2.1 65), (hT130.2.1 66), (hT130.2.1 67), (hT130.2.1 68), (hT130.2.1 76), (hT130.2.1 77), (hT130.2.1 78), (hT130.2.1 79), (hT130.2.1 80), (hT130.2.1 81), (hT130.2.1 82), (hT130.2.1 83), (hT130.2.1 84), (hT130.2.1 85), (hT130.2.1 86), (hT130.2.1 87), (hT130.2.1 88), (hT130.2.1 89), (hT130.2.1 90), (hT130.2.1 91), (hT130.2.1 92), (q44.2.1 101), (q44.2.1 102), (q44.2.1 103), (q44.2.1 104), (q44.2.1 105), (q44.2.1 106), (q44.2.1 107), (q44.2.1 108), (q44.2.1 117), (q44.2.1 118), (q44.2.1 120), G125, G156, trivial⟩) x91 1 (r32 (by omega) (by omega)) ⟨by decide, by decide⟩ (show LxP (m129.1 7) (m129.1 8) (m129.1 9) (m.1 6) (m160.1 10) by first | exact hLx | exact (fun _ => hLx (by omega)) | (intro h9; exfalso; omega)) (show (-1) ≤ x91 ∧ x91 ≤ 47 by omega) (show (-1) ≤ (1 : Int) ∧ (1 : Int) ≤ 1 by omega) (fun (h : (m160.1 10) = 0) => absurd h (by omega))) (fun rr189 k190 => ?_)
                              obtain ⟨m191, hT192, h193, h194, c195, rfl⟩ := k190
                              refine ⟨_, _, rfl, ?_⟩
                              refine T_nf2 (st' := []) (l' := [(7, (m191.1 7)), (8, (m191.1 8)), (9, (m191.1 9)), (10, (m191.1 10)), (11, (m191.1 11)), (12, (m191.1 12)), (27, (m89.1 27)), (28, (m129.1 28)), (69, (m129.1 69)), (70, (m129.1 70)), (71, (m129.1 71)), (72, (m129.1 72)), (73, (m129.1 73)), (74, (m129.1 74)), (75, (m129.1 75)), (99, (m42.1 99)), (100, (m42.1 100)), (119, (m191.1 119))]) (a' := [(59, (m42.2 59)), (60, (m89.2 60)), (61, (m89.2 61)), (62, (m89.2 62)), (63, (m89.2 63)), (65, (m129.2 65)), (66, (m129.2 66)), (67, (m129.2 67)), (68, (m129.2 68)), (76, (m129.2 76)), (77, (m129.2 77)), (78, (m129.2 78)), (79, (m129.2 79)), (80, (m129.2 80)), (81, (m129.2 81)), (82, (m129.2 82)), (83, (m129.2 83)), (84, (m129.2 84)), (85, (m129.2 85)), (86, (m129.2 86)), (87, (m129.2 87)), (88, (m129.2 88)), (89, (m129.2 89)), (90, (m129.2 90)), (91, (m129.2 91)), (92, (m129.2 92)), (101, (m42.2 101)), (102, (m42.2 102)), (103, (m42.2 103)), (104, (m42.2 104)), (105, (m42.2 105)), (106, (m42.2 106)), (107, (m42.2 107)), (108, (m42.2 108)), (117, (m191.2 117)), (118, (m191.2 118)), (120, (m42.2 120)), (121, upI (m42.2 121) x91 (m42.1 28)), (122, upI (m42.2 122) x91 (m129.1 28))]) [7, 8, 9, 10, 11, 12, 119] [117, 118] rfl ⟨rfl, rfl, rfl, rfl, rfl, rfl, rfl, rfl, rfl, rfl, rfl, rfl, rfl, rfl, rfl, rfl, rfl, rfl, rfl, rfl, rfl, rfl, rfl, rfl, rfl, rfl, rfl, rfl, rfl, rfl, rfl, rfl, rfl, rfl, rfl, rfl, rfl, rfl, rfl, rfl, rfl, rfl, rfl, rfl, rfl, rfl, rfl, trivial⟩ ⟨rfl, rfl, rfl, rfl, rfl, rfl, rfl, rfl, rfl, rfl, rfl, rfl, rfl, rfl, rfl, rfl, rfl, rfl, rfl, rfl, rfl, rfl, rfl, rfl, rfl, rfl, rfl, rfl, rfl, rfl, rfl, rfl, rfl, rfl, rfl, rfl, rfl, rfl, rfl, rfl, rfl, rfl, rfl, rfl, rfl, rfl, rfl, rfl, rfl, rfl, rfl, rfl, rfl, rfl, rfl, rfl, rfl, rfl, rfl, rfl, rfl, rfl, rfl, rfl, rfl, rfl, rfl, rfl, rfl, rfl, rfl, rfl, rfl, rfl, rfl, rfl, rfl, rfl, rfl, rfl, rfl, rfl, rfl, rfl, rfl, rfl, rfl, rfl, rfl, rfl, rfl, rfl, rfl, rfl, rfl, rfl, rfl, rfl, rfl, rfl, rfl, rfl, rfl, rfl, rfl, rfl, rfl, rfl, rfl, rfl, rfl, rfl, trivial⟩ rfl rfl (by decide) (by decide) ?_
                              have g196 : 0 ≤ m191.1 7 ∧ m191.1 7 ≤ 330 := hT192.1 7
                              have g197 : 0 ≤ m191.1 8 ∧ m191.1 8 ≤ 4000 := hT192.1 8
                              have g198 : 0 ≤ m191.1 9 ∧ m191.1 9 ≤ 4000 := hT192.1 9
                              have g199 : 0 ≤ m191.1 10 ∧ m191.1 10 ≤ 8 := hT192.1 10
                              have g200 : (-1) ≤ m191.1 11 ∧ m191.1 11 ≤ 4000 := hT192.1 11
                              have g201 : (-9223372036854775808) ≤ m191.1 12 ∧ m191.1 12 ≤ 9223372036854775807 := hT192.1 12
                              have g202 : 0 ≤ m191.1 119 ∧ m191.1 119 ≤ 8 := hT192.1 119
                              replace h193 : (m191.1 10) = 0 → (m160.1 10) = 0 := h193
                              replace h194 : LxP (m191.1 7) (m191.1 8) (m191.1 9) (m.1 6) (m191.1 10) := h194
                              have hf203 : 1 ≤ (m191.1 10) := by omega
                              clear c195
                              clear h193
                              have hLx := h194
                              refine T_goto 18 rfl (fun _ => rfl) ?_
                              refine Tm_lv (a := [(0, .ref 189)]) rfl rfl ⟨rfl, trivial⟩ ?_
                              exact ih47 (mO m [(7, (m191.1 7)), (8, (m191.1 8)), (9, (m191.1 9)), (10, (m191.1 10)), (11, (m191.1 11)), (12, (m191.1 12)), (27, (m89.1 27)), (28, (m129.1 28)), (69, (m129.1 69)), (70, (m129.1 70)), (71, (m129.1 71)), (72, (m129.1 72)), (73, (m129.1 73)), (74, (m129.1 74)), (75, (m129.1 75)), (99, (m42.1 99)), (100, (m42.1 100)), (119, (m191.1 119))] [(59, (m42.2 59)), (60, (m89.2 60)), (61, (m89.2 61)), (62, (m89.2 62)), (63, (m89.2 63)), (65, (m129.2 65)), (66, (m129.2 66)), (67, (m129.2 67)), (68, (m129.2 68)), (76, (m129.2 76)), (77, (m129.2 77)), (78, (m129.2 78)), (79, (m129.2 79)), (80, (m129.2 80)), (81, (m129.2 81)), (82, (m129.2 82)), (83, (m129.2 83)), (84, (m129.2 84)), (85, (m129.2 85)), (86, (m129.2 86)), (87, (m129.2 87)), (88, (m129.2 88)), (89, (m129.2 89)), (90, (m129.2 90)), (91, (m129.2 91)), (92, (m129.2 92)), (101, (m42.2 101)), (102, (m42.2 102)), (103, (m42.2 103)), (104, (m42.2 104)), (105, (m42.2 105)), (106, (m42.2 106)), (107, (m42.2 107)), (108, (m42.2 108)), (117, (m191.2 117)), (118, (m191.2 118)), (120, (m42.2 120)), (121, upI (m42.2 121) x91 (m42.1 28)), (122, upI (m42.2 122) x91 (m129.1 28))]) (Ty_mO hT rfl rfl ⟨(hT192.1 7), (hT192.1 8), (hT192.1 9), (hT192.1 10), (hT192.1 11), (hT192.1 12), (hT90.1 27), (hT130.1 28), (hT130.1 69), (hT130.1 70), (hT130.1 71), (hT130.1 72), (hT130.1 73), (hT130.1 74), (hT130.1 75), (q44.1 99), (q44.1 100), (hT192.1 119), trivial⟩ ⟨(q44.2.1 59), (hT90.2.1 60), (hT90.2.1 61), (hT90.2.1 62), (hT90.2.1 63), (hT130.2.1 65), (hT130.2.1 66), (hT130.2.1 67), (hT130.2.1 68), (hT130.2.1 76), (hT130.2.1 77), (hT130.2.1 78), (hT130.2.1 79), (hT130.2.1 80), (hT130.2.1 81), (hT130.2.1 82), (hT130.2.1 83), (hT130.2.1 84), (hT130.2.1 85), (hT130.2.1 86), (hT130.2.1 87), (hT130.2.1 88), (hT130.2.1 89), (hT130.2.1 90), (hT130.2.1 91), (hT130.2.1 92), (q44.2.1 101), (q44.2.1 102), (q44.2.1 103), (q44.2.1 104), (q44.2.1 105), (q44.2.1 106), (q44.2.1 107), (q44.2.1 108), (hT192.2.1 117), (hT192.2.1 118), (q44.2.1 120), G125, G156, trivial⟩) (show LxP (m191.1 7) (m191.1 8) (m191.1 9) (m.1 6) (m191.1 10) by exact hLx) (fun (h : (m191.1 10) = 0) => absurd h (by omega)) (show 1000000 * (8 - (m191.1 10)) + (4000 - (m191.1 8)) < (n : Int) by omega)
                          · skip
                            clear c133
                            clear h131
                            replace h132 : LxP (m129.1 7) (m129.1 8) (m129.1 9) (m.1 6) (m129.1 10) := h132
                            have hLx := h132
                            have hf204 : 1 ≤ (m129.1 10) := by omega
                            refine T_gf 200 (.ref 281) rfl rfl rfl rfl rfl rfl ?_
                            refine T_ld 201 (.int (i32 x91)) rfl (fun _ => rfl) ?_
                            refine T_gf 205 (.int (i32 (m129.1 28))) rfl rfl rfl rfl rfl rfl ?_
                            have G205 : ∀ j, 0 ≤ (upI (m42.2 122) x91 (m129.1 28)) j ∧ (upI (m42.2 122) x91 (m129.1 28)) j ≤ 800 := upI_rg (q44.2.1 122) ⟨by omega, by omega⟩
                            refine T_iast (a' := [(59, (m42.2 59)), (60, (m89.2 60)), (61, (m89.2 61)), (62, (m89.2 62)), (63, (m89.2 63)), (65, (m129.2 65)), (66, (m129.2 66)), (67, (m129.2 67)), (68, (m129.2 68)), (76, (m129.2 76)), (77, (m129.2 77)), (78, (m129.2 78)), (79, (m129.2 79)), (80, (m129.2 80)), (81, (m129.2 81)), (82, (m129.2 82)), (83, (m129.2 83)), (84, (m129.2 84)), (85, (m129.2 85)), (86, (m129.2 86)), (87, (m129.2 87)), (88, (m129.2 88)), (89, (m129.2 89)), (90, (m129.2 90)), (91, (m129.2 91)), (92, (m129.2 92)), (101, (m42.2 101)), (102, (m42.2 102)), (103, (m42.2 103)), (104, (m42.2 104)), (105, (m42.2 105)), (106, (m42.2 106)), (107, (m42.2 107)), (108, (m42.2 108)), (117, (m42.2 117)), (118, (m42.2 118)), (120, (m42.2 120)), (121, upI (m42.2 121) x91 (m42.1 28)), (122, upI (m42.2 122) x91 (m129.1 28))]) 206 122 (m42.2 122) rfl rfl rfl (by omega) (show x91 < (48 : Int) by omega) rfl rfl ?_
                            refine T_gf 210 (.int (i32 (m129.1 10))) rfl rfl rfl rfl rfl rfl ?_
                            refine T_if 233 213 rfl rfl rfl (r32 (by omega) (by omega)) (fun (h206 : (m129.1 10) ≠ 0) => ?_) (fun (h206 : ¬ ((m129.1 10) ≠ 0)) => by exfalso; omega)
                            refine T_ld 234 (.ref 189) rfl (fun _ => rfl) ?_
                            refine T_ld 235 (.int (i32 x91)) rfl (fun _ => rfl) ?_
                            refine T_ld 236 (.int (i32 1)) rfl (fun _ => rfl) ?_
                            refine T_call 239 280 [.ref 189, .int (i32 x91), .int (i32 1)] [] rfl (fun _ => rfl) rfl (c_openBlock w (mO m [(7, (m129.1 7)), (8, (m129.1 8)), (9, (m129.1 9)), (10, (m129.1 10)), (11, (m129.1 11)), (12, (m129.1 12)), (27, (m89.1 27)), (28, (m129.1 28)), (69, (m129.1 69)), (70, (m129.1 70)), (71, (m129.1 71)), (72, (m129.1 72)), (73, (m129.1 73)), (74, (m129.1 74)), (75, (m129.1 75)), (99, (m42.1 99)), (100, (m42.1 100)), (119, (m42.1 119))] [(59, (m42.2 59)), (60, (m89.2 60)), (61, (m89.2 61)), (62, (m89.2 62)), (63, (m89.2 63)), (65, (m129.2 65)), (66, (m129.2 66)), (67, (m129.2 67)), (68, (m129.2 68)), (76, (m129.2 76)), (77, (m129.2 77)), (78, (m129.2 78)), (79, (m129.2 79)), (80, (m129.2 80)), (81, (m129.2 81)), (82, (m129.2 82)), (83, (m129.2 83)), (84, (m129.2 84)), (85, (m129.2 85)), (86, (m129.2 86)), (87, (m129.2 87)), (88, (m129.2 88)), (89, (m129.2 89)), (90, (m129.2 90)), (91, (m129.2 91)), (92, (m129.2 92)), (101, (m42.2 101)), (102, (m42.2 102)), (103, (m42.2 103)), (104, (m42.2 104)), (105, (m42.2 105)), (106, (m42.2 106)), (107, (m42.2 107)), (108, (m42.2 108)), (117, (m42.2 117)), (118, (m42.2 118)), (120, (m42.2 120)), (121, upI (m42.2 121) x91 (m42.1 28)), (122, upI (m42.2 122) x91 (m129.1 28))]) c N D (by omega) (Ty_mO hT rfl rfl ⟨(hT130.1 7), (hT130.1 8), (hT130.1 9), (hT130.1 10), (hT130.1 11), (hT130.1 12), (hT90.1 27), (hT130.1 28), (hT130.1 69), (hT130.1 70), (hT130.1 71), (hT130.1 72), (hT130.1 73), (hT130.1 74), (hT130.1 75), (q44.1 99), (q44.1 100), (q44.1 119), trivial⟩ ⟨(q44.2.1 59), (hT90.2.1 60), (hT90.2.1 61), (hT90.2.1 62), (hT90.2.1 63), (hT130.2.1 65), (hT130.2.1 66), (hT130.2.1 67), (hT130.2.1 68), (hT130.2.1 76), (hT130.2.1 77), (hT130.2.1 78), (hT130.2.1 79), (hT130.2.1 80), (hT130.2.1 81), (hT130.2.1 82), (hT130.2.1 83), (hT130.2.1 84), (hT130.2.1 85), (hT130.2.1 86), (hT130.2.1 87), (hT130.2.1 88), (hT130.2.1 89), (hT130.2.1 90), (hT130.2.1 91), (hT130.2.1 92), (q44.2.1 101), (q44.2.1 102), (q44.2.1 103), (q44.2.1 104), (q44.2.1 105), (q44.2.1 106), (q44.2.1 107), (q44.2.1 108), (q44.2.1 117), (q44.2.1 118), (q44.2.1 120), G125, G205, trivial⟩) x91 1 (r32 (by omega) (by omega)) ⟨by decide, by decide⟩ (show LxP (m129.1 7) (m129.1 8) (m129.1 9) (m.1 6) (m129.1 10) by first | exact hLx | exact (fun _ => hLx (by omega)) | (intro h9; exfalso; omega)) (show (-1) ≤ x91 ∧ x91 ≤ 47 by omega) (show (-1) ≤ (1 : Int) ∧ (1 : Int) ≤ 1 by omega) (fun (h : (m129.1 10) = 0) => absurd h (by omega))) (fun rr207 k208 => ?_)
                            obtain ⟨m209, hT210, h211, h212, c213, rfl⟩ := k208
                            refine ⟨_, _, rfl, ?_⟩
                            refine T_nf2 (st' := []) (l' := [(7, (m209.1 7)), (8, (m209.1 8)), (9, (m209.1 9)), (10, (m209.1 10)), (11, (m209.1 11)), (12, (m209.1 12)), (27, (m89.1 27)), (28, (m129.1 28)), (69, (m129.1 69)), (70, (m129.1 70)), (71, (m129.1 71)), (72, (m129.1 72)), (73, (m129.1 73)), (74, (m129.1 74)), (75, (m129.1 75)), (99, (m42.1 99)), (100, (m42.1 100)), (119, (m209.1 119))]) (a' := [(59, (m42.2 59)), (60, (m89.2 60)), (61, (m89.2 61)), (62, (m89.2 62)), (63, (m89.2 63)), (65, (m129.2 65)), (66, (m129.2 66)), (67, (m129.2 67)), (68, (m129.2 68)), (76, (m129.2 76)), (77, (m129.2 77)), (78, (m129.2 78)), (79, (m129.2 79)), (80, (m129.2 80)), (81, (m129.2 81)), (82, (m129.2 82)), (83, (m129.2 83)), (84, (m129.2 84)), (85, (m129.2 85)), (86, (m129.2 86)), (87, (m129.2 87)), (88, (m129.2 88)), (89, (m129.2 89)), (90, (m129.2 90)), (91, (m129.2 91)), (92, (m129.2 92)), (101, (m42.2 101)), (102, (m42.2 102)), (103, (m42.2 103)), (104, (m42.2 104)), (105, (m42.2 105)), (106, (m42.2 106)), (107, (m42.2 107)), (108, (m42.2 108)), (117, (m209.2 117)), (118, (m209.2 118)), (120, (m42.2 120)), (121, upI (m42.2 121) x91 (m42.1 28)), (122, upI (m42.2 122) x91 (m129.1 28))]) [7, 8, 9, 10, 11, 12, 119] [117, 118] rfl ⟨rfl, rfl, rfl, rfl, rfl, rfl, rfl, rfl, rfl, rfl, rfl, rfl, rfl, rfl, rfl, rfl, rfl, rfl, rfl, rfl, rfl, rfl, rfl, rfl, rfl, rfl, rfl, rfl, rfl, rfl, rfl, rfl, rfl, rfl, rfl, rfl, rfl, rfl, rfl, rfl, rfl, rfl, rfl, rfl, rfl, rfl, rfl, trivial⟩ ⟨rfl, rfl, rfl, rfl, rfl, rfl, rfl, rfl, rfl, rfl, rfl, rfl, rfl, rfl, rfl, rfl, rfl, rfl, rfl, rfl, rfl, rfl, rfl, rfl, rfl, rfl, rfl, rfl, rfl, rfl, rfl, rfl, rfl, rfl, rfl, rfl, rfl, rfl, rfl, rfl, rfl, rfl, rfl, rfl, rfl, rfl, rfl, rfl, rfl, rfl, rfl, rfl, rfl, rfl, rfl, rfl, rfl, rfl, rfl, rfl, rfl, rfl, rfl, rfl, rfl, rfl, rfl, rfl, rfl, rfl, rfl, rfl, rfl, rfl, rfl, rfl, rfl, rfl, rfl, rfl, rfl, rfl, rfl, rfl, rfl, rfl, rfl, rfl, rfl, rfl, rfl, rfl, rfl, rfl, rfl, rfl, rfl, rfl, rfl, rfl, rfl, rfl, rfl, rfl, rfl, rfl, rfl, rfl, rfl, rfl, rfl, rfl, trivial⟩ rfl rfl (by decide) (by decide) ?_
                            have g214 : 0 ≤ m209.1 7 ∧ m209.1 7 ≤ 330 := hT210.1 7
                            have g215 : 0 ≤ m209.1 8 ∧ m209.1 8 ≤ 4000 := hT210.1 8
                            have g216 : 0 ≤ m209.1 9 ∧ m209.1 9 ≤ 4000 := hT210.1 9
                            have g217 : 0 ≤ m209.1 10 ∧ m209.1 10 ≤ 8 := hT210.1 10
                            have g218 : (-1) ≤ m209.1 11 ∧ m209.1 11 ≤ 4000 := hT210.1 11
                            have g219 : (-9223372036854775808) ≤ m209.1 12 ∧ m209.1 12 ≤ 9223372036854775807 := hT210.1 12
                            have g220 : 0 ≤ m209.1 119 ∧ m209.1 119 ≤ 8 := hT210.1 119
                            replace h211 : (m209.1 10) = 0 → (m129.1 10) = 0 := h211
                            replace h212 : LxP (m209.1 7) (m209.1 8) (m209.1 9) (m.1 6) (m209.1 10) := h212
                            have hf221 : 1 ≤ (m209.1 10) := by omega
                            clear c213
                            clear h211
                            have hLx := h212
                            refine T_goto 18 rfl (fun _ => rfl) ?_
                            refine Tm_lv (a := [(0, .ref 189)]) rfl rfl ⟨rfl, trivial⟩ ?_
                            exact ih47 (mO m [(7, (m209.1 7)), (8, (m209.1 8)), (9, (m209.1 9)), (10, (m209.1 10)), (11, (m209.1 11)), (12, (m209.1 12)), (27, (m89.1 27)), (28, (m129.1 28)), (69, (m129.1 69)), (70, (m129.1 70)), (71, (m129.1 71)), (72, (m129.1 72)), (73, (m129.1 73)), (74, (m129.1 74)), (75, (m129.1 75)), (99, (m42.1 99)), (100, (m42.1 100)), (119, (m209.1 119))] [(59, (m42.2 59)), (60, (m89.2 60)), (61, (m89.2 61)), (62, (m89.2 62)), (63, (m89.2 63)), (65, (m129.2 65)), (66, (m129.2 66)), (67, (m129.2 67)), (68, (m129.2 68)), (76, (m129.2 76)), (77, (m129.2 77)), (78, (m129.2 78)), (79, (m129.2 79)), (80, (m129.2 80)), (81, (m129.2 81)), (82, (m129.2 82)), (83, (m129.2 83)), (84, (m129.2 84)), (85, (m129.2 85)), (86, (m129.2 86)), (87, (m129.2 87)), (88, (m129.2 88)), (89, (m129.2 89)), (90, (m129.2 90)), (91, (m129.2 91)), (92, (m129.2 92)), (101, (m42.2 101)), (102, (m42.2 102)), (103, (m42.2 103)), (104, (m42.2 104)), (105, (m42.2 105)), (106, (m42.2 106)), (107, (m42.2 107)), (108, (m42.2 108)), (117, (m209.2 117)), (118, (m209.2 118)), (120, (m42.2 120)), (121, upI (m42.2 121) x91 (m42.1 28)), (122, upI (m42.2 122) x91 (m129.1 28))]) (Ty_mO hT rfl rfl ⟨(hT210.1 7), (hT210.1 8), (hT210.1 9), (hT210.1 10), (hT210.1 11), (hT210.1 12), (hT90.1 27), (hT130.1 28), (hT130.1 69), (hT130.1 70), (hT130.1 71), (hT130.1 72), (hT130.1 73), (hT130.1 74), (hT130.1 75), (q44.1 99), (q44.1 100), (hT210.1 119), trivial⟩ ⟨(q44.2.1 59), (hT90.2.1 60), (hT90.2.1 61), (hT90.2.1 62), (hT90.2.1 63), (hT130.2.1 65), (hT130.2.1 66), (hT130.2.1 67), (hT130.2.1 68), (hT130.2.1 76), (hT130.2.1 77), (hT130.2.1 78), (hT130.2.1 79), (hT130.2.1 80), (hT130.2.1 81), (hT130.2.1 82), (hT130.2.1 83), (hT130.2.1 84), (hT130.2.1 85), (hT130.2.1 86), (hT130.2.1 87), (hT130.2.1 88), (hT130.2.1 89), (hT130.2.1 90), (hT130.2.1 91), (hT130.2.1 92), (q44.2.1 101), (q44.2.1 102), (q44.2.1 103), (q44.2.1 104), (q44.2.1 105), (q44.2.1 106), (q44.2.1 107), (q44.2.1 108), (hT210.2.1 117), (hT210.2.1 118), (q44.2.1 120), G125, G205, trivial⟩) (show LxP (m209.1 7) (m209.1 8) (m209.1 9) (m.1 6) (m209.1 10) by exact hLx) (fun (h : (m209.1 10) = 0) => absurd h (by omega)) (show 1000000 * (8 - (m209.1 10)) + (4000 - (m209.1 8)) < (n : Int) by omega)
                        · skip
                          replace h119 : LxP y107 y109 y111 (m.1 6) y113 := h119
                          have hLx := h119
                          clear h120
                          replace h121 : (m42.1 8) ≤ y109 := h121
                          clear h122
                          have hf222 : 1 ≤ y113 := by omega
                          refine T_gf 179 (.ref 280) rfl rfl rfl rfl rfl rfl ?_
                          refine T_ld 180 (.int (i32 x91)) rfl (fun _ => rfl) ?_
                          refine T_gf 184 (.int (i32 (m42.1 28))) rfl rfl rfl rfl rfl rfl ?_
                          have G223 : ∀ j, 0 ≤ (upI (m42.2 121) x91 (m42.1 28)) j ∧ (upI (m42.2 121) x91 (m42.1 28)) j ≤ 800 := upI_rg (q44.2.1 121) ⟨by omega, by omega⟩
                          refine T_iast (a' := [(59, (m42.2 59)), (60, (m89.2 60)), (61, (m89.2 61)), (62, (m89.2 62)), (63, (m89.2 63)), (65, (m42.2 65)), (66, (m42.2 66)), (67, (m42.2 67)), (68, (m42.2 68)), (76, (m42.2 76)), (77, (m42.2 77)), (78, (m42.2 78)), (79, (m42.2 79)), (80, (m42.2 80)), (81, (m42.2 81)), (82, (m42.2 82)), (83, (m42.2 83)), (84, (m42.2 84)), (85, (m42.2 85)), (86, (m42.2 86)), (87, (m42.2 87)), (88, (m42.2 88)), (89, (m42.2 89)), (90, (m42.2 90)), (91, (m42.2 91)), (92, (m42.2 92)), (101, (m42.2 101)), (102, (m42.2 102)), (103, (m42.2 103)), (104, (m42.2 104)), (105, (m42.2 105)), (106, (m42.2 106)), (107, (m42.2 107)), (108, (m42.2 108)), (117, (m42.2 117)), (118, (m42.2 118)), (120, (m42.2 120)), (121, upI (m42.2 121) x91 (m42.1 28)), (122, (m42.2 122))]) 185 121 (m42.2 121) rfl rfl rfl (by omega) (show x91 < (48 : Int) by omega) rfl rfl ?_
                          refine T_gf 189 (.int (i32 y113)) rfl rfl rfl rfl rfl rfl ?_
                          refine T_if 196 192 rfl rfl rfl (r32 (by omega) (by omega)) (fun (h224 : y113 ≠ 0) => ?_) (fun (h224 : ¬ (y113 ≠ 0)) => by exfalso; omega)
                          refine T_gf 200 (.ref 281) rfl rfl rfl rfl rfl rfl ?_
                          refine T_ld 201 (.int (i32 x91)) rfl (fun _ => rfl) ?_
                          refine T_gf 205 (.int (i32 (m42.1 28))) rfl rfl rfl rfl rfl rfl ?_
                          have G225 : ∀ j, 0 ≤ (upI (m42.2 122) x91 (m42.1 28)) j ∧ (upI (m42.2 122) x91 (m42.1 28)) j ≤ 800 := upI_rg (q44.2.1 122) ⟨by omega, by omega⟩
                          refine T_iast (a' := [(59, (m42.2 59)), (60, (m89.2 60)), (61, (m89.2 61)), (62, (m89.2 62)), (63, (m89.2 63)), (65, (m42.2 65)), (66, (m42.2 66)), (67, (m42.2 67)), (68, (m42.2 68)), (76, (m42.2 76)), (77, (m42.2 77)), (78, (m42.2 78)), (79, (m42.2 79)), (80, (m42.2 80)), (81, (m42.2 81)), (82, (m42.2 82)), (83, (m42.2 83)), (84, (m42.2 84)), (85, (m42.2 85)), (86, (m42.2 86)), (87, (m42.2 87)), (88, (m42.2 88)), (89, (m42.2 89)), (90, (m42.2 90)), (91, (m42.2 91)), (92, (m42.2 92)), (101, (m42.2 101)), (102, (m42.2 102)), (103, (m42.2 103)), (104, (m42.2 104)), (105, (m42.2 105)), (106, (m42.2 106)), (107, (m42.2 107)), (108, (m42.2 108)), (117, (m42.2 117)), (118, (m42.2 118)), (120, (m42.2 120)), (121, upI (m42.2 121) x91 (m42.1 28)), (122, upI (m42.2 122) x91 (m42.1 28))]) 206 122 (m42.2 122) rfl rfl rfl (by omega) (show x91 < (48 : Int) by omega) rfl rfl ?_
                          refine T_gf 210 (.int (i32 y113)) rfl rfl rfl rfl rfl rfl ?_
                          refine T_if 233 213 rfl rfl rfl (r32 (by omega) (by omega)) (fun (h226 : y113 ≠ 0) => ?_) (fun (h226 : ¬ (y113 ≠ 0)) => by exfalso; omega)
                          refine T_ld 234 (.ref 189) rfl (fun _ => rfl) ?_
                          refine T_ld 235 (.int (i32 x91)) rfl (fun _ => rfl) ?_
                          refine T_ld 236 (.int (i32 1)) rfl (fun _ => rfl) ?_
                          refine T_call 239 280 [.ref 189, .int (i32 x91), .int (i32 1)] [] rfl (fun _ => rfl) rfl (c_openBlock w (mO m [(7, y107), (8, y109), (9, y111), (10, y113), (11, y115), (12, y117), (27, (m89.1 27)), (28, (m42.1 28)), (69, (m42.1 69)), (70, (m42.1 70)), (71, (m42.1 71)), (72, (m42.1 72)), (73, (m42.1 73)), (74, (m42.1 74)), (75, (m42.1 75)), (99, (m42.1 99)), (100, (m42.1 100)), (119, (m42.1 119))] [(59, (m42.2 59)), (60, (m89.2 60)), (61, (m89.2 61)), (62, (m89.2 62)), (63, (m89.2 63)), (65, (m42.2 65)), (66, (m42.2 66)), (67, (m42.2 67)), (68, (m42.2 68)), (76, (m42.2 76)), (77, (m42.2 77)), (78, (m42.2 78)), (79, (m42.2 79)), (80, (m42.2 80)), (81, (m42.2 81)), (82, (m42.2 82)), (83, (m42.2 83)), (84, (m42.2 84)), (85, (m42.2 85)), (86, (m42.2 86)), (87, (m42.2 87)), (88, (m42.2 88)), (89, (m42.2 89)), (90, (m42.2 90)), (91, (m42.2 91)), (92, (m42.2 92)), (101, (m42.2 101)), (102, (m42.2 102)), (103, (m42.2 103)), (104, (m42.2 104)), (105, (m42.2 105)), (106, (m42.2 106)), (107, (m42.2 107)), (108, (m42.2 108)), (117, (m42.2 117)), (118, (m42.2 118)), (120, (m42.2 120)), (121, upI (m42.2 121) x91 (m42.1 28)), (122, upI (m42.2 122) x91 (m42.1 28))]) c N D (by omega) (Ty_mO hT rfl rfl ⟨g108, g110, g112, g114, g116, g118, (hT90.1 27), (q44.1 28), (q44.1 69), (q44.1 70), (q44.1 71), (q44.1 72), (q44.1 73), (q44.1 74), (q44.1 75), (q44.1 99), (q44.1 100), (q44.1 119), trivial⟩ ⟨(q44.2.1 59), (hT90.2.1 60), (hT90.2.1 61), (hT90.2.1 62), (hT90.2.1 63), (q44.2.1 65), (q44.2.1 66), (q44.2.1 67), (q44.2.1 68), (q44.2.1 76), (q44.2.1 77), (q44.2.1 78), (q44.2.1 79), (q44.2.1 80), (q44.2.1 81), (q44.2.1 82), (q44.2.1 83), (q44.2.1 84), (q44.2.1 85), (q44.2.1 86), (q44.2.1 87), (q44.2.1 88), (q44.2.1 89), (q44.2.1 90), (q44.2.1 91), (q44.2.1 92), (q44.2.1 101), (q44.2.1 102), (q44.2.1 103), (q44.2.1 104), (q44.2.1 105), (q44.2.1 106), (q44.2.1 107), (q44.2.1 108), (q44.2.1 117), (q44.2.1 118), (q44.2.1 120), G223, G225, trivial⟩) x91 1 (r32 (by omega) (by omega)) ⟨by decide, by decide⟩ (show LxP y107 y109 y111 (m.1 6) y113 by first | exact hLx | exact (fun _ => hLx (by omega)) | (intro h9; exfalso; omega)) (show (-1) ≤ x91 ∧ x91 ≤ 47 by omega) (show (-1) ≤ (1 : Int) ∧ (1 : Int) ≤ 1 by omega) (fun (h : y113 = 0) => absurd h (by omega))) (fun rr227 k228 => ?_)
                          obtain ⟨m229, hT230, h231, h232, c233, rfl⟩ := k228
                          refine ⟨_, _, rfl, ?_⟩
                          refine T_nf2 (st' := []) (l' := [(7, (m229.1 7)), (8, (m229.1 8)), (9, (m229.1 9)), (10, (m229.1 10)), (11, (m229.1 11)), (12, (m229.1 12)), (27, (m89.1 27)), (28, (m42.1 28)), (69, (m42.1 69)), (70, (m42.1 70)), (71, (m42.1 71)), (72, (m42.1 72)), (73, (m42.1 73)), (74, (m42.1 74)), (75, (m42.1 75)), (99, (m42.1 99)), (100, (m42.1 100)), (119, (m229.1 119))]) (a' := [(59, (m42.2 59)), (60, (m89.2 60)), (61, (m89.2 61)), (62, (m89.2 62)), (63, (m89.2 63)), (65, (m42.2 65)), (66, (m42.2 66)), (67, (m42.2 67)), (68, (m42.2 68)), (76, (m42.2 76)), (77, (m42.2 77)), (78, (m42.2 78)), (79, (m42.2 79)), (80, (m42.2 80)), (81, (m42.2 81)), (82, (m42.2 82)), (83, (m42.2 83)), (84, (m42.2 84)), (85, (m42.2 85)), (86, (m42.2 86)), (87, (m42.2 87)), (88, (m42.2 88)), (89, (m42.2 89)), (90, (m42.2 90)), (91, (m42.2 91)), (92, (m42.2 92)), (101, (m42.2 101)), (102, (m42.2 102)), (103, (m42.2 103)), (104, (m42.2 104)), (105, (m42.2 105)), (106, (m42.2 106)), (107, (m42.2 107)), (108, (m42.2 108)), (117, (m229.2 117)), (118, (m229.2 118)), (120, (m42.2 120)), (121, upI (m42.2 121) x91 (m42.1 28)), (122, upI (m42.2 122) x91 (m42.1 28))]) [7, 8, 9, 10, 11, 12, 119] [117, 118] rfl ⟨rfl, rfl, rfl, rfl, rfl, rfl, rfl, rfl, rfl, rfl, rfl, rfl, rfl, rfl, rfl, rfl, rfl, rfl, rfl, rfl, rfl, rfl, rfl, rfl, rfl, rfl, rfl, rfl, rfl, rfl, rfl, rfl, rfl, rfl, rfl, rfl, rfl, rfl, rfl, rfl, rfl, rfl, rfl, rfl, rfl, rfl, rfl, trivial⟩ ⟨rfl, rfl, rfl, rfl, rfl, rfl, rfl, rfl, rfl, rfl, rfl, rfl, rfl, rfl, rfl, rfl, rfl, rfl, rfl, rfl, rfl, rfl, rfl, rfl, rfl, rfl, rfl, rfl, rfl, rfl, rfl, rfl, rfl, rfl, rfl, rfl, rfl, rfl, rfl, rfl, rfl, rfl, rfl, rfl, rfl, rfl, rfl, rfl, rfl, rfl, rfl, rfl, rfl, rfl, rfl, rfl, rfl, rfl, rfl, rfl, rfl, rfl, rfl, rfl, rfl, rfl, rfl, rfl, rfl, rfl, rfl, rfl, rfl, rfl, rfl, rfl, rfl, rfl, rfl, rfl, rfl, rfl, rfl, rfl, rfl, rfl, rfl, rfl, rfl, rfl, rfl, rfl, rfl, rfl, rfl, rfl, rfl, rfl, rfl, rfl, rfl, rfl, rfl, rfl, rfl, rfl, rfl, rfl, rfl, rfl, rfl, rfl, trivial⟩ rfl rfl (by decide) (by decide) ?_
                          have g234 : 0 ≤ m229.1 7 ∧ m229.1 7 ≤ 330 := hT230.1 7
                          have g235 : 0 ≤ m229.1 8 ∧ m229.1 8 ≤ 4000 := hT230.1 8
                          have g236 : 0 ≤ m229.1 9 ∧ m229.1 9 ≤ 4000 := hT230.1 9
                          have g237 : 0 ≤ m229.1 10 ∧ m229.1 10 ≤ 8 := hT230.1 10
                          have g238 : (-1) ≤ m229.1 11 ∧ m229.1 11 ≤ 4000 := hT230.1 11
                          have g239 : (-9223372036854775808) ≤ m229.1 12 ∧ m229.1 12 ≤ 9223372036854775807 := hT230.1 12
                          have g240 : 0 ≤ m229.1 119 ∧ m229.1 119 ≤ 8 := hT230.1 119
                          replace h231 : (m229.1 10) = 0 → y113 = 0 := h231
                          replace h232 : LxP (m229.1 7) (m229.1 8) (m229.1 9) (m.1 6) (m229.1 10) := h232
                          have hf241 : 1 ≤ (m229.1 10) := by omega
                          clear c233
                          clear h231
                          have hLx := h232
                          refine T_goto 18 rfl (fun _ => rfl) ?_
                          refine Tm_lv (a := [(0, .ref 189)]) rfl rfl ⟨rfl, trivial⟩ ?_
                          exact ih47 (mO m [(7, (m229.1 7)), (8, (m229.1 8)), (9, (m229.1 9)), (10, (m229.1 10)), (11, (m229.1 11)), (12, (m229.1 12)), (27, (m89.1 27)), (28, (m42.1 28)), (69, (m42.1 69)), (70, (m42.1 70)), (71, (m42.1 71)), (72, (m42.1 72)), (73, (m42.1 73)), (74, (m42.1 74)), (75, (m42.1 75)), (99, (m42.1 99)), (100, (m42.1 100)), (119, (m229.1 119))] [(59, (m42.2 59)), (60, (m89.2 60)), (61, (m89.2 61)), (62, (m89.2 62)), (63, (m89.2 63)), (65, (m42.2 65)), (66, (m42.2 66)), (67, (m42.2 67)), (68, (m42.2 68)), (76, (m42.2 76)), (77, (m42.2 77)), (78, (m42.2 78)), (79, (m42.2 79)), (80, (m42.2 80)), (81, (m42.2 81)), (82, (m42.2 82)), (83, (m42.2 83)), (84, (m42.2 84)), (85, (m42.2 85)), (86, (m42.2 86)), (87, (m42.2 87)), (88, (m42.2 88)), (89, (m42.2 89)), (90, (m42.2 90)), (91, (m42.2 91)), (92, (m42.2 92)), (101, (m42.2 101)), (102, (m42.2 102)), (103, (m42.2 103)), (104, (m42.2 104)), (105, (m42.2 105)), (106, (m42.2 106)), (107, (m42.2 107)), (108, (m42.2 108)), (117, (m229.2 117)), (118, (m229.2 118)), (120, (m42.2 120)), (121, upI (m42.2 121) x91 (m42.1 28)), (122, upI (m42.2 122) x91 (m42.1 28))]) (Ty_mO hT rfl rfl ⟨(hT230.1 7), (hT230.1 8), (hT230.1 9), (hT230.1 10), (hT230.1 11), (hT230.1 12), (hT90.1 27), (q44.1 28), (q44.1 69), (q44.1 70), (q44.1 71), (q44.1 72), (q44.1 73), (q44.1 74), (q44.1 75), (q44.1 99), (q44.1 100), (hT230.1 119), trivial⟩ ⟨(q44.2.1 59), (hT90.2.1 60), (hT90.2.1 61), (hT90.2.1 62), (hT90.2.1 63), (q44.2.1 65), (q44.2.1 66), (q44.2.1 67), (q44.2.1 68), (q44.2.1 76), (q44.2.1 77), (q44.2.1 78), (q44.2.1 79), (q44.2.1 80), (q44.2.1 81), (q44.2.1 82), (q44.2.1 83), (q44.2.1 84), (q44.2.1 85), (q44.2.1 86), (q44.2.1 87), (q44.2.1 88), (q44.2.1 89), (q44.2.1 90), (q44.2.1 91), (q44.2.1 92), (q44.2.1 101), (q44.2.1 102), (q44.2.1 103), (q44.2.1 104), (q44.2.1 105), (q44.2.1 106), (q44.2.1 107), (q44.2.1 108), (hT230.2.1 117), (hT230.2.1 118), (q44.2.1 120), G223, G225, trivial⟩) (show LxP (m229.1 7) (m229.1 8) (m229.1 9) (m.1 6) (m229.1 10) by exact hLx) (fun (h : (m229.1 10) = 0) => absurd h (by omega)) (show 1000000 * (8 - (m229.1 10)) + (4000 - (m229.1 8)) < (n : Int) by omega)
                      · skip
                        clear c94
                        clear h93
                        have hf242 : 1 ≤ (m89.1 10) := by omega
                        refine T_sto 171 [(1, .int (i32 x91)), (0, .ref 189)] rfl (fun _ => rfl) ?_
                        refine T_ld 172 (.ref 189) rfl (fun _ => rfl) ?_
                        refine T_call 175 212 [.ref 189] [] rfl (fun _ => rfl) rfl (c_next w (mO m [(7, (m42.1 7)), (8, (m42.1 8)), (9, (m42.1 9)), (10, (m89.1 10)), (11, (m89.1 11)), (12, (m42.1 12)), (27, (m89.1 27)), (28, (m42.1 28)), (69, (m42.1 69)), (70, (m42.1 70)), (71, (m42.1 71)), (72, (m42.1 72)), (73, (m42.1 73)), (74, (m42.1 74)), (75, (m42.1 75)), (99, (m42.1 99)), (100, (m42.1 100)), (119, (m42.1 119))] [(59, (m42.2 59)), (60, (m89.2 60)), (61, (m89.2 61)), (62, (m89.2 62)), (63, (m89.2 63)), (65, (m42.2 65)), (66, (m42.2 66)), (67, (m42.2 67)), (68, (m42.2 68)), (76, (m42.2 76)), (77, (m42.2 77)), (78, (m42.2 78)), (79, (m42.2 79)), (80, (m42.2 80)), (81, (m42.2 81)), (82, (m42.2 82)), (83, (m42.2 83)), (84, (m42.2 84)), (85, (m42.2 85)), (86, (m42.2 86)), (87, (m42.2 87)), (88, (m42.2 88)), (89, (m42.2 89)), (90, (m42.2 90)), (91, (m42.2 91)), (92, (m42.2 92)), (101, (m42.2 101)), (102, (m42.2 102)), (103, (m42.2 103)), (104, (m42.2 104)), (105, (m42.2 105)), (106, (m42.2 106)), (107, (m42.2 107)), (108, (m42.2 108)), (117, (m42.2 117)), (118, (m42.2 118)), (120, (m42.2 120)), (121, (m42.2 121)), (122, (m42.2 122))]) c N D (by omega) (Ty_mO hT rfl rfl ⟨(q44.1 7), (q44.1 8), (q44.1 9), (hT90.1 10), (hT90.1 11), (q44.1 12), (hT90.1 27), (q44.1 28), (q44.1 69), (q44.1 70), (q44.1 71), (q44.1 72), (q44.1 73), (q44.1 74), (q44.1 75), (q44.1 99), (q44.1 100), (q44.1 119), trivial⟩ ⟨(q44.2.1 59), (hT90.2.1 60), (hT90.2.1 61), (hT90.2.1 62), (hT90.2.1 63), (q44.2.1 65), (q44.2.1 66), (q44.2.1 67), (q44.2.1 68), (q44.2.1 76), (q44.2.1 77), (q44.2.1 78), (q44.2.1 79), (q44.2.1 80), (q44.2.1 81), (q44.2.1 82), (q44.2.1 83), (q44.2.1 84), (q44.2.1 85), (q44.2.1 86), (q44.2.1 87), (q44.2.1 88), (q44.2.1 89), (q44.2.1 90), (q44.2.1 91), (q44.2.1 92), (q44.2.1 101), (q44.2.1 102), (q44.2.1 103), (q44.2.1 104), (q44.2.1 105), (q44.2.1 106), (q44.2.1 107), (q44.2.1 108), (q44.2.1 117), (q44.2.1 118), (q44.2.1 120), (q44.2.1 121), (q44.2.1 122), trivial⟩) (show (m89.1 10) = 0 → (m42.1 8) + (m42.1 9) ≤ (m.1 6) by first | omega | (intro h9; have h8 := hLx h9; omega))) (fun rr243 k244 => ?_)
                        obtain ⟨y245, y247, y249, y251, y253, y255, g246, g248, g250, g252, g254, g256, h257, h258, h259, h260, rfl⟩ := k244
                        refine ⟨_, _, rfl, ?_⟩
                        refine T_nf2 (st' := []) (l' := [(7, y245), (8, y247), (9, y249), (10, y251), (11, y253), (12, y255), (27, (m89.1 27)), (28, (m42.1 28)), (69, (m42.1 69)), (70, (m42.1 70)), (71, (m42.1 71)), (72, (m42.1 72)), (73, (m42.1 73)), (74, (m42.1 74)), (75, (m42.1 75)), (99, (m42.1 99)), (100, (m42.1 100)), (119, (m42.1 119))]) (a' := [(59, (m42.2 59)), (60, (m89.2 60)), (61, (m89.2 61)), (62, (m89.2 62)), (63, (m89.2 63)), (65, (m42.2 65)), (66, (m42.2 66)), (67, (m42.2 67)), (68, (m42.2 68)), (76, (m42.2 76)), (77, (m42.2 77)), (78, (m42.2 78)), (79, (m42.2 79)), (80, (m42.2 80)), (81, (m42.2 81)), (82, (m42.2 82)), (83, (m42.2 83)), (84, (m42.2 84)), (85, (m42.2 85)), (86, (m42.2 86)), (87, (m42.2 87)), (88, (m42.2 88)), (89, (m42.2 89)), (90, (m42.2 90)), (91, (m42.2 91)), (92, (m42.2 92)), (101, (m42.2 101)), (102, (m42.2 102)), (103, (m42.2 103)), (104, (m42.2 104)), (105, (m42.2 105)), (106, (m42.2 106)), (107, (m42.2 107)), (108, (m42.2 108)), (117, (m42.2 117)), (118, (m42.2 118)), (120, (m42.2 120)), (121, (m42.2 121)), (122, (m42.2 122))]) [7, 8, 9, 10, 11, 12] [] rfl ⟨rfl, rfl, rfl, rfl, rfl, rfl, rfl, rfl, rfl, rfl, rfl, rfl, rfl, rfl, rfl, rfl, rfl, rfl, rfl, rfl, rfl, rfl, rfl, rfl, rfl, rfl, rfl, rfl, rfl, rfl, rfl, rfl, rfl, rfl, rfl, rfl, trivial⟩ ⟨rfl, rfl, rfl, rfl, rfl, rfl, rfl, rfl, rfl, rfl, rfl, rfl, rfl, rfl, rfl, rfl, rfl, rfl, rfl, rfl, rfl, rfl, rfl, rfl, rfl, rfl, rfl, rfl, rfl, rfl, rfl, rfl, rfl, rfl, rfl, rfl, rfl, rfl, rfl, rfl, rfl, rfl, rfl, rfl, rfl, rfl, rfl, rfl, rfl, rfl, rfl, rfl, rfl, rfl, rfl, rfl, rfl, rfl, rfl, rfl, rfl, rfl, rfl, rfl, rfl, rfl, rfl, rfl, rfl, rfl, rfl, rfl, rfl, rfl, rfl, rfl, rfl, rfl, trivial⟩ rfl rfl (by decide) (by decide) ?_
                        replace h257 : LxP y245 y247 y249 (m.1 6) y251 := h257
                        replace h258 : y251 = 0 → (m89.1 10) = 0 := h258
                        replace h259 : (m42.1 8) ≤ y247 := h259
                        replace h260 : y251 = 0 → (m42.1 8) + (m42.1 9) ≤ y247 := h260
                        have hf261 : 1 ≤ y251 := by omega
                        clear h258
                        clear h260
                        have hLx := h257
                        refine T_gf 179 (.ref 280) rfl rfl rfl rfl rfl rfl ?_
                        refine T_ld 180 (.int (i32 x91)) rfl (fun _ => rfl) ?_
                        refine T_gf 184 (.int (i32 (m42.1 28))) rfl rfl rfl rfl rfl rfl ?_
                        have G262 : ∀ j, 0 ≤ (upI (m42.2 121) x91 (m42.1 28)) j ∧ (upI (m42.2 121) x91 (m42.1 28)) j ≤ 800 := upI_rg (q44.2.1 121) ⟨by omega, by omega⟩
                        refine T_iast (a' := [(59, (m42.2 59)), (60, (m89.2 60)), (61, (m89.2 61)), (62, (m89.2 62)), (63, (m89.2 63)), (65, (m42.2 65)), (66, (m42.2 66)), (67, (m42.2 67)), (68, (m42.2 68)), (76, (m42.2 76)), (77, (m42.2 77)), (78, (m42.2 78)), (79, (m42.2 79)), (80, (m42.2 80)), (81, (m42.2 81)), (82, (m42.2 82)), (83, (m42.2 83)), (84, (m42.2 84)), (85, (m42.2 85)), (86, (m42.2 86)), (87, (m42.2 87)), (88, (m42.2 88)), (89, (m42.2 89)), (90, (m42.2 90)), (91, (m42.2 91)), (92, (m42.2 92)), (101, (m42.2 101)), (102, (m42.2 102)), (103, (m42.2 103)), (104, (m42.2 104)), (105, (m42.2 105)), (106, (m42.2 106)), (107, (m42.2 107)), (108, (m42.2 108)), (117, (m42.2 117)), (118, (m42.2 118)), (120, (m42.2 120)), (121, upI (m42.2 121) x91 (m42.1 28)), (122, (m42.2 122))]) 185 121 (m42.2 121) rfl rfl rfl (by omega) (show x91 < (48 : Int) by omega) rfl rfl ?_
                        refine T_gf 189 (.int (i32 y251)) rfl rfl rfl rfl rfl rfl ?_
                        refine T_if 196 192 rfl rfl rfl (r32 (by omega) (by omega)) (fun (h263 : y251 ≠ 0) => ?_) (fun (h263 : ¬ (y251 ≠ 0)) => by exfalso; omega)
                        refine T_gf 200 (.ref 281) rfl rfl rfl rfl rfl rfl ?_
                        refine T_ld 201 (.int (i32 x91)) rfl (fun _ => rfl) ?_
                        refine T_gf 205 (.int (i32 (m42.1 28))) rfl rfl rfl rfl rfl rfl ?_
                        have G264 : ∀ j, 0 ≤ (upI (m42.2 122) x91 (m42.1 28)) j ∧ (upI (m42.2 122) x91 (m42.1 28)) j ≤ 800 := upI_rg (q44.2.1 122) ⟨by omega, by omega⟩
                        refine T_iast (a' := [(59, (m42.2 59)), (60, (m89.2 60)), (61, (m89.2 61)), (62, (m89.2 62)), (63, (m89.2 63)), (65, (m42.2 65)), (66, (m42.2 66)), (67, (m42.2 67)), (68, (m42.2 68)), (76, (m42.2 76)), (77, (m42.2 77)), (78, (m42.2 78)), (79, (m42.2 79)), (80, (m42.2 80)), (81, (m42.2 81)), (82, (m42.2 82)), (83, (m42.2 83)), (84, (m42.2 84)), (85, (m42.2 85)), (86, (m42.2 86)), (87, (m42.2 87)), (88, (m42.2 88)), (89, (m42.2 89)), (90, (m42.2 90)), (91, (m42.2 91)), (92, (m42.2 92)), (101, (m42.2 101)), (102, (m42.2 102)), (103, (m42.2 103)), (104, (m42.2 104)), (105, (m42.2 105)), (106, (m42.2 106)), (107, (m42.2 107)), (108, (m42.2 108)), (117, (m42.2 117)), (118, (m42.2 118)), (120, (m42.2 120)), (121, upI (m42.2 121) x91 (m42.1 28)), (122, upI (m42.2 122) x91 (m42.1 28))]) 206 122 (m42.2 122) rfl rfl rfl (by omega) (show x91 < (48 : Int) by omega) rfl rfl ?_
                        refine T_gf 210 (.int (i32 y251)) rfl rfl rfl rfl rfl rfl ?_
                        refine T_if 233 213 rfl rfl rfl (r32 (by omega) (by omega)) (fun (h265 : y251 ≠ 0) => ?_) (fun (h265 : ¬ (y251 ≠ 0)) => by exfalso; omega)
                        refine T_ld 234 (.ref 189) rfl (fun _ => rfl) ?_
                        refine T_ld 235 (.int (i32 x91)) rfl (fun _ => rfl) ?_
                        refine T_ld 236 (.int (i32 1)) rfl (fun _ => rfl) ?_
                        refine T_call 239 280 [.ref 189, .int (i32 x91), .int (i32 1)] [] rfl (fun _ => rfl) rfl (c_openBlock w (mO m [(7, y245), (8, y247), (9, y249), (10, y251), (11, y253), (12, y255), (27, (m89.1 27)), (28, (m42.1 28)), (69, (m42.1 69)), (70, (m42.1 70)), (71, (m42.1 71)), (72, (m42.1 72)), (73, (m42.1 73)), (74, (m42.1 74)), (75, (m42.1 75)), (99, (m42.1 99)), (100, (m42.1 100)), (119, (m42.1 119))] [(59, (m42.2 59)), (60, (m89.2 60)), (61, (m89.2 61)), (62, (m89.2 62)), (63, (m89.2 63)), (65, (m42.2 65)), (66, (m42.2 66)), (67, (m42.2 67)), (68, (m42.2 68)), (76, (m42.2 76)), (77, (m42.2 77)), (78, (m42.2 78)), (79, (m42.2 79)), (80, (m42.2 80)), (81, (m42.2 81)), (82, (m42.2 82)), (83, (m42.2 83)), (84, (m42.2 84)), (85, (m42.2 85)), (86, (m42.2 86)), (87, (m42.2 87)), (88, (m42.2 88)), (89, (m42.2 89)), (90, (m42.2 90)), (91, (m42.2 91)), (92, (m42.2 92)), (101, (m42.2 101)), (102, (m42.2 102)), (103, (m42.2 103)), (104, (m42.2 104)), (105, (m42.2 105)), (106, (m42.2 106)), (107, (m42.2 107)), (108, (m42.2 108)), (117, (m42.2 117)), (118, (m42.2 118)), (120, (m42.2 120)), (121, upI (m42.2 121) x91 (m42.1 28)), (122, upI (m42.2 122) x91 (m42.1 28))]) c N D (by omega) (Ty_mO hT rfl rfl ⟨g246, g248, g250, g252, g254, g256, (hT90.1 27), (q44.1 28), (q44.1 69), (q44.1 70), (q44.1 71), (q44.1 72), (q44.1 73), (q44.1 74), (q44.1 75), (q44.1 99), (q44.1 100), (q44.1 119), trivial⟩ ⟨(q44.2.1 59), (hT90.2.1 60), (hT90.2.1 61), (hT90.2.1 62), (hT90.2.1 63), (q44.2.1 65), (q44.2.1 66), (q44.2.1 67), (q44.2.1 68), (q44.2.1 76), (q44.2.1 77), (q44.2.1 78), (q44.2.1 79), (q44.2.1 80), (q44.2.1 81), (q44.2.1 82), (q44.2.1 83), (q44.2.1 84), (q44.2.1 85), (q44.2.1 86), (q44.2.1 87), (q44.2.1 88), (q44.2.1 89), (q44.2.1 90), (q44.2.1 91), (q44.2.1 92), (q44.2.1 101), (q44.2.1 102), (q44.2.1 103), (q44.2.1 104), (q44.2.1 105), (q44.2.1 106), (q44.2.1 107), (q44.2.1 108), (q44.2.1 117), (q44.2.1 118), (q44.2.1 120), G262, G264, trivial⟩) x91 1 (r32 (by omega) (by omega)) ⟨by decide, by decide⟩ (show LxP y245 y247 y249 (m.1 6) y251 by first | exact hLx | exact (fun _ => hLx (by omega)) | (intro h9; exfalso; omega)) (show (-1) ≤ x91 ∧ x91 ≤ 47 by omega) (show (-1) ≤ (1 : Int) ∧ (1 : Int) ≤ 1 by omega) (fun (h : y251 = 0) => absurd h (by omega))) (fun rr266 k267 => ?_)
                        obtain ⟨m268, hT269, h270, h271, c272, rfl⟩ := k267
                        refine ⟨_, _, rfl, ?_⟩
                        refine T_nf2 (st' := []) (l' := [(7, (m268.1 7)), (8, (m268.1 8)), (9, (m268.1 9)), (10, (m268.1 10)), (11, (m268.1 11)), (12, (m268.1 12)), (27, (m89.1 27)), (28, (m42.1 28)), (69, (m42.1 69)), (70, (m42.1 70)), (71, (m42.1 71)), (72, (m42.1 72)), (73, (m42.1 73)), (74, (m42.1 74)), (75, (m42.1 75)), (99, (m42.1 99)), (100, (m42.1 100)), (119, (m268.1 119))]) (a' := [(59, (m42.2 59)), (60, (m89.2 60)), (61, (m89.2 61)), (62, (m89.2 62)), (63, (m89.2 63)), (65, (m42.2 65)), (66, (m42.2 66)), (67, (m42.2 67)), (68, (m42.2 68)), (76, (m42.2 76)), (77, (m42.2 77)), (78, (m42.2 78)), (79, (m42.2 79)), (80, (m42.2 80)), (81, (m42.2 81)), (82, (m42.2 82)), (83, (m42.2 83)), (84, (m42.2 84)), (85, (m42.2 85)), (86, (m42.2 86)), (87, (m42.2 87)), (88, (m42.2 88)), (89, (m42.2 89)), (90, (m42.2 90)), (91, (m42.2 91)), (92, (m42.2 92)), (101, (m42.2 101)), (102, (m42.2 102)), (103, (m42.2 103)), (104, (m42.2 104)), (105, (m42.2 105)), (106, (m42.2 106)), (107, (m42.2 107)), (108, (m42.2 108)), (117, (m268.2 117)), (118, (m268.2 118)), (120, (m42.2 120)), (121, upI (m42.2 121) x91 (m42.1 28)), (122, upI (m42.2 122) x91 (m42.1 28))]) [7, 8, 9, 10, 11, 12, 119] [117, 118] rfl ⟨rfl, rfl, rfl, rfl, rfl, rfl, rfl, rfl, rfl, rfl, rfl, rfl, rfl, rfl, rfl, rfl, rfl, rfl, rfl, rfl, rfl, rfl, rfl, rfl, rfl, rfl, rfl, rfl, rfl, rfl, rfl, rfl, rfl, rfl, rfl, rfl, rfl, rfl, rfl, rfl, rfl, rfl, rfl, rfl, rfl, rfl, rfl, trivial⟩ ⟨rfl, rfl, rfl, rfl, rfl, rfl, rfl, rfl, rfl, rfl, rfl, rfl, rfl, rfl, rfl, rfl, rfl, rfl, rfl, rfl, rfl, rfl, rfl, rfl, rfl, rfl, rfl, rfl, rfl, rfl, rfl, rfl, rfl, rfl, rfl, rfl, rfl, rfl, rfl, rfl, rfl, rfl, rfl, rfl, rfl, rfl, rfl, rfl, rfl, rfl, rfl, rfl, rfl, rfl, rfl, rfl, rfl, rfl, rfl, rfl, rfl, rfl, rfl, rfl, rfl, rfl, rfl, rfl, rfl, rfl, rfl, rfl, rfl, rfl, rfl, rfl, rfl, rfl, rfl, rfl, rfl, rfl, rfl, rfl, rfl, rfl, rfl, rfl, rfl, rfl, rfl, rfl, rfl, rfl, rfl, rfl, rfl, rfl, rfl, rfl, rfl, rfl, rfl, rfl, rfl, rfl, rfl, rfl, rfl, rfl, rfl, rfl, trivial⟩ rfl rfl (by decide) (by decide) ?_
                        have g273 : 0 ≤ m268.1 7 ∧ m268.1 7 ≤ 330 := hT269.1 7
                        have g274 : 0 ≤ m268.1 8 ∧ m268.1 8 ≤ 4000 := hT269.1 8
                        have g275 : 0 ≤ m268.1 9 ∧ m268.1 9 ≤ 4000 := hT269.1 9
                        have g276 : 0 ≤ m268.1 10 ∧ m268.1 10 ≤ 8 := hT269.1 10
                        have g277 : (-1) ≤ m268.1 11 ∧ m268.1 11 ≤ 4000 := hT269.1 11
                        have g278 : (-9223372036854775808) ≤ m268.1 12 ∧ m268.1 12 ≤ 9223372036854775807 := hT269.1 12
                        have g279 : 0 ≤ m268.1 119 ∧ m268.1 119 ≤ 8 := hT269.1 119
                        replace h270 : (m268.1 10) = 0 → y251 = 0 := h270
                        replace h271 : LxP (m268.1 7) (m268.1 8) (m268.1 9) (m.1 6) (m268.1 10) := h271
                        have hf280 : 1 ≤ (m268.1 10) := by omega
                        clear c272
                        clear h270
                        have hLx := h271
                        refine T_goto 18 rfl (fun _ => rfl) ?_
                        refine Tm_lv (a := [(0, .ref 189)]) rfl rfl ⟨rfl, trivial⟩ ?_
                        exact ih47 (mO m [(7, (m268.1 7)), (8, (m268.1 8)), (9, (m268.1 9)), (10, (m268.1 10)), (11, (m268.1 11)), (12, (m268.1 12)), (27, (m89.1 27)), (28, (m42.1 28)), (69, (m42.1 69)), (70, (m42.1 70)), (71, (m42.1 71)), (72, (m42.1 72)), (73, (m42.1 73)), (74, (m42.1 74)), (75, (m42.1 75)), (99, (m42.1 99)), (100, (m42.1 100)), (119, (m268.1 119))] [(59, (m42.2 59)), (60, (m89.2 60)), (61, (m89.2 61)), (62, (m89.2 62)), (63, (m89.2 63)), (65, (m42.2 65)), (66, (m42.2 66)), (67, (m42.2 67)), (68, (m42.2 68)), (76, (m42.2 76)), (77, (m42.2 77)), (78, (m42.2 78)), (79, (m42.2 79)), (80, (m42.2 80)), (81, (m42.2 81)), (82, (m42.2 82)), (83, (m42.2 83)), (84, (m42.2 84)), (85, (m42.2 85)), (86, (m42.2 86)), (87, (m42.2 87)), (88, (m42.2 88)), (89, (m42.2 89)), (90, (m42.2 90)), (91, (m42.2 91)), (92, (m42.2 92)), (101, (m42.2 101)), (102, (m42.2 102)), (103, (m42.2 103)), (104, (m42.2 104)), (105, (m42.2 105)), (106, (m42.2 106)), (107, (m42.2 107)), (108, (m42.2 108)), (117, (m268.2 117)), (118, (m268.2 118)), (120, (m42.2 120)), (121, upI (m42.2 121) x91 (m42.1 28)), (122, upI (m42.2 122) x91 (m42.1 28))]) (Ty_mO hT rfl rfl ⟨(hT269.1 7), (hT269.1 8), (hT269.1 9), (hT269.1 10), (hT269.1 11), (hT269.1 12), (hT90.1 27), (q44.1 28), (q44.1 69), (q44.1 70), (q44.1 71), (q44.1 72), (q44.1 73), (q44.1 74), (q44.1 75), (q44.1 99), (q44.1 100), (hT269.1 119), trivial⟩ ⟨(q44.2.1 59), (hT90.2.1 60), (hT90.2.1 61), (hT90.2.1 62), (hT90.2.1 63), (q44.2.1 65), (q44.2.1 66), (q44.2.1 67), (q44.2.1 68), (q44.2.1 76), (q44.2.1 77), (q44.2.1 78), (q44.2.1 79), (q44.2.1 80), (q44.2.1 81), (q44.2.1 82), (q44.2.1 83), (q44.2.1 84), (q44.2.1 85), (q44.2.1 86), (q44.2.1 87), (q44.2.1 88), (q44.2.1 89), (q44.2.1 90), (q44.2.1 91), (q44.2.1 92), (q44.2.1 101), (q44.2.1 102), (q44.2.1 103), (q44.2.1 104), (q44.2.1 105), (q44.2.1 106), (q44.2.1 107), (q44.2.1 108), (hT269.2.1 117), (hT269.2.1 118), (q44.2.1 120), G262, G264, trivial⟩) (show LxP (m268.1 7) (m268.1 8) (m268.1 9) (m.1 6) (m268.1 10) by exact hLx) (fun (h : (m268.1 10) = 0) => absurd h (by omega)) (show 1000000 * (8 - (m268.1 10)) + (4000 - (m268.1 8)) < (n : Int) by omega)
                  · skip
                    refine T_ld 80 (.ref 189) rfl (fun _ => rfl) ?_
                    refine T_ld 81 (.int (i32 2)) rfl (fun _ => rfl) ?_
                    refine T_call 84 281 [.ref 189, .int (i32 2)] [] rfl (fun _ => rfl) rfl (c_newStep w (mO m [(7, (m42.1 7)), (8, (m42.1 8)), (9, (m42.1 9)), (10, (m42.1 10)), (11, (m42.1 11)), (12, (m42.1 12)), (27, (m42.1 27)), (28, (m42.1 28)), (69, (m42.1 69)), (70, (m42.1 70)), (71, (m42.1 71)), (72, (m42.1 72)), (73, (m42.1 73)), (74, (m42.1 74)), (75, (m42.1 75)), (99, (m42.1 99)), (100, (m42.1 100)), (119, (m42.1 119))] [(59, (m42.2 59)), (60, (m42.2 60)), (61, (m42.2 61)), (62, (m42.2 62)), (63, (m42.2 63)), (65, (m42.2 65)), (66, (m42.2 66)), (67, (m42.2 67)), (68, (m42.2 68)), (76, (m42.2 76)), (77, (m42.2 77)), (78, (m42.2 78)), (79, (m42.2 79)), (80, (m42.2 80)), (81, (m42.2 81)), (82, (m42.2 82)), (83, (m42.2 83)), (84, (m42.2 84)), (85, (m42.2 85)), (86, (m42.2 86)), (87, (m42.2 87)), (88, (m42.2 88)), (89, (m42.2 89)), (90, (m42.2 90)), (91, (m42.2 91)), (92, (m42.2 92)), (101, (m42.2 101)), (102, (m42.2 102)), (103, (m42.2 103)), (104, (m42.2 104)), (105, (m42.2 105)), (106, (m42.2 106)), (107, (m42.2 107)), (108, (m42.2 108)), (117, (m42.2 117)), (118, (m42.2 118)), (120, (m42.2 120)), (121, (m42.2 121)), (122, (m42.2 122))]) c N D (by omega) (Ty_mO hT rfl rfl ⟨(q44.1 7), (q44.1 8), (q44.1 9), (q44.1 10), (q44.1 11), (q44.1 12), (q44.1 27), (q44.1 28), (q44.1 69), (q44.1 70), (q44.1 71), (q44.1 72), (q44.1 73), (q44.1 74), (q44.1 75), (q44.1 99), (q44.1 100), (q44.1 119), trivial⟩ ⟨(q44.2.1 59), (q44.2.1 60), (q44.2.1 61), (q44.2.1 62), (q44.2.1 63), (q44.2.1 65), (q44.2.1 66), (q44.2.1 67), (q44.2.1 68), (q44.2.1 76), (q44.2.1 77), (q44.2.1 78), (q44.2.1 79), (q44.2.1 80), (q44.2.1 81), (q44.2.1 82), (q44.2.1 83), (q44.2.1 84), (q44.2.1 85), (q44.2.1 86), (q44.2.1 87), (q44.2.1 88), (q44.2.1 89), (q44.2.1 90), (q44.2.1 91), (q44.2.1 92), (q44.2.1 101), (q44.2.1 102), (q44.2.1 103), (q44.2.1 104), (q44.2.1 105), (q44.2.1 106), (q44.2.1 107), (q44.2.1 108), (q44.2.1 117), (q44.2.1 118), (q44.2.1 120), (q44.2.1 121), (q44.2.1 122), trivial⟩) 2 ⟨by decide, by decide⟩ (show 0 ≤ (2 : Int) ∧ (2 : Int) ≤ 2 by omega) (show 1 ≤ (m42.1 119) by omega) (show (m42.1 10) = 0 by omega) (show ∀ j, 0 ≤ j → j < (m42.1 119) → (m42.2 117) j < (m42.1 27) by assumption)) (fun rr281 k282 => ?_)
                    obtain ⟨m283, x285, hT284, g286, h287, c288, rfl⟩ := k282
                    refine ⟨_, _, rfl, ?_⟩
                    refine T_nf2 (st' := [.int (i32 x285)]) (l' := [(7, (m42.1 7)), (8, (m42.1 8)), (9, (m42.1 9)), (10, (m283.1 10)), (11, (m283.1 11)), (12, (m42.1 12)), (27, (m283.1 27)), (28, (m42.1 28)), (69, (m42.1 69)), (70, (m42.1 70)), (71, (m42.1 71)), (72, (m42.1 72)), (73, (m42.1 73)), (74, (m42.1 74)), (75, (m42.1 75)), (99, (m42.1 99)), (100, (m42.1 100)), (119, (m42.1 119))]) (a' := [(59, (m42.2 59)), (60, (m283.2 60)), (61, (m283.2 61)), (62, (m283.2 62)), (63, (m283.2 63)), (65, (m42.2 65)), (66, (m42.2 66)), (67, (m42.2 67)), (68, (m42.2 68)), (76, (m42.2 76)), (77, (m42.2 77)), (78, (m42.2 78)), (79, (m42.2 79)), (80, (m42.2 80)), (81, (m42.2 81)), (82, (m42.2 82)), (83, (m42.2 83)), (84, (m42.2 84)), (85, (m42.2 85)), (86, (m42.2 86)), (87, (m42.2 87)), (88, (m42.2 88)), (89, (m42.2 89)), (90, (m42.2 90)), (91, (m42.2 91)), (92, (m42.2 92)), (101, (m42.2 101)), (102, (m42.2 102)), (103, (m42.2 103)), (104, (m42.2 104)), (105, (m42.2 105)), (106, (m42.2 106)), (107, (m42.2 107)), (108, (m42.2 108)), (117, (m42.2 117)), (118, (m42.2 118)), (120, (m42.2 120)), (121, (m42.2 121)), (122, (m42.2 122))]) [10, 11, 27] [60, 61, 62, 63] rfl ⟨rfl, rfl, rfl, rfl, rfl, rfl, rfl, rfl, rfl, rfl, rfl, rfl, rfl, rfl, rfl, rfl, rfl, rfl, rfl, rfl, rfl, rfl, rfl, rfl, rfl, rfl, rfl, rfl, rfl, rfl, rfl, rfl, rfl, rfl, rfl, rfl, rfl, rfl, rfl, rfl, trivial⟩ ⟨rfl, rfl, rfl, rfl, rfl, rfl, rfl, rfl, rfl, rfl, rfl, rfl, rfl, rfl, rfl, rfl, rfl, rfl, rfl, rfl, rfl, rfl, rfl, rfl, rfl, rfl, rfl, rfl, rfl, rfl, rfl, rfl, rfl, rfl, rfl, rfl, rfl, rfl, rfl, rfl, rfl, rfl, rfl, rfl, rfl, rfl, rfl, rfl, rfl, rfl, rfl, rfl, rfl, rfl, rfl, rfl, rfl, rfl, rfl, rfl, rfl, rfl, rfl, rfl, rfl, rfl, rfl, rfl, rfl, rfl, rfl, rfl, rfl, rfl, rfl, rfl, rfl, rfl, rfl, trivial⟩ rfl rfl (by decide) (by decide) ?_
                    obtain ⟨g286a, g286b⟩ := g286
                    have g289 : 0 ≤ m283.1 10 ∧ m283.1 10 ≤ 8 := hT284.1 10
                    have g290 : (-1) ≤ m283.1 11 ∧ m283.1 11 ≤ 4000 := hT284.1 11
                    have g291 : 0 ≤ m283.1 27 ∧ m283.1 27 ≤ 48 := hT284.1 27
                    by_cases hf292 : (m283.1 10) = 0
                    · skip
                      replace h287 : (m42.1 10) = 0 := h287 hf292
                      obtain ⟨c293, c294, c295, c296, c297⟩ := c288 hf292
                      replace c293 : x285 = (m42.1 27) := c293
                      have hS9 := c293
                      replace c294 : (m283.1 27) = (m42.1 27) + 1 := c294
                      have hS0 := c294
                      replace c295 : (m283.2 60) = upI (m42.2 60) (m42.1 27) (2 : Int) := c295
                      have hS1 := c295
                      replace c296 : (m283.2 61) = upI (m42.2 61) (m42.1 27) ((m42.2 117) ((m42.1 119) - 1)) := c296
                      have hS2 := c296
                      replace c297 : (m283.2 63) = upI (m42.2 63) (m42.1 27) (-1) := c297
                      have hS3 := c297
                      clear c288
                      have u298 : (m.1 8) + 1 ≤ (m42.1 8) := by omega
                      have hAgC : agr (m.2 65) (m42.2 65) (m.1 28) := by first | exact agr_r _ _ | exact hAgC | exact agr_t hAgC hAg (by omega)
                      refine T_sto 85 [(1, .int (i32 x285)), (0, .ref 189)] rfl (fun _ => rfl) ?_
                      subst hS9
                      refine T_ld 86 (.ref 189) rfl (fun _ => rfl) ?_
                      refine T_call 89 212 [.ref 189] [] rfl (fun _ => rfl) rfl (c_next w (mO m [(7, (m42.1 7)), (8, (m42.1 8)), (9, (m42.1 9)), (10, (m283.1 10)), (11, (m283.1 11)), (12, (m42.1 12)), (27, (m283.1 27)), (28, (m42.1 28)), (69, (m42.1 69)), (70, (m42.1 70)), (71, (m42.1 71)), (72, (m42.1 72)), (73, (m42.1 73)), (74, (m42.1 74)), (75, (m42.1 75)), (99, (m42.1 99)), (100, (m42.1 100)), (119, (m42.1 119))] [(59, (m42.2 59)), (60, (m283.2 60)), (61, (m283.2 61)), (62, (m283.2 62)), (63, (m283.2 63)), (65, (m42.2 65)), (66, (m42.2 66)), (67, (m42.2 67)), (68, (m42.2 68)), (76, (m42.2 76)), (77, (m42.2 77)), (78, (m42.2 78)), (79, (m42.2 79)), (80, (m42.2 80)), (81, (m42.2 81)), (82, (m42.2 82)), (83, (m42.2 83)), (84, (m42.2 84)), (85, (m42.2 85)), (86, (m42.2 86)), (87, (m42.2 87)), (88, (m42.2 88)), (89, (m42.2 89)), (90, (m42.2 90)), (91, (m42.2 91)), (92, (m42.2 92)), (101, (m42.2 101)), (102, (m42.2 102)), (103, (m42.2 103)), (104, (m42.2 104)), (105, (m42.2 105)), (106, (m42.2 106)), (107, (m42.2 107)), (108, (m42.2 108)), (117, (m42.2 117)), (118, (m42.2 118)), (120, (m42.2 120)), (121, (m42.2 121)), (122, (m42.2 122))]) c N D (by omega) (Ty_mO hT rfl rfl ⟨(q44.1 7), (q44.1 8), (q44.1 9), (hT284.1 10), (hT284.1 11), (q44.1 12), (hT284.1 27), (q44.1 28), (q44.1 69), (q44.1 70), (q44.1 71), (q44.1 72), (q44.1 73), (q44.1 74), (q44.1 75), (q44.1 99), (q44.1 100), (q44.1 119), trivial⟩ ⟨(q44.2.1 59), (hT284.2.1 60), (hT284.2.1 61), (hT284.2.1 62), (hT284.2.1 63), (q44.2.1 65), (q44.2.1 66), (q44.2.1 67), (q44.2.1 68), (q44.2.1 76), (q44.2.1 77), (q44.2.1 78), (q44.2.1 79), (q44.2.1 80), (q44.2.1 81), (q44.2.1 82), (q44.2.1 83), (q44.2.1 84), (q44.2.1 85), (q44.2.1 86), (q44.2.1 87), (q44.2.1 88), (q44.2.1 89), (q44.2.1 90), (q44.2.1 91), (q44.2.1 92), (q44.2.1 101), (q44.2.1 102), (q44.2.1 103), (q44.2.1 104), (q44.2.1 105), (q44.2.1 106), (q44.2.1 107), (q44.2.1 108), (q44.2.1 117), (q44.2.1 118), (q44.2.1 120), (q44.2.1 121), (q44.2.1 122), trivial⟩) (show (m283.1 10) = 0 → (m42.1 8) + (m42.1 9) ≤ (m.1 6) by first | omega | (intro h9; have h8 := hLx h9; omega))) (fun rr299 k300 => ?_)
                      obtain ⟨y301, y303, y305, y307, y309, y311, g302, g304, g306, g308, g310, g312, h313, h314, h315, h316, rfl⟩ := k300
                      refine ⟨_, _, rfl, ?_⟩
                      refine T_nf2 (st' := []) (l' := [(7, y301), (8, y303), (9, y305), (10, y307), (11, y309), (12, y311), (27, (m283.1 27)), (28, (m42.1 28)), (69, (m42.1 69)), (70, (m42.1 70)), (71, (m42.1 71)), (72, (m42.1 72)), (73, (m42.1 73)), (74, (m42.1 74)), (75, (m42.1 75)), (99, (m42.1 99)), (100, (m42.1 100)), (119, (m42.1 119))]) (a' := [(59, (m42.2 59)), (60, (m283.2 60)), (61, (m283.2 61)), (62, (m283.2 62)), (63, (m283.2 63)), (65, (m42.2 65)), (66, (m42.2 66)), (67, (m42.2 67)), (68, (m42.2 68)), (76, (m42.2 76)), (77, (m42.2 77)), (78, (m42.2 78)), (79, (m42.2 79)), (80, (m42.2 80)), (81, (m42.2 81)), (82, (m42.2 82)), (83, (m42.2 83)), (84, (m42.2 84)), (85, (m42.2 85)), (86, (m42.2 86)), (87, (m42.2 87)), (88, (m42.2 88)), (89, (m42.2 89)), (90, (m42.2 90)), (91, (m42.2 91)), (92, (m42.2 92)), (101, (m42.2 101)), (102, (m42.2 102)), (103, (m42.2 103)), (104, (m42.2 104)), (105, (m42.2 105)), (106, (m42.2 106)), (107, (m42.2 107)), (108, (m42.2 108)), (117, (m42.2 117)), (118, (m42.2 118)), (120, (m42.2 120)), (121, (m42.2 121)), (122, (m42.2 122))]) [7, 8, 9, 10, 11, 12] [] rfl ⟨rfl, rfl, rfl, rfl, rfl, rfl, rfl, rfl, rfl, rfl, rfl, rfl, rfl, rfl, rfl, rfl, rfl, rfl, rfl, rfl, rfl, rfl, rfl, rfl, rfl, rfl, rfl, rfl, rfl, rfl, rfl, rfl, rfl, rfl, rfl, rfl, trivial⟩ ⟨rfl, rfl, rfl, rfl, rfl, rfl, rfl, rfl, rfl, rfl, rfl, rfl, rfl, rfl, rfl, rfl, rfl, rfl, rfl, rfl, rfl, rfl, rfl, rfl, rfl, rfl, rfl, rfl, rfl, rfl, rfl, rfl, rfl, rfl, rfl, rfl, rfl, rfl, rfl, rfl, rfl, rfl, rfl, rfl, rfl, rfl, rfl, rfl, rfl, rfl, rfl, rfl, rfl, rfl, rfl, rfl, rfl, rfl, rfl, rfl, rfl, rfl, rfl, rfl, rfl, rfl, rfl, rfl, rfl, rfl, rfl, rfl, rfl, rfl, rfl, rfl, rfl, rfl, trivial⟩ rfl rfl (by decide) (by decide) ?_
                      by_cases hf317 : y307 = 0
                      · skip
                        subst hf317
                        replace h313 : LxP y301 y303 y305 (m.1 6) (0 : Int) := h313
                        have hLx := h313
                        replace h314 : (m283.1 10) = 0 := h314 rfl
                        replace h315 : (m42.1 8) ≤ y303 := h315
                        replace h316 : (m42.1 8) + (m42.1 9) ≤ y303 := h316 rfl
                        have u318 : (m.1 8) + 1 ≤ y303 := by omega
                        have hAgC : agr (m.2 65) (m42.2 65) (m.1 28) := by first | exact agr_r _ _ | exact hAgC | exact agr_t hAgC hAg (by omega)
                        refine T_gf 93 (.int (i32 y303)) rfl rfl rfl rfl rfl rfl ?_
                        refine T_sto 94 [(2, .int (i32 y303)), (1, .int (i32 x285)), (0, .ref 189)] rfl (fun _ => rfl) ?_
                        refine T_ld 95 (.ref 189) rfl (fun _ => rfl) ?_
                        refine T_ld 97 (.int (i32 7)) rfl (fun _ => rfl) ?_
                        have hOL : (0 : Int) = 0 → ∀ k, 0 ≤ k → k < (m.1 13) → (m.2 16) k = 7 → 0 ≤ (m.2 17) k ∧ (m.2 17) k < (m.1 26) := fun _ k h1 h2 h3 => by
                          have h4 := PNl_7 pPN k h1 h2 h3
                          omega
                        refine T_call 100 236 [.ref 189, .int (i32 7)] [] rfl (fun _ => rfl) rfl (c_oldName w (mO m [(7, y301), (8, y303), (9, y305), (10, 0), (11, y309), (12, y311), (27, (m283.1 27)), (28, (m42.1 28)), (69, (m42.1 69)), (70, (m42.1 70)), (71, (m42.1 71)), (72, (m42.1 72)), (73, (m42.1 73)), (74, (m42.1 74)), (75, (m42.1 75)), (99, (m42.1 99)), (100, (m42.1 100)), (119, (m42.1 119))] [(59, (m42.2 59)), (60, (m283.2 60)), (61, (m283.2 61)), (62, (m283.2 62)), (63, (m283.2 63)), (65, (m42.2 65)), (66, (m42.2 66)), (67, (m42.2 67)), (68, (m42.2 68)), (76, (m42.2 76)), (77, (m42.2 77)), (78, (m42.2 78)), (79, (m42.2 79)), (80, (m42.2 80)), (81, (m42.2 81)), (82, (m42.2 82)), (83, (m42.2 83)), (84, (m42.2 84)), (85, (m42.2 85)), (86, (m42.2 86)), (87, (m42.2 87)), (88, (m42.2 88)), (89, (m42.2 89)), (90, (m42.2 90)), (91, (m42.2 91)), (92, (m42.2 92)), (101, (m42.2 101)), (102, (m42.2 102)), (103, (m42.2 103)), (104, (m42.2 104)), (105, (m42.2 105)), (106, (m42.2 106)), (107, (m42.2 107)), (108, (m42.2 108)), (117, (m42.2 117)), (118, (m42.2 118)), (120, (m42.2 120)), (121, (m42.2 121)), (122, (m42.2 122))]) c N D (by omega) (Ty_mO hT rfl rfl ⟨g302, g304, g306, ⟨(by omega : (0 : Int) ≤ 0), (by omega : (0 : Int) ≤ 8)⟩, g310, g312, (hT284.1 27), (q44.1 28), (q44.1 69), (q44.1 70), (q44.1 71), (q44.1 72), (q44.1 73), (q44.1 74), (q44.1 75), (q44.1 99), (q44.1 100), (q44.1 119), trivial⟩ ⟨(q44.2.1 59), (hT284.2.1 60), (hT284.2.1 61), (hT284.2.1 62), (hT284.2.1 63), (q44.2.1 65), (q44.2.1 66), (q44.2.1 67), (q44.2.1 68), (q44.2.1 76), (q44.2.1 77), (q44.2.1 78), (q44.2.1 79), (q44.2.1 80), (q44.2.1 81), (q44.2.1 82), (q44.2.1 83), (q44.2.1 84), (q44.2.1 85), (q44.2.1 86), (q44.2.1 87), (q44.2.1 88), (q44.2.1 89), (q44.2.1 90), (q44.2.1 91), (q44.2.1 92), (q44.2.1 101), (q44.2.1 102), (q44.2.1 103), (q44.2.1 104), (q44.2.1 105), (q44.2.1 106), (q44.2.1 107), (q44.2.1 108), (q44.2.1 117), (q44.2.1 118), (q44.2.1 120), (q44.2.1 121), (q44.2.1 122), trivial⟩) 7 (m.1 26) ⟨by decide, by decide⟩ (show LxP y301 y303 y305 (m.1 6) (0 : Int) by first | exact hLx | (intro h9; exfalso; omega) | (intro h9; have h8 := hLx (by omega); omega)) (show ∀ k, (m.2 14) k + (m.2 15) k ≤ 4000 by first | exact p1 | exact hNM) (show 1 ≤ (7 : Int) ∧ (7 : Int) ≤ 7 ∧ (7 : Int) ≠ 5 by omega) (show (m.1 26) ≤ 16 by omega) (show (0 : Int) = 0 → ∀ k, 0 ≤ k → k < (m.1 13) → (m.2 16) k = (7 : Int) → 0 ≤ (m.2 17) k ∧ (m.2 17) k < (m.1 26) by first | exact hOL | (intro h; exfalso; omega)) (show (7 : Int) = 3 → 3 ≤ (m.1 26) by omega)) (fun rr319 k320 => ?_)
                        obtain ⟨y321, y323, y325, y327, y329, y331, oo, g322, g324, g326, g328, g330, g332, g333, h334, h335, h336, h337, h338, h339, rfl⟩ := k320
                        refine ⟨_, _, rfl, ?_⟩
                        refine T_nf2 (st' := [.int (i32 oo)]) (l' := [(7, y321), (8, y323), (9, y325), (10, y327), (11, y329), (12, y331), (27, (m283.1 27)), (28, (m42.1 28)), (69, (m42.1 69)), (70, (m42.1 70)), (71, (m42.1 71)), (72, (m42.1 72)), (73, (m42.1 73)), (74, (m42.1 74)), (75, (m42.1 75)), (99, (m42.1 99)), (100, (m42.1 100)), (119, (m42.1 119))]) (a' := [(59, (m42.2 59)), (60, (m283.2 60)), (61, (m283.2 61)), (62, (m283.2 62)), (63, (m283.2 63)), (65, (m42.2 65)), (66, (m42.2 66)), (67, (m42.2 67)), (68, (m42.2 68)), (76, (m42.2 76)), (77, (m42.2 77)), (78, (m42.2 78)), (79, (m42.2 79)), (80, (m42.2 80)), (81, (m42.2 81)), (82, (m42.2 82)), (83, (m42.2 83)), (84, (m42.2 84)), (85, (m42.2 85)), (86, (m42.2 86)), (87, (m42.2 87)), (88, (m42.2 88)), (89, (m42.2 89)), (90, (m42.2 90)), (91, (m42.2 91)), (92, (m42.2 92)), (101, (m42.2 101)), (102, (m42.2 102)), (103, (m42.2 103)), (104, (m42.2 104)), (105, (m42.2 105)), (106, (m42.2 106)), (107, (m42.2 107)), (108, (m42.2 108)), (117, (m42.2 117)), (118, (m42.2 118)), (120, (m42.2 120)), (121, (m42.2 121)), (122, (m42.2 122))]) [7, 8, 9, 10, 11, 12] [] rfl ⟨rfl, rfl, rfl, rfl, rfl, rfl, rfl, rfl, rfl, rfl, rfl, rfl, rfl, rfl, rfl, rfl, rfl, rfl, rfl, rfl, rfl, rfl, rfl, rfl, rfl, rfl, rfl, rfl, rfl, rfl, rfl, rfl, rfl, rfl, rfl, rfl, trivial⟩ ⟨rfl, rfl, rfl, rfl, rfl, rfl, rfl, rfl, rfl, rfl, rfl, rfl, rfl, rfl, rfl, rfl, rfl, rfl, rfl, rfl, rfl, rfl, rfl, rfl, rfl, rfl, rfl, rfl, rfl, rfl, rfl, rfl, rfl, rfl, rfl, rfl, rfl, rfl, rfl, rfl, rfl, rfl, rfl, rfl, rfl, rfl, rfl, rfl, rfl, rfl, rfl, rfl, rfl, rfl, rfl, rfl, rfl, rfl, rfl, rfl, rfl, rfl, rfl, rfl, rfl, rfl, rfl, rfl, rfl, rfl, rfl, rfl, rfl, rfl, rfl, rfl, rfl, rfl, trivial⟩ rfl rfl (by decide) (by decide) ?_
                        obtain ⟨g333a, g333b⟩ := g333
                        by_cases hf340 : y327 = 0
                        · skip
                          subst hf340
                          replace h334 : LxP y321 y323 y325 (m.1 6) (0 : Int) := h334
                          have hLx := h334
                          replace h335 : y303 ≤ y323 := h335
                          replace h336 : (0 : Int) = 0 ∧ y303 + y305 ≤ y323 := h336 rfl
                          replace h337 : y301 = 1 := h337 rfl
                          replace h338 : 0 ≤ oo ∧ (oo < (m.1 26) ∨ oo = 0) := h338
                          replace h339 : oo < (m.1 26) := h339 rfl
                          have u341 : (m.1 8) + 1 ≤ y323 := by omega
                          have hAgC : agr (m.2 65) (m42.2 65) (m.1 28) := by first | exact agr_r _ _ | exact hAgC | exact agr_t hAgC hAg (by omega)
                          refine T_sto 101 [(3, .int (i32 oo)), (2, .int (i32 y303)), (1, .int (i32 x285)), (0, .ref 189)] rfl (fun _ => rfl) ?_
                          refine T_gf 105 (.int (i32 0)) rfl rfl rfl rfl rfl rfl ?_
                          refine T_if 124 108 rfl rfl rfl ⟨by decide, by decide⟩ (fun h342 => absurd (show (0 : Int) ≠ 0 from h342) (by decide)) (fun _ => ?_)
                          refine T_gf 112 (.ref 229) rfl rfl rfl rfl rfl rfl ?_
                          refine T_ld 113 (.int (i32 oo)) rfl (fun _ => rfl) ?_
                          refine T_bald 114 59 (m42.2 59) rfl rfl rfl (by omega) (show oo < (8 : Int) by omega) rfl ?_
                          have e343 : 0 ≤ (m42.2 59) oo ∧ (m42.2 59) oo ≤ 1 := (q44.2.1 59) oo
                          refine T_if 124 117 rfl rfl rfl (r32 (by omega) (by omega)) (fun (h344 : (m42.2 59) oo = 0) => ?_) (fun (h344 : ¬ ((m42.2 59) oo = 0)) => ?_)
                          · skip
                            refine T_ld 125 (.ref 189) rfl (fun _ => rfl) ?_
                            refine T_ld 127 (.int (i32 59)) rfl (fun _ => rfl) ?_
                            refine T_call 130 232 [.ref 189, .int (i32 59)] [] rfl (fun _ => rfl) rfl (c_need w (mO m [(7, y321), (8, y323), (9, y325), (10, 0), (11, y329), (12, y331), (27, (m283.1 27)), (28, (m42.1 28)), (69, (m42.1 69)), (70, (m42.1 70)), (71, (m42.1 71)), (72, (m42.1 72)), (73, (m42.1 73)), (74, (m42.1 74)), (75, (m42.1 75)), (99, (m42.1 99)), (100, (m42.1 100)), (119, (m42.1 119))] [(59, (m42.2 59)), (60, (m283.2 60)), (61, (m283.2 61)), (62, (m283.2 62)), (63, (m283.2 63)), (65, (m42.2 65)), (66, (m42.2 66)), (67, (m42.2 67)), (68, (m42.2 68)), (76, (m42.2 76)), (77, (m42.2 77)), (78, (m42.2 78)), (79, (m42.2 79)), (80, (m42.2 80)), (81, (m42.2 81)), (82, (m42.2 82)), (83, (m42.2 83)), (84, (m42.2 84)), (85, (m42.2 85)), (86, (m42.2 86)), (87, (m42.2 87)), (88, (m42.2 88)), (89, (m42.2 89)), (90, (m42.2 90)), (91, (m42.2 91)), (92, (m42.2 92)), (101, (m42.2 101)), (102, (m42.2 102)), (103, (m42.2 103)), (104, (m42.2 104)), (105, (m42.2 105)), (106, (m42.2 106)), (107, (m42.2 107)), (108, (m42.2 108)), (117, (m42.2 117)), (118, (m42.2 118)), (120, (m42.2 120)), (121, (m42.2 121)), (122, (m42.2 122))]) c N D (by omega) (Ty_mO hT rfl rfl ⟨g322, g324, g326, ⟨(by omega : (0 : Int) ≤ 0), (by omega : (0 : Int) ≤ 8)⟩, g330, g332, (hT284.1 27), (q44.1 28), (q44.1 69), (q44.1 70), (q44.1 71), (q44.1 72), (q44.1 73), (q44.1 74), (q44.1 75), (q44.1 99), (q44.1 100), (q44.1 119), trivial⟩ ⟨(q44.2.1 59), (hT284.2.1 60), (hT284.2.1 61), (hT284.2.1 62), (hT284.2.1 63), (q44.2.1 65), (q44.2.1 66), (q44.2.1 67), (q44.2.1 68), (q44.2.1 76), (q44.2.1 77), (q44.2.1 78), (q44.2.1 79), (q44.2.1 80), (q44.2.1 81), (q44.2.1 82), (q44.2.1 83), (q44.2.1 84), (q44.2.1 85), (q44.2.1 86), (q44.2.1 87), (q44.2.1 88), (q44.2.1 89), (q44.2.1 90), (q44.2.1 91), (q44.2.1 92), (q44.2.1 101), (q44.2.1 102), (q44.2.1 103), (q44.2.1 104), (q44.2.1 105), (q44.2.1 106), (q44.2.1 107), (q44.2.1 108), (q44.2.1 117), (q44.2.1 118), (q44.2.1 120), (q44.2.1 121), (q44.2.1 122), trivial⟩) 59 ⟨by decide, by decide⟩ (show 1 ≤ (59 : Int) by omega) (show LxP y321 y323 y325 (m.1 6) (0 : Int) by first | exact hLx | (intro h9; exfalso; omega) | (intro h9; have h8 := hLx (by omega); omega))) (fun rr345 k346 => ?_)
                            obtain ⟨y347, y349, y351, y353, y355, y357, g348, g350, g352, g354, g356, g358, h359, h360, h361, h362, rfl⟩ := k346
                            refine ⟨_, _, rfl, ?_⟩
                            refine T_nf2 (st' := []) (l' := [(7, y347), (8, y349), (9, y351), (10, y353), (11, y355), (12, y357), (27, (m283.1 27)), (28, (m42.1 28)), (69, (m42.1 69)), (70, (m42.1 70)), (71, (m42.1 71)), (72, (m42.1 72)), (73, (m42.1 73)), (74, (m42.1 74)), (75, (m42.1 75)), (99, (m42.1 99)), (100, (m42.1 100)), (119, (m42.1 119))]) (a' := [(59, (m42.2 59)), (60, (m283.2 60)), (61, (m283.2 61)), (62, (m283.2 62)), (63, (m283.2 63)), (65, (m42.2 65)), (66, (m42.2 66)), (67, (m42.2 67)), (68, (m42.2 68)), (76, (m42.2 76)), (77, (m42.2 77)), (78, (m42.2 78)), (79, (m42.2 79)), (80, (m42.2 80)), (81, (m42.2 81)), (82, (m42.2 82)), (83, (m42.2 83)), (84, (m42.2 84)), (85, (m42.2 85)), (86, (m42.2 86)), (87, (m42.2 87)), (88, (m42.2 88)), (89, (m42.2 89)), (90, (m42.2 90)), (91, (m42.2 91)), (92, (m42.2 92)), (101, (m42.2 101)), (102, (m42.2 102)), (103, (m42.2 103)), (104, (m42.2 104)), (105, (m42.2 105)), (106, (m42.2 106)), (107, (m42.2 107)), (108, (m42.2 108)), (117, (m42.2 117)), (118, (m42.2 118)), (120, (m42.2 120)), (121, (m42.2 121)), (122, (m42.2 122))]) [7, 8, 9, 10, 11, 12] [] rfl ⟨rfl, rfl, rfl, rfl, rfl, rfl, rfl, rfl, rfl, rfl, rfl, rfl, rfl, rfl, rfl, rfl, rfl, rfl, rfl, rfl, rfl, rfl, rfl, rfl, rfl, rfl, rfl, rfl, rfl, rfl, rfl, rfl, rfl, rfl, rfl, rfl, trivial⟩ ⟨rfl, rfl, rfl, rfl, rfl, rfl, rfl, rfl, rfl, rfl, rfl, rfl, rfl, rfl, rfl, rfl, rfl, rfl, rfl, rfl, rfl, rfl, rfl, rfl, rfl, rfl, rfl, rfl, rfl, rfl, rfl, rfl, rfl, rfl, rfl, rfl, rfl, rfl, rfl, rfl, rfl, rfl, rfl, rfl, rfl, rfl, rfl, rfl, rfl, rfl, rfl, rfl, rfl, rfl, rfl, rfl, rfl, rfl, rfl, rfl, rfl, rfl, rfl, rfl, rfl, rfl, rfl, rfl, rfl, rfl, rfl, rfl, rfl, rfl, rfl, rfl, rfl, rfl, trivial⟩ rfl rfl (by decide) (by decide) ?_
                            by_cases hf363 : y353 = 0
                            · skip
                              subst hf363
                              replace h359 : LxP y347 y349 y351 (m.1 6) (0 : Int) := h359
                              have hLx := h359
                              replace h360 : (0 : Int) = 0 ∧ y321 = (59 : Int) := h360 rfl
                              replace h361 : y323 ≤ y349 := h361
                              replace h362 : y323 + y325 ≤ y349 := h362 rfl
                              have u364 : (m.1 8) + 1 ≤ y349 := by omega
                              have hAgC : agr (m.2 65) (m42.2 65) (m.1 28) := by first | exact agr_r _ _ | exact hAgC | exact agr_t hAgC hAg (by omega)
                              refine T_gf 134 (.int (i32 0)) rfl rfl rfl rfl rfl rfl ?_
                              refine T_if 138 137 rfl rfl rfl ⟨by decide, by decide⟩ (fun _ => ?_) (fun h365 => absurd (show (0 : Int) ≤ 0 by decide) h365)
                              refine T_gf 142 (.ref 229) rfl rfl rfl rfl rfl rfl ?_
                              refine T_ld 143 (.int (i32 oo)) rfl (fun _ => rfl) ?_
                              refine T_ld 144 (.int (i32 1)) rfl (fun _ => rfl) ?_
                              have G366 : ∀ j, 0 ≤ (upI (m42.2 59) oo 1) j ∧ (upI (m42.2 59) oo 1) j ≤ 1 := upI_rg (q44.2.1 59) ⟨by omega, by omega⟩
                              refine T_bast (a' := [(59, upI (m42.2 59) oo 1), (60, (m283.2 60)), (61, (m283.2 61)), (62, (m283.2 62)), (63, (m283.2 63)), (65, (m42.2 65)), (66, (m42.2 66)), (67, (m42.2 67)), (68, (m42.2 68)), (76, (m42.2 76)), (77, (m42.2 77)), (78, (m42.2 78)), (79, (m42.2 79)), (80, (m42.2 80)), (81, (m42.2 81)), (82, (m42.2 82)), (83, (m42.2 83)), (84, (m42.2 84)), (85, (m42.2 85)), (86, (m42.2 86)), (87, (m42.2 87)), (88, (m42.2 88)), (89, (m42.2 89)), (90, (m42.2 90)), (91, (m42.2 91)), (92, (m42.2 92)), (101, (m42.2 101)), (102, (m42.2 102)), (103, (m42.2 103)), (104, (m42.2 104)), (105, (m42.2 105)), (106, (m42.2 106)), (107, (m42.2 107)), (108, (m42.2 108)), (117, (m42.2 117)), (118, (m42.2 118)), (120, (m42.2 120)), (121, (m42.2 121)), (122, (m42.2 122))]) 145 59 (m42.2 59) rfl rfl rfl (by omega) (show oo < (8 : Int) by omega) (by omega) rfl rfl ?_
                              refine T_gf 149 (.ref 233) rfl rfl rfl rfl rfl rfl ?_
                              refine T_ld 150 (.int (i32 x285)) rfl (fun _ => rfl) ?_
                              refine T_ld 151 (.int (i32 oo)) rfl (fun _ => rfl) ?_
                              have G367 : ∀ j, (-1) ≤ (upI (m283.2 63) x285 oo) j ∧ (upI (m283.2 63) x285 oo) j ≤ 7 := upI_rg (hT284.2.1 63) ⟨by omega, by omega⟩
                              refine T_iast (a' := [(59, upI (m42.2 59) oo 1), (60, (m283.2 60)), (61, (m283.2 61)), (62, (m283.2 62)), (63, upI (m283.2 63) x285 oo), (65, (m42.2 65)), (66, (m42.2 66)), (67, (m42.2 67)), (68, (m42.2 68)), (76, (m42.2 76)), (77, (m42.2 77)), (78, (m42.2 78)), (79, (m42.2 79)), (80, (m42.2 80)), (81, (m42.2 81)), (82, (m42.2 82)), (83, (m42.2 83)), (84, (m42.2 84)), (85, (m42.2 85)), (86, (m42.2 86)), (87, (m42.2 87)), (88, (m42.2 88)), (89, (m42.2 89)), (90, (m42.2 90)), (91, (m42.2 91)), (92, (m42.2 92)), (101, (m42.2 101)), (102, (m42.2 102)), (103, (m42.2 103)), (104, (m42.2 104)), (105, (m42.2 105)), (106, (m42.2 106)), (107, (m42.2 107)), (108, (m42.2 108)), (117, (m42.2 117)), (118, (m42.2 118)), (120, (m42.2 120)), (121, (m42.2 121)), (122, (m42.2 122))]) 152 63 (m283.2 63) rfl rfl rfl (by omega) (show x285 < (48 : Int) by omega) rfl rfl ?_
                              have pSp : SpP (m42.2 65) (m42.1 28) (m42.1 99) (m.1 26) (m283.1 27) (m283.2 60) (m283.2 61) (m42.2 120) (m42.2 121) (m42.2 122) (upI (m283.2 63) x285 oo) := by
                                rw [hS0, hS1, hS2]
                                rw [hS3]; exact SpP_add (SpP_f pSp (agr_r _ _) (by omega) (by omega) (agr_u (Int.le_refl _)) (agr_u (Int.le_refl _)) (agr_r _ _) (agr_r _ _) (agr_r _ _) (agr_t (agr_u (Int.le_refl _)) (agr_u (Int.le_refl _)) (Int.le_refl _))) ⟨by rw [upI_s]; exact hBi, fun h => by rw [upI_s] at h; omega, fun h => by rw [upI_s] at h; omega, fun _ => by rw [upI_s]; omega⟩
                              have hBK : ∀ j, 0 ≤ j → j < (m42.1 119) → (m42.2 117) j < (m283.1 27) := fun j j0 j1 => Int.lt_trans (hBK j j0 j1) (by omega)
                              refine T_goto 18 rfl (fun _ => rfl) ?_
                              refine Tm_lv (a := [(0, .ref 189)]) rfl rfl ⟨rfl, trivial⟩ ?_
                              exact ih47 (mO m [(7, y347), (8, y349), (9, y351), (10, 0), (11, y355), (12, y357), (27, (m283.1 27)), (28, (m42.1 28)), (69, (m42.1 69)), (70, (m42.1 70)), (71, (m42.1 71)), (72, (m42.1 72)), (73, (m42.1 73)), (74, (m42.1 74)), (75, (m42.1 75)), (99, (m42.1 99)), (100, (m42.1 100)), (119, (m42.1 119))] [(59, upI (m42.2 59) oo 1), (60, (m283.2 60)), (61, (m283.2 61)), (62, (m283.2 62)), (63, upI (m283.2 63) x285 oo), (65, (m42.2 65)), (66, (m42.2 66)), (67, (m42.2 67)), (68, (m42.2 68)), (76, (m42.2 76)), (77, (m42.2 77)), (78, (m42.2 78)), (79, (m42.2 79)), (80, (m42.2 80)), (81, (m42.2 81)), (82, (m42.2 82)), (83, (m42.2 83)), (84, (m42.2 84)), (85, (m42.2 85)), (86, (m42.2 86)), (87, (m42.2 87)), (88, (m42.2 88)), (89, (m42.2 89)), (90, (m42.2 90)), (91, (m42.2 91)), (92, (m42.2 92)), (101, (m42.2 101)), (102, (m42.2 102)), (103, (m42.2 103)), (104, (m42.2 104)), (105, (m42.2 105)), (106, (m42.2 106)), (107, (m42.2 107)), (108, (m42.2 108)), (117, (m42.2 117)), (118, (m42.2 118)), (120, (m42.2 120)), (121, (m42.2 121)), (122, (m42.2 122))]) (Ty_mO hT rfl rfl ⟨g348, g350, g352, ⟨(by omega : (0 : Int) ≤ 0), (by omega : (0 : Int) ≤ 8)⟩, g356, g358, (hT284.1 27), (q44.1 28), (q44.1 69), (q44.1 70), (q44.1 71), (q44.1 72), (q44.1 73), (q44.1 74), (q44.1 75), (q44.1 99), (q44.1 100), (q44.1 119), trivial⟩ ⟨G366, (hT284.2.1 60), (hT284.2.1 61), (hT284.2.1 62), G367, (q44.2.1 65), (q44.2.1 66), (q44.2.1 67), (q44.2.1 68), (q44.2.1 76), (q44.2.1 77), (q44.2.1 78), (q44.2.1 79), (q44.2.1 80), (q44.2.1 81), (q44.2.1 82), (q44.2.1 83), (q44.2.1 84), (q44.2.1 85), (q44.2.1 86), (q44.2.1 87), (q44.2.1 88), (q44.2.1 89), (q44.2.1 90), (q44.2.1 91), (q44.2.1 92), (q44.2.1 101), (q44.2.1 102), (q44.2.1 103), (q44.2.1 104), (q44.2.1 105), (q44.2.1 106), (q44.2.1 107), (q44.2.1 108), (q44.2.1 117), (q44.2.1 118), (q44.2.1 120), (q44.2.1 121), (q44.2.1 122), trivial⟩) (show LxP y347 y349 y351 (m.1 6) (0 : Int) by exact hLx) (fun _ => ⟨(show (m.1 8) + 1 ≤ y349 by omega), (show ∀ j, 0 ≤ j → j < (m42.1 119) → (m42.2 117) j < (m283.1 27) by exact hBK), (show CN (m42.2 65) (m42.2 67) (m42.1 28) by exact hCN), (show (m.1 28) ≤ (m42.1 28) by omega), (show agr (m.2 65) (m42.2 65) (m.1 28) by exact hAgC), (show TdP (m42.2 65) (m42.1 28) (m.1 22) (m42.1 99) (m42.2 101) (m42.2 103) (m42.2 105) (m42.2 106) (m42.2 107) (m42.2 108) by exact pTd), (show SpP (m42.2 65) (m42.1 28) (m42.1 99) (m.1 26) (m283.1 27) (m283.2 60) (m283.2 61) (m42.2 120) (m42.2 121) (m42.2 122) (upI (m283.2 63) x285 oo) by first | exact pSp | exact fun s s0 s1 => absurd s1 (by omega)), (show (m42.1 99) ≤ 192 + (m283.1 27) by omega)⟩) (show 1000000 * (8 - (0 : Int)) + (4000 - y349) < (n : Int) by omega)
                            · skip
                              replace h359 : LxP y347 y349 y351 (m.1 6) y353 := h359
                              have hLx := h359
                              clear h360
                              replace h361 : y323 ≤ y349 := h361
                              clear h362
                              have hf368 : 1 ≤ y353 := by omega
                              refine T_gf 134 (.int (i32 y353)) rfl rfl rfl rfl rfl rfl ?_
                              refine T_if 138 137 rfl rfl rfl (r32 (by omega) (by omega)) (fun (h369 : y353 ≤ 0) => by exfalso; omega) (fun (h369 : ¬ (y353 ≤ 0)) => ?_)
                              refine T_ret rfl (fun _ => rfl) ?_
                              exact ⟨(mO m [(7, y347), (8, y349), (9, y351), (10, y353), (11, y355), (12, y357), (27, (m283.1 27)), (28, (m42.1 28)), (69, (m42.1 69)), (70, (m42.1 70)), (71, (m42.1 71)), (72, (m42.1 72)), (73, (m42.1 73)), (74, (m42.1 74)), (75, (m42.1 75)), (99, (m42.1 99)), (100, (m42.1 100)), (119, (m42.1 119))] [(59, (m42.2 59)), (60, (m283.2 60)), (61, (m283.2 61)), (62, (m283.2 62)), (63, (m283.2 63)), (65, (m42.2 65)), (66, (m42.2 66)), (67, (m42.2 67)), (68, (m42.2 68)), (76, (m42.2 76)), (77, (m42.2 77)), (78, (m42.2 78)), (79, (m42.2 79)), (80, (m42.2 80)), (81, (m42.2 81)), (82, (m42.2 82)), (83, (m42.2 83)), (84, (m42.2 84)), (85, (m42.2 85)), (86, (m42.2 86)), (87, (m42.2 87)), (88, (m42.2 88)), (89, (m42.2 89)), (90, (m42.2 90)), (91, (m42.2 91)), (92, (m42.2 92)), (101, (m42.2 101)), (102, (m42.2 102)), (103, (m42.2 103)), (104, (m42.2 104)), (105, (m42.2 105)), (106, (m42.2 106)), (107, (m42.2 107)), (108, (m42.2 108)), (117, (m42.2 117)), (118, (m42.2 118)), (120, (m42.2 120)), (121, (m42.2 121)), (122, (m42.2 122))]), (Ty_mO hT rfl rfl ⟨g348, g350, g352, g354, g356, g358, (hT284.1 27), (q44.1 28), (q44.1 69), (q44.1 70), (q44.1 71), (q44.1 72), (q44.1 73), (q44.1 74), (q44.1 75), (q44.1 99), (q44.1 100), (q44.1 119), trivial⟩ ⟨(q44.2.1 59), (hT284.2.1 60), (hT284.2.1 61), (hT284.2.1 62), (hT284.2.1 63), (q44.2.1 65), (q44.2.1 66), (q44.2.1 67), (q44.2.1 68), (q44.2.1 76), (q44.2.1 77), (q44.2.1 78), (q44.2.1 79), (q44.2.1 80), (q44.2.1 81), (q44.2.1 82), (q44.2.1 83), (q44.2.1 84), (q44.2.1 85), (q44.2.1 86), (q44.2.1 87), (q44.2.1 88), (q44.2.1 89), (q44.2.1 90), (q44.2.1 91), (q44.2.1 92), (q44.2.1 101), (q44.2.1 102), (q44.2.1 103), (q44.2.1 104), (q44.2.1 105), (q44.2.1 106), (q44.2.1 107), (q44.2.1 108), (q44.2.1 117), (q44.2.1 118), (q44.2.1 120), (q44.2.1 121), (q44.2.1 122), trivial⟩), (show y353 = 0 → (m.1 10) = 0 by omega), (show LxP y347 y349 y351 (m.1 6) y353 by first | (first | exact hLx | exact (fun _ => hLx (by omega)) | (intro h9; exfalso; omega)) | (exfalso; omega)), (fun (h : y353 = 0) => absurd h (by omega)), rfl⟩
                          · skip
                            refine T_ld 118 (.ref 189) rfl (fun _ => rfl) ?_
                            refine T_ld 120 (.int (i32 8)) rfl (fun _ => rfl) ?_
                            refine T_ld 121 (.int (i32 y303)) rfl (fun _ => rfl) ?_
                            refine T_call 124 222 [.ref 189, .int (i32 8), .int (i32 y303)] [] rfl (fun _ => rfl) rfl (c_wrong w (mO m [(7, y321), (8, y323), (9, y325), (10, 0), (11, y329), (12, y331), (27, (m283.1 27)), (28, (m42.1 28)), (69, (m42.1 69)), (70, (m42.1 70)), (71, (m42.1 71)), (72, (m42.1 72)), (73, (m42.1 73)), (74, (m42.1 74)), (75, (m42.1 75)), (99, (m42.1 99)), (100, (m42.1 100)), (119, (m42.1 119))] [(59, (m42.2 59)), (60, (m283.2 60)), (61, (m283.2 61)), (62, (m283.2 62)), (63, (m283.2 63)), (65, (m42.2 65)), (66, (m42.2 66)), (67, (m42.2 67)), (68, (m42.2 68)), (76, (m42.2 76)), (77, (m42.2 77)), (78, (m42.2 78)), (79, (m42.2 79)), (80, (m42.2 80)), (81, (m42.2 81)), (82, (m42.2 82)), (83, (m42.2 83)), (84, (m42.2 84)), (85, (m42.2 85)), (86, (m42.2 86)), (87, (m42.2 87)), (88, (m42.2 88)), (89, (m42.2 89)), (90, (m42.2 90)), (91, (m42.2 91)), (92, (m42.2 92)), (101, (m42.2 101)), (102, (m42.2 102)), (103, (m42.2 103)), (104, (m42.2 104)), (105, (m42.2 105)), (106, (m42.2 106)), (107, (m42.2 107)), (108, (m42.2 108)), (117, (m42.2 117)), (118, (m42.2 118)), (120, (m42.2 120)), (121, (m42.2 121)), (122, (m42.2 122))]) c N D (by omega) (Ty_mO hT rfl rfl ⟨g322, g324, g326, ⟨(by omega : (0 : Int) ≤ 0), (by omega : (0 : Int) ≤ 8)⟩, g330, g332, (hT284.1 27), (q44.1 28), (q44.1 69), (q44.1 70), (q44.1 71), (q44.1 72), (q44.1 73), (q44.1 74), (q44.1 75), (q44.1 99), (q44.1 100), (q44.1 119), trivial⟩ ⟨(q44.2.1 59), (hT284.2.1 60), (hT284.2.1 61), (hT284.2.1 62), (hT284.2.1 63), (q44.2.1 65), (q44.2.1 66), (q44.2.1 67), (q44.2.1 68), (q44.2.1 76), (q44.2.1 77), (q44.2.1 78), (q44.2.1 79), (q44.2.1 80), (q44.2.1 81), (q44.2.1 82), (q44.2.1 83), (q44.2.1 84), (q44.2.1 85), (q44.2.1 86), (q44.2.1 87), (q44.2.1 88), (q44.2.1 89), (q44.2.1 90), (q44.2.1 91), (q44.2.1 92), (q44.2.1 101), (q44.2.1 102), (q44.2.1 103), (q44.2.1 104), (q44.2.1 105), (q44.2.1 106), (q44.2.1 107), (q44.2.1 108), (q44.2.1 117), (q44.2.1 118), (q44.2.1 120), (q44.2.1 121), (q44.2.1 122), trivial⟩) 8 y303 ⟨by decide, by decide⟩ (r32 (by omega) (by omega)) (show 1 ≤ (8 : Int) ∧ (8 : Int) ≤ 8 by omega) (show 0 ≤ y303 ∧ y303 ≤ 4000 by omega)) (fun rr370 k371 => ?_)
                            obtain ⟨y372, y374, g373, g375, h376, rfl⟩ := k371
                            refine ⟨_, _, rfl, ?_⟩
                            refine T_nf2 (st' := []) (l' := [(7, y321), (8, y323), (9, y325), (10, y372), (11, y374), (12, y331), (27, (m283.1 27)), (28, (m42.1 28)), (69, (m42.1 69)), (70, (m42.1 70)), (71, (m42.1 71)), (72, (m42.1 72)), (73, (m42.1 73)), (74, (m42.1 74)), (75, (m42.1 75)), (99, (m42.1 99)), (100, (m42.1 100)), (119, (m42.1 119))]) (a' := [(59, (m42.2 59)), (60, (m283.2 60)), (61, (m283.2 61)), (62, (m283.2 62)), (63, (m283.2 63)), (65, (m42.2 65)), (66, (m42.2 66)), (67, (m42.2 67)), (68, (m42.2 68)), (76, (m42.2 76)), (77, (m42.2 77)), (78, (m42.2 78)), (79, (m42.2 79)), (80, (m42.2 80)), (81, (m42.2 81)), (82, (m42.2 82)), (83, (m42.2 83)), (84, (m42.2 84)), (85, (m42.2 85)), (86, (m42.2 86)), (87, (m42.2 87)), (88, (m42.2 88)), (89, (m42.2 89)), (90, (m42.2 90)), (91, (m42.2 91)), (92, (m42.2 92)), (101, (m42.2 101)), (102, (m42.2 102)), (103, (m42.2 103)), (104, (m42.2 104)), (105, (m42.2 105)), (106, (m42.2 106)), (107, (m42.2 107)), (108, (m42.2 108)), (117, (m42.2 117)), (118, (m42.2 118)), (120, (m42.2 120)), (121, (m42.2 121)), (122, (m42.2 122))]) [10, 11] [] rfl ⟨rfl, rfl, rfl, rfl, rfl, rfl, rfl, rfl, rfl, rfl, rfl, rfl, rfl, rfl, rfl, rfl, rfl, rfl, rfl, rfl, rfl, rfl, rfl, rfl, rfl, rfl, rfl, rfl, rfl, rfl, rfl, rfl, rfl, rfl, rfl, rfl, rfl, rfl, rfl, trivial⟩ ⟨rfl, rfl, rfl, rfl, rfl, rfl, rfl, rfl, rfl, rfl, rfl, rfl, rfl, rfl, rfl, rfl, rfl, rfl, rfl, rfl, rfl, rfl, rfl, rfl, rfl, rfl, rfl, rfl, rfl, rfl, rfl, rfl, rfl, rfl, rfl, rfl, rfl, rfl, rfl, rfl, rfl, rfl, rfl, rfl, rfl, rfl, rfl, rfl, rfl, rfl, rfl, rfl, rfl, rfl, rfl, rfl, rfl, rfl, rfl, rfl, rfl, rfl, rfl, rfl, rfl, rfl, rfl, rfl, rfl, rfl, rfl, rfl, rfl, rfl, rfl, rfl, rfl, rfl, trivial⟩ rfl rfl (by decide) (by decide) ?_
                            replace h376 : (0 < (0 : Int) → y372 = (0 : Int) ∧ y374 = y329) ∧ ((0 : Int) ≤ 0 → y372 = (8 : Int) ∧ y374 = y303) := h376
                            have hf377 : 1 ≤ y372 := by omega
                            refine T_ld 125 (.ref 189) rfl (fun _ => rfl) ?_
                            refine T_ld 127 (.int (i32 59)) rfl (fun _ => rfl) ?_
                            refine T_call 130 232 [.ref 189, .int (i32 59)] [] rfl (fun _ => rfl) rfl (c_need w (mO m [(7, y321), (8, y323), (9, y325), (10, y372), (11, y374), (12, y331), (27, (m283.1 27)), (28, (m42.1 28)), (69, (m42.1 69)), (70, (m42.1 70)), (71, (m42.1 71)), (72, (m42.1 72)), (73, (m42.1 73)), (74, (m42.1 74)), (75, (m42.1 75)), (99, (m42.1 99)), (100, (m42.1 100)), (119, (m42.1 119))] [(59, (m42.2 59)), (60, (m283.2 60)), (61, (m283.2 61)), (62, (m283.2 62)), (63, (m283.2 63)), (65, (m42.2 65)), (66, (m42.2 66)), (67, (m42.2 67)), (68, (m42.2 68)), (76, (m42.2 76)), (77, (m42.2 77)), (78, (m42.2 78)), (79, (m42.2 79)), (80, (m42.2 80)), (81, (m42.2 81)), (82, (m42.2 82)), (83, (m42.2 83)), (84, (m42.2 84)), (85, (m42.2 85)), (86, (m42.2 86)), (87, (m42.2 87)), (88, (m42.2 88)), (89, (m42.2 89)), (90, (m42.2 90)), (91, (m42.2 91)), (92, (m42.2 92)), (101, (m42.2 101)), (102, (m42.2 102)), (103, (m42.2 103)), (104, (m42.2 104)), (105, (m42.2 105)), (106, (m42.2 106)), (107, (m42.2 107)), (108, (m42.2 108)), (117, (m42.2 117)), (118, (m42.2 118)), (120, (m42.2 120)), (121, (m42.2 121)), (122, (m42.2 122))]) c N D (by omega) (Ty_mO hT rfl rfl ⟨g322, g324, g326, g373, g375, g332, (hT284.1 27), (q44.1 28), (q44.1 69), (q44.1 70), (q44.1 71), (q44.1 72), (q44.1 73), (q44.1 74), (q44.1 75), (q44.1 99), (q44.1 100), (q44.1 119), trivial⟩ ⟨(q44.2.1 59), (hT284.2.1 60), (hT284.2.1 61), (hT284.2.1 62), (hT284.2.1 63), (q44.2.1 65), (q44.2.1 66), (q44.2.1 67), (q44.2.1 68), (q44.2.1 76), (q44.2.1 77), (q44.2.1 78), (q44.2.1 79), (q44.2.1 80), (q44.2.1 81), (q44.2.1 82), (q44.2.1 83), (q44.2.1 84), (q44.2.1 85), (q44.2.1 86), (q44.2.1 87), (q44.2.1 88), (q44.2.1 89), (q44.2.1 90), (q44.2.1 91), (q44.2.1 92), (q44.2.1 101), (q44.2.1 102), (q44.2.1 103), (q44.2.1 104), (q44.2.1 105), (q44.2.1 106), (q44.2.1 107), (q44.2.1 108), (q44.2.1 117), (q44.2.1 118), (q44.2.1 120), (q44.2.1 121), (q44.2.1 122), trivial⟩) 59 ⟨by decide, by decide⟩ (show 1 ≤ (59 : Int) by omega) (show LxP y321 y323 y325 (m.1 6) y372 by first | exact hLx | (intro h9; exfalso; omega) | (intro h9; have h8 := hLx (by omega); omega))) (fun rr378 k379 => ?_)
                            obtain ⟨y380, y382, y384, y386, y388, y390, g381, g383, g385, g387, g389, g391, h392, h393, h394, h395, rfl⟩ := k379
                            refine ⟨_, _, rfl, ?_⟩
                            refine T_nf2 (st' := []) (l' := [(7, y380), (8, y382), (9, y384), (10, y386), (11, y388), (12, y390), (27, (m283.1 27)), (28, (m42.1 28)), (69, (m42.1 69)), (70, (m42.1 70)), (71, (m42.1 71)), (72, (m42.1 72)), (73, (m42.1 73)), (74, (m42.1 74)), (75, (m42.1 75)), (99, (m42.1 99)), (100, (m42.1 100)), (119, (m42.1 119))]) (a' := [(59, (m42.2 59)), (60, (m283.2 60)), (61, (m283.2 61)), (62, (m283.2 62)), (63, (m283.2 63)), (65, (m42.2 65)), (66, (m42.2 66)), (67, (m42.2 67)), (68, (m42.2 68)), (76, (m42.2 76)), (77, (m42.2 77)), (78, (m42.2 78)), (79, (m42.2 79)), (80, (m42.2 80)), (81, (m42.2 81)), (82, (m42.2 82)), (83, (m42.2 83)), (84, (m42.2 84)), (85, (m42.2 85)), (86, (m42.2 86)), (87, (m42.2 87)), (88, (m42.2 88)), (89, (m42.2 89)), (90, (m42.2 90)), (91, (m42.2 91)), (92, (m42.2 92)), (101, (m42.2 101)), (102, (m42.2 102)), (103, (m42.2 103)), (104, (m42.2 104)), (105, (m42.2 105)), (106, (m42.2 106)), (107, (m42.2 107)), (108, (m42.2 108)), (117, (m42.2 117)), (118, (m42.2 118)), (120, (m42.2 120)), (121, (m42.2 121)), (122, (m42.2 122))]) [7, 8, 9, 10, 11, 12] [] rfl ⟨rfl, rfl, rfl, rfl, rfl, rfl, rfl, rfl, rfl, rfl, rfl, rfl, rfl, rfl, rfl, rfl, rfl, rfl, rfl, rfl, rfl, rfl, rfl, rfl, rfl, rfl, rfl, rfl, rfl, rfl, rfl, rfl, rfl, rfl, rfl, rfl, trivial⟩ ⟨rfl, rfl, rfl, rfl, rfl, rfl, rfl, rfl, rfl, rfl, rfl, rfl, rfl, rfl, rfl, rfl, rfl, rfl, rfl, rfl, rfl, rfl, rfl, rfl, rfl, rfl, rfl, rfl, rfl, rfl, rfl, rfl, rfl, rfl, rfl, rfl, rfl, rfl, rfl, rfl, rfl, rfl, rfl, rfl, rfl, rfl, rfl, rfl, rfl, rfl, rfl, rfl, rfl, rfl, rfl, rfl, rfl, rfl, rfl, rfl, rfl, rfl, rfl, rfl, rfl, rfl, rfl, rfl, rfl, rfl, rfl, rfl, rfl, rfl, rfl, rfl, rfl, rfl, trivial⟩ rfl rfl (by decide) (by decide) ?_
                            replace h392 : LxP y380 y382 y384 (m.1 6) y386 := h392
                            replace h393 : y386 = 0 → y372 = 0 ∧ y321 = (59 : Int) := h393
                            replace h394 : y323 ≤ y382 := h394
                            replace h395 : y386 = 0 → y323 + y325 ≤ y382 := h395
                            have hf396 : 1 ≤ y386 := by omega
                            clear h393
                            clear h395
                            have hLx := h392
                            refine T_gf 134 (.int (i32 y386)) rfl rfl rfl rfl rfl rfl ?_
                            refine T_if 138 137 rfl rfl rfl (r32 (by omega) (by omega)) (fun (h397 : y386 ≤ 0) => by exfalso; omega) (fun (h397 : ¬ (y386 ≤ 0)) => ?_)
                            refine T_ret rfl (fun _ => rfl) ?_
                            exact ⟨(mO m [(7, y380), (8, y382), (9, y384), (10, y386), (11, y388), (12, y390), (27, (m283.1 27)), (28, (m42.1 28)), (69, (m42.1 69)), (70, (m42.1 70)), (71, (m42.1 71)), (72, (m42.1 72)), (73, (m42.1 73)), (74, (m42.1 74)), (75, (m42.1 75)), (99, (m42.1 99)), (100, (m42.1 100)), (119, (m42.1 119))] [(59, (m42.2 59)), (60, (m283.2 60)), (61, (m283.2 61)), (62, (m283.2 62)), (63, (m283.2 63)), (65, (m42.2 65)), (66, (m42.2 66)), (67, (m42.2 67)), (68, (m42.2 68)), (76, (m42.2 76)), (77, (m42.2 77)), (78, (m42.2 78)), (79, (m42.2 79)), (80, (m42.2 80)), (81, (m42.2 81)), (82, (m42.2 82)), (83, (m42.2 83)), (84, (m42.2 84)), (85, (m42.2 85)), (86, (m42.2 86)), (87, (m42.2 87)), (88, (m42.2 88)), (89, (m42.2 89)), (90, (m42.2 90)), (91, (m42.2 91)), (92, (m42.2 92)), (101, (m42.2 101)), (102, (m42.2 102)), (103, (m42.2 103)), (104, (m42.2 104)), (105, (m42.2 105)), (106, (m42.2 106)), (107, (m42.2 107)), (108, (m42.2 108)), (117, (m42.2 117)), (118, (m42.2 118)), (120, (m42.2 120)), (121, (m42.2 121)), (122, (m42.2 122))]), (Ty_mO hT rfl rfl ⟨g381, g383, g385, g387, g389, g391, (hT284.1 27), (q44.1 28), (q44.1 69), (q44.1 70), (q44.1 71), (q44.1 72), (q44.1 73), (q44.1 74), (q44.1 75), (q44.1 99), (q44.1 100), (q44.1 119), trivial⟩ ⟨(q44.2.1 59), (hT284.2.1 60), (hT284.2.1 61), (hT284.2.1 62), (hT284.2.1 63), (q44.2.1 65), (q44.2.1 66), (q44.2.1 67), (q44.2.1 68), (q44.2.1 76), (q44.2.1 77), (q44.2.1 78), (q44.2.1 79), (q44.2.1 80), (q44.2.1 81), (q44.2.1 82), (q44.2.1 83), (q44.2.1 84), (q44.2.1 85), (q44.2.1 86), (q44.2.1 87), (q44.2.1 88), (q44.2.1 89), (q44.2.1 90), (q44.2.1 91), (q44.2.1 92), (q44.2.1 101), (q44.2.1 102), (q44.2.1 103), (q44.2.1 104), (q44.2.1 105), (q44.2.1 106), (q44.2.1 107), (q44.2.1 108), (q44.2.1 117), (q44.2.1 118), (q44.2.1 120), (q44.2.1 121), (q44.2.1 122), trivial⟩), (show y386 = 0 → (m.1 10) = 0 by omega), (show LxP y380 y382 y384 (m.1 6) y386 by first | (first | exact hLx | exact (fun _ => hLx (by omega)) | (intro h9; exfalso; omega)) | (exfalso; omega)), (fun (h : y386 = 0) => absurd h (by omega)), rfl⟩
                        · skip
                          replace h334 : LxP y321 y323 y325 (m.1 6) y327 := h334
                          have hLx := h334
                          replace h335 : y303 ≤ y323 := h335
                          clear h336
                          clear h337
                          replace h338 : 0 ≤ oo ∧ (oo < (m.1 26) ∨ oo = 0) := h338
                          clear h339
                          have hf398 : 1 ≤ y327 := by omega
                          refine T_sto 101 [(3, .int (i32 oo)), (2, .int (i32 y303)), (1, .int (i32 x285)), (0, .ref 189)] rfl (fun _ => rfl) ?_
                          refine T_gf 105 (.int (i32 y327)) rfl rfl rfl rfl rfl rfl ?_
                          refine T_if 124 108 rfl rfl rfl (r32 (by omega) (by omega)) (fun (h399 : y327 ≠ 0) => ?_) (fun (h399 : ¬ (y327 ≠ 0)) => by exfalso; omega)
                          refine T_ld 125 (.ref 189) rfl (fun _ => rfl) ?_
                          refine T_ld 127 (.int (i32 59)) rfl (fun _ => rfl) ?_
                          refine T_call 130 232 [.ref 189, .int (i32 59)] [] rfl (fun _ => rfl) rfl (c_need w (mO m [(7, y321), (8, y323), (9, y325), (10, y327), (11, y329), (12, y331), (27, (m283.1 27)), (28, (m42.1 28)), (69, (m42.1 69)), (70, (m42.1 70)), (71, (m42.1 71)), (72, (m42.1 72)), (73, (m42.1 73)), (74, (m42.1 74)), (75, (m42.1 75)), (99, (m42.1 99)), (100, (m42.1 100)), (119, (m42.1 119))] [(59, (m42.2 59)), (60, (m283.2 60)), (61, (m283.2 61)), (62, (m283.2 62)), (63, (m283.2 63)), (65, (m42.2 65)), (66, (m42.2 66)), (67, (m42.2 67)), (68, (m42.2 68)), (76, (m42.2 76)), (77, (m42.2 77)), (78, (m42.2 78)), (79, (m42.2 79)), (80, (m42.2 80)), (81, (m42.2 81)), (82, (m42.2 82)), (83, (m42.2 83)), (84, (m42.2 84)), (85, (m42.2 85)), (86, (m42.2 86)), (87, (m42.2 87)), (88, (m42.2 88)), (89, (m42.2 89)), (90, (m42.2 90)), (91, (m42.2 91)), (92, (m42.2 92)), (101, (m42.2 101)), (102, (m42.2 102)), (103, (m42.2 103)), (104, (m42.2 104)), (105, (m42.2 105)), (106, (m42.2 106)), (107, (m42.2 107)), (108, (m42.2 108)), (117, (m42.2 117)), (118, (m42.2 118)), (120, (m42.2 120)), (121, (m42.2 121)), (122, (m42.2 122))]) c N D (by omega) (Ty_mO hT rfl rfl ⟨g322, g324, g326, g328, g330, g332, (hT284.1 27), (q44.1 28), (q44.1 69), (q44.1 70), (q44.1 71), (q44.1 72), (q44.1 73), (q44.1 74), (q44.1 75), (q44.1 99), (q44.1 100), (q44.1 119), trivial⟩ ⟨(q44.2.1 59), (hT284.2.1 60), (hT284.2.1 61), (hT284.2.1 62), (hT284.2.1 63), (q44.2.1 65), (q44.2.1 66), (q44.2.1 67), (q44.2.1 68), (q44.2.1 76), (q44.2.1 77), (q44.2.1 78), (q44.2.1 79), (q44.2.1 80), (q44.2.1 81), (q44.2.1 82), (q44.2.1 83), (q44.2.1 84), (q44.2.1 85), (q44.2.1 86), (q44.2.1 87), (q44.2.1 88), (q44.2.1 89), (q44.2.1 90), (q44.2.1 91), (q44.2.1 92), (q44.2.1 101), (q44.2.1 102), (q44.2.1 103), (q44.2.1 104), (q44.2.1 105), (q44.2.1 106), (q44.2.1 107), (q44.2.1 108), (q44.2.1 117), (q44.2.1 118), (q44.2.1 120), (q44.2.1 121), (q44.2.1 122), trivial⟩) 59 ⟨by decide, by decide⟩ (show 1 ≤ (59 : Int) by omega) (show LxP y321 y323 y325 (m.1 6) y327 by first | exact hLx | (intro h9; exfalso; omega) | (intro h9; have h8 := hLx (by omega); omega))) (fun rr400 k401 => ?_)
                          obtain ⟨y402, y404, y406, y408, y410, y412, g403, g405, g407, g409, g411, g413, h414, h415, h416, h417, rfl⟩ := k401
                          refine ⟨_, _, rfl, ?_⟩
                          refine T_nf2 (st' := []) (l' := [(7, y402), (8, y404), (9, y406), (10, y408), (11, y410), (12, y412), (27, (m283.1 27)), (28, (m42.1 28)), (69, (m42.1 69)), (70, (m42.1 70)), (71, (m42.1 71)), (72, (m42.1 72)), (73, (m42.1 73)), (74, (m42.1 74)), (75, (m42.1 75)), (99, (m42.1 99)), (100, (m42.1 100)), (119, (m42.1 119))]) (a' := [(59, (m42.2 59)), (60, (m283.2 60)), (61, (m283.2 61)), (62, (m283.2 62)), (63, (m283.2 63)), (65, (m42.2 65)), (66, (m42.2 66)), (67, (m42.2 67)), (68, (m42.2 68)), (76, (m42.2 76)), (77, (m42.2 77)), (78, (m42.2 78)), (79, (m42.2 79)), (80, (m42.2 80)), (81, (m42.2 81)), (82, (m42.2 82)), (83, (m42.2 83)), (84, (m42.2 84)), (85, (m42.2 85)), (86, (m42.2 86)), (87, (m42.2 87)), (88, (m42.2 88)), (89, (m42.2 89)), (90, (m42.2 90)), (91, (m42.2 91)), (92, (m42.2 92)), (101, (m42.2 101)), (102, (m42.2 102)), (103, (m42.2 103)), (104, (m42.2 104)), (105, (m42.2 105)), (106, (m42.2 106)), (107, (m42.2 107)), (108, (m42.2 108)), (117, (m42.2 117)), (118, (m42.2 118)), (120, (m42.2 120)), (121, (m42.2 121)), (122, (m42.2 122))]) [7, 8, 9, 10, 11, 12] [] rfl ⟨rfl, rfl, rfl, rfl, rfl, rfl, rfl, rfl, rfl, rfl, rfl, rfl, rfl, rfl, rfl, rfl, rfl, rfl, rfl, rfl, rfl, rfl, rfl, rfl, rfl, rfl, rfl, rfl, rfl, rfl, rfl, rfl, rfl, rfl, rfl, rfl, trivial⟩ ⟨rfl, rfl, rfl, rfl, rfl, rfl, rfl, rfl, rfl, rfl, rfl, rfl, rfl, rfl, rfl, rfl, rfl, rfl, rfl, rfl, rfl, rfl, rfl, rfl, rfl, rfl, rfl, rfl, rfl, rfl, rfl, rfl, rfl, rfl, rfl, rfl, rfl, rfl, rfl, rfl, rfl, rfl, rfl, rfl, rfl, rfl, rfl, rfl, rfl, rfl, rfl, rfl, rfl, rfl, rfl, rfl, rfl, rfl, rfl, rfl, rfl, rfl, rfl, rfl, rfl, rfl, rfl, rfl, rfl, rfl, rfl, rfl, rfl, rfl, rfl, rfl, rfl, rfl, trivial⟩ rfl rfl (by decide) (by decide) ?_
                          replace h414 : LxP y402 y404 y406 (m.1 6) y408 := h414
                          replace h415 : y408 = 0 → y327 = 0 ∧ y321 = (59 : Int) := h415
                          replace h416 : y323 ≤ y404 := h416
                          replace h417 : y408 = 0 → y323 + y325 ≤ y404 := h417
                          have hf418 : 1 ≤ y408 := by omega
                          clear h415
                          clear h417
                          have hLx := h414
                          refine T_gf 134 (.int (i32 y408)) rfl rfl rfl rfl rfl rfl ?_
                          refine T_if 138 137 rfl rfl rfl (r32 (by omega) (by omega)) (fun (h419 : y408 ≤ 0) => by exfalso; omega) (fun (h419 : ¬ (y408 ≤ 0)) => ?_)
                          refine T_ret rfl (fun _ => rfl) ?_
                          exact ⟨(mO m [(7, y402), (8, y404), (9, y406), (10, y408), (11, y410), (12, y412), (27, (m283.1 27)), (28, (m42.1 28)), (69, (m42.1 69)), (70, (m42.1 70)), (71, (m42.1 71)), (72, (m42.1 72)), (73, (m42.1 73)), (74, (m42.1 74)), (75, (m42.1 75)), (99, (m42.1 99)), (100, (m42.1 100)), (119, (m42.1 119))] [(59, (m42.2 59)), (60, (m283.2 60)), (61, (m283.2 61)), (62, (m283.2 62)), (63, (m283.2 63)), (65, (m42.2 65)), (66, (m42.2 66)), (67, (m42.2 67)), (68, (m42.2 68)), (76, (m42.2 76)), (77, (m42.2 77)), (78, (m42.2 78)), (79, (m42.2 79)), (80, (m42.2 80)), (81, (m42.2 81)), (82, (m42.2 82)), (83, (m42.2 83)), (84, (m42.2 84)), (85, (m42.2 85)), (86, (m42.2 86)), (87, (m42.2 87)), (88, (m42.2 88)), (89, (m42.2 89)), (90, (m42.2 90)), (91, (m42.2 91)), (92, (m42.2 92)), (101, (m42.2 101)), (102, (m42.2 102)), (103, (m42.2 103)), (104, (m42.2 104)), (105, (m42.2 105)), (106, (m42.2 106)), (107, (m42.2 107)), (108, (m42.2 108)), (117, (m42.2 117)), (118, (m42.2 118)), (120, (m42.2 120)), (121, (m42.2 121)), (122, (m42.2 122))]), (Ty_mO hT rfl rfl ⟨g403, g405, g407, g409, g411, g413, (hT284.1 27), (q44.1 28), (q44.1 69), (q44.1 70), (q44.1 71), (q44.1 72), (q44.1 73), (q44.1 74), (q44.1 75), (q44.1 99), (q44.1 100), (q44.1 119), trivial⟩ ⟨(q44.2.1 59), (hT284.2.1 60), (hT284.2.1 61), (hT284.2.1 62), (hT284.2.1 63), (q44.2.1 65), (q44.2.1 66), (q44.2.1 67), (q44.2.1 68), (q44.2.1 76), (q44.2.1 77), (q44.2.1 78), (q44.2.1 79), (q44.2.1 80), (q44.2.1 81), (q44.2.1 82), (q44.2.1 83), (q44.2.1 84), (q44.2.1 85), (q44.2.1 86), (q44.2.1 87), (q44.2.1 88), (q44.2.1 89), (q44.2.1 90), (q44.2.1 91), (q44.2.1 92), (q44.2.1 101), (q44.2.1 102), (q44.2.1 103), (q44.2.1 104), (q44.2.1 105), (q44.2.1 106), (q44.2.1 107), (q44.2.1 108), (q44.2.1 117), (q44.2.1 118), (q44.2.1 120), (q44.2.1 121), (q44.2.1 122), trivial⟩), (show y408 = 0 → (m.1 10) = 0 by omega), (show LxP y402 y404 y406 (m.1 6) y408 by first | (first | exact hLx | exact (fun _ => hLx (by omega)) | (intro h9; exfalso; omega)) | (exfalso; omega)), (fun (h : y408 = 0) => absurd h (by omega)), rfl⟩
                      · skip
                        replace h313 : LxP y301 y303 y305 (m.1 6) y307 := h313
                        have hLx := h313
                        clear h314
                        replace h315 : (m42.1 8) ≤ y303 := h315
                        clear h316
                        have hf420 : 1 ≤ y307 := by omega
                        refine T_gf 93 (.int (i32 y303)) rfl rfl rfl rfl rfl rfl ?_
                        refine T_sto 94 [(2, .int (i32 y303)), (1, .int (i32 x285)), (0, .ref 189)] rfl (fun _ => rfl) ?_
                        refine T_ld 95 (.ref 189) rfl (fun _ => rfl) ?_
                        refine T_ld 97 (.int (i32 7)) rfl (fun _ => rfl) ?_
                        refine T_call 100 236 [.ref 189, .int (i32 7)] [] rfl (fun _ => rfl) rfl (c_oldName w (mO m [(7, y301), (8, y303), (9, y305), (10, y307), (11, y309), (12, y311), (27, (m283.1 27)), (28, (m42.1 28)), (69, (m42.1 69)), (70, (m42.1 70)), (71, (m42.1 71)), (72, (m42.1 72)), (73, (m42.1 73)), (74, (m42.1 74)), (75, (m42.1 75)), (99, (m42.1 99)), (100, (m42.1 100)), (119, (m42.1 119))] [(59, (m42.2 59)), (60, (m283.2 60)), (61, (m283.2 61)), (62, (m283.2 62)), (63, (m283.2 63)), (65, (m42.2 65)), (66, (m42.2 66)), (67, (m42.2 67)), (68, (m42.2 68)), (76, (m42.2 76)), (77, (m42.2 77)), (78, (m42.2 78)), (79, (m42.2 79)), (80, (m42.2 80)), (81, (m42.2 81)), (82, (m42.2 82)), (83, (m42.2 83)), (84, (m42.2 84)), (85, (m42.2 85)), (86, (m42.2 86)), (87, (m42.2 87)), (88, (m42.2 88)), (89, (m42.2 89)), (90, (m42.2 90)), (91, (m42.2 91)), (92, (m42.2 92)), (101, (m42.2 101)), (102, (m42.2 102)), (103, (m42.2 103)), (104, (m42.2 104)), (105, (m42.2 105)), (106, (m42.2 106)), (107, (m42.2 107)), (108, (m42.2 108)), (117, (m42.2 117)), (118, (m42.2 118)), (120, (m42.2 120)), (121, (m42.2 121)), (122, (m42.2 122))]) c N D (by omega) (Ty_mO hT rfl rfl ⟨g302, g304, g306, g308, g310, g312, (hT284.1 27), (q44.1 28), (q44.1 69), (q44.1 70), (q44.1 71), (q44.1 72), (q44.1 73), (q44.1 74), (q44.1 75), (q44.1 99), (q44.1 100), (q44.1 119), trivial⟩ ⟨(q44.2.1 59), (hT284.2.1 60), (hT284.2.1 61), (hT284.2.1 62), (hT284.2.1 63), (q44.2.1 65), (q44.2.1 66), (q44.2.1 67), (q44.2.1 68), (q44.2.1 76), (q44.2.1 77), (q44.2.1 78), (q44.2.1 79), (q44.2.1 80), (q44.2.1 81), (q44.2.1 82), (q44.2.1 83), (q44.2.1 84), (q44.2.1 85), (q44.2.1 86), (q44.2.1 87), (q44.2.1 88), (q44.2.1 89), (q44.2.1 90), (q44.2.1 91), (q44.2.1 92), (q44.2.1 101), (q44.2.1 102), (q44.2.1 103), (q44.2.1 104), (q44.2.1 105), (q44.2.1 106), (q44.2.1 107), (q44.2.1 108), (q44.2.1 117), (q44.2.1 118), (q44.2.1 120), (q44.2.1 121), (q44.2.1 122), trivial⟩) 7 (m.1 26) ⟨by decide, by decide⟩ (show LxP y301 y303 y305 (m.1 6) y307 by first | exact hLx | (intro h9; exfalso; omega) | (intro h9; have h8 := hLx (by omega); omega)) (show ∀ k, (m.2 14) k + (m.2 15) k ≤ 4000 by first | exact p1 | exact hNM) (show 1 ≤ (7 : Int) ∧ (7 : Int) ≤ 7 ∧ (7 : Int) ≠ 5 by omega) (show (m.1 26) ≤ 16 by omega) (show y307 = 0 → ∀ k, 0 ≤ k → k < (m.1 13) → (m.2 16) k = (7 : Int) → 0 ≤ (m.2 17) k ∧ (m.2 17) k < (m.1 26) by first | exact hOL | (intro h; exfalso; omega)) (show (7 : Int) = 3 → 3 ≤ (m.1 26) by omega)) (fun rr421 k422 => ?_)
                        obtain ⟨y423, y425, y427, y429, y431, y433, oo, g424, g426, g428, g430, g432, g434, g435, h436, h437, h438, h439, h440, h441, rfl⟩ := k422
                        refine ⟨_, _, rfl, ?_⟩
                        refine T_nf2 (st' := [.int (i32 oo)]) (l' := [(7, y423), (8, y425), (9, y427), (10, y429), (11, y431), (12, y433), (27, (m283.1 27)), (28, (m42.1 28)), (69, (m42.1 69)), (70, (m42.1 70)), (71, (m42.1 71)), (72, (m42.1 72)), (73, (m42.1 73)), (74, (m42.1 74)), (75, (m42.1 75)), (99, (m42.1 99)), (100, (m42.1 100)), (119, (m42.1 119))]) (a' := [(59, (m42.2 59)), (60, (m283.2 60)), (61, (m283.2 61)), (62, (m283.2 62)), (63, (m283.2 63)), (65, (m42.2 65)), (66, (m42.2 66)), (67, (m42.2 67)), (68, (m42.2 68)), (76, (m42.2 76)), (77, (m42.2 77)), (78, (m42.2 78)), (79, (m42.2 79)), (80, (m42.2 80)), (81, (m42.2 81)), (82, (m42.2 82)), (83, (m42.2 83)), (84, (m42.2 84)), (85, (m42.2 85)), (86, (m42.2 86)), (87, (m42.2 87)), (88, (m42.2 88)), (89, (m42.2 89)), (90, (m42.2 90)), (91, (m42.2 91)), (92, (m42.2 92)), (101, (m42.2 101)), (102, (m42.2 102)), (103, (m42.2 103)), (104, (m42.2 104)), (105, (m42.2 105)), (106, (m42.2 106)), (107, (m42.2 107)), (108, (m42.2 108)), (117, (m42.2 117)), (118, (m42.2 118)), (120, (m42.2 120)), (121, (m42.2 121)), (122, (m42.2 122))]) [7, 8, 9, 10, 11, 12] [] rfl ⟨rfl, rfl, rfl, rfl, rfl, rfl, rfl, rfl, rfl, rfl, rfl, rfl, rfl, rfl, rfl, rfl, rfl, rfl, rfl, rfl, rfl, rfl, rfl, rfl, rfl, rfl, rfl, rfl, rfl, rfl, rfl, rfl, rfl, rfl, rfl, rfl, trivial⟩ ⟨rfl, rfl, rfl, rfl, rfl, rfl, rfl, rfl, rfl, rfl, rfl, rfl, rfl, rfl, rfl, rfl, rfl, rfl, rfl, rfl, rfl, rfl, rfl, rfl, rfl, rfl, rfl, rfl, rfl, rfl, rfl, rfl, rfl, rfl, rfl, rfl, rfl, rfl, rfl, rfl, rfl, rfl, rfl, rfl, rfl, rfl, rfl, rfl, rfl, rfl, rfl, rfl, rfl, rfl, rfl, rfl, rfl, rfl, rfl, rfl, rfl, rfl, rfl, rfl, rfl, rfl, rfl, rfl, rfl, rfl, rfl, rfl, rfl, rfl, rfl, rfl, rfl, rfl, trivial⟩ rfl rfl (by decide) (by decide) ?_
                        obtain ⟨g435a, g435b⟩ := g435
                        replace h436 : LxP y423 y425 y427 (m.1 6) y429 := h436
                        replace h437 : y303 ≤ y425 := h437
                        replace h438 : y429 = 0 → y307 = 0 ∧ y303 + y305 ≤ y425 := h438
                        replace h439 : y429 = 0 → y301 = 1 := h439
                        replace h440 : 0 ≤ oo ∧ (oo < (m.1 26) ∨ oo = 0) := h440
                        replace h441 : y429 = 0 → oo < (m.1 26) := h441
                        have hf442 : 1 ≤ y429 := by omega
                        clear h438
                        clear h439
                        clear h441
                        have hLx := h436
                        refine T_sto 101 [(3, .int (i32 oo)), (2, .int (i32 y303)), (1, .int (i32 x285)), (0, .ref 189)] rfl (fun _ => rfl) ?_
                        refine T_gf 105 (.int (i32 y429)) rfl rfl rfl rfl rfl rfl ?_
                        refine T_if 124 108 rfl rfl rfl (r32 (by omega) (by omega)) (fun (h443 : y429 ≠ 0) => ?_) (fun (h443 : ¬ (y429 ≠ 0)) => by exfalso; omega)
                        refine T_ld 125 (.ref 189) rfl (fun _ => rfl) ?_
                        refine T_ld 127 (.int (i32 59)) rfl (fun _ => rfl) ?_
                        refine T_call 130 232 [.ref 189, .int (i32 59)] [] rfl (fun _ => rfl) rfl (c_need w (mO m [(7, y423), (8, y425), (9, y427), (10, y429), (11, y431), (12, y433), (27, (m283.1 27)), (28, (m42.1 28)), (69, (m42.1 69)), (70, (m42.1 70)), (71, (m42.1 71)), (72, (m42.1 72)), (73, (m42.1 73)), (74, (m42.1 74)), (75, (m42.1 75)), (99, (m42.1 99)), (100, (m42.1 100)), (119, (m42.1 119))] [(59, (m42.2 59)), (60, (m283.2 60)), (61, (m283.2 61)), (62, (m283.2 62)), (63, (m283.2 63)), (65, (m42.2 65)), (66, (m42.2 66)), (67, (m42.2 67)), (68, (m42.2 68)), (76, (m42.2 76)), (77, (m42.2 77)), (78, (m42.2 78)), (79, (m42.2 79)), (80, (m42.2 80)), (81, (m42.2 81)), (82, (m42.2 82)), (83, (m42.2 83)), (84, (m42.2 84)), (85, (m42.2 85)), (86, (m42.2 86)), (87, (m42.2 87)), (88, (m42.2 88)), (89, (m42.2 89)), (90, (m42.2 90)), (91, (m42.2 91)), (92, (m42.2 92)), (101, (m42.2 101)), (102, (m42.2 102)), (103, (m42.2 103)), (104, (m42.2 104)), (105, (m42.2 105)), (106, (m42.2 106)), (107, (m42.2 107)), (108, (m42.2 108)), (117, (m42.2 117)), (118, (m42.2 118)), (120, (m42.2 120)), (121, (m42.2 121)), (122, (m42.2 122))]) c N D (by omega) (Ty_mO hT rfl rfl ⟨g424, g426, g428, g430, g432, g434, (hT284.1 27), (q44.1 28), (q44.1 69), (q44.1 70), (q44.1 71), (q44.1 72), (q44.1 73), (q44.1 74), (q44.1 75), (q44.1 99), (q44.1 100), (q44.1 119), trivial⟩ ⟨(q44.2.1 59), (hT284.2.1 60), (hT284.2.1 61), (hT284.2.1 62), (hT284.2.1 63), (q44.2.1 65), (q44.2.1 66), (q44.2.1 67), (q44.2.1 68), (q44.2.1 76), (q44.2.1 77), (q44.2.1 78), (q44.2.1 79), (q44.2.1 80), (q44.2.1 81), (q44.2.1 82), (q44.2.1 83), (q44.2.1 84), (q44.2.1 85), (q44.2.1 86), (q44.2.1 87), (q44.2.1 88), (q44.2.1 89), (q44.2.1 90), (q44.2.1 91), (q44.2.1 92), (q44.2.1 101), (q44.2.1 102), (q44.2.1 103), (q44.2.1 104), (q44.2.1 105), (q44.2.1 106), (q44.2.1 107), (q44.2.1 108), (q44.2.1 117), (q44.2.1 118), (q44.2.1 120), (q44.2.1 121), (q44.2.1 122), trivial⟩) 59 ⟨by decide, by decide⟩ (show 1 ≤ (59 : Int) by omega) (show LxP y423 y425 y427 (m.1 6) y429 by first | exact hLx | (intro h9; exfalso; omega) | (intro h9; have h8 := hLx (by omega); omega))) (fun rr444 k445 => ?_)
                        obtain ⟨y446, y448, y450, y452, y454, y456, g447, g449, g451, g453, g455, g457, h458, h459, h460, h461, rfl⟩ := k445
                        refine ⟨_, _, rfl, ?_⟩
                        refine T_nf2 (st' := []) (l' := [(7, y446), (8, y448), (9, y450), (10, y452), (11, y454), (12, y456), (27, (m283.1 27)), (28, (m42.1 28)), (69, (m42.1 69)), (70, (m42.1 70)), (71, (m42.1 71)), (72, (m42.1 72)), (73, (m42.1 73)), (74, (m42.1 74)), (75, (m42.1 75)), (99, (m42.1 99)), (100, (m42.1 100)), (119, (m42.1 119))]) (a' := [(59, (m42.2 59)), (60, (m283.2 60)), (61, (m283.2 61)), (62, (m283.2 62)), (63, (m283.2 63)), (65, (m42.2 65)), (66, (m42.2 66)), (67, (m42.2 67)), (68, (m42.2 68)), (76, (m42.2 76)), (77, (m42.2 77)), (78, (m42.2 78)), (79, (m42.2 79)), (80, (m42.2 80)), (81, (m42.2 81)), (82, (m42.2 82)), (83, (m42.2 83)), (84, (m42.2 84)), (85, (m42.2 85)), (86, (m42.2 86)), (87, (m42.2 87)), (88, (m42.2 88)), (89, (m42.2 89)), (90, (m42.2 90)), (91, (m42.2 91)), (92, (m42.2 92)), (101, (m42.2 101)), (102, (m42.2 102)), (103, (m42.2 103)), (104, (m42.2 104)), (105, (m42.2 105)), (106, (m42.2 106)), (107, (m42.2 107)), (108, (m42.2 108)), (117, (m42.2 117)), (118, (m42.2 118)), (120, (m42.2 120)), (121, (m42.2 121)), (122, (m42.2 122))]) [7, 8, 9, 10, 11, 12] [] rfl ⟨rfl, rfl, rfl, rfl, rfl, rfl, rfl, rfl, rfl, rfl, rfl, rfl, rfl, rfl, rfl, rfl, rfl, rfl, rfl, rfl, rfl, rfl, rfl, rfl, rfl, rfl, rfl, rfl, rfl, rfl, rfl, rfl, rfl, rfl, rfl, rfl, trivial⟩ ⟨rfl, rfl, rfl, rfl, rfl, rfl, rfl, rfl, rfl, rfl, rfl, rfl, rfl, rfl, rfl, rfl, rfl, rfl, rfl, rfl, rfl, rfl, rfl, rfl, rfl, rfl, rfl, rfl, rfl, rfl, rfl, rfl, rfl, rfl, rfl, rfl, rfl, rfl, rfl, rfl, rfl, rfl, rfl, rfl, rfl, rfl, rfl, rfl, rfl, rfl, rfl, rfl, rfl, rfl, rfl, rfl, rfl, rfl, rfl, rfl, rfl, rfl, rfl, rfl, rfl, rfl, rfl, rfl, rfl, rfl, rfl, rfl, rfl, rfl, rfl, rfl, rfl, rfl, trivial⟩ rfl rfl (by decide) (by decide) ?_
                        replace h458 : LxP y446 y448 y450 (m.1 6) y452 := h458
                        replace h459 : y452 = 0 → y429 = 0 ∧ y423 = (59 : Int) := h459
                        replace h460 : y425 ≤ y448 := h460
                        replace h461 : y452 = 0 → y425 + y427 ≤ y448 := h461
                        have hf462 : 1 ≤ y452 := by omega
                        clear h459
                        clear h461
                        have hLx := h458
                        refine T_gf 134 (.int (i32 y452)) rfl rfl rfl rfl rfl rfl ?_
                        refine T_if 138 137 rfl rfl rfl (r32 (by omega) (by omega)) (fun (h463 : y452 ≤ 0) => by exfalso; omega) (fun (h463 : ¬ (y452 ≤ 0)) => ?_)
                        refine T_ret rfl (fun _ => rfl) ?_
                        exact ⟨(mO m [(7, y446), (8, y448), (9, y450), (10, y452), (11, y454), (12, y456), (27, (m283.1 27)), (28, (m42.1 28)), (69, (m42.1 69)), (70, (m42.1 70)), (71, (m42.1 71)), (72, (m42.1 72)), (73, (m42.1 73)), (74, (m42.1 74)), (75, (m42.1 75)), (99, (m42.1 99)), (100, (m42.1 100)), (119, (m42.1 119))] [(59, (m42.2 59)), (60, (m283.2 60)), (61, (m283.2 61)), (62, (m283.2 62)), (63, (m283.2 63)), (65, (m42.2 65)), (66, (m42.2 66)), (67, (m42.2 67)), (68, (m42.2 68)), (76, (m42.2 76)), (77, (m42.2 77)), (78, (m42.2 78)), (79, (m42.2 79)), (80, (m42.2 80)), (81, (m42.2 81)), (82, (m42.2 82)), (83, (m42.2 83)), (84, (m42.2 84)), (85, (m42.2 85)), (86, (m42.2 86)), (87, (m42.2 87)), (88, (m42.2 88)), (89, (m42.2 89)), (90, (m42.2 90)), (91, (m42.2 91)), (92, (m42.2 92)), (101, (m42.2 101)), (102, (m42.2 102)), (103, (m42.2 103)), (104, (m42.2 104)), (105, (m42.2 105)), (106, (m42.2 106)), (107, (m42.2 107)), (108, (m42.2 108)), (117, (m42.2 117)), (118, (m42.2 118)), (120, (m42.2 120)), (121, (m42.2 121)), (122, (m42.2 122))]), (Ty_mO hT rfl rfl ⟨g447, g449, g451, g453, g455, g457, (hT284.1 27), (q44.1 28), (q44.1 69), (q44.1 70), (q44.1 71), (q44.1 72), (q44.1 73), (q44.1 74), (q44.1 75), (q44.1 99), (q44.1 100), (q44.1 119), trivial⟩ ⟨(q44.2.1 59), (hT284.2.1 60), (hT284.2.1 61), (hT284.2.1 62), (hT284.2.1 63), (q44.2.1 65), (q44.2.1 66), (q44.2.1 67), (q44.2.1 68), (q44.2.1 76), (q44.2.1 77), (q44.2.1 78), (q44.2.1 79), (q44.2.1 80), (q44.2.1 81), (q44.2.1 82), (q44.2.1 83), (q44.2.1 84), (q44.2.1 85), (q44.2.1 86), (q44.2.1 87), (q44.2.1 88), (q44.2.1 89), (q44.2.1 90), (q44.2.1 91), (q44.2.1 92), (q44.2.1 101), (q44.2.1 102), (q44.2.1 103), (q44.2.1 104), (q44.2.1 105), (q44.2.1 106), (q44.2.1 107), (q44.2.1 108), (q44.2.1 117), (q44.2.1 118), (q44.2.1 120), (q44.2.1 121), (q44.2.1 122), trivial⟩), (show y452 = 0 → (m.1 10) = 0 by omega), (show LxP y446 y448 y450 (m.1 6) y452 by first | (first | exact hLx | exact (fun _ => hLx (by omega)) | (intro h9; exfalso; omega)) | (exfalso; omega)), (fun (h : y452 = 0) => absurd h (by omega)), rfl⟩
                    · skip
                      clear c288
                      clear h287
                      have hf464 : 1 ≤ (m283.1 10) := by omega
                      refine T_sto 85 [(1, .int (i32 x285)), (0, .ref 189)] rfl (fun _ => rfl) ?_
                      refine T_ld 86 (.ref 189) rfl (fun _ => rfl) ?_
                      refine T_call 89 212 [.ref 189] [] rfl (fun _ => rfl) rfl (c_next w (mO m [(7, (m42.1 7)), (8, (m42.1 8)), (9, (m42.1 9)), (10, (m283.1 10)), (11, (m283.1 11)), (12, (m42.1 12)), (27, (m283.1 27)), (28, (m42.1 28)), (69, (m42.1 69)), (70, (m42.1 70)), (71, (m42.1 71)), (72, (m42.1 72)), (73, (m42.1 73)), (74, (m42.1 74)), (75, (m42.1 75)), (99, (m42.1 99)), (100, (m42.1 100)), (119, (m42.1 119))] [(59, (m42.2 59)), (60, (m283.2 60)), (61, (m283.2 61)), (62, (m283.2 62)), (63, (m283.2 63)), (65, (m42.2 65)), (66, (m42.2 66)), (67, (m42.2 67)), (68, (m42.2 68)), (76, (m42.2 76)), (77, (m42.2 77)), (78, (m42.2 78)), (79, (m42.2 79)), (80, (m42.2 80)), (81, (m42.2 81)), (82, (m42.2 82)), (83, (m42.2 83)), (84, (m42.2 84)), (85, (m42.2 85)), (86, (m42.2 86)), (87, (m42.2 87)), (88, (m42.2 88)), (89, (m42.2 89)), (90, (m42.2 90)), (91, (m42.2 91)), (92, (m42.2 92)), (101, (m42.2 101)), (102, (m42.2 102)), (103, (m42.2 103)), (104, (m42.2 104)), (105, (m42.2 105)), (106, (m42.2 106)), (107, (m42.2 107)), (108, (m42.2 108)), (117, (m42.2 117)), (118, (m42.2 118)), (120, (m42.2 120)), (121, (m42.2 121)), (122, (m42.2 122))]) c N D (by omega) (Ty_mO hT rfl rfl ⟨(q44.1 7), (q44.1 8), (q44.1 9), (hT284.1 10), (hT284.1 11), (q44.1 12), (hT284.1 27), (q44.1 28), (q44.1 69), (q44.1 70), (q44.1 71), (q44.1 72), (q44.1 73), (q44.1 74), (q44.1 75), (q44.1 99), (q44.1 100), (q44.1 119), trivial⟩ ⟨(q44.2.1 59), (hT284.2.1 60), (hT284.2.1 61), (hT284.2.1 62), (hT284.2.1 63), (q44.2.1 65), (q44.2.1 66), (q44.2.1 67), (q44.2.1 68), (q44.2.1 76), (q44.2.1 77), (q44.2.1 78), (q44.2.1 79), (q44.2.1 80), (q44.2.1 81), (q44.2.1 82), (q44.2.1 83), (q44.2.1 84), (q44.2.1 85), (q44.2.1 86), (q44.2.1 87), (q44.2.1 88), (q44.2.1 89), (q44.2.1 90), (q44.2.1 91), (q44.2.1 92), (q44.2.1 101), (q44.2.1 102), (q44.2.1 103), (q44.2.1 104), (q44.2.1 105), (q44.2.1 106), (q44.2.1 107), (q44.2.1 108), (q44.2.1 117), (q44.2.1 118), (q44.2.1 120), (q44.2.1 121), (q44.2.1 122), trivial⟩) (show (m283.1 10) = 0 → (m42.1 8) + (m42.1 9) ≤ (m.1 6) by first | omega | (intro h9; have h8 := hLx h9; omega))) (fun rr465 k466 => ?_)
                      obtain ⟨y467, y469, y471, y473, y475, y477, g468, g470, g472, g474, g476, g478, h479, h480, h481, h482, rfl⟩ := k466
                      refine ⟨_, _, rfl, ?_⟩
                      refine T_nf2 (st' := []) (l' := [(7, y467), (8, y469), (9, y471), (10, y473), (11, y475), (12, y477), (27, (m283.1 27)), (28, (m42.1 28)), (69, (m42.1 69)), (70, (m42.1 70)), (71, (m42.1 71)), (72, (m42.1 72)), (73, (m42.1 73)), (74, (m42.1 74)), (75, (m42.1 75)), (99, (m42.1 99)), (100, (m42.1 100)), (119, (m42.1 119))]) (a' := [(59, (m42.2 59)), (60, (m283.2 60)), (61, (m283.2 61)), (62, (m283.2 62)), (63, (m283.2 63)), (65, (m42.2 65)), (66, (m42.2 66)), (67, (m42.2 67)), (68, (m42.2 68)), (76, (m42.2 76)), (77, (m42.2 77)), (78, (m42.2 78)), (79, (m42.2 79)), (80, (m42.2 80)), (81, (m42.2 81)), (82, (m42.2 82)), (83, (m42.2 83)), (84, (m42.2 84)), (85, (m42.2 85)), (86, (m42.2 86)), (87, (m42.2 87)), (88, (m42.2 88)), (89, (m42.2 89)), (90, (m42.2 90)), (91, (m42.2 91)), (92, (m42.2 92)), (101, (m42.2 101)), (102, (m42.2 102)), (103, (m42.2 103)), (104, (m42.2 104)), (105, (m42.2 105)), (106, (m42.2 106)), (107, (m42.2 107)), (108, (m42.2 108)), (117, (m42.2 117)), (118, (m42.2 118)), (120, (m42.2 120)), (121, (m42.2 121)), (122, (m42.2 122))]) [7, 8, 9, 10, 11, 12] [] rfl ⟨rfl, rfl, rfl, rfl, rfl, rfl, rfl, rfl, rfl, rfl, rfl, rfl, rfl, rfl, rfl, rfl, rfl, rfl, rfl, rfl, rfl, rfl, rfl, rfl, rfl, rfl, rfl, rfl, rfl, rfl, rfl, rfl, rfl, rfl, rfl, rfl, trivial⟩ ⟨rfl, rfl, rfl, rfl, rfl, rfl, rfl, rfl, rfl, rfl, rfl, rfl, rfl, rfl, rfl, rfl, rfl, rfl, rfl, rfl, rfl, rfl, rfl, rfl, rfl, rfl, rfl, rfl, rfl, rfl, rfl, rfl, rfl, rfl, rfl, rfl, rfl, rfl, rfl, rfl, rfl, rfl, rfl, rfl, rfl, rfl, rfl, rfl, rfl, rfl, rfl, rfl, rfl, rfl, rfl, rfl, rfl, rfl, rfl, rfl, rfl, rfl, rfl, rfl, rfl, rfl, rfl, rfl, rfl, rfl, rfl, rfl, rfl, rfl, rfl, rfl, rfl, rfl, trivial⟩ rfl rfl (by decide) (by decide) ?_
                      replace h479 : LxP y467 y469 y471 (m.1 6) y473 := h479
                      replace h480 : y473 = 0 → (m283.1 10) = 0 := h480
                      replace h481 : (m42.1 8) ≤ y469 := h481
                      replace h482 : y473 = 0 → (m42.1 8) + (m42.1 9) ≤ y469 := h482
                      have hf483 : 1 ≤ y473 := by omega
                      clear h480
                      clear h482
                      have hLx := h479
                      refine T_gf 93 (.int (i32 y469)) rfl rfl rfl rfl rfl rfl ?_
                      refine T_sto 94 [(2, .int (i32 y469)), (1, .int (i32 x285)), (0, .ref 189)] rfl (fun _ => rfl) ?_
                      refine T_ld 95 (.ref 189) rfl (fun _ => rfl) ?_
                      refine T_ld 97 (.int (i32 7)) rfl (fun _ => rfl) ?_
                      refine T_call 100 236 [.ref 189, .int (i32 7)] [] rfl (fun _ => rfl) rfl (c_oldName w (mO m [(7, y467), (8, y469), (9, y471), (10, y473), (11, y475), (12, y477), (27, (m283.1 27)), (28, (m42.1 28)), (69, (m42.1 69)), (70, (m42.1 70)), (71, (m42.1 71)), (72, (m42.1 72)), (73, (m42.1 73)), (74, (m42.1 74)), (75, (m42.1 75)), (99, (m42.1 99)), (100, (m42.1 100)), (119, (m42.1 119))] [(59, (m42.2 59)), (60, (m283.2 60)), (61, (m283.2 61)), (62, (m283.2 62)), (63, (m283.2 63)), (65, (m42.2 65)), (66, (m42.2 66)), (67, (m42.2 67)), (68, (m42.2 68)), (76, (m42.2 76)), (77, (m42.2 77)), (78, (m42.2 78)), (79, (m42.2 79)), (80, (m42.2 80)), (81, (m42.2 81)), (82, (m42.2 82)), (83, (m42.2 83)), (84, (m42.2 84)), (85, (m42.2 85)), (86, (m42.2 86)), (87, (m42.2 87)), (88, (m42.2 88)), (89, (m42.2 89)), (90, (m42.2 90)), (91, (m42.2 91)), (92, (m42.2 92)), (101, (m42.2 101)), (102, (m42.2 102)), (103, (m42.2 103)), (104, (m42.2 104)), (105, (m42.2 105)), (106, (m42.2 106)), (107, (m42.2 107)), (108, (m42.2 108)), (117, (m42.2 117)), (118, (m42.2 118)), (120, (m42.2 120)), (121, (m42.2 121)), (122, (m42.2 122))]) c N D (by omega) (Ty_mO hT rfl rfl ⟨g468, g470, g472, g474, g476, g478, (hT284.1 27), (q44.1 28), (q44.1 69), (q44.1 70), (q44.1 71), (q44.1 72), (q44.1 73), (q44.1 74), (q44.1 75), (q44.1 99), (q44.1 100), (q44.1 119), trivial⟩ ⟨(q44.2.1 59), (hT284.2.1 60), (hT284.2.1 61), (hT284.2.1 62), (hT284.2.1 63), (q44.2.1 65), (q44.2.1 66), (q44.2.1 67), (q44.2.1 68), (q44.2.1 76), (q44.2.1 77), (q44.2.1 78), (q44.2.1 79), (q44.2.1 80), (q44.2.1 81), (q44.2.1 82), (q44.2.1 83), (q44.2.1 84), (q44.2.1 85), (q44.2.1 86), (q44.2.1 87), (q44.2.1 88), (q44.2.1 89), (q44.2.1 90), (q44.2.1 91), (q44.2.1 92), (q44.2.1 101), (q44.2.1 102), (q44.2.1 103), (q44.2.1 104), (q44.2.1 105), (q44.2.1 106), (q44.2.1 107), (q44.2.1 108), (q44.2.1 117), (q44.2.1 118), (q44.2.1 120), (q44.2.1 121), (q44.2.1 122), trivial⟩) 7 (m.1 26) ⟨by decide, by decide⟩ (show LxP y467 y469 y471 (m.1 6) y473 by first | exact hLx | (intro h9; exfalso; omega) | (intro h9; have h8 := hLx (by omega); omega)) (show ∀ k, (m.2 14) k + (m.2 15) k ≤ 4000 by first | exact p1 | exact hNM) (show 1 ≤ (7 : Int) ∧ (7 : Int) ≤ 7 ∧ (7 : Int) ≠ 5 by omega) (show (m.1 26) ≤ 16 by omega) (show y473 = 0 → ∀ k, 0 ≤ k → k < (m.1 13) → (m.2 16) k = (7 : Int) → 0 ≤ (m.2 17) k ∧ (m.2 17) k < (m.1 26) by first | exact hOL | (intro h; exfalso; omega)) (show (7 : Int) = 3 → 3 ≤ (m.1 26) by omega)) (fun rr484 k485 => ?_)
                      obtain ⟨y486, y488, y490, y492, y494, y496, oo, g487, g489, g491, g493, g495, g497, g498, h499, h500, h501, h502, h503, h504, rfl⟩ := k485
                      refine ⟨_, _, rfl, ?_⟩
                      refine T_nf2 (st' := [.int (i32 oo)]) (l' := [(7, y486), (8, y488), (9, y490), (10, y492), (11, y494), (12, y496), (27, (m283.1 27)), (28, (m42.1 28)), (69, (m42.1 69)), (70, (m42.1 70)), (71, (m42.1 71)), (72, (m42.1 72)), (73, (m42.1 73)), (74, (m42.1 74)), (75, (m42.1 75)), (99, (m42.1 99)), (100, (m42.1 100)), (119, (m42.1 119))]) (a' := [(59, (m42.2 59)), (60, (m283.2 60)), (61, (m283.2 61)), (62, (m283.2 62)), (63, (m283.2 63)), (65, (m42.2 65)), (66, (m42.2 66)), (67, (m42.2 67)), (68, (m42.2 68)), (76, (m42.2 76)), (77, (m42.2 77)), (78, (m42.2 78)), (79, (m42.2 79)), (80, (m42.2 80)), (81, (m42.2 81)), (82, (m42.2 82)), (83, (m42.2 83)), (84, (m42.2 84)), (85, (m42.2 85)), (86, (m42.2 86)), (87, (m42.2 87)), (88, (m42.2 88)), (89, (m42.2 89)), (90, (m42.2 90)), (91, (m42.2 91)), (92, (m42.2 92)), (101, (m42.2 101)), (102, (m42.2 102)), (103, (m42.2 103)), (104, (m42.2 104)), (105, (m42.2 105)), (106, (m42.2 106)), (107, (m42.2 107)), (108, (m42.2 108)), (117, (m42.2 117)), (118, (m42.2 118)), (120, (m42.2 120)), (121, (m42.2 121)), (122, (m42.2 122))]) [7, 8, 9, 10, 11, 12] [] rfl ⟨rfl, rfl, rfl, rfl, rfl, rfl, rfl, rfl, rfl, rfl, rfl, rfl, rfl, rfl, rfl, rfl, rfl, rfl, rfl, rfl, rfl, rfl, rfl, rfl, rfl, rfl, rfl, rfl, rfl, rfl, rfl, rfl, rfl, rfl, rfl, rfl, trivial⟩ ⟨rfl, rfl, rfl, rfl, rfl, rfl, rfl, rfl, rfl, rfl, rfl, rfl, rfl, rfl, rfl, rfl, rfl, rfl, rfl, rfl, rfl, rfl, rfl, rfl, rfl, rfl, rfl, rfl, rfl, rfl, rfl, rfl, rfl, rfl, rfl, rfl, rfl, rfl, rfl, rfl, rfl, rfl, rfl, rfl, rfl, rfl, rfl, rfl, rfl, rfl, rfl, rfl, rfl, rfl, rfl, rfl, rfl, rfl, rfl, rfl, rfl, rfl, rfl, rfl, rfl, rfl, rfl, rfl, rfl, rfl, rfl, rfl, rfl, rfl, rfl, rfl, rfl, rfl, trivial⟩ rfl rfl (by decide) (by decide) ?_
                      obtain ⟨g498a, g498b⟩ := g498
                      replace h499 : LxP y486 y488 y490 (m.1 6) y492 := h499
                      replace h500 : y469 ≤ y488 := h500
                      replace h501 : y492 = 0 → y473 = 0 ∧ y469 + y471 ≤ y488 := h501
                      replace h502 : y492 = 0 → y467 = 1 := h502
                      replace h503 : 0 ≤ oo ∧ (oo < (m.1 26) ∨ oo = 0) := h503
                      replace h504 : y492 = 0 → oo < (m.1 26) := h504
                      have hf505 : 1 ≤ y492 := by omega
                      clear h501
                      clear h502
                      clear h504
                      have hLx := h499
                      refine T_sto 101 [(3, .int (i32 oo)), (2, .int (i32 y469)), (1, .int (i32 x285)), (0, .ref 189)] rfl (fun _ => rfl) ?_
                      refine T_gf 105 (.int (i32 y492)) rfl rfl rfl rfl rfl rfl ?_
                      refine T_if 124 108 rfl rfl rfl (r32 (by omega) (by omega)) (fun (h506 : y492 ≠ 0) => ?_) (fun (h506 : ¬ (y492 ≠ 0)) => by exfalso; omega)
                      refine T_ld 125 (.ref 189) rfl (fun _ => rfl) ?_
                      refine T_ld 127 (.int (i32 59)) rfl (fun _ => rfl) ?_
                      refine T_call 130 232 [.ref 189, .int (i32 59)] [] rfl (fun _ => rfl) rfl (c_need w (mO m [(7, y486), (8, y488), (9, y490), (10, y492), (11, y494), (12, y496), (27, (m283.1 27)), (28, (m42.1 28)), (69, (m42.1 69)), (70, (m42.1 70)), (71, (m42.1 71)), (72, (m42.1 72)), (73, (m42.1 73)), (74, (m42.1 74)), (75, (m42.1 75)), (99, (m42.1 99)), (100, (m42.1 100)), (119, (m42.1 119))] [(59, (m42.2 59)), (60, (m283.2 60)), (61, (m283.2 61)), (62, (m283.2 62)), (63, (m283.2 63)), (65, (m42.2 65)), (66, (m42.2 66)), (67, (m42.2 67)), (68, (m42.2 68)), (76, (m42.2 76)), (77, (m42.2 77)), (78, (m42.2 78)), (79, (m42.2 79)), (80, (m42.2 80)), (81, (m42.2 81)), (82, (m42.2 82)), (83, (m42.2 83)), (84, (m42.2 84)), (85, (m42.2 85)), (86, (m42.2 86)), (87, (m42.2 87)), (88, (m42.2 88)), (89, (m42.2 89)), (90, (m42.2 90)), (91, (m42.2 91)), (92, (m42.2 92)), (101, (m42.2 101)), (102, (m42.2 102)), (103, (m42.2 103)), (104, (m42.2 104)), (105, (m42.2 105)), (106, (m42.2 106)), (107, (m42.2 107)), (108, (m42.2 108)), (117, (m42.2 117)), (118, (m42.2 118)), (120, (m42.2 120)), (121, (m42.2 121)), (122, (m42.2 122))]) c N D (by omega) (Ty_mO hT rfl rfl ⟨g487, g489, g491, g493, g495, g497, (hT284.1 27), (q44.1 28), (q44.1 69), (q44.1 70), (q44.1 71), (q44.1 72), (q44.1 73), (q44.1 74), (q44.1 75), (q44.1 99), (q44.1 100), (q44.1 119), trivial⟩ ⟨(q44.2.1 59), (hT284.2.1 60), (hT284.2.1 61), (hT284.2.1 62), (hT284.2.1 63), (q44.2.1 65), (q44.2.1 66), (q44.2.1 67), (q44.2.1 68), (q44.2.1 76), (q44.2.1 77), (q44.2.1 78), (q44.2.1 79), (q44.2.1 80), (q44.2.1 81), (q44.2.1 82), (q44.2.1 83), (q44.2.1 84), (q44.2.1 85), (q44.2.1 86), (q44.2.1 87), (q44.2.1 88), (q44.2.1 89), (q44.2.1 90), (q44.2.1 91), (q44.2.1 92), (q44.2.1 101), (q44.2.1 102), (q44.2.1 103), (q44.2.1 104), (q44.2.1 105), (q44.2.1 106), (q44.2.1 107), (q44.2.1 108), (q44.2.1 117), (q44.2.1 118), (q44.2.1 120), (q44.2.1 121), (q44.2.1 122), trivial⟩) 59 ⟨by decide, by decide⟩ (show 1 ≤ (59 : Int) by omega) (show LxP y486 y488 y490 (m.1 6) y492 by first | exact hLx | (intro h9; exfalso; omega) | (intro h9; have h8 := hLx (by omega); omega))) (fun rr507 k508 => ?_)
                      obtain ⟨y509, y511, y513, y515, y517, y519, g510, g512, g514, g516, g518, g520, h521, h522, h523, h524, rfl⟩ := k508
                      refine ⟨_, _, rfl, ?_⟩
                      refine T_nf2 (st' := []) (l' := [(7, y509), (8, y511), (9, y513), (10, y515), (11, y517), (12, y519), (27, (m283.1 27)), (28, (m42.1 28)), (69, (m42.1 69)), (70, (m42.1 70)), (71, (m42.1 71)), (72, (m42.1 72)), (73, (m42.1 73)), (74, (m42.1 74)), (75, (m42.1 75)), (99, (m42.1 99)), (100, (m42.1 100)), (119, (m42.1 119))]) (a' := [(59, (m42.2 59)), (60, (m283.2 60)), (61, (m283.2 61)), (62, (m283.2 62)), (63, (m283.2 63)), (65, (m42.2 65)), (66, (m42.2 66)), (67, (m42.2 67)), (68, (m42.2 68)), (76, (m42.2 76)), (77, (m42.2 77)), (78, (m42.2 78)), (79, (m42.2 79)), (80, (m42.2 80)), (81, (m42.2 81)), (82, (m42.2 82)), (83, (m42.2 83)), (84, (m42.2 84)), (85, (m42.2 85)), (86, (m42.2 86)), (87, (m42.2 87)), (88, (m42.2 88)), (89, (m42.2 89)), (90, (m42.2 90)), (91, (m42.2 91)), (92, (m42.2 92)), (101, (m42.2 101)), (102, (m42.2 102)), (103, (m42.2 103)), (104, (m42.2 104)), (105, (m42.2 105)), (106, (m42.2 106)), (107, (m42.2 107)), (108, (m42.2 108)), (117, (m42.2 117)), (118, (m42.2 118)), (120, (m42.2 120)), (121, (m42.2 121)), (122, (m42.2 122))]) [7, 8, 9, 10, 11, 12] [] rfl ⟨rfl, rfl, rfl, rfl, rfl, rfl, rfl, rfl, rfl, rfl, rfl, rfl, rfl, rfl, rfl, rfl, rfl, rfl, rfl, rfl, rfl, rfl, rfl, rfl, rfl, rfl, rfl, rfl, rfl, rfl, rfl, rfl, rfl, rfl, rfl, rfl, trivial⟩ ⟨rfl, rfl, rfl, rfl, rfl, rfl, rfl, rfl, rfl, rfl, rfl, rfl, rfl, rfl, rfl, rfl, rfl, rfl, rfl, rfl, rfl, rfl, rfl, rfl, rfl, rfl, rfl, rfl, rfl, rfl, rfl, rfl, rfl, rfl, rfl, rfl, rfl, rfl, rfl, rfl, rfl, rfl, rfl, rfl, rfl, rfl, rfl, rfl, rfl, rfl, rfl, rfl, rfl, rfl, rfl, rfl, rfl, rfl, rfl, rfl, rfl, rfl, rfl, rfl, rfl, rfl, rfl, rfl, rfl, rfl, rfl, rfl, rfl, rfl, rfl, rfl, rfl, rfl, trivial⟩ rfl rfl (by decide) (by decide) ?_
                      replace h521 : LxP y509 y511 y513 (m.1 6) y515 := h521
                      replace h522 : y515 = 0 → y492 = 0 ∧ y486 = (59 : Int) := h522
                      replace h523 : y488 ≤ y511 := h523
                      replace h524 : y515 = 0 → y488 + y490 ≤ y511 := h524
                      have hf525 : 1 ≤ y515 := by omega
                      clear h522
                      clear h524
                      have hLx := h521
                      refine T_gf 134 (.int (i32 y515)) rfl rfl rfl rfl rfl rfl ?_
                      refine T_if 138 137 rfl rfl rfl (r32 (by omega) (by omega)) (fun (h526 : y515 ≤ 0) => by exfalso; omega) (fun (h526 : ¬ (y515 ≤ 0)) => ?_)
                      refine T_ret rfl (fun _ => rfl) ?_
                      exact ⟨(mO m [(7, y509), (8, y511), (9, y513), (10, y515), (11, y517), (12, y519), (27, (m283.1 27)), (28, (m42.1 28)), (69, (m42.1 69)), (70, (m42.1 70)), (71, (m42.1 71)), (72, (m42.1 72)), (73, (m42.1 73)), (74, (m42.1 74)), (75, (m42.1 75)), (99, (m42.1 99)), (100, (m42.1 100)), (119, (m42.1 119))] [(59, (m42.2 59)), (60, (m283.2 60)), (61, (m283.2 61)), (62, (m283.2 62)), (63, (m283.2 63)), (65, (m42.2 65)), (66, (m42.2 66)), (67, (m42.2 67)), (68, (m42.2 68)), (76, (m42.2 76)), (77, (m42.2 77)), (78, (m42.2 78)), (79, (m42.2 79)), (80, (m42.2 80)), (81, (m42.2 81)), (82, (m42.2 82)), (83, (m42.2 83)), (84, (m42.2 84)), (85, (m42.2 85)), (86, (m42.2 86)), (87, (m42.2 87)), (88, (m42.2 88)), (89, (m42.2 89)), (90, (m42.2 90)), (91, (m42.2 91)), (92, (m42.2 92)), (101, (m42.2 101)), (102, (m42.2 102)), (103, (m42.2 103)), (104, (m42.2 104)), (105, (m42.2 105)), (106, (m42.2 106)), (107, (m42.2 107)), (108, (m42.2 108)), (117, (m42.2 117)), (118, (m42.2 118)), (120, (m42.2 120)), (121, (m42.2 121)), (122, (m42.2 122))]), (Ty_mO hT rfl rfl ⟨g510, g512, g514, g516, g518, g520, (hT284.1 27), (q44.1 28), (q44.1 69), (q44.1 70), (q44.1 71), (q44.1 72), (q44.1 73), (q44.1 74), (q44.1 75), (q44.1 99), (q44.1 100), (q44.1 119), trivial⟩ ⟨(q44.2.1 59), (hT284.2.1 60), (hT284.2.1 61), (hT284.2.1 62), (hT284.2.1 63), (q44.2.1 65), (q44.2.1 66), (q44.2.1 67), (q44.2.1 68), (q44.2.1 76), (q44.2.1 77), (q44.2.1 78), (q44.2.1 79), (q44.2.1 80), (q44.2.1 81), (q44.2.1 82), (q44.2.1 83), (q44.2.1 84), (q44.2.1 85), (q44.2.1 86), (q44.2.1 87), (q44.2.1 88), (q44.2.1 89), (q44.2.1 90), (q44.2.1 91), (q44.2.1 92), (q44.2.1 101), (q44.2.1 102), (q44.2.1 103), (q44.2.1 104), (q44.2.1 105), (q44.2.1 106), (q44.2.1 107), (q44.2.1 108), (q44.2.1 117), (q44.2.1 118), (q44.2.1 120), (q44.2.1 121), (q44.2.1 122), trivial⟩), (show y515 = 0 → (m.1 10) = 0 by omega), (show LxP y509 y511 y513 (m.1 6) y515 by first | (first | exact hLx | exact (fun _ => hLx (by omega)) | (intro h9; exfalso; omega)) | (exfalso; omega)), (fun (h : y515 = 0) => absurd h (by omega)), rfl⟩
                · skip
                  refine T_ld 40 (.ref 189) rfl (fun _ => rfl) ?_
                  refine T_ld 41 (.int (i32 0)) rfl (fun _ => rfl) ?_
                  refine T_call 44 281 [.ref 189, .int (i32 0)] [] rfl (fun _ => rfl) rfl (c_newStep w (mO m [(7, (m42.1 7)), (8, (m42.1 8)), (9, (m42.1 9)), (10, (m42.1 10)), (11, (m42.1 11)), (12, (m42.1 12)), (27, (m42.1 27)), (28, (m42.1 28)), (69, (m42.1 69)), (70, (m42.1 70)), (71, (m42.1 71)), (72, (m42.1 72)), (73, (m42.1 73)), (74, (m42.1 74)), (75, (m42.1 75)), (99, (m42.1 99)), (100, (m42.1 100)), (119, (m42.1 119))] [(59, (m42.2 59)), (60, (m42.2 60)), (61, (m42.2 61)), (62, (m42.2 62)), (63, (m42.2 63)), (65, (m42.2 65)), (66, (m42.2 66)), (67, (m42.2 67)), (68, (m42.2 68)), (76, (m42.2 76)), (77, (m42.2 77)), (78, (m42.2 78)), (79, (m42.2 79)), (80, (m42.2 80)), (81, (m42.2 81)), (82, (m42.2 82)), (83, (m42.2 83)), (84, (m42.2 84)), (85, (m42.2 85)), (86, (m42.2 86)), (87, (m42.2 87)), (88, (m42.2 88)), (89, (m42.2 89)), (90, (m42.2 90)), (91, (m42.2 91)), (92, (m42.2 92)), (101, (m42.2 101)), (102, (m42.2 102)), (103, (m42.2 103)), (104, (m42.2 104)), (105, (m42.2 105)), (106, (m42.2 106)), (107, (m42.2 107)), (108, (m42.2 108)), (117, (m42.2 117)), (118, (m42.2 118)), (120, (m42.2 120)), (121, (m42.2 121)), (122, (m42.2 122))]) c N D (by omega) (Ty_mO hT rfl rfl ⟨(q44.1 7), (q44.1 8), (q44.1 9), (q44.1 10), (q44.1 11), (q44.1 12), (q44.1 27), (q44.1 28), (q44.1 69), (q44.1 70), (q44.1 71), (q44.1 72), (q44.1 73), (q44.1 74), (q44.1 75), (q44.1 99), (q44.1 100), (q44.1 119), trivial⟩ ⟨(q44.2.1 59), (q44.2.1 60), (q44.2.1 61), (q44.2.1 62), (q44.2.1 63), (q44.2.1 65), (q44.2.1 66), (q44.2.1 67), (q44.2.1 68), (q44.2.1 76), (q44.2.1 77), (q44.2.1 78), (q44.2.1 79), (q44.2.1 80), (q44.2.1 81), (q44.2.1 82), (q44.2.1 83), (q44.2.1 84), (q44.2.1 85), (q44.2.1 86), (q44.2.1 87), (q44.2.1 88), (q44.2.1 89), (q44.2.1 90), (q44.2.1 91), (q44.2.1 92), (q44.2.1 101), (q44.2.1 102), (q44.2.1 103), (q44.2.1 104), (q44.2.1 105), (q44.2.1 106), (q44.2.1 107), (q44.2.1 108), (q44.2.1 117), (q44.2.1 118), (q44.2.1 120), (q44.2.1 121), (q44.2.1 122), trivial⟩) 0 ⟨by decide, by decide⟩ (show 0 ≤ (0 : Int) ∧ (0 : Int) ≤ 2 by omega) (show 1 ≤ (m42.1 119) by omega) (show (m42.1 10) = 0 by omega) (show ∀ j, 0 ≤ j → j < (m42.1 119) → (m42.2 117) j < (m42.1 27) by assumption)) (fun rr527 k528 => ?_)
                  obtain ⟨m529, x531, hT530, g532, h533, c534, rfl⟩ := k528
                  refine ⟨_, _, rfl, ?_⟩
                  refine T_nf2 (st' := [.int (i32 x531)]) (l' := [(7, (m42.1 7)), (8, (m42.1 8)), (9, (m42.1 9)), (10, (m529.1 10)), (11, (m529.1 11)), (12, (m42.1 12)), (27, (m529.1 27)), (28, (m42.1 28)), (69, (m42.1 69)), (70, (m42.1 70)), (71, (m42.1 71)), (72, (m42.1 72)), (73, (m42.1 73)), (74, (m42.1 74)), (75, (m42.1 75)), (99, (m42.1 99)), (100, (m42.1 100)), (119, (m42.1 119))]) (a' := [(59, (m42.2 59)), (60, (m529.2 60)), (61, (m529.2 61)), (62, (m529.2 62)), (63, (m529.2 63)), (65, (m42.2 65)), (66, (m42.2 66)), (67, (m42.2 67)), (68, (m42.2 68)), (76, (m42.2 76)), (77, (m42.2 77)), (78, (m42.2 78)), (79, (m42.2 79)), (80, (m42.2 80)), (81, (m42.2 81)), (82, (m42.2 82)), (83, (m42.2 83)), (84, (m42.2 84)), (85, (m42.2 85)), (86, (m42.2 86)), (87, (m42.2 87)), (88, (m42.2 88)), (89, (m42.2 89)), (90, (m42.2 90)), (91, (m42.2 91)), (92, (m42.2 92)), (101, (m42.2 101)), (102, (m42.2 102)), (103, (m42.2 103)), (104, (m42.2 104)), (105, (m42.2 105)), (106, (m42.2 106)), (107, (m42.2 107)), (108, (m42.2 108)), (117, (m42.2 117)), (118, (m42.2 118)), (120, (m42.2 120)), (121, (m42.2 121)), (122, (m42.2 122))]) [10, 11, 27] [60, 61, 62, 63] rfl ⟨rfl, rfl, rfl, rfl, rfl, rfl, rfl, rfl, rfl, rfl, rfl, rfl, rfl, rfl, rfl, rfl, rfl, rfl, rfl, rfl, rfl, rfl, rfl, rfl, rfl, rfl, rfl, rfl, rfl, rfl, rfl, rfl, rfl, rfl, rfl, rfl, rfl, rfl, rfl, rfl, trivial⟩ ⟨rfl, rfl, rfl, rfl, rfl, rfl, rfl, rfl, rfl, rfl, rfl, rfl, rfl, rfl, rfl, rfl, rfl, rfl, rfl, rfl, rfl, rfl, rfl, rfl, rfl, rfl, rfl, rfl, rfl, rfl, rfl, rfl, rfl, rfl, rfl, rfl, rfl, rfl, rfl, rfl, rfl, rfl, rfl, rfl, rfl, rfl, rfl, rfl, rfl, rfl, rfl, rfl, rfl, rfl, rfl, rfl, rfl, rfl, rfl, rfl, rfl, rfl, rfl, rfl, rfl, rfl, rfl, rfl, rfl, rfl, rfl, rfl, rfl, rfl, rfl, rfl, rfl, rfl, rfl, trivial⟩ rfl rfl (by decide) (by decide) ?_
                  obtain ⟨g532a, g532b⟩ := g532
                  have g535 : 0 ≤ m529.1 10 ∧ m529.1 10 ≤ 8 := hT530.1 10
                  have g536 : (-1) ≤ m529.1 11 ∧ m529.1 11 ≤ 4000 := hT530.1 11
                  have g537 : 0 ≤ m529.1 27 ∧ m529.1 27 ≤ 48 := hT530.1 27
                  by_cases hf538 : (m529.1 10) = 0
                  · skip
                    replace h533 : (m42.1 10) = 0 := h533 hf538
                    obtain ⟨c539, c540, c541, c542, c543⟩ := c534 hf538
                    replace c539 : x531 = (m42.1 27) := c539
                    have hS9 := c539
                    replace c540 : (m529.1 27) = (m42.1 27) + 1 := c540
                    have hS0 := c540
                    replace c541 : (m529.2 60) = upI (m42.2 60) (m42.1 27) (0 : Int) := c541
                    have hS1 := c541
                    replace c542 : (m529.2 61) = upI (m42.2 61) (m42.1 27) ((m42.2 117) ((m42.1 119) - 1)) := c542
                    have hS2 := c542
                    replace c543 : (m529.2 63) = upI (m42.2 63) (m42.1 27) (-1) := c543
                    have hS3 := c543
                    clear c534
                    have u544 : (m.1 8) + 1 ≤ (m42.1 8) := by omega
                    have hAgC : agr (m.2 65) (m42.2 65) (m.1 28) := by first | exact agr_r _ _ | exact hAgC | exact agr_t hAgC hAg (by omega)
                    refine T_sto 45 [(1, .int (i32 x531)), (0, .ref 189)] rfl (fun _ => rfl) ?_
                    subst hS9
                    refine T_gf 49 (.ref 279) rfl rfl rfl rfl rfl rfl ?_
                    refine T_ld 50 (.int (i32 x531)) rfl (fun _ => rfl) ?_
                    refine T_gf 54 (.int (i32 (m42.1 99))) rfl rfl rfl rfl rfl rfl ?_
                    have G545 : ∀ j, 0 ≤ (upI (m42.2 120) x531 (m42.1 99)) j ∧ (upI (m42.2 120) x531 (m42.1 99)) j ≤ 240 := upI_rg (q44.2.1 120) ⟨by omega, by omega⟩
                    refine T_iast (a' := [(59, (m42.2 59)), (60, (m529.2 60)), (61, (m529.2 61)), (62, (m529.2 62)), (63, (m529.2 63)), (65, (m42.2 65)), (66, (m42.2 66)), (67, (m42.2 67)), (68, (m42.2 68)), (76, (m42.2 76)), (77, (m42.2 77)), (78, (m42.2 78)), (79, (m42.2 79)), (80, (m42.2 80)), (81, (m42.2 81)), (82, (m42.2 82)), (83, (m42.2 83)), (84, (m42.2 84)), (85, (m42.2 85)), (86, (m42.2 86)), (87, (m42.2 87)), (88, (m42.2 88)), (89, (m42.2 89)), (90, (m42.2 90)), (91, (m42.2 91)), (92, (m42.2 92)), (101, (m42.2 101)), (102, (m42.2 102)), (103, (m42.2 103)), (104, (m42.2 104)), (105, (m42.2 105)), (106, (m42.2 106)), (107, (m42.2 107)), (108, (m42.2 108)), (117, (m42.2 117)), (118, (m42.2 118)), (120, upI (m42.2 120) x531 (m42.1 99)), (121, (m42.2 121)), (122, (m42.2 122))]) 55 120 (m42.2 120) rfl rfl rfl (by omega) (show x531 < (48 : Int) by omega) rfl rfl ?_
                    refine T_gf 59 (.int (i32 (m529.1 10))) rfl rfl rfl rfl rfl rfl ?_
                    refine T_if 66 62 rfl rfl rfl (r32 (by omega) (by omega)) (fun (h546 : (m529.1 10) ≠ 0) => by exfalso; omega) (fun (h546 : ¬ ((m529.1 10) ≠ 0)) => ?_)
                    refine T_ld 63 (.ref 189) rfl (fun _ => rfl) ?_
                    refine T_call 66 270 [.ref 189] [] rfl (fun _ => rfl) rfl (c_takeStatement w (mO m [(7, (m42.1 7)), (8, (m42.1 8)), (9, (m42.1 9)), (10, (m529.1 10)), (11, (m529.1 11)), (12, (m42.1 12)), (27, (m529.1 27)), (28, (m42.1 28)), (69, (m42.1 69)), (70, (m42.1 70)), (71, (m42.1 71)), (72, (m42.1 72)), (73, (m42.1 73)), (74, (m42.1 74)), (75, (m42.1 75)), (99, (m42.1 99)), (100, (m42.1 100)), (119, (m42.1 119))] [(59, (m42.2 59)), (60, (m529.2 60)), (61, (m529.2 61)), (62, (m529.2 62)), (63, (m529.2 63)), (65, (m42.2 65)), (66, (m42.2 66)), (67, (m42.2 67)), (68, (m42.2 68)), (76, (m42.2 76)), (77, (m42.2 77)), (78, (m42.2 78)), (79, (m42.2 79)), (80, (m42.2 80)), (81, (m42.2 81)), (82, (m42.2 82)), (83, (m42.2 83)), (84, (m42.2 84)), (85, (m42.2 85)), (86, (m42.2 86)), (87, (m42.2 87)), (88, (m42.2 88)), (89, (m42.2 89)), (90, (m42.2 90)), (91, (m42.2 91)), (92, (m42.2 92)), (101, (m42.2 101)), (102, (m42.2 102)), (103, (m42.2 103)), (104, (m42.2 104)), (105, (m42.2 105)), (106, (m42.2 106)), (107, (m42.2 107)), (108, (m42.2 108)), (117, (m42.2 117)), (118, (m42.2 118)), (120, upI (m42.2 120) x531 (m42.1 99)), (121, (m42.2 121)), (122, (m42.2 122))]) c N D (by omega) (Ty_mO hT rfl rfl ⟨(q44.1 7), (q44.1 8), (q44.1 9), (hT530.1 10), (hT530.1 11), (q44.1 12), (hT530.1 27), (q44.1 28), (q44.1 69), (q44.1 70), (q44.1 71), (q44.1 72), (q44.1 73), (q44.1 74), (q44.1 75), (q44.1 99), (q44.1 100), (q44.1 119), trivial⟩ ⟨(q44.2.1 59), (hT530.2.1 60), (hT530.2.1 61), (hT530.2.1 62), (hT530.2.1 63), (q44.2.1 65), (q44.2.1 66), (q44.2.1 67), (q44.2.1 68), (q44.2.1 76), (q44.2.1 77), (q44.2.1 78), (q44.2.1 79), (q44.2.1 80), (q44.2.1 81), (q44.2.1 82), (q44.2.1 83), (q44.2.1 84), (q44.2.1 85), (q44.2.1 86), (q44.2.1 87), (q44.2.1 88), (q44.2.1 89), (q44.2.1 90), (q44.2.1 91), (q44.2.1 92), (q44.2.1 101), (q44.2.1 102), (q44.2.1 103), (q44.2.1 104), (q44.2.1 105), (q44.2.1 106), (q44.2.1 107), (q44.2.1 108), (q44.2.1 117), (q44.2.1 118), G545, (q44.2.1 121), (q44.2.1 122), trivial⟩) (show LxP (m42.1 7) (m42.1 8) (m42.1 9) (m.1 6) (m529.1 10) by first | exact hLx | exact (fun _ => hLx (by omega)) | (intro h9; exfalso; omega)) (show ∀ k, (m.2 14) k + (m.2 15) k ≤ 4000 by assumption) (show ∀ k, (m.2 31) k + (m.2 32) k ≤ 4000 by assumption) (show ∀ k, (m.2 47) k + (m.2 48) k ≤ 4000 by assumption) (show (m42.1 99) ≤ 239 by omega) (show (m529.1 10) = 0 by omega) ⟨(show PN (m.1 13) (m.1 19) (m.1 20) (m.1 21) (m.1 22) (m.1 23) (m.1 25) (m.1 26) (m.2 16) (m.2 17) by assumption), (show CN (m42.2 65) (m42.2 67) (m42.1 28) by assumption), (show (m42.1 7) ≠ 0 by omega), (show TdP (m42.2 65) (m42.1 28) (m.1 22) (m42.1 99) (m42.2 101) (m42.2 103) (m42.2 105) (m42.2 106) (m42.2 107) (m42.2 108) by assumption)⟩) (fun rr547 k548 => ?_)
                    obtain ⟨m549, hT550, h551, h552, h553, c554, rfl⟩ := k548
                    refine ⟨_, _, rfl, ?_⟩
                    refine T_nf2 (st' := []) (l' := [(7, (m549.1 7)), (8, (m549.1 8)), (9, (m549.1 9)), (10, (m549.1 10)), (11, (m549.1 11)), (12, (m549.1 12)), (27, (m529.1 27)), (28, (m549.1 28)), (69, (m549.1 69)), (70, (m549.1 70)), (71, (m549.1 71)), (72, (m549.1 72)), (73, (m549.1 73)), (74, (m549.1 74)), (75, (m549.1 75)), (99, (m549.1 99)), (100, (m549.1 100)), (119, (m42.1 119))]) (a' := [(59, (m42.2 59)), (60, (m529.2 60)), (61, (m529.2 61)), (62, (m529.2 62)), (63, (m529.2 63)), (65, (m549.2 65)), (66, (m549.2 66)), (67, (m549.2 67)), (68, (m549.2 68)), (76, (m549.2 76)), (77, (m549.2 77)), (78, (m549.2 78)), (79, (m549.2 79)), (80, (m549.2 80)), (81, (m549.2 81)), (82, (m549.2 82)), (83, (m549.2 83)), (84, (m549.2 84)), (85, (m549.2 85)), (86, (m549.2 86)), (87, (m549.2 87)), (88, (m549.2 88)), (89, (m549.2 89)), (90, (m549.2 90)), (91, (m549.2 91)), (92, (m549.2 92)), (101, (m549.2 101)), (102, (m549.2 102)), (103, (m549.2 103)), (104, (m549.2 104)), (105, (m549.2 105)), (106, (m549.2 106)), (107, (m549.2 107)), (108, (m549.2 108)), (117, (m42.2 117)), (118, (m42.2 118)), (120, upI (m42.2 120) x531 (m42.1 99)), (121, (m42.2 121)), (122, (m42.2 122))]) [7, 8, 9, 10, 11, 12, 28, 69, 70, 71, 72, 73, 74, 75, 99, 100] [65, 66, 67, 68, 76, 77, 78, 79, 80, 81, 82, 83, 84, 85, 86, 87, 88, 89, 90, 91, 92, 101, 102, 103, 104, 105, 106, 107, 108] rfl ⟨rfl, rfl, rfl, rfl, rfl, rfl, rfl, rfl, rfl, rfl, rfl, rfl, rfl, rfl, rfl, rfl, rfl, rfl, rfl, rfl, rfl, rfl, rfl, rfl, rfl, rfl, rfl, rfl, rfl, rfl, rfl, rfl, rfl, rfl, rfl, rfl, rfl, trivial⟩ ⟨rfl, rfl, rfl, rfl, rfl, rfl, rfl, rfl, rfl, rfl, rfl, rfl, rfl, rfl, rfl, rfl, rfl, rfl, rfl, rfl, rfl, rfl, rfl, rfl, rfl, rfl, rfl, rfl, rfl, rfl, rfl, rfl, rfl, rfl, rfl, rfl, rfl, rfl, rfl, rfl, rfl, rfl, rfl, rfl, rfl, rfl, rfl, rfl, rfl, rfl, rfl, rfl, rfl, rfl, rfl, rfl, rfl, rfl, rfl, rfl, rfl, rfl, rfl, rfl, rfl, rfl, rfl, rfl, rfl, rfl, rfl, rfl, rfl, rfl, rfl, rfl, rfl, rfl, rfl, rfl, rfl, rfl, rfl, trivial⟩ rfl rfl (by decide) (by decide) ?_
                    have g555 : 0 ≤ m549.1 7 ∧ m549.1 7 ≤ 330 := hT550.1 7
                    have g556 : 0 ≤ m549.1 8 ∧ m549.1 8 ≤ 4000 := hT550.1 8
                    have g557 : 0 ≤ m549.1 9 ∧ m549.1 9 ≤ 4000 := hT550.1 9
                    have g558 : 0 ≤ m549.1 10 ∧ m549.1 10 ≤ 8 := hT550.1 10
                    have g559 : (-1) ≤ m549.1 11 ∧ m549.1 11 ≤ 4000 := hT550.1 11
                    have g560 : (-9223372036854775808) ≤ m549.1 12 ∧ m549.1 12 ≤ 9223372036854775807 := hT550.1 12
                    have g561 : 0 ≤ m549.1 28 ∧ m549.1 28 ≤ 800 := hT550.1 28
                    have g562 : 0 ≤ m549.1 69 ∧ m549.1 69 ≤ 1024 := hT550.1 69
                    have g563 : 0 ≤ m549.1 70 ∧ m549.1 70 ≤ 4000 := hT550.1 70
                    have g564 : 0 ≤ m549.1 71 ∧ m549.1 71 ≤ 1 := hT550.1 71
                    have g565 : (-9223372036854775808) ≤ m549.1 72 ∧ m549.1 72 ≤ 9223372036854775807 := hT550.1 72
                    have g566 : 0 ≤ m549.1 73 ∧ m549.1 73 ≤ 60 := hT550.1 73
                    have g567 : 0 ≤ m549.1 74 ∧ m549.1 74 ≤ 24 := hT550.1 74
                    have g568 : 0 ≤ m549.1 75 ∧ m549.1 75 ≤ 3 := hT550.1 75
                    have g569 : 0 ≤ m549.1 99 ∧ m549.1 99 ≤ 240 := hT550.1 99
                    have g570 : 0 ≤ m549.1 100 ∧ m549.1 100 ≤ 64 := hT550.1 100
                    by_cases hf571 : (m549.1 10) = 0
                    · skip
                      replace h551 : (m529.1 10) = 0 := h551 hf571
                      replace h552 : LxP (m549.1 7) (m549.1 8) (m549.1 9) (m.1 6) (m549.1 10) := h552
                      have hLx := h552
                      replace h553 : (m549.1 99) = (m42.1 99) + 1 := h553
                      obtain ⟨c572, c573, c574, c575, c576⟩ := c554 hf571
                      replace c572 : (m42.1 8) + 1 ≤ (m549.1 8) := c572
                      replace c573 : (m42.1 28) ≤ (m549.1 28) := c573
                      replace c574 : CN (m549.2 65) (m549.2 67) (m549.1 28) := c574
                      have hCN := c574
                      replace c575 : agr (m42.2 65) (m549.2 65) (m42.1 28) := c575
                      have hAg := c575
                      replace c576 : TdP (m549.2 65) (m549.1 28) (m.1 22) (m549.1 99) (m549.2 101) (m549.2 103) (m549.2 105) (m549.2 106) (m549.2 107) (m549.2 108) := c576
                      have pTd := c576
                      clear c554
                      have u577 : (m.1 8) + 1 ≤ (m549.1 8) := by omega
                      have hAgC : agr (m.2 65) (m549.2 65) (m.1 28) := by first | exact agr_r _ _ | exact hAgC | exact agr_t hAgC hAg (by omega)
                      have pSp : SpP (m549.2 65) (m549.1 28) (m549.1 99) (m.1 26) (m529.1 27) (m529.2 60) (m529.2 61) (upI (m42.2 120) x531 (m42.1 99)) (m42.2 121) (m42.2 122) (m529.2 63) := by
                        rw [hS0, hS1, hS2]
                        rw [hS3]; exact SpP_add (SpP_f pSp hAg (by omega) (by omega) (agr_u (Int.le_refl _)) (agr_u (Int.le_refl _)) (agr_u (Int.le_refl _)) (agr_r _ _) (agr_r _ _) (agr_u (Int.le_refl _))) ⟨by rw [upI_s]; exact hBi, fun _ => by rw [upI_s]; omega, fun h => by rw [upI_s] at h; omega, fun h => by rw [upI_s] at h; omega⟩
                      have hBK : ∀ j, 0 ≤ j → j < (m42.1 119) → (m42.2 117) j < (m529.1 27) := fun j j0 j1 => Int.lt_trans (hBK j j0 j1) (by omega)
                      refine T_goto 18 rfl (fun _ => rfl) ?_
                      refine Tm_lv (a := [(0, .ref 189)]) rfl rfl ⟨rfl, trivial⟩ ?_
                      exact ih47 (mO m [(7, (m549.1 7)), (8, (m549.1 8)), (9, (m549.1 9)), (10, (m549.1 10)), (11, (m549.1 11)), (12, (m549.1 12)), (27, (m529.1 27)), (28, (m549.1 28)), (69, (m549.1 69)), (70, (m549.1 70)), (71, (m549.1 71)), (72, (m549.1 72)), (73, (m549.1 73)), (74, (m549.1 74)), (75, (m549.1 75)), (99, (m549.1 99)), (100, (m549.1 100)), (119, (m42.1 119))] [(59, (m42.2 59)), (60, (m529.2 60)), (61, (m529.2 61)), (62, (m529.2 62)), (63, (m529.2 63)), (65, (m549.2 65)), (66, (m549.2 66)), (67, (m549.2 67)), (68, (m549.2 68)), (76, (m549.2 76)), (77, (m549.2 77)), (78, (m549.2 78)), (79, (m549.2 79)), (80, (m549.2 80)), (81, (m549.2 81)), (82, (m549.2 82)), (83, (m549.2 83)), (84, (m549.2 84)), (85, (m549.2 85)), (86, (m549.2 86)), (87, (m549.2 87)), (88, (m549.2 88)), (89, (m549.2 89)), (90, (m549.2 90)), (91, (m549.2 91)), (92, (m549.2 92)), (101, (m549.2 101)), (102, (m549.2 102)), (103, (m549.2 103)), (104, (m549.2 104)), (105, (m549.2 105)), (106, (m549.2 106)), (107, (m549.2 107)), (108, (m549.2 108)), (117, (m42.2 117)), (118, (m42.2 118)), (120, upI (m42.2 120) x531 (m42.1 99)), (121, (m42.2 121)), (122, (m42.2 122))]) (Ty_mO hT rfl rfl ⟨(hT550.1 7), (hT550.1 8), (hT550.1 9), (hT550.1 10), (hT550.1 11), (hT550.1 12), (hT530.1 27), (hT550.1 28), (hT550.1 69), (hT550.1 70), (hT550.1 71), (hT550.1 72), (hT550.1 73), (hT550.1 74), (hT550.1 75), (hT550.1 99), (hT550.1 100), (q44.1 119), trivial⟩ ⟨(q44.2.1 59), (hT530.2.1 60), (hT530.2.1 61), (hT530.2.1 62), (hT530.2.1 63), (hT550.2.1 65), (hT550.2.1 66), (hT550.2.1 67), (hT550.2.1 68), (hT550.2.1 76), (hT550.2.1 77), (hT550.2.1 78), (hT550.2.1 79), (hT550.2.1 80), (hT550.2.1 81), (hT550.2.1 82), (hT550.2.1 83), (hT550.2.1 84), (hT550.2.1 85), (hT550.2.1 86), (hT550.2.1 87), (hT550.2.1 88), (hT550.2.1 89), (hT550.2.1 90), (hT550.2.1 91), (hT550.2.1 92), (hT550.2.1 101), (hT550.2.1 102), (hT550.2.1 103), (hT550.2.1 104), (hT550.2.1 105), (hT550.2.1 106), (hT550.2.1 107), (hT550.2.1 108), (q44.2.1 117), (q44.2.1 118), G545, (q44.2.1 121), (q44.2.1 122), trivial⟩) (show LxP (m549.1 7) (m549.1 8) (m549.1 9) (m.1 6) (m549.1 10) by exact hLx) (fun _ => ⟨(show (m.1 8) + 1 ≤ (m549.1 8) by omega), (show ∀ j, 0 ≤ j → j < (m42.1 119) → (m42.2 117) j < (m529.1 27) by exact hBK), (show CN (m549.2 65) (m549.2 67) (m549.1 28) by exact hCN), (show (m.1 28) ≤ (m549.1 28) by omega), (show agr (m.2 65) (m549.2 65) (m.1 28) by exact hAgC), (show TdP (m549.2 65) (m549.1 28) (m.1 22) (m549.1 99) (m549.2 101) (m549.2 103) (m549.2 105) (m549.2 106) (m549.2 107) (m549.2 108) by exact pTd), (show SpP (m549.2 65) (m549.1 28) (m549.1 99) (m.1 26) (m529.1 27) (m529.2 60) (m529.2 61) (upI (m42.2 120) x531 (m42.1 99)) (m42.2 121) (m42.2 122) (m529.2 63) by first | exact pSp | exact fun s s0 s1 => absurd s1 (by omega)), (show (m549.1 99) ≤ 192 + (m529.1 27) by omega)⟩) (show 1000000 * (8 - (m549.1 10)) + (4000 - (m549.1 8)) < (n : Int) by omega)
                    · skip
                      clear c554
                      clear h551
                      replace h552 : LxP (m549.1 7) (m549.1 8) (m549.1 9) (m.1 6) (m549.1 10) := h552
                      have hLx := h552
                      replace h553 : (m549.1 99) = (m42.1 99) + 1 := h553
                      have hf578 : 1 ≤ (m549.1 10) := by omega
                      refine T_goto 18 rfl (fun _ => rfl) ?_
                      refine Tm_lv (a := [(0, .ref 189)]) rfl rfl ⟨rfl, trivial⟩ ?_
                      exact ih47 (mO m [(7, (m549.1 7)), (8, (m549.1 8)), (9, (m549.1 9)), (10, (m549.1 10)), (11, (m549.1 11)), (12, (m549.1 12)), (27, (m529.1 27)), (28, (m549.1 28)), (69, (m549.1 69)), (70, (m549.1 70)), (71, (m549.1 71)), (72, (m549.1 72)), (73, (m549.1 73)), (74, (m549.1 74)), (75, (m549.1 75)), (99, (m549.1 99)), (100, (m549.1 100)), (119, (m42.1 119))] [(59, (m42.2 59)), (60, (m529.2 60)), (61, (m529.2 61)), (62, (m529.2 62)), (63, (m529.2 63)), (65, (m549.2 65)), (66, (m549.2 66)), (67, (m549.2 67)), (68, (m549.2 68)), (76, (m549.2 76)), (77, (m549.2 77)), (78, (m549.2 78)), (79, (m549.2 79)), (80, (m549.2 80)), (81, (m549.2 81)), (82, (m549.2 82)), (83, (m549.2 83)), (84, (m549.2 84)), (85, (m549.2 85)), (86, (m549.2 86)), (87, (m549.2 87)), (88, (m549.2 88)), (89, (m549.2 89)), (90, (m549.2 90)), (91, (m549.2 91)), (92, (m549.2 92)), (101, (m549.2 101)), (102, (m549.2 102)), (103, (m549.2 103)), (104, (m549.2 104)), (105, (m549.2 105)), (106, (m549.2 106)), (107, (m549.2 107)), (108, (m549.2 108)), (117, (m42.2 117)), (118, (m42.2 118)), (120, upI (m42.2 120) x531 (m42.1 99)), (121, (m42.2 121)), (122, (m42.2 122))]) (Ty_mO hT rfl rfl ⟨(hT550.1 7), (hT550.1 8), (hT550.1 9), (hT550.1 10), (hT550.1 11), (hT550.1 12), (hT530.1 27), (hT550.1 28), (hT550.1 69), (hT550.1 70), (hT550.1 71), (hT550.1 72), (hT550.1 73), (hT550.1 74), (hT550.1 75), (hT550.1 99), (hT550.1 100), (q44.1 119), trivial⟩ ⟨(q44.2.1 59), (hT530.2.1 60), (hT530.2.1 61), (hT530.2.1 62), (hT530.2.1 63), (hT550.2.1 65), (hT550.2.1 66), (hT550.2.1 67), (hT550.2.1 68), (hT550.2.1 76), (hT550.2.1 77), (hT550.2.1 78), (hT550.2.1 79), (hT550.2.1 80), (hT550.2.1 81), (hT550.2.1 82), (hT550.2.1 83), (hT550.2.1 84), (hT550.2.1 85), (hT550.2.1 86), (hT550.2.1 87), (hT550.2.1 88), (hT550.2.1 89), (hT550.2.1 90), (hT550.2.1 91), (hT550.2.1 92), (hT550.2.1 101), (hT550.2.1 102), (hT550.2.1 103), (hT550.2.1 104), (hT550.2.1 105), (hT550.2.1 106), (hT550.2.1 107), (hT550.2.1 108), (q44.2.1 117), (q44.2.1 118), G545, (q44.2.1 121), (q44.2.1 122), trivial⟩) (show LxP (m549.1 7) (m549.1 8) (m549.1 9) (m.1 6) (m549.1 10) by exact hLx) (fun (h : (m549.1 10) = 0) => absurd h (by omega)) (show 1000000 * (8 - (m549.1 10)) + (4000 - (m549.1 8)) < (n : Int) by omega)
                  · skip
                    clear c534
                    clear h533
                    have hf579 : 1 ≤ (m529.1 10) := by omega
                    refine T_sto 45 [(1, .int (i32 x531)), (0, .ref 189)] rfl (fun _ => rfl) ?_
                    refine T_gf 49 (.ref 279) rfl rfl rfl rfl rfl rfl ?_
                    refine T_ld 50 (.int (i32 x531)) rfl (fun _ => rfl) ?_
                    refine T_gf 54 (.int (i32 (m42.1 99))) rfl rfl rfl rfl rfl rfl ?_
                    have G580 : ∀ j, 0 ≤ (upI (m42.2 120) x531 (m42.1 99)) j ∧ (upI (m42.2 120) x531 (m42.1 99)) j ≤ 240 := upI_rg (q44.2.1 120) ⟨by omega, by omega⟩
                    refine T_iast (a' := [(59, (m42.2 59)), (60, (m529.2 60)), (61, (m529.2 61)), (62, (m529.2 62)), (63, (m529.2 63)), (65, (m42.2 65)), (66, (m42.2 66)), (67, (m42.2 67)), (68, (m42.2 68)), (76, (m42.2 76)), (77, (m42.2 77)), (78, (m42.2 78)), (79, (m42.2 79)), (80, (m42.2 80)), (81, (m42.2 81)), (82, (m42.2 82)), (83, (m42.2 83)), (84, (m42.2 84)), (85, (m42.2 85)), (86, (m42.2 86)), (87, (m42.2 87)), (88, (m42.2 88)), (89, (m42.2 89)), (90, (m42.2 90)), (91, (m42.2 91)), (92, (m42.2 92)), (101, (m42.2 101)), (102, (m42.2 102)), (103, (m42.2 103)), (104, (m42.2 104)), (105, (m42.2 105)), (106, (m42.2 106)), (107, (m42.2 107)), (108, (m42.2 108)), (117, (m42.2 117)), (118, (m42.2 118)), (120, upI (m42.2 120) x531 (m42.1 99)), (121, (m42.2 121)), (122, (m42.2 122))]) 55 120 (m42.2 120) rfl rfl rfl (by omega) (show x531 < (48 : Int) by omega) rfl rfl ?_
                    refine T_gf 59 (.int (i32 (m529.1 10))) rfl rfl rfl rfl rfl rfl ?_
                    refine T_if 66 62 rfl rfl rfl (r32 (by omega) (by omega)) (fun (h581 : (m529.1 10) ≠ 0) => ?_) (fun (h581 : ¬ ((m529.1 10) ≠ 0)) => by exfalso; omega)
                    refine T_goto 18 rfl (fun _ => rfl) ?_
                    refine Tm_lv (a := [(0, .ref 189)]) rfl rfl ⟨rfl, trivial⟩ ?_
                    exact ih47 (mO m [(7, (m42.1 7)), (8, (m42.1 8)), (9, (m42.1 9)), (10, (m529.1 10)), (11, (m529.1 11)), (12, (m42.1 12)), (27, (m529.1 27)), (28, (m42.1 28)), (69, (m42.1 69)), (70, (m42.1 70)), (71, (m42.1 71)), (72, (m42.1 72)), (73, (m42.1 73)), (74, (m42.1 74)), (75, (m42.1 75)), (99, (m42.1 99)), (100, (m42.1 100)), (119, (m42.1 119))] [(59, (m42.2 59)), (60, (m529.2 60)), (61, (m529.2 61)), (62, (m529.2 62)), (63, (m529.2 63)), (65, (m42.2 65)), (66, (m42.2 66)), (67, (m42.2 67)), (68, (m42.2 68)), (76, (m42.2 76)), (77, (m42.2 77)), (78, (m42.2 78)), (79, (m42.2 79)), (80, (m42.2 80)), (81, (m42.2 81)), (82, (m42.2 82)), (83, (m42.2 83)), (84, (m42.2 84)), (85, (m42.2 85)), (86, (m42.2 86)), (87, (m42.2 87)), (88, (m42.2 88)), (89, (m42.2 89)), (90, (m42.2 90)), (91, (m42.2 91)), (92, (m42.2 92)), (101, (m42.2 101)), (102, (m42.2 102)), (103, (m42.2 103)), (104, (m42.2 104)), (105, (m42.2 105)), (106, (m42.2 106)), (107, (m42.2 107)), (108, (m42.2 108)), (117, (m42.2 117)), (118, (m42.2 118)), (120, upI (m42.2 120) x531 (m42.1 99)), (121, (m42.2 121)), (122, (m42.2 122))]) (Ty_mO hT rfl rfl ⟨(q44.1 7), (q44.1 8), (q44.1 9), (hT530.1 10), (hT530.1 11), (q44.1 12), (hT530.1 27), (q44.1 28), (q44.1 69), (q44.1 70), (q44.1 71), (q44.1 72), (q44.1 73), (q44.1 74), (q44.1 75), (q44.1 99), (q44.1 100), (q44.1 119), trivial⟩ ⟨(q44.2.1 59), (hT530.2.1 60), (hT530.2.1 61), (hT530.2.1 62), (hT530.2.1 63), (q44.2.1 65), (q44.2.1 66), (q44.2.1 67), (q44.2.1 68), (q44.2.1 76), (q44.2.1 77), (q44.2.1 78), (q44.2.1 79), (q44.2.1 80), (q44.2.1 81), (q44.2.1 82), (q44.2.1 83), (q44.2.1 84), (q44.2.1 85), (q44.2.1 86), (q44.2.1 87), (q44.2.1 88), (q44.2.1 89), (q44.2.1 90), (q44.2.1 91), (q44.2.1 92), (q44.2.1 101), (q44.2.1 102), (q44.2.1 103), (q44.2.1 104), (q44.2.1 105), (q44.2.1 106), (q44.2.1 107), (q44.2.1 108), (q44.2.1 117), (q44.2.1 118), G580, (q44.2.1 121), (q44.2.1 122), trivial⟩) (show LxP (m42.1 7) (m42.1 8) (m42.1 9) (m.1 6) (m529.1 10) by exact hLx) (fun (h : (m529.1 10) = 0) => absurd h (by omega)) (show 1000000 * (8 - (m529.1 10)) + (4000 - (m42.1 8)) < (n : Int) by omega)
            · skip
              clear c46
              have hf582 : 1 ≤ (m42.1 10) := by omega
              refine T_gf 22 (.int (i32 (m42.1 10))) rfl rfl rfl rfl rfl rfl ?_
              refine T_if 249 25 rfl rfl rfl (r32 (by omega) (by omega)) (fun (h583 : (m42.1 10) ≠ 0) => ?_) (fun (h583 : ¬ ((m42.1 10) ≠ 0)) => by exfalso; omega)
              refine T_ret rfl (fun _ => rfl) ?_
              exact ⟨(mO m [(7, (m42.1 7)), (8, (m42.1 8)), (9, (m42.1 9)), (10, (m42.1 10)), (11, (m42.1 11)), (12, (m42.1 12)), (27, (m42.1 27)), (28, (m42.1 28)), (69, (m42.1 69)), (70, (m42.1 70)), (71, (m42.1 71)), (72, (m42.1 72)), (73, (m42.1 73)), (74, (m42.1 74)), (75, (m42.1 75)), (99, (m42.1 99)), (100, (m42.1 100)), (119, (m42.1 119))] [(59, (m42.2 59)), (60, (m42.2 60)), (61, (m42.2 61)), (62, (m42.2 62)), (63, (m42.2 63)), (65, (m42.2 65)), (66, (m42.2 66)), (67, (m42.2 67)), (68, (m42.2 68)), (76, (m42.2 76)), (77, (m42.2 77)), (78, (m42.2 78)), (79, (m42.2 79)), (80, (m42.2 80)), (81, (m42.2 81)), (82, (m42.2 82)), (83, (m42.2 83)), (84, (m42.2 84)), (85, (m42.2 85)), (86, (m42.2 86)), (87, (m42.2 87)), (88, (m42.2 88)), (89, (m42.2 89)), (90, (m42.2 90)), (91, (m42.2 91)), (92, (m42.2 92)), (101, (m42.2 101)), (102, (m42.2 102)), (103, (m42.2 103)), (104, (m42.2 104)), (105, (m42.2 105)), (106, (m42.2 106)), (107, (m42.2 107)), (108, (m42.2 108)), (117, (m42.2 117)), (118, (m42.2 118)), (120, (m42.2 120)), (121, (m42.2 121)), (122, (m42.2 122))]), (Ty_mO hT rfl rfl ⟨(q44.1 7), (q44.1 8), (q44.1 9), (q44.1 10), (q44.1 11), (q44.1 12), (q44.1 27), (q44.1 28), (q44.1 69), (q44.1 70), (q44.1 71), (q44.1 72), (q44.1 73), (q44.1 74), (q44.1 75), (q44.1 99), (q44.1 100), (q44.1 119), trivial⟩ ⟨(q44.2.1 59), (q44.2.1 60), (q44.2.1 61), (q44.2.1 62), (q44.2.1 63), (q44.2.1 65), (q44.2.1 66), (q44.2.1 67), (q44.2.1 68), (q44.2.1 76), (q44.2.1 77), (q44.2.1 78), (q44.2.1 79), (q44.2.1 80), (q44.2.1 81), (q44.2.1 82), (q44.2.1 83), (q44.2.1 84), (q44.2.1 85), (q44.2.1 86), (q44.2.1 87), (q44.2.1 88), (q44.2.1 89), (q44.2.1 90), (q44.2.1 91), (q44.2.1 92), (q44.2.1 101), (q44.2.1 102), (q44.2.1 103), (q44.2.1 104), (q44.2.1 105), (q44.2.1 106), (q44.2.1 107), (q44.2.1 108), (q44.2.1 117), (q44.2.1 118), (q44.2.1 120), (q44.2.1 121), (q44.2.1 122), trivial⟩), (show (m42.1 10) = 0 → (m.1 10) = 0 by omega), (show LxP (m42.1 7) (m42.1 8) (m42.1 9) (m.1 6) (m42.1 10) by first | (first | exact hLx | exact (fun _ => hLx (by omega)) | (intro h9; exfalso; omega)) | (exfalso; omega)), (fun (h : (m42.1 10) = 0) => absurd h (by omega)), rfl⟩
        exact L18_43 ((1000000 * (8 - (m25.1 10)) + (4000 - (m25.1 8)) : Int) + 1).toNat (mO m [(7, (m25.1 7)), (8, (m25.1 8)), (9, (m25.1 9)), (10, (m25.1 10)), (11, (m25.1 11)), (12, (m25.1 12)), (27, (m.1 27)), (28, (m.1 28)), (69, (m.1 69)), (70, (m.1 70)), (71, (m.1 71)), (72, (m.1 72)), (73, (m.1 73)), (74, (m.1 74)), (75, (m.1 75)), (99, (m.1 99)), (100, (m.1 100)), (119, (m25.1 119))] [(59, (m.2 59)), (60, (m.2 60)), (61, (m.2 61)), (62, (m.2 62)), (63, (m.2 63)), (65, (m.2 65)), (66, (m.2 66)), (67, (m.2 67)), (68, (m.2 68)), (76, (m.2 76)), (77, (m.2 77)), (78, (m.2 78)), (79, (m.2 79)), (80, (m.2 80)), (81, (m.2 81)), (82, (m.2 82)), (83, (m.2 83)), (84, (m.2 84)), (85, (m.2 85)), (86, (m.2 86)), (87, (m.2 87)), (88, (m.2 88)), (89, (m.2 89)), (90, (m.2 90)), (91, (m.2 91)), (92, (m.2 92)), (101, (m.2 101)), (102, (m.2 102)), (103, (m.2 103)), (104, (m.2 104)), (105, (m.2 105)), (106, (m.2 106)), (107, (m.2 107)), (108, (m.2 108)), (117, (m25.2 117)), (118, (m25.2 118)), (120, (m.2 120)), (121, (m.2 121)), (122, (m.2 122))]) (Ty_mO hT rfl rfl ⟨(hT26.1 7), (hT26.1 8), (hT26.1 9), (hT26.1 10), (hT26.1 11), (hT26.1 12), f27, f28, f69, f70, f71, f72, f73, f74, f75, f99, f100, (hT26.1 119), trivial⟩ ⟨(hT.2.1 59), (hT.2.1 60), (hT.2.1 61), (hT.2.1 62), (hT.2.1 63), (hT.2.1 65), (hT.2.1 66), (hT.2.1 67), (hT.2.1 68), (hT.2.1 76), (hT.2.1 77), (hT.2.1 78), (hT.2.1 79), (hT.2.1 80), (hT.2.1 81), (hT.2.1 82), (hT.2.1 83), (hT.2.1 84), (hT.2.1 85), (hT.2.1 86), (hT.2.1 87), (hT.2.1 88), (hT.2.1 89), (hT.2.1 90), (hT.2.1 91), (hT.2.1 92), (hT.2.1 101), (hT.2.1 102), (hT.2.1 103), (hT.2.1 104), (hT.2.1 105), (hT.2.1 106), (hT.2.1 107), (hT.2.1 108), (hT26.2.1 117), (hT26.2.1 118), (hT.2.1 120), (hT.2.1 121), (hT.2.1 122), trivial⟩) (show LxP (m25.1 7) (m25.1 8) (m25.1 9) (m.1 6) (m25.1 10) by exact hLx) (fun _ => ⟨(show (m.1 8) + 1 ≤ (m25.1 8) by omega), (show ∀ j, 0 ≤ j → j < (m25.1 119) → (m25.2 117) j < (m.1 27) by exact hBK), (show CN (m.2 65) (m.2 67) (m.1 28) by exact hCN), (show (m.1 28) ≤ (m.1 28) by omega), (show agr (m.2 65) (m.2 65) (m.1 28) by exact hAgC), (show TdP (m.2 65) (m.1 28) (m.1 22) (m.1 99) (m.2 101) (m.2 103) (m.2 105) (m.2 106) (m.2 107) (m.2 108) by exact pTd), (show SpP (m.2 65) (m.1 28) (m.1 99) (m.1 26) (m.1 27) (m.2 60) (m.2 61) (m.2 120) (m.2 121) (m.2 122) (m.2 63) by first | exact pSp | exact fun s s0 s1 => absurd s1 (by omega)), (show (m.1 99) ≤ 192 + (m.1 27) by omega)⟩) (show 1000000 * (8 - (m25.1 10)) + (4000 - (m25.1 8)) < ((((1000000 * (8 - (m25.1 10)) + (4000 - (m25.1 8)) : Int) + 1).toNat : Nat) : Int) by omega)
      · skip
        clear c29
        clear h27
        replace h28 : LxP (m25.1 7) (m25.1 8) (m25.1 9) (m.1 6) (m25.1 10) := h28
        have hLx := h28
        have hf584 : 1 ≤ (m25.1 10) := by omega
        refine T_gf 22 (.int (i32 (m25.1 10))) rfl rfl rfl rfl rfl rfl ?_
        refine T_if 249 25 rfl rfl rfl (r32 (by omega) (by omega)) (fun (h585 : (m25.1 10) ≠ 0) => ?_) (fun (h585 : ¬ ((m25.1 10) ≠ 0)) => by exfalso; omega)
        refine T_ret rfl (fun _ => rfl) ?_
        exact ⟨(mO m [(7, (m25.1 7)), (8, (m25.1 8)), (9, (m25.1 9)), (10, (m25.1 10)), (11, (m25.1 11)), (12, (m25.1 12)), (27, (m.1 27)), (28, (m.1 28)), (69, (m.1 69)), (70, (m.1 70)), (71, (m.1 71)), (72, (m.1 72)), (73, (m.1 73)), (74, (m.1 74)), (75, (m.1 75)), (99, (m.1 99)), (100, (m.1 100)), (119, (m25.1 119))] [(59, (m.2 59)), (60, (m.2 60)), (61, (m.2 61)), (62, (m.2 62)), (63, (m.2 63)), (65, (m.2 65)), (66, (m.2 66)), (67, (m.2 67)), (68, (m.2 68)), (76, (m.2 76)), (77, (m.2 77)), (78, (m.2 78)), (79, (m.2 79)), (80, (m.2 80)), (81, (m.2 81)), (82, (m.2 82)), (83, (m.2 83)), (84, (m.2 84)), (85, (m.2 85)), (86, (m.2 86)), (87, (m.2 87)), (88, (m.2 88)), (89, (m.2 89)), (90, (m.2 90)), (91, (m.2 91)), (92, (m.2 92)), (101, (m.2 101)), (102, (m.2 102)), (103, (m.2 103)), (104, (m.2 104)), (105, (m.2 105)), (106, (m.2 106)), (107, (m.2 107)), (108, (m.2 108)), (117, (m25.2 117)), (118, (m25.2 118)), (120, (m.2 120)), (121, (m.2 121)), (122, (m.2 122))]), (Ty_mO hT rfl rfl ⟨(hT26.1 7), (hT26.1 8), (hT26.1 9), (hT26.1 10), (hT26.1 11), (hT26.1 12), f27, f28, f69, f70, f71, f72, f73, f74, f75, f99, f100, (hT26.1 119), trivial⟩ ⟨(hT.2.1 59), (hT.2.1 60), (hT.2.1 61), (hT.2.1 62), (hT.2.1 63), (hT.2.1 65), (hT.2.1 66), (hT.2.1 67), (hT.2.1 68), (hT.2.1 76), (hT.2.1 77), (hT.2.1 78), (hT.2.1 79), (hT.2.1 80), (hT.2.1 81), (hT.2.1 82), (hT.2.1 83), (hT.2.1 84), (hT.2.1 85), (hT.2.1 86), (hT.2.1 87), (hT.2.1 88), (hT.2.1 89), (hT.2.1 90), (hT.2.1 91), (hT.2.1 92), (hT.2.1 101), (hT.2.1 102), (hT.2.1 103), (hT.2.1 104), (hT.2.1 105), (hT.2.1 106), (hT.2.1 107), (hT.2.1 108), (hT26.2.1 117), (hT26.2.1 118), (hT.2.1 120), (hT.2.1 121), (hT.2.1 122), trivial⟩), (show (m25.1 10) = 0 → (m.1 10) = 0 by omega), (show LxP (m25.1 7) (m25.1 8) (m25.1 9) (m.1 6) (m25.1 10) by first | (first | exact hLx | exact (fun _ => hLx (by omega)) | (intro h9; exfalso; omega)) | (exfalso; omega)), (fun (h : (m25.1 10) = 0) => absurd h (by omega)), rfl⟩
    · skip
      replace h17 : LxP y5 y7 y9 (m.1 6) y11 := h17
      have hLx := h17
      clear h18
      replace h19 : (m.1 8) ≤ y7 := h19
      clear h20
      have hf586 : 1 ≤ y11 := by omega
      refine T_ld 8 (.ref 189) rfl (fun _ => rfl) ?_
      refine T_ld 9 (.int (i32 0)) rfl (fun _ => rfl) ?_
      refine T_pf (l' := [(7, y5), (8, y7), (9, y9), (10, y11), (11, y13), (12, y15), (27, (m.1 27)), (28, (m.1 28)), (69, (m.1 69)), (70, (m.1 70)), (71, (m.1 71)), (72, (m.1 72)), (73, (m.1 73)), (74, (m.1 74)), (75, (m.1 75)), (99, (m.1 99)), (100, (m.1 100)), (119, 0)]) 12 0 rfl rfl rfl rfl rfl rfl ?_
      refine T_ld 13 (.ref 189) rfl (fun _ => rfl) ?_
      refine T_ld 14 (.int (i32 (-1))) rfl (fun _ => rfl) ?_
      refine T_ld 15 (.int (i32 (-1))) rfl (fun _ => rfl) ?_
      refine T_call 18 280 [.ref 189, .int (i32 (-1)), .int (i32 (-1))] [] rfl (fun _ => rfl) rfl (c_openBlock w (mO m [(7, y5), (8, y7), (9, y9), (10, y11), (11, y13), (12, y15), (27, (m.1 27)), (28, (m.1 28)), (69, (m.1 69)), (70, (m.1 70)), (71, (m.1 71)), (72, (m.1 72)), (73, (m.1 73)), (74, (m.1 74)), (75, (m.1 75)), (99, (m.1 99)), (100, (m.1 100)), (119, 0)] [(59, (m.2 59)), (60, (m.2 60)), (61, (m.2 61)), (62, (m.2 62)), (63, (m.2 63)), (65, (m.2 65)), (66, (m.2 66)), (67, (m.2 67)), (68, (m.2 68)), (76, (m.2 76)), (77, (m.2 77)), (78, (m.2 78)), (79, (m.2 79)), (80, (m.2 80)), (81, (m.2 81)), (82, (m.2 82)), (83, (m.2 83)), (84, (m.2 84)), (85, (m.2 85)), (86, (m.2 86)), (87, (m.2 87)), (88, (m.2 88)), (89, (m.2 89)), (90, (m.2 90)), (91, (m.2 91)), (92, (m.2 92)), (101, (m.2 101)), (102, (m.2 102)), (103, (m.2 103)), (104, (m.2 104)), (105, (m.2 105)), (106, (m.2 106)), (107, (m.2 107)), (108, (m.2 108)), (117, (m.2 117)), (118, (m.2 118)), (120, (m.2 120)), (121, (m.2 121)), (122, (m.2 122))]) c N D (by omega) (Ty_mO hT rfl rfl ⟨g6, g8, g10, g12, g14, g16, f27, f28, f69, f70, f71, f72, f73, f74, f75, f99, f100, ⟨(by omega : (0 : Int) ≤ 0), (by omega : (0 : Int) ≤ 8)⟩, trivial⟩ ⟨(hT.2.1 59), (hT.2.1 60), (hT.2.1 61), (hT.2.1 62), (hT.2.1 63), (hT.2.1 65), (hT.2.1 66), (hT.2.1 67), (hT.2.1 68), (hT.2.1 76), (hT.2.1 77), (hT.2.1 78), (hT.2.1 79), (hT.2.1 80), (hT.2.1 81), (hT.2.1 82), (hT.2.1 83), (hT.2.1 84), (hT.2.1 85), (hT.2.1 86), (hT.2.1 87), (hT.2.1 88), (hT.2.1 89), (hT.2.1 90), (hT.2.1 91), (hT.2.1 92), (hT.2.1 101), (hT.2.1 102), (hT.2.1 103), (hT.2.1 104), (hT.2.1 105), (hT.2.1 106), (hT.2.1 107), (hT.2.1 108), (hT.2.1 117), (hT.2.1 118), (hT.2.1 120), (hT.2.1 121), (hT.2.1 122), trivial⟩) (-1) (-1) ⟨by decide, by decide⟩ ⟨by decide, by decide⟩ (show LxP y5 y7 y9 (m.1 6) y11 by first | exact hLx | exact (fun _ => hLx (by omega)) | (intro h9; exfalso; omega)) (show (-1) ≤ (-1 : Int) ∧ (-1 : Int) ≤ 47 by omega) (show (-1) ≤ (-1 : Int) ∧ (-1 : Int) ≤ 1 by omega) (fun (h : y11 = 0) => absurd h (by omega))) (fun rr587 k588 => ?_)
      obtain ⟨m589, hT590, h591, h592, c593, rfl⟩ := k588
      refine ⟨_, _, rfl, ?_⟩
      refine T_nf2 (st' := []) (l' := [(7, (m589.1 7)), (8, (m589.1 8)), (9, (m589.1 9)), (10, (m589.1 10)), (11, (m589.1 11)), (12, (m589.1 12)), (27, (m.1 27)), (28, (m.1 28)), (69, (m.1 69)), (70, (m.1 70)), (71, (m.1 71)), (72, (m.1 72)), (73, (m.1 73)), (74, (m.1 74)), (75, (m.1 75)), (99, (m.1 99)), (100, (m.1 100)), (119, (m589.1 119))]) (a' := [(59, (m.2 59)), (60, (m.2 60)), (61, (m.2 61)), (62, (m.2 62)), (63, (m.2 63)), (65, (m.2 65)), (66, (m.2 66)), (67, (m.2 67)), (68, (m.2 68)), (76, (m.2 76)), (77, (m.2 77)), (78, (m.2 78)), (79, (m.2 79)), (80, (m.2 80)), (81, (m.2 81)), (82, (m.2 82)), (83, (m.2 83)), (84, (m.2 84)), (85, (m.2 85)), (86, (m.2 86)), (87, (m.2 87)), (88, (m.2 88)), (89, (m.2 89)), (90, (m.2 90)), (91, (m.2 91)), (92, (m.2 92)), (101, (m.2 101)), (102, (m.2 102)), (103, (m.2 103)), (104, (m.2 104)), (105, (m.2 105)), (106, (m.2 106)), (107, (m.2 107)), (108, (m.2 108)), (117, (m589.2 117)), (118, (m589.2 118)), (120, (m.2 120)), (121, (m.2 121)), (122, (m.2 122))]) [7, 8, 9, 10, 11, 12, 119] [117, 118] rfl ⟨rfl, rfl, rfl, rfl, rfl, rfl, rfl, rfl, rfl, rfl, rfl, rfl, rfl, rfl, rfl, rfl, rfl, rfl, rfl, rfl, rfl, rfl, rfl, rfl, rfl, rfl, rfl, rfl, rfl, rfl, rfl, rfl, rfl, rfl, rfl, rfl, rfl, rfl, rfl, rfl, rfl, rfl, rfl, rfl, rfl, rfl, rfl, trivial⟩ ⟨rfl, rfl, rfl, rfl, rfl, rfl, rfl, rfl, rfl, rfl, rfl, rfl, rfl, rfl, rfl, rfl, rfl, rfl, rfl, rfl, rfl, rfl, rfl, rfl, rfl, rfl, rfl, rfl, rfl, rfl, rfl, rfl, rfl, rfl, rfl, rfl, rfl, rfl, rfl, rfl, rfl, rfl, rfl, rfl, rfl, rfl, rfl, rfl, rfl, rfl, rfl, rfl, rfl, rfl, rfl, rfl, rfl, rfl, rfl, rfl, rfl, rfl, rfl, rfl, rfl, rfl, rfl, rfl, rfl, rfl, rfl, rfl, rfl, rfl, rfl, rfl, rfl, rfl, rfl, rfl, rfl, rfl, rfl, rfl, rfl, rfl, rfl, rfl, rfl, rfl, rfl, rfl, rfl, rfl, rfl, rfl, rfl, rfl, rfl, rfl, rfl, rfl, rfl, rfl, rfl, rfl, rfl, rfl, rfl, rfl, rfl, rfl, trivial⟩ rfl rfl (by decide) (by decide) ?_
      have g594 : 0 ≤ m589.1 7 ∧ m589.1 7 ≤ 330 := hT590.1 7
      have g595 : 0 ≤ m589.1 8 ∧ m589.1 8 ≤ 4000 := hT590.1 8
      have g596 : 0 ≤ m589.1 9 ∧ m589.1 9 ≤ 4000 := hT590.1 9
      have g597 : 0 ≤ m589.1 10 ∧ m589.1 10 ≤ 8 := hT590.1 10
      have g598 : (-1) ≤ m589.1 11 ∧ m589.1 11 ≤ 4000 := hT590.1 11
      have g599 : (-9223372036854775808) ≤ m589.1 12 ∧ m589.1 12 ≤ 9223372036854775807 := hT590.1 12
      have g600 : 0 ≤ m589.1 119 ∧ m589.1 119 ≤ 8 := hT590.1 119
      replace h591 : (m589.1 10) = 0 → y11 = 0 := h591
      replace h592 : LxP (m589.1 7) (m589.1 8) (m589.1 9) (m.1 6) (m589.1 10) := h592
      have hf601 : 1 ≤ (m589.1 10) := by omega
      clear c593
      clear h591
      have hLx := h592
      refine T_gf 22 (.int (i32 (m589.1 10))) rfl rfl rfl rfl rfl rfl ?_
      refine T_if 249 25 rfl rfl rfl (r32 (by omega) (by omega)) (fun (h602 : (m589.1 10) ≠ 0) => ?_) (fun (h602 : ¬ ((m589.1 10) ≠ 0)) => by exfalso; omega)
      refine T_ret rfl (fun _ => rfl) ?_
      exact ⟨(mO m [(7, (m589.1 7)), (8, (m589.1 8)), (9, (m589.1 9)), (10, (m589.1 10)), (11, (m589.1 11)), (12, (m589.1 12)), (27, (m.1 27)), (28, (m.1 28)), (69, (m.1 69)), (70, (m.1 70)), (71, (m.1 71)), (72, (m.1 72)), (73, (m.1 73)), (74, (m.1 74)), (75, (m.1 75)), (99, (m.1 99)), (100, (m.1 100)), (119, (m589.1 119))] [(59, (m.2 59)), (60, (m.2 60)), (61, (m.2 61)), (62, (m.2 62)), (63, (m.2 63)), (65, (m.2 65)), (66, (m.2 66)), (67, (m.2 67)), (68, (m.2 68)), (76, (m.2 76)), (77, (m.2 77)), (78, (m.2 78)), (79, (m.2 79)), (80, (m.2 80)), (81, (m.2 81)), (82, (m.2 82)), (83, (m.2 83)), (84, (m.2 84)), (85, (m.2 85)), (86, (m.2 86)), (87, (m.2 87)), (88, (m.2 88)), (89, (m.2 89)), (90, (m.2 90)), (91, (m.2 91)), (92, (m.2 92)), (101, (m.2 101)), (102, (m.2 102)), (103, (m.2 103)), (104, (m.2 104)), (105, (m.2 105)), (106, (m.2 106)), (107, (m.2 107)), (108, (m.2 108)), (117, (m589.2 117)), (118, (m589.2 118)), (120, (m.2 120)), (121, (m.2 121)), (122, (m.2 122))]), (Ty_mO hT rfl rfl ⟨(hT590.1 7), (hT590.1 8), (hT590.1 9), (hT590.1 10), (hT590.1 11), (hT590.1 12), f27, f28, f69, f70, f71, f72, f73, f74, f75, f99, f100, (hT590.1 119), trivial⟩ ⟨(hT.2.1 59), (hT.2.1 60), (hT.2.1 61), (hT.2.1 62), (hT.2.1 63), (hT.2.1 65), (hT.2.1 66), (hT.2.1 67), (hT.2.1 68), (hT.2.1 76), (hT.2.1 77), (hT.2.1 78), (hT.2.1 79), (hT.2.1 80), (hT.2.1 81), (hT.2.1 82), (hT.2.1 83), (hT.2.1 84), (hT.2.1 85), (hT.2.1 86), (hT.2.1 87), (hT.2.1 88), (hT.2.1 89), (hT.2.1 90), (hT.2.1 91), (hT.2.1 92), (hT.2.1 101), (hT.2.1 102), (hT.2.1 103), (hT.2.1 104), (hT.2.1 105), (hT.2.1 106), (hT.2.1 107), (hT.2.1 108), (hT590.2.1 117), (hT590.2.1 118), (hT.2.1 120), (hT.2.1 121), (hT.2.1 122), trivial⟩), (show (m589.1 10) = 0 → (m.1 10) = 0 by omega), (show LxP (m589.1 7) (m589.1 8) (m589.1 9) (m.1 6) (m589.1 10) by first | (first | exact hLx | exact (fun _ => hLx (by omega)) | (intro h9; exfalso; omega)) | (exfalso; omega)), (fun (h : (m589.1 10) = 0) => absurd h (by omega)), rfl⟩
  · skip
    clear hC
    refine T_ld 1 (.ref 189) rfl (fun _ => rfl) ?_
    refine T_ld 4 (.int (i32 319)) rfl (fun _ => rfl) ?_
    refine T_call 7 232 [.ref 189, .int (i32 319)] [] rfl (fun _ => rfl) rfl (c_need w (mO m [(7, (m.1 7)), (8, (m.1 8)), (9, (m.1 9)), (10, (m.1 10)), (11, (m.1 11)), (12, (m.1 12)), (27, (m.1 27)), (28, (m.1 28)), (69, (m.1 69)), (70, (m.1 70)), (71, (m.1 71)), (72, (m.1 72)), (73, (m.1 73)), (74, (m.1 74)), (75, (m.1 75)), (99, (m.1 99)), (100, (m.1 100)), (119, (m.1 119))] [(59, (m.2 59)), (60, (m.2 60)), (61, (m.2 61)), (62, (m.2 62)), (63, (m.2 63)), (65, (m.2 65)), (66, (m.2 66)), (67, (m.2 67)), (68, (m.2 68)), (76, (m.2 76)), (77, (m.2 77)), (78, (m.2 78)), (79, (m.2 79)), (80, (m.2 80)), (81, (m.2 81)), (82, (m.2 82)), (83, (m.2 83)), (84, (m.2 84)), (85, (m.2 85)), (86, (m.2 86)), (87, (m.2 87)), (88, (m.2 88)), (89, (m.2 89)), (90, (m.2 90)), (91, (m.2 91)), (92, (m.2 92)), (101, (m.2 101)), (102, (m.2 102)), (103, (m.2 103)), (104, (m.2 104)), (105, (m.2 105)), (106, (m.2 106)), (107, (m.2 107)), (108, (m.2 108)), (117, (m.2 117)), (118, (m.2 118)), (120, (m.2 120)), (121, (m.2 121)), (122, (m.2 122))]) c N D (by omega) (Ty_mO hT rfl rfl ⟨f7, f8, f9, f10, f11, f12, f27, f28, f69, f70, f71, f72, f73, f74, f75, f99, f100, f119, trivial⟩ ⟨(hT.2.1 59), (hT.2.1 60), (hT.2.1 61), (hT.2.1 62), (hT.2.1 63), (hT.2.1 65), (hT.2.1 66), (hT.2.1 67), (hT.2.1 68), (hT.2.1 76), (hT.2.1 77), (hT.2.1 78), (hT.2.1 79), (hT.2.1 80), (hT.2.1 81), (hT.2.1 82), (hT.2.1 83), (hT.2.1 84), (hT.2.1 85), (hT.2.1 86), (hT.2.1 87), (hT.2.1 88), (hT.2.1 89), (hT.2.1 90), (hT.2.1 91), (hT.2.1 92), (hT.2.1 101), (hT.2.1 102), (hT.2.1 103), (hT.2.1 104), (hT.2.1 105), (hT.2.1 106), (hT.2.1 107), (hT.2.1 108), (hT.2.1 117), (hT.2.1 118), (hT.2.1 120), (hT.2.1 121), (hT.2.1 122), trivial⟩) 319 ⟨by decide, by decide⟩ (show 1 ≤ (319 : Int) by omega) (show LxP (m.1 7) (m.1 8) (m.1 9) (m.1 6) (m.1 10) by first | exact hLx | (intro h9; exfalso; omega) | (intro h9; have h8 := hLx (by omega); omega))) (fun rr603 k604 => ?_)
    obtain ⟨y605, y607, y609, y611, y613, y615, g606, g608, g610, g612, g614, g616, h617, h618, h619, h620, rfl⟩ := k604
    refine ⟨_, _, rfl, ?_⟩
    refine T_nf2 (st' := []) (l' := [(7, y605), (8, y607), (9, y609), (10, y611), (11, y613), (12, y615), (27, (m.1 27)), (28, (m.1 28)), (69, (m.1 69)), (70, (m.1 70)), (71, (m.1 71)), (72, (m.1 72)), (73, (m.1 73)), (74, (m.1 74)), (75, (m.1 75)), (99, (m.1 99)), (100, (m.1 100)), (119, (m.1 119))]) (a' := [(59, (m.2 59)), (60, (m.2 60)), (61, (m.2 61)), (62, (m.2 62)), (63, (m.2 63)), (65, (m.2 65)), (66, (m.2 66)), (67, (m.2 67)), (68, (m.2 68)), (76, (m.2 76)), (77, (m.2 77)), (78, (m.2 78)), (79, (m.2 79)), (80, (m.2 80)), (81, (m.2 81)), (82, (m.2 82)), (83, (m.2 83)), (84, (m.2 84)), (85, (m.2 85)), (86, (m.2 86)), (87, (m.2 87)), (88, (m.2 88)), (89, (m.2 89)), (90, (m.2 90)), (91, (m.2 91)), (92, (m.2 92)), (101, (m.2 101)), (102, (m.2 102)), (103, (m.2 103)), (104, (m.2 104)), (105, (m.2 105)), (106, (m.2 106)), (107, (m.2 107)), (108, (m.2 108)), (117, (m.2 117)), (118, (m.2 118)), (120, (m.2 120)), (121, (m.2 121)), (122, (m.2 122))]) [7, 8, 9, 10, 11, 12] [] rfl ⟨rfl, rfl, rfl, rfl, rfl, rfl, rfl, rfl, rfl, rfl, rfl, rfl, rfl, rfl, rfl, rfl, rfl, rfl, rfl, rfl, rfl, rfl, rfl, rfl, rfl, rfl, rfl, rfl, rfl, rfl, rfl, rfl, rfl, rfl, rfl, rfl, trivial⟩ ⟨rfl, rfl, rfl, rfl, rfl, rfl, rfl, rfl, rfl, rfl, rfl, rfl, rfl, rfl, rfl, rfl, rfl, rfl, rfl, rfl, rfl, rfl, rfl, rfl, rfl, rfl, rfl, rfl, rfl, rfl, rfl, rfl, rfl, rfl, rfl, rfl, rfl, rfl, rfl, rfl, rfl, rfl, rfl, rfl, rfl, rfl, rfl, rfl, rfl, rfl, rfl, rfl, rfl, rfl, rfl, rfl, rfl, rfl, rfl, rfl, rfl, rfl, rfl, rfl, rfl, rfl, rfl, rfl, rfl, rfl, rfl, rfl, rfl, rfl, rfl, rfl, rfl, rfl, trivial⟩ rfl rfl (by decide) (by decide) ?_
    replace h617 : LxP y605 y607 y609 (m.1 6) y611 := h617
    replace h618 : y611 = 0 → (m.1 10) = 0 ∧ (m.1 7) = (319 : Int) := h618
    replace h619 : (m.1 8) ≤ y607 := h619
    replace h620 : y611 = 0 → (m.1 8) + (m.1 9) ≤ y607 := h620
    have hf621 : 1 ≤ y611 := by omega
    clear h618
    clear h620
    have hLx := h617
    refine T_ld 8 (.ref 189) rfl (fun _ => rfl) ?_
    refine T_ld 9 (.int (i32 0)) rfl (fun _ => rfl) ?_
    refine T_pf (l' := [(7, y605), (8, y607), (9, y609), (10, y611), (11, y613), (12, y615), (27, (m.1 27)), (28, (m.1 28)), (69, (m.1 69)), (70, (m.1 70)), (71, (m.1 71)), (72, (m.1 72)), (73, (m.1 73)), (74, (m.1 74)), (75, (m.1 75)), (99, (m.1 99)), (100, (m.1 100)), (119, 0)]) 12 0 rfl rfl rfl rfl rfl rfl ?_
    refine T_ld 13 (.ref 189) rfl (fun _ => rfl) ?_
    refine T_ld 14 (.int (i32 (-1))) rfl (fun _ => rfl) ?_
    refine T_ld 15 (.int (i32 (-1))) rfl (fun _ => rfl) ?_
    refine T_call 18 280 [.ref 189, .int (i32 (-1)), .int (i32 (-1))] [] rfl (fun _ => rfl) rfl (c_openBlock w (mO m [(7, y605), (8, y607), (9, y609), (10, y611), (11, y613), (12, y615), (27, (m.1 27)), (28, (m.1 28)), (69, (m.1 69)), (70, (m.1 70)), (71, (m.1 71)), (72, (m.1 72)), (73, (m.1 73)), (74, (m.1 74)), (75, (m.1 75)), (99, (m.1 99)), (100, (m.1 100)), (119, 0)] [(59, (m.2 59)), (60, (m.2 60)), (61, (m.2 61)), (62, (m.2 62)), (63, (m.2 63)), (65, (m.2 65)), (66, (m.2 66)), (67, (m.2 67)), (68, (m.2 68)), (76, (m.2 76)), (77, (m.2 77)), (78, (m.2 78)), (79, (m.2 79)), (80, (m.2 80)), (81, (m.2 81)), (82, (m.2 82)), (83, (m.2 83)), (84, (m.2 84)), (85, (m.2 85)), (86, (m.2 86)), (87, (m.2 87)), (88, (m.2 88)), (89, (m.2 89)), (90, (m.2 90)), (91, (m.2 91)), (92, (m.2 92)), (101, (m.2 101)), (102, (m.2 102)), (103, (m.2 103)), (104, (m.2 104)), (105, (m.2 105)), (106, (m.2 106)), (107, (m.2 107)), (108, (m.2 108)), (117, (m.2 117)), (118, (m.2 118)), (120, (m.2 120)), (121, (m.2 121)), (122, (m.2 122))]) c N D (by omega) (Ty_mO hT rfl rfl ⟨g606, g608, g610, g612, g614, g616, f27, f28, f69, f70, f71, f72, f73, f74, f75, f99, f100, ⟨(by omega : (0 : Int) ≤ 0), (by omega : (0 : Int) ≤ 8)⟩, trivial⟩ ⟨(hT.2.1 59), (hT.2.1 60), (hT.2.1 61), (hT.2.1 62), (hT.2.1 63), (hT.2.1 65), (hT.2.1 66), (hT.2.1 67), (hT.2.1 68), (hT.2.1 76), (hT.2.1 77), (hT.2.1 78), (hT.2.1 79), (hT.2.1 80), (hT.2.1 81), (hT.2.1 82), (hT.2.1 83), (hT.2.1 84), (hT.2.1 85), (hT.2.1 86), (hT.2.1 87), (hT.2.1 88), (hT.2.1 89), (hT.2.1 90), (hT.2.1 91), (hT.2.1 92), (hT.2.1 101), (hT.2.1 102), (hT.2.1 103), (hT.2.1 104), (hT.2.1 105), (hT.2.1 106), (hT.2.1 107), (hT.2.1 108), (hT.2.1 117), (hT.2.1 118), (hT.2.1 120), (hT.2.1 121), (hT.2.1 122), trivial⟩) (-1) (-1) ⟨by decide, by decide⟩ ⟨by decide, by decide⟩ (show LxP y605 y607 y609 (m.1 6) y611 by first | exact hLx | exact (fun _ => hLx (by omega)) | (intro h9; exfalso; omega)) (show (-1) ≤ (-1 : Int) ∧ (-1 : Int) ≤ 47 by omega) (show (-1) ≤ (-1 : Int) ∧ (-1 : Int) ≤ 1 by omega) (fun (h : y611 = 0) => absurd h (by omega))) (fun rr622 k623 => ?_)
    obtain ⟨m624, hT625, h626, h627, c628, rfl⟩ := k623
    refine ⟨_, _, rfl, ?_⟩
    refine T_nf2 (st' := []) (l' := [(7, (m624.1 7)), (8, (m624.1 8)), (9, (m624.1 9)), (10, (m624.1 10)), (11, (m624.1 11)), (12, (m624.1 12)), (27, (m.1 27)), (28, (m.1 28)), (69, (m.1 69)), (70, (m.1 70)), (71, (m.1 71)), (72, (m.1 72)), (73, (m.1 73)), (74, (m.1 74)), (75, (m.1 75)), (99, (m.1 99)), (100, (m.1 100)), (119, (m624.1 119))]) (a' := [(59, (m.2 59)), (60, (m.2 60)), (61, (m.2 61)), (62, (m.2 62)), (63, (m.2 63)), (65, (m.2 65)), (66, (m.2 66)), (67, (m.2 67)), (68, (m.2 68)), (76, (m.2 76)), (77, (m.2 77)), (78, (m.2 78)), (79, (m.2 79)), (80, (m.2 80)), (81, (m.2 81)), (82, (m.2 82)), (83, (m.2 83)), (84, (m.2 84)), (85, (m.2 85)), (86, (m.2 86)), (87, (m.2 87)), (88, (m.2 88)), (89, (m.2 89)), (90, (m.2 90)), (91, (m.2 91)), (92, (m.2 92)), (101, (m.2 101)), (102, (m.2 102)), (103, (m.2 103)), (104, (m.2 104)), (105, (m.2 105)), (106, (m.2 106)), (107, (m.2 107)), (108, (m.2 108)), (117, (m624.2 117)), (118, (m624.2 118)), (120, (m.2 120)), (121, (m.2 121)), (122, (m.2 122))]) [7, 8, 9, 10, 11, 12, 119] [117, 118] rfl ⟨rfl, rfl, rfl, rfl, rfl, rfl, rfl, rfl, rfl, rfl, rfl, rfl, rfl, rfl, rfl, rfl, rfl, rfl, rfl, rfl, rfl, rfl, rfl, rfl, rfl, rfl, rfl, rfl, rfl, rfl, rfl, rfl, rfl, rfl, rfl, rfl, rfl, rfl, rfl, rfl, rfl, rfl, rfl, rfl, rfl, rfl, rfl, trivial⟩ ⟨rfl, rfl, rfl, rfl, rfl, rfl, rfl, rfl, rfl, rfl, rfl, rfl, rfl, rfl, rfl, rfl, rfl, rfl, rfl, rfl, rfl, rfl, rfl, rfl, rfl, rfl, rfl, rfl, rfl, rfl, rfl, rfl, rfl, rfl, rfl, rfl, rfl, rfl, rfl, rfl, rfl, rfl, rfl, rfl, rfl, rfl, rfl, rfl, rfl, rfl, rfl, rfl, rfl, rfl, rfl, rfl, rfl, rfl, rfl, rfl, rfl, rfl, rfl, rfl, rfl, rfl, rfl, rfl, rfl, rfl, rfl, rfl, rfl, rfl, rfl, rfl, rfl, rfl, rfl, rfl, rfl, rfl, rfl, rfl, rfl, rfl, rfl, rfl, rfl, rfl, rfl, rfl, rfl, rfl, rfl, rfl, rfl, rfl, rfl, rfl, rfl, rfl, rfl, rfl, rfl, rfl, rfl, rfl, rfl, rfl, rfl, rfl, trivial⟩ rfl rfl (by decide) (by decide) ?_
    have g629 : 0 ≤ m624.1 7 ∧ m624.1 7 ≤ 330 := hT625.1 7
    have g630 : 0 ≤ m624.1 8 ∧ m624.1 8 ≤ 4000 := hT625.1 8
    have g631 : 0 ≤ m624.1 9 ∧ m624.1 9 ≤ 4000 := hT625.1 9
    have g632 : 0 ≤ m624.1 10 ∧ m624.1 10 ≤ 8 := hT625.1 10
    have g633 : (-1) ≤ m624.1 11 ∧ m624.1 11 ≤ 4000 := hT625.1 11
    have g634 : (-9223372036854775808) ≤ m624.1 12 ∧ m624.1 12 ≤ 9223372036854775807 := hT625.1 12
    have g635 : 0 ≤ m624.1 119 ∧ m624.1 119 ≤ 8 := hT625.1 119
    replace h626 : (m624.1 10) = 0 → y611 = 0 := h626
    replace h627 : LxP (m624.1 7) (m624.1 8) (m624.1 9) (m.1 6) (m624.1 10) := h627
    have hf636 : 1 ≤ (m624.1 10) := by omega
    clear c628
    clear h626
    have hLx := h627
    refine T_gf 22 (.int (i32 (m624.1 10))) rfl rfl rfl rfl rfl rfl ?_
    refine T_if 249 25 rfl rfl rfl (r32 (by omega) (by omega)) (fun (h637 : (m624.1 10) ≠ 0) => ?_) (fun (h637 : ¬ ((m624.1 10) ≠ 0)) => by exfalso; omega)
    refine T_ret rfl (fun _ => rfl) ?_
    exact ⟨(mO m [(7, (m624.1 7)), (8, (m624.1 8)), (9, (m624.1 9)), (10, (m624.1 10)), (11, (m624.1 11)), (12, (m624.1 12)), (27, (m.1 27)), (28, (m.1 28)), (69, (m.1 69)), (70, (m.1 70)), (71, (m.1 71)), (72, (m.1 72)), (73, (m.1 73)), (74, (m.1 74)), (75, (m.1 75)), (99, (m.1 99)), (100, (m.1 100)), (119, (m624.1 119))] [(59, (m.2 59)), (60, (m.2 60)), (61, (m.2 61)), (62, (m.2 62)), (63, (m.2 63)), (65, (m.2 65)), (66, (m.2 66)), (67, (m.2 67)), (68, (m.2 68)), (76, (m.2 76)), (77, (m.2 77)), (78, (m.2 78)), (79, (m.2 79)), (80, (m.2 80)), (81, (m.2 81)), (82, (m.2 82)), (83, (m.2 83)), (84, (m.2 84)), (85, (m.2 85)), (86, (m.2 86)), (87, (m.2 87)), (88, (m.2 88)), (89, (m.2 89)), (90, (m.2 90)), (91, (m.2 91)), (92, (m.2 92)), (101, (m.2 101)), (102, (m.2 102)), (103, (m.2 103)), (104, (m.2 104)), (105, (m.2 105)), (106, (m.2 106)), (107, (m.2 107)), (108, (m.2 108)), (117, (m624.2 117)), (118, (m624.2 118)), (120, (m.2 120)), (121, (m.2 121)), (122, (m.2 122))]), (Ty_mO hT rfl rfl ⟨(hT625.1 7), (hT625.1 8), (hT625.1 9), (hT625.1 10), (hT625.1 11), (hT625.1 12), f27, f28, f69, f70, f71, f72, f73, f74, f75, f99, f100, (hT625.1 119), trivial⟩ ⟨(hT.2.1 59), (hT.2.1 60), (hT.2.1 61), (hT.2.1 62), (hT.2.1 63), (hT.2.1 65), (hT.2.1 66), (hT.2.1 67), (hT.2.1 68), (hT.2.1 76), (hT.2.1 77), (hT.2.1 78), (hT.2.1 79), (hT.2.1 80), (hT.2.1 81), (hT.2.1 82), (hT.2.1 83), (hT.2.1 84), (hT.2.1 85), (hT.2.1 86), (hT.2.1 87), (hT.2.1 88), (hT.2.1 89), (hT.2.1 90), (hT.2.1 91), (hT.2.1 92), (hT.2.1 101), (hT.2.1 102), (hT.2.1 103), (hT.2.1 104), (hT.2.1 105), (hT.2.1 106), (hT.2.1 107), (hT.2.1 108), (hT625.2.1 117), (hT625.2.1 118), (hT.2.1 120), (hT.2.1 121), (hT.2.1 122), trivial⟩), (show (m624.1 10) = 0 → (m.1 10) = 0 by omega), (show LxP (m624.1 7) (m624.1 8) (m624.1 9) (m.1 6) (m624.1 10) by first | (first | exact hLx | exact (fun _ => hLx (by omega)) | (intro h9; exfalso; omega)) | (exfalso; omega)), (fun (h : (m624.1 10) = 0) => absurd h (by omega)), rfl⟩
def Q_takeEmit (m : mR) (c : Nat → Option am_C) (N : Nat) : ag_Re af_T → Prop := fun R => ∃ (M : mR), Ty M ∧ ((M.1 10) = 0 → (m.1 10) = 0) ∧ (LxP (M.1 7) (M.1 8) (M.1 9) (m.1 6) (M.1 10)) ∧ (M.1 10 = 0 → ((m.1 8) + 1 ≤ (M.1 8)) ∧ (∀ j, 0 ≤ j → j < (M.1 125) → (M.2 124) j < (m.1 20))) ∧ R = (.inl (none), (mhp (mO m [(7, (M.1 7)), (8, (M.1 8)), (9, (M.1 9)), (10, (M.1 10)), (11, (M.1 11)), (12, (M.1 12)), (125, (M.1 125))] [(123, (M.2 123)), (124, (M.2 124))]) c, N), 0, 0)
set_option maxHeartbeats 8000000 in
theorem c_takeEmit (w : wX) (m : mR) (c : Nat → Option am_C) (N D : Nat) (hD : 7 ≤ D) (hT : Ty m) (hLx0 : LxP (m.1 7) (m.1 8) (m.1 9) (m.1 6) (m.1 10)) (hNM0 : ∀ k, (m.2 14) k + (m.2 15) k ≤ 4000) (hC : m.1 10 = 0 → (PN (m.1 13) (m.1 19) (m.1 20) (m.1 21) (m.1 22) (m.1 23) (m.1 25) (m.1 26) (m.2 16) (m.2 17))) : TC w D 283 [.ref 189] (mhp m c, N) (Q_takeEmit m c N) := by
  obtain ⟨D, rfl⟩ : ∃ k, D = k + 1 := ⟨D - 1, by omega⟩
  have hLx := hLx0
  have hNM := hNM0
  have f7 : 0 ≤ m.1 7 ∧ m.1 7 ≤ 330 := hT.1 7
  have f8 : 0 ≤ m.1 8 ∧ m.1 8 ≤ 4000 := hT.1 8
  have f9 : 0 ≤ m.1 9 ∧ m.1 9 ≤ 4000 := hT.1 9
  have f10 : 0 ≤ m.1 10 ∧ m.1 10 ≤ 8 := hT.1 10
  have f11 : (-1) ≤ m.1 11 ∧ m.1 11 ≤ 4000 := hT.1 11
  have f12 : (-9223372036854775808) ≤ m.1 12 ∧ m.1 12 ≤ 9223372036854775807 := hT.1 12
  have f125 : 0 ≤ m.1 125 ∧ m.1 125 ≤ 12 := hT.1 125
  have f25 : 0 ≤ m.1 25 ∧ m.1 25 ≤ 16 := hT.1 25
  have f22 : 0 ≤ m.1 22 ∧ m.1 22 ≤ 8 := hT.1 22
  have f19 : 0 ≤ m.1 19 ∧ m.1 19 ≤ 12 := hT.1 19
  have f20 : 0 ≤ m.1 20 ∧ m.1 20 ≤ 12 := hT.1 20
  have f21 : 0 ≤ m.1 21 ∧ m.1 21 ≤ 16 := hT.1 21
  have f13 : 0 ≤ m.1 13 ∧ m.1 13 ≤ 120 := hT.1 13
  have f6 : 0 ≤ m.1 6 ∧ m.1 6 ≤ 4000 := hT.1 6
  have f23 : 0 ≤ m.1 23 ∧ m.1 23 ≤ 16 := hT.1 23
  have f26 : 0 ≤ m.1 26 ∧ m.1 26 ≤ 8 := hT.1 26
  refine Tc_of rfl ?_
  show TT w D pm_283 (0, [(0, .ref 189)], [], (mhp m c, N), 0, 0) (Q_takeEmit m c N)
  rw [show (mhp m c, N) = (mhp (mO m [(7, (m.1 7)), (8, (m.1 8)), (9, (m.1 9)), (10, (m.1 10)), (11, (m.1 11)), (12, (m.1 12)), (125, (m.1 125))] [(123, (m.2 123)), (124, (m.2 124))]) c, N) from congrArg (fun M => (mhp M c, N)) (mO_pad m [7, 8, 9, 10, 11, 12, 125] [123, 124])]
  by_cases hf0 : m.1 10 = 0
  · skip
    have pPN := hC hf0
    have h7 := hLx (by omega)
    have hNM := hNM0
    refine T_ld 1 (.ref 189) rfl (fun _ => rfl) ?_
    refine T_ld 4 (.int (i32 323)) rfl (fun _ => rfl) ?_
    refine T_call 7 232 [.ref 189, .int (i32 323)] [] rfl (fun _ => rfl) rfl (c_need w (mO m [(7, (m.1 7)), (8, (m.1 8)), (9, (m.1 9)), (10, (m.1 10)), (11, (m.1 11)), (12, (m.1 12)), (125, (m.1 125))] [(123, (m.2 123)), (124, (m.2 124))]) c N D (by omega) (Ty_mO hT rfl rfl ⟨f7, f8, f9, f10, f11, f12, f125, trivial⟩ ⟨(hT.2.1 123), (hT.2.1 124), trivial⟩) 323 ⟨by decide, by decide⟩ (show 1 ≤ (323 : Int) by omega) (show LxP (m.1 7) (m.1 8) (m.1 9) (m.1 6) (m.1 10) by first | exact hLx | (intro h9; exfalso; omega) | (intro h9; have h8 := hLx (by omega); omega))) (fun rr1 k2 => ?_)
    obtain ⟨y3, y5, y7, y9, y11, y13, g4, g6, g8, g10, g12, g14, h15, h16, h17, h18, rfl⟩ := k2
    refine ⟨_, _, rfl, ?_⟩
    refine T_nf2 (st' := []) (l' := [(7, y3), (8, y5), (9, y7), (10, y9), (11, y11), (12, y13), (125, (m.1 125))]) (a' := [(123, (m.2 123)), (124, (m.2 124))]) [7, 8, 9, 10, 11, 12] [] rfl ⟨rfl, rfl, rfl, rfl, rfl, rfl, rfl, rfl, rfl, rfl, rfl, rfl, rfl, rfl, trivial⟩ ⟨rfl, rfl, rfl, rfl, trivial⟩ rfl rfl (by decide) (by decide) ?_
    by_cases hf19 : y9 = 0
    · skip
      subst hf19
      replace h15 : LxP y3 y5 y7 (m.1 6) (0 : Int) := h15
      have hLx := h15
      replace h16 : (m.1 10) = 0 ∧ (m.1 7) = (323 : Int) := h16 rfl
      replace h17 : (m.1 8) ≤ y5 := h17
      replace h18 : (m.1 8) + (m.1 9) ≤ y5 := h18 rfl
      have u20 : (m.1 8) + 1 ≤ y5 := by omega
      clear g10
      refine T_ld 8 (.int (i32 0)) rfl (fun _ => rfl) ?_
      refine T_sto 9 [(1, .int (i32 0)), (0, .ref 189)] rfl (fun _ => rfl) ?_
      have L9_23 : ∀ (n : Nat) (v21 : Int) (m22 : mR), (R32 v21) → (Ty m22) → (0 ≤ v21) → (v21 ≤ 12) → (∀ j, 0 ≤ j → j < v21 → (m22.2 123) j = 0) → 12 - v21 < (n : Int) → TT w D pm_283 (9, [(0, .ref 189), (1, .int (i32 v21))], [], (mhp (mO m [(7, y3), (8, y5), (9, y7), (10, 0), (11, y11), (12, y13), (125, (m.1 125))] [(123, (m22.2 123)), (124, (m.2 124))]) c, N), 0, 0) (Q_takeEmit m c N) := by
        intro n
        induction n with
        | zero =>
          intro v21 m22 q24 q25 ic26 ic27 ic28 hmu
          obtain ⟨q24a, q24b⟩ := id q24
          have hz := ic28
          exfalso
          omega
        | succ n ih =>
          intro v21 m22 q24 q25 ic26 ic27 ic28 hmu
          obtain ⟨q24a, q24b⟩ := id q24
          have hz := ic28
          have ih30 := ih
          refine T_ld 10 (.int (i32 v21)) rfl (fun _ => rfl) ?_
          refine T_ld 12 (.int (i32 12)) rfl (fun _ => rfl) ?_
          refine T_icmp 28 15 rfl rfl rfl (r32 (by omega) (by omega)) ⟨by decide, by decide⟩ (fun (h31 : (12 : Int) ≤ v21) => ?_) (fun (h31 : ¬ ((12 : Int) ≤ v21)) => ?_)
          · skip
            refine T_ld 29 (.ref 189) rfl (fun _ => rfl) ?_
            refine T_ld 30 (.int (i32 0)) rfl (fun _ => rfl) ?_
            refine T_pf (l' := [(7, y3), (8, y5), (9, y7), (10, 0), (11, y11), (12, y13), (125, 0)]) 33 0 rfl rfl rfl rfl rfl rfl ?_
            have hct : (0 : Int) = ct (m22.2 123) 12 := (ctN_z 12 (fun j a b => hz j a (by omega))).symm
            have hEM : ∀ j, 0 ≤ j → j < (0 : Int) → (m.2 124) j < (m.1 20) := fun j j0 j1 => by omega
            refine T_ld 34 (.int (i32 1)) rfl (fun _ => rfl) ?_
            refine T_sto 35 [(1, .int (i32 1)), (0, .ref 189)] rfl (fun _ => rfl) ?_
            have L35_34 : ∀ (n : Nat) (v32 : Int) (m33 : mR), (R32 v32) → (Ty m33) → (0 ≤ v32) → (v32 ≤ 1) → (LxP (m33.1 7) (m33.1 8) (m33.1 9) (m.1 6) (m33.1 10)) → (v32 = 0 ∨ v32 = 1) → ((m33.1 10) = 0 → ((m.1 8) + 1 ≤ (m33.1 8)) ∧ ((m33.1 125) = ct (m33.2 123) 12) ∧ (∀ j, 0 ≤ j → j < (m33.1 125) → (m33.2 124) j < (m.1 20))) → 1000000 * (8 - (m33.1 10)) + 2 * (4000 - (m33.1 8)) + v32 < (n : Int) → TT w D pm_283 (35, [(0, .ref 189), (1, .int (i32 v32))], [], (mhp (mO m [(7, (m33.1 7)), (8, (m33.1 8)), (9, (m33.1 9)), (10, (m33.1 10)), (11, (m33.1 11)), (12, (m33.1 12)), (125, (m33.1 125))] [(123, (m33.2 123)), (124, (m33.2 124))]) c, N), 0, 0) (Q_takeEmit m c N) := by
              intro n
              induction n with
              | zero =>
                intro v32 m33 q35 q36 ic37 ic38 ic39 ic40 c41 hmu
                obtain ⟨q35a, q35b⟩ := id q35
                have q36_7 : 0 ≤ m33.1 7 ∧ m33.1 7 ≤ 330 := q36.1 7
                have q36_8 : 0 ≤ m33.1 8 ∧ m33.1 8 ≤ 4000 := q36.1 8
                have q36_9 : 0 ≤ m33.1 9 ∧ m33.1 9 ≤ 4000 := q36.1 9
                have q36_10 : 0 ≤ m33.1 10 ∧ m33.1 10 ≤ 8 := q36.1 10
                have q36_11 : (-1) ≤ m33.1 11 ∧ m33.1 11 ≤ 4000 := q36.1 11
                have q36_12 : (-9223372036854775808) ≤ m33.1 12 ∧ m33.1 12 ≤ 9223372036854775807 := q36.1 12
                have q36_125 : 0 ≤ m33.1 125 ∧ m33.1 125 ≤ 12 := q36.1 125
                have hLx := ic39
                exfalso
                omega
              | succ n ih =>
                intro v32 m33 q35 q36 ic37 ic38 ic39 ic40 c41 hmu
                obtain ⟨q35a, q35b⟩ := id q35
                have q36_7 : 0 ≤ m33.1 7 ∧ m33.1 7 ≤ 330 := q36.1 7
                have q36_8 : 0 ≤ m33.1 8 ∧ m33.1 8 ≤ 4000 := q36.1 8
                have q36_9 : 0 ≤ m33.1 9 ∧ m33.1 9 ≤ 4000 := q36.1 9
                have q36_10 : 0 ≤ m33.1 10 ∧ m33.1 10 ≤ 8 := q36.1 10
                have q36_11 : (-1) ≤ m33.1 11 ∧ m33.1 11 ≤ 4000 := q36.1 11
                have q36_12 : (-9223372036854775808) ≤ m33.1 12 ∧ m33.1 12 ≤ 9223372036854775807 := q36.1 12
                have q36_125 : 0 ≤ m33.1 125 ∧ m33.1 125 ≤ 12 := q36.1 125
                have hLx := ic39
                have ih42 := ih
                by_cases hf43 : (m33.1 10) = 0
                · skip
                  obtain ⟨c44, c45, c46⟩ := c41 hf43
                  clear c41
                  have hct := c45
                  have hEM := c46
                  refine T_ld 36 (.int (i32 v32)) rfl (fun _ => rfl) ?_
                  refine T_if 148 39 rfl rfl rfl (r32 (by omega) (by omega)) (fun (h47 : v32 = 0) => ?_) (fun (h47 : ¬ (v32 = 0)) => ?_)
                  · skip
                    refine T_ld 149 (.ref 189) rfl (fun _ => rfl) ?_
                    refine T_ld 151 (.int (i32 59)) rfl (fun _ => rfl) ?_
                    refine T_call 154 232 [.ref 189, .int (i32 59)] [] rfl (fun _ => rfl) rfl (c_need w (mO m [(7, (m33.1 7)), (8, (m33.1 8)), (9, (m33.1 9)), (10, (m33.1 10)), (11, (m33.1 11)), (12, (m33.1 12)), (125, (m33.1 125))] [(123, (m33.2 123)), (124, (m33.2 124))]) c N D (by omega) (Ty_mO hT rfl rfl ⟨(q36.1 7), (q36.1 8), (q36.1 9), (q36.1 10), (q36.1 11), (q36.1 12), (q36.1 125), trivial⟩ ⟨(q36.2.1 123), (q36.2.1 124), trivial⟩) 59 ⟨by decide, by decide⟩ (show 1 ≤ (59 : Int) by omega) (show LxP (m33.1 7) (m33.1 8) (m33.1 9) (m.1 6) (m33.1 10) by first | exact hLx | (intro h9; exfalso; omega) | (intro h9; have h8 := hLx (by omega); omega))) (fun rr48 k49 => ?_)
                    obtain ⟨y50, y52, y54, y56, y58, y60, g51, g53, g55, g57, g59, g61, h62, h63, h64, h65, rfl⟩ := k49
                    refine ⟨_, _, rfl, ?_⟩
                    refine T_nf2 (st' := []) (l' := [(7, y50), (8, y52), (9, y54), (10, y56), (11, y58), (12, y60), (125, (m33.1 125))]) (a' := [(123, (m33.2 123)), (124, (m33.2 124))]) [7, 8, 9, 10, 11, 12] [] rfl ⟨rfl, rfl, rfl, rfl, rfl, rfl, rfl, rfl, rfl, rfl, rfl, rfl, rfl, rfl, trivial⟩ ⟨rfl, rfl, rfl, rfl, trivial⟩ rfl rfl (by decide) (by decide) ?_
                    by_cases hf66 : y56 = 0
                    · skip
                      subst hf66
                      replace h62 : LxP y50 y52 y54 (m.1 6) (0 : Int) := h62
                      have hLx := h62
                      replace h63 : (m33.1 10) = 0 ∧ (m33.1 7) = (59 : Int) := h63 rfl
                      replace h64 : (m33.1 8) ≤ y52 := h64
                      replace h65 : (m33.1 8) + (m33.1 9) ≤ y52 := h65 rfl
                      have u67 : (m.1 8) + 1 ≤ y52 := by omega
                      clear g4 g6 g8 g12 g14 h15 h17 h18 u20 ic28 q36_7 q36_9 q36_11 q36_12 ic39 g57 h63 h65
                      refine T_ret rfl (fun _ => rfl) ?_
                      exact ⟨(mO m [(7, y50), (8, y52), (9, y54), (10, 0), (11, y58), (12, y60), (125, (m33.1 125))] [(123, (m33.2 123)), (124, (m33.2 124))]), (Ty_mO hT rfl rfl ⟨g51, g53, g55, ⟨(by omega : (0 : Int) ≤ 0), (by omega : (0 : Int) ≤ 8)⟩, g59, g61, (q36.1 125), trivial⟩ ⟨(q36.2.1 123), (q36.2.1 124), trivial⟩), (show (0 : Int) = 0 → (m.1 10) = 0 by omega), (show LxP y50 y52 y54 (m.1 6) (0 : Int) by first | (first | exact hLx | exact (fun _ => hLx (by omega)) | (intro h9; exfalso; omega)) | (exfalso; omega)), (fun _ => ⟨(show (m.1 8) + 1 ≤ y52 by omega), (show ∀ j, 0 ≤ j → j < (m33.1 125) → (m33.2 124) j < (m.1 20) by first | (exact hEM) | (exfalso; omega))⟩), rfl⟩
                    · skip
                      replace h62 : LxP y50 y52 y54 (m.1 6) y56 := h62
                      have hLx := h62
                      clear h63
                      replace h64 : (m33.1 8) ≤ y52 := h64
                      clear h65
                      have hf68 : 1 ≤ y56 := by omega
                      clear g4 g6 g8 g12 g14 h15 h17 h18 u20 ic28 q36_7 q36_9 q36_11 q36_12 ic39
                      refine T_ret rfl (fun _ => rfl) ?_
                      exact ⟨(mO m [(7, y50), (8, y52), (9, y54), (10, y56), (11, y58), (12, y60), (125, (m33.1 125))] [(123, (m33.2 123)), (124, (m33.2 124))]), (Ty_mO hT rfl rfl ⟨g51, g53, g55, g57, g59, g61, (q36.1 125), trivial⟩ ⟨(q36.2.1 123), (q36.2.1 124), trivial⟩), (show y56 = 0 → (m.1 10) = 0 by omega), (show LxP y50 y52 y54 (m.1 6) y56 by first | (first | exact hLx | exact (fun _ => hLx (by omega)) | (intro h9; exfalso; omega)) | (exfalso; omega)), (fun (h : y56 = 0) => absurd h (by omega)), rfl⟩
                  · skip
                    refine T_gf 43 (.int (i32 (m33.1 10))) rfl rfl rfl rfl rfl rfl ?_
                    refine T_if 148 46 rfl rfl rfl (r32 (by omega) (by omega)) (fun (h69 : (m33.1 10) ≠ 0) => by exfalso; omega) (fun (h69 : ¬ ((m33.1 10) ≠ 0)) => ?_)
                    have h7 := hLx (by omega)
                    refine T_gf 50 (.int (i32 (m33.1 8))) rfl rfl rfl rfl rfl rfl ?_
                    refine T_sto 51 [(2, .int (i32 (m33.1 8))), (0, .ref 189), (1, .int (i32 v32))] rfl (fun _ => rfl) ?_
                    refine T_ld 52 (.ref 189) rfl (fun _ => rfl) ?_
                    refine T_ld 53 (.int (i32 2)) rfl (fun _ => rfl) ?_
                    have hOL : (m33.1 10) = 0 → ∀ k, 0 ≤ k → k < (m.1 13) → (m.2 16) k = 2 → 0 ≤ (m.2 17) k ∧ (m.2 17) k < (m.1 20) := fun _ k h1 h2 h3 => by
                      have h4 := PNl_2 pPN k h1 h2 h3
                      omega
                    refine T_call 56 236 [.ref 189, .int (i32 2)] [] rfl (fun _ => rfl) rfl (c_oldName w (mO m [(7, (m33.1 7)), (8, (m33.1 8)), (9, (m33.1 9)), (10, (m33.1 10)), (11, (m33.1 11)), (12, (m33.1 12)), (125, (m33.1 125))] [(123, (m33.2 123)), (124, (m33.2 124))]) c N D (by omega) (Ty_mO hT rfl rfl ⟨(q36.1 7), (q36.1 8), (q36.1 9), (q36.1 10), (q36.1 11), (q36.1 12), (q36.1 125), trivial⟩ ⟨(q36.2.1 123), (q36.2.1 124), trivial⟩) 2 (m.1 20) ⟨by decide, by decide⟩ (show LxP (m33.1 7) (m33.1 8) (m33.1 9) (m.1 6) (m33.1 10) by first | exact hLx | (intro h9; exfalso; omega) | (intro h9; have h8 := hLx (by omega); omega)) (show ∀ k, (m.2 14) k + (m.2 15) k ≤ 4000 by first | exact p1 | exact hNM) (show 1 ≤ (2 : Int) ∧ (2 : Int) ≤ 7 ∧ (2 : Int) ≠ 5 by omega) (show (m.1 20) ≤ 16 by omega) (show (m33.1 10) = 0 → ∀ k, 0 ≤ k → k < (m.1 13) → (m.2 16) k = (2 : Int) → 0 ≤ (m.2 17) k ∧ (m.2 17) k < (m.1 20) by first | exact hOL | (intro h; exfalso; omega)) (show (2 : Int) = 3 → 3 ≤ (m.1 20) by omega)) (fun rr70 k71 => ?_)
                    obtain ⟨y72, y74, y76, y78, y80, y82, oo, g73, g75, g77, g79, g81, g83, g84, h85, h86, h87, h88, h89, h90, rfl⟩ := k71
                    refine ⟨_, _, rfl, ?_⟩
                    refine T_nf2 (st' := [.int (i32 oo)]) (l' := [(7, y72), (8, y74), (9, y76), (10, y78), (11, y80), (12, y82), (125, (m33.1 125))]) (a' := [(123, (m33.2 123)), (124, (m33.2 124))]) [7, 8, 9, 10, 11, 12] [] rfl ⟨rfl, rfl, rfl, rfl, rfl, rfl, rfl, rfl, rfl, rfl, rfl, rfl, rfl, rfl, trivial⟩ ⟨rfl, rfl, rfl, rfl, trivial⟩ rfl rfl (by decide) (by decide) ?_
                    obtain ⟨g84a, g84b⟩ := g84
                    by_cases hf91 : y78 = 0
                    · skip
                      subst hf91
                      replace h85 : LxP y72 y74 y76 (m.1 6) (0 : Int) := h85
                      have hLx := h85
                      replace h86 : (m33.1 8) ≤ y74 := h86
                      replace h87 : (m33.1 10) = 0 ∧ (m33.1 8) + (m33.1 9) ≤ y74 := h87 rfl
                      replace h88 : (m33.1 7) = 1 := h88 rfl
                      replace h89 : 0 ≤ oo ∧ (oo < (m.1 20) ∨ oo = 0) := h89
                      replace h90 : oo < (m.1 20) := h90 rfl
                      have u92 : (m.1 8) + 1 ≤ y74 := by omega
                      clear g4 g6 g8 g12 g14 h15 h17 h18 u20 ic28 q36_7 q36_9 q36_11 q36_12 ic39 g79 h87 h88
                      refine T_sto 57 [(3, .int (i32 oo)), (2, .int (i32 (m33.1 8))), (0, .ref 189), (1, .int (i32 v32))] rfl (fun _ => rfl) ?_
                      refine T_gf 61 (.int (i32 0)) rfl rfl rfl rfl rfl rfl ?_
                      refine T_if 80 64 rfl rfl rfl ⟨by decide, by decide⟩ (fun h93 => absurd (show (0 : Int) ≠ 0 from h93) (by decide)) (fun _ => ?_)
                      refine T_gf 68 (.ref 282) rfl rfl rfl rfl rfl rfl ?_
                      refine T_ld 69 (.int (i32 oo)) rfl (fun _ => rfl) ?_
                      refine T_bald 70 123 (m33.2 123) rfl rfl rfl (by omega) (show oo < (12 : Int) by omega) rfl ?_
                      have e94 : 0 ≤ (m33.2 123) oo ∧ (m33.2 123) oo ≤ 1 := (q36.2.1 123) oo
                      refine T_if 80 73 rfl rfl rfl (r32 (by omega) (by omega)) (fun (h95 : (m33.2 123) oo = 0) => ?_) (fun (h95 : ¬ ((m33.2 123) oo = 0)) => ?_)
                      · skip
                        refine T_gf 84 (.int (i32 0)) rfl rfl rfl rfl rfl rfl ?_
                        refine T_if 88 87 rfl rfl rfl ⟨by decide, by decide⟩ (fun _ => ?_) (fun h96 => absurd (show (0 : Int) ≤ 0 by decide) h96)
                        have hcs := ct_set (f := (m33.2 123)) (i := oo) (n := 12) (q36.2.1 123) (by omega) (by omega) (by omega)
                        refine T_gf 92 (.ref 282) rfl rfl rfl rfl rfl rfl ?_
                        refine T_ld 93 (.int (i32 oo)) rfl (fun _ => rfl) ?_
                        refine T_ld 94 (.int (i32 1)) rfl (fun _ => rfl) ?_
                        have G97 : ∀ j, 0 ≤ (upI (m33.2 123) oo 1) j ∧ (upI (m33.2 123) oo 1) j ≤ 1 := upI_rg (q36.2.1 123) ⟨by omega, by omega⟩
                        refine T_bast (a' := [(123, upI (m33.2 123) oo 1), (124, (m33.2 124))]) 95 123 (m33.2 123) rfl rfl rfl (by omega) (show oo < (12 : Int) by omega) (by omega) rfl rfl ?_
                        refine T_gf 99 (.ref 283) rfl rfl rfl rfl rfl rfl ?_
                        refine T_gf 103 (.int (i32 (m33.1 125))) rfl rfl rfl rfl rfl rfl ?_
                        refine T_ld 104 (.int (i32 oo)) rfl (fun _ => rfl) ?_
                        have G98 : ∀ j, 0 ≤ (upI (m33.2 124) (m33.1 125) oo) j ∧ (upI (m33.2 124) (m33.1 125) oo) j ≤ 11 := upI_rg (q36.2.1 124) ⟨by omega, by omega⟩
                        refine T_iast (a' := [(123, upI (m33.2 123) oo 1), (124, upI (m33.2 124) (m33.1 125) oo)]) 105 124 (m33.2 124) rfl rfl rfl (by omega) (show (m33.1 125) < (12 : Int) by omega) rfl rfl ?_
                        refine T_ld 106 (.ref 189) rfl (fun _ => rfl) ?_
                        refine T_ld 107 (.ref 189) rfl (fun _ => rfl) ?_
                        refine T_gf1 110 (.int (i32 (m33.1 125))) rfl rfl rfl rfl ?_
                        refine T_ld 111 (.int (i32 1)) rfl (fun _ => rfl) ?_
                        refine T_iadd 112 rfl rfl ?_
                        refine T_pf (l' := [(7, y72), (8, y74), (9, y76), (10, 0), (11, y80), (12, y82), (125, (m33.1 125) + 1)]) 115 ((m33.1 125) + 1) rfl rfl rfl rfl rfl rfl ?_
                        have g99 : 0 ≤ (m33.1 125) + 1 ∧ (m33.1 125) + 1 ≤ 12 := ⟨by omega, by omega⟩
                        refine T_gf 119 (.int (i32 0)) rfl rfl rfl rfl rfl rfl ?_
                        refine T_if 135 122 rfl rfl rfl ⟨by decide, by decide⟩ (fun h100 => absurd (show (0 : Int) ≠ 0 from h100) (by decide)) (fun _ => ?_)
                        refine T_gf 126 (.int (i32 y72)) rfl rfl rfl rfl rfl rfl ?_
                        refine T_ld 128 (.int (i32 44)) rfl (fun _ => rfl) ?_
                        have J136_102 : ∀ (s101 : Int), (R32 s101) → (0 ≤ s101) → (s101 ≤ 1) → TT w D pm_283 (136, [(0, .ref 189), (1, .int (i32 v32)), (2, .int (i32 (m33.1 8))), (3, .int (i32 oo))], [.int (i32 s101)], (mhp (mO m [(7, y72), (8, y74), (9, y76), (10, 0), (11, y80), (12, y82), (125, (m33.1 125) + 1)] [(123, upI (m33.2 123) oo 1), (124, upI (m33.2 124) (m33.1 125) oo)]) c, N), 0, 0) (Q_takeEmit m c N) := by
                          intro s101 q103 ic104 ic105
                          obtain ⟨q103a, q103b⟩ := id q103
                          refine T_sto 137 [(1, .int (i32 s101)), (0, .ref 189), (2, .int (i32 (m33.1 8))), (3, .int (i32 oo))] rfl (fun _ => rfl) ?_
                          refine T_ld 138 (.int (i32 s101)) rfl (fun _ => rfl) ?_
                          refine T_if 145 141 rfl rfl rfl (r32 (by omega) (by omega)) (fun (h107 : s101 = 0) => ?_) (fun (h107 : ¬ (s101 = 0)) => ?_)
                          · skip
                            refine T_goto 35 rfl (fun _ => rfl) ?_
                            refine Tm_lv (a := [(0, .ref 189), (1, .int (i32 s101))]) rfl rfl ⟨rfl, rfl, trivial⟩ ?_
                            exact ih42 s101 (mO m [(7, y72), (8, y74), (9, y76), (10, 0), (11, y80), (12, y82), (125, (m33.1 125) + 1)] [(123, upI (m33.2 123) oo 1), (124, upI (m33.2 124) (m33.1 125) oo)]) (r32 (by omega) (by omega)) (Ty_mO hT rfl rfl ⟨g73, g75, g77, ⟨(by omega : (0 : Int) ≤ 0), (by omega : (0 : Int) ≤ 8)⟩, g81, g83, g99, trivial⟩ ⟨G97, G98, trivial⟩) (show 0 ≤ s101 by omega) (show s101 ≤ 1 by omega) (show LxP y72 y74 y76 (m.1 6) (0 : Int) by exact hLx) (show s101 = 0 ∨ s101 = 1 by omega) (fun _ => ⟨(show (m.1 8) + 1 ≤ y74 by omega), (show ((m33.1 125) + 1) = ct (upI (m33.2 123) oo 1) 12 by first | exact hct | omega), (show ∀ j, 0 ≤ j → j < ((m33.1 125) + 1) → (upI (m33.2 124) (m33.1 125) oo) j < (m.1 20) by first | exact hEM | (intro j j0 j1; unfold upI; split; (omega); (exact hEM j j0 (by omega))))⟩) (show 1000000 * (8 - (0 : Int)) + 2 * (4000 - y74) + s101 < (n : Int) by omega)
                          · skip
                            refine T_ld 142 (.ref 189) rfl (fun _ => rfl) ?_
                            refine T_call 145 212 [.ref 189] [] rfl (fun _ => rfl) rfl (c_next w (mO m [(7, y72), (8, y74), (9, y76), (10, 0), (11, y80), (12, y82), (125, (m33.1 125) + 1)] [(123, upI (m33.2 123) oo 1), (124, upI (m33.2 124) (m33.1 125) oo)]) c N D (by omega) (Ty_mO hT rfl rfl ⟨g73, g75, g77, ⟨(by omega : (0 : Int) ≤ 0), (by omega : (0 : Int) ≤ 8)⟩, g81, g83, g99, trivial⟩ ⟨G97, G98, trivial⟩) (show (0 : Int) = 0 → y74 + y76 ≤ (m.1 6) by first | omega | (intro h9; have h8 := hLx h9; omega))) (fun rr108 k109 => ?_)
                            obtain ⟨y110, y112, y114, y116, y118, y120, g111, g113, g115, g117, g119, g121, h122, h123, h124, h125, rfl⟩ := k109
                            refine ⟨_, _, rfl, ?_⟩
                            refine T_nf2 (st' := []) (l' := [(7, y110), (8, y112), (9, y114), (10, y116), (11, y118), (12, y120), (125, (m33.1 125) + 1)]) (a' := [(123, upI (m33.2 123) oo 1), (124, upI (m33.2 124) (m33.1 125) oo)]) [7, 8, 9, 10, 11, 12] [] rfl ⟨rfl, rfl, rfl, rfl, rfl, rfl, rfl, rfl, rfl, rfl, rfl, rfl, rfl, rfl, trivial⟩ ⟨rfl, rfl, rfl, rfl, trivial⟩ rfl rfl (by decide) (by decide) ?_
                            by_cases hf126 : y116 = 0
                            · skip
                              subst hf126
                              replace h122 : LxP y110 y112 y114 (m.1 6) (0 : Int) := h122
                              have hLx := h122
                              replace h123 : (0 : Int) = 0 := h123 rfl
                              replace h124 : y74 ≤ y112 := h124
                              replace h125 : y74 + y76 ≤ y112 := h125 rfl
                              have u127 : (m.1 8) + 1 ≤ y112 := by omega
                              clear g73 g75 g77 g81 g83 h85 h86 u92 g117 h124 h125
                              refine T_goto 35 rfl (fun _ => rfl) ?_
                              refine Tm_lv (a := [(0, .ref 189), (1, .int (i32 s101))]) rfl rfl ⟨rfl, rfl, trivial⟩ ?_
                              exact ih42 s101 (mO m [(7, y110), (8, y112), (9, y114), (10, 0), (11, y118), (12, y120), (125, (m33.1 125) + 1)] [(123, upI (m33.2 123) oo 1), (124, upI (m33.2 124) (m33.1 125) oo)]) (r32 (by omega) (by omega)) (Ty_mO hT rfl rfl ⟨g111, g113, g115, ⟨(by omega : (0 : Int) ≤ 0), (by omega : (0 : Int) ≤ 8)⟩, g119, g121, g99, trivial⟩ ⟨G97, G98, trivial⟩) (show 0 ≤ s101 by omega) (show s101 ≤ 1 by omega) (show LxP y110 y112 y114 (m.1 6) (0 : Int) by exact hLx) (show s101 = 0 ∨ s101 = 1 by omega) (fun _ => ⟨(show (m.1 8) + 1 ≤ y112 by omega), (show ((m33.1 125) + 1) = ct (upI (m33.2 123) oo 1) 12 by first | exact hct | omega), (show ∀ j, 0 ≤ j → j < ((m33.1 125) + 1) → (upI (m33.2 124) (m33.1 125) oo) j < (m.1 20) by first | exact hEM | (intro j j0 j1; unfold upI; split; (omega); (exact hEM j j0 (by omega))))⟩) (show 1000000 * (8 - (0 : Int)) + 2 * (4000 - y112) + s101 < (n : Int) by omega)
                            · skip
                              replace h122 : LxP y110 y112 y114 (m.1 6) y116 := h122
                              have hLx := h122
                              clear h123
                              replace h124 : y74 ≤ y112 := h124
                              clear h125
                              have hf128 : 1 ≤ y116 := by omega
                              clear g73 g75 g77 g81 g83 h85 h86 u92 h124
                              refine T_goto 35 rfl (fun _ => rfl) ?_
                              refine Tm_lv (a := [(0, .ref 189), (1, .int (i32 s101))]) rfl rfl ⟨rfl, rfl, trivial⟩ ?_
                              exact ih42 s101 (mO m [(7, y110), (8, y112), (9, y114), (10, y116), (11, y118), (12, y120), (125, (m33.1 125) + 1)] [(123, upI (m33.2 123) oo 1), (124, upI (m33.2 124) (m33.1 125) oo)]) (r32 (by omega) (by omega)) (Ty_mO hT rfl rfl ⟨g111, g113, g115, g117, g119, g121, g99, trivial⟩ ⟨G97, G98, trivial⟩) (show 0 ≤ s101 by omega) (show s101 ≤ 1 by omega) (show LxP y110 y112 y114 (m.1 6) y116 by exact hLx) (show s101 = 0 ∨ s101 = 1 by omega) (fun (h : y116 = 0) => absurd h (by omega)) (show 1000000 * (8 - y116) + 2 * (4000 - y112) + s101 < (n : Int) by omega)
                        refine T_icmp 135 131 rfl rfl rfl (r32 (by omega) (by omega)) ⟨by decide, by decide⟩ (fun (h129 : y72 ≠ 44) => ?_) (fun (h129 : ¬ (y72 ≠ 44)) => ?_)
                        · skip
                          refine T_ld 136 (.int (i32 0)) rfl (fun _ => rfl) ?_
                          refine Tm_lv (a := [(0, .ref 189), (1, .int (i32 v32)), (2, .int (i32 (m33.1 8))), (3, .int (i32 oo))]) rfl rfl ⟨rfl, rfl, rfl, rfl, trivial⟩ ?_
                          exact J136_102 0 ⟨by decide, by decide⟩ (show 0 ≤ (0 : Int) by omega) (show (0 : Int) ≤ 1 by omega)
                        · skip
                          refine T_ld 132 (.int (i32 1)) rfl (fun _ => rfl) ?_
                          refine T_goto 136 rfl (fun _ => rfl) ?_
                          refine Tm_lv (a := [(0, .ref 189), (1, .int (i32 v32)), (2, .int (i32 (m33.1 8))), (3, .int (i32 oo))]) rfl rfl ⟨rfl, rfl, rfl, rfl, trivial⟩ ?_
                          exact J136_102 1 ⟨by decide, by decide⟩ (show 0 ≤ (1 : Int) by omega) (show (1 : Int) ≤ 1 by omega)
                      · skip
                        refine T_ld 74 (.ref 189) rfl (fun _ => rfl) ?_
                        refine T_ld 76 (.int (i32 8)) rfl (fun _ => rfl) ?_
                        refine T_ld 77 (.int (i32 (m33.1 8))) rfl (fun _ => rfl) ?_
                        refine T_call 80 222 [.ref 189, .int (i32 8), .int (i32 (m33.1 8))] [] rfl (fun _ => rfl) rfl (c_wrong w (mO m [(7, y72), (8, y74), (9, y76), (10, 0), (11, y80), (12, y82), (125, (m33.1 125))] [(123, (m33.2 123)), (124, (m33.2 124))]) c N D (by omega) (Ty_mO hT rfl rfl ⟨g73, g75, g77, ⟨(by omega : (0 : Int) ≤ 0), (by omega : (0 : Int) ≤ 8)⟩, g81, g83, (q36.1 125), trivial⟩ ⟨(q36.2.1 123), (q36.2.1 124), trivial⟩) 8 (m33.1 8) ⟨by decide, by decide⟩ (r32 (by omega) (by omega)) (show 1 ≤ (8 : Int) ∧ (8 : Int) ≤ 8 by omega) (show 0 ≤ (m33.1 8) ∧ (m33.1 8) ≤ 4000 by omega)) (fun rr130 k131 => ?_)
                        obtain ⟨y132, y134, g133, g135, h136, rfl⟩ := k131
                        refine ⟨_, _, rfl, ?_⟩
                        refine T_nf2 (st' := []) (l' := [(7, y72), (8, y74), (9, y76), (10, y132), (11, y134), (12, y82), (125, (m33.1 125))]) (a' := [(123, (m33.2 123)), (124, (m33.2 124))]) [10, 11] [] rfl ⟨rfl, rfl, rfl, rfl, rfl, rfl, rfl, rfl, rfl, rfl, rfl, rfl, rfl, rfl, rfl, rfl, rfl, trivial⟩ ⟨rfl, rfl, rfl, rfl, trivial⟩ rfl rfl (by decide) (by decide) ?_
                        replace h136 : (0 < (0 : Int) → y132 = (0 : Int) ∧ y134 = y80) ∧ ((0 : Int) ≤ 0 → y132 = (8 : Int) ∧ y134 = (m33.1 8)) := h136
                        have hf137 : 1 ≤ y132 := by omega
                        clear g81 h136
                        refine T_gf 84 (.int (i32 y132)) rfl rfl rfl rfl rfl rfl ?_
                        refine T_if 88 87 rfl rfl rfl (r32 (by omega) (by omega)) (fun (h138 : y132 ≤ 0) => by exfalso; omega) (fun (h138 : ¬ (y132 ≤ 0)) => ?_)
                        refine T_ret rfl (fun _ => rfl) ?_
                        exact ⟨(mO m [(7, y72), (8, y74), (9, y76), (10, y132), (11, y134), (12, y82), (125, (m33.1 125))] [(123, (m33.2 123)), (124, (m33.2 124))]), (Ty_mO hT rfl rfl ⟨g73, g75, g77, g133, g135, g83, (q36.1 125), trivial⟩ ⟨(q36.2.1 123), (q36.2.1 124), trivial⟩), (show y132 = 0 → (m.1 10) = 0 by omega), (show LxP y72 y74 y76 (m.1 6) y132 by first | (first | exact hLx | exact (fun _ => hLx (by omega)) | (intro h9; exfalso; omega)) | (exfalso; omega)), (fun (h : y132 = 0) => absurd h (by omega)), rfl⟩
                    · skip
                      replace h85 : LxP y72 y74 y76 (m.1 6) y78 := h85
                      have hLx := h85
                      replace h86 : (m33.1 8) ≤ y74 := h86
                      clear h87
                      clear h88
                      replace h89 : 0 ≤ oo ∧ (oo < (m.1 20) ∨ oo = 0) := h89
                      clear h90
                      have hf139 : 1 ≤ y78 := by omega
                      clear g4 g6 g8 g12 g14 h15 h17 h18 u20 ic28 q36_7 q36_9 q36_11 q36_12 ic39
                      refine T_sto 57 [(3, .int (i32 oo)), (2, .int (i32 (m33.1 8))), (0, .ref 189), (1, .int (i32 v32))] rfl (fun _ => rfl) ?_
                      refine T_gf 61 (.int (i32 y78)) rfl rfl rfl rfl rfl rfl ?_
                      refine T_if 80 64 rfl rfl rfl (r32 (by omega) (by omega)) (fun (h140 : y78 ≠ 0) => ?_) (fun (h140 : ¬ (y78 ≠ 0)) => by exfalso; omega)
                      refine T_gf 84 (.int (i32 y78)) rfl rfl rfl rfl rfl rfl ?_
                      refine T_if 88 87 rfl rfl rfl (r32 (by omega) (by omega)) (fun (h141 : y78 ≤ 0) => by exfalso; omega) (fun (h141 : ¬ (y78 ≤ 0)) => ?_)
                      refine T_ret rfl (fun _ => rfl) ?_
                      exact ⟨(mO m [(7, y72), (8, y74), (9, y76), (10, y78), (11, y80), (12, y82), (125, (m33.1 125))] [(123, (m33.2 123)), (124, (m33.2 124))]), (Ty_mO hT rfl rfl ⟨g73, g75, g77, g79, g81, g83, (q36.1 125), trivial⟩ ⟨(q36.2.1 123), (q36.2.1 124), trivial⟩), (show y78 = 0 → (m.1 10) = 0 by omega), (show LxP y72 y74 y76 (m.1 6) y78 by first | (first | exact hLx | exact (fun _ => hLx (by omega)) | (intro h9; exfalso; omega)) | (exfalso; omega)), (fun (h : y78 = 0) => absurd h (by omega)), rfl⟩
                · skip
                  clear c41
                  have hf142 : 1 ≤ (m33.1 10) := by omega
                  refine T_ld 36 (.int (i32 v32)) rfl (fun _ => rfl) ?_
                  refine T_if 148 39 rfl rfl rfl (r32 (by omega) (by omega)) (fun (h143 : v32 = 0) => ?_) (fun (h143 : ¬ (v32 = 0)) => ?_)
                  · skip
                    refine T_ld 149 (.ref 189) rfl (fun _ => rfl) ?_
                    refine T_ld 151 (.int (i32 59)) rfl (fun _ => rfl) ?_
                    refine T_call 154 232 [.ref 189, .int (i32 59)] [] rfl (fun _ => rfl) rfl (c_need w (mO m [(7, (m33.1 7)), (8, (m33.1 8)), (9, (m33.1 9)), (10, (m33.1 10)), (11, (m33.1 11)), (12, (m33.1 12)), (125, (m33.1 125))] [(123, (m33.2 123)), (124, (m33.2 124))]) c N D (by omega) (Ty_mO hT rfl rfl ⟨(q36.1 7), (q36.1 8), (q36.1 9), (q36.1 10), (q36.1 11), (q36.1 12), (q36.1 125), trivial⟩ ⟨(q36.2.1 123), (q36.2.1 124), trivial⟩) 59 ⟨by decide, by decide⟩ (show 1 ≤ (59 : Int) by omega) (show LxP (m33.1 7) (m33.1 8) (m33.1 9) (m.1 6) (m33.1 10) by first | exact hLx | (intro h9; exfalso; omega) | (intro h9; have h8 := hLx (by omega); omega))) (fun rr144 k145 => ?_)
                    obtain ⟨y146, y148, y150, y152, y154, y156, g147, g149, g151, g153, g155, g157, h158, h159, h160, h161, rfl⟩ := k145
                    refine ⟨_, _, rfl, ?_⟩
                    refine T_nf2 (st' := []) (l' := [(7, y146), (8, y148), (9, y150), (10, y152), (11, y154), (12, y156), (125, (m33.1 125))]) (a' := [(123, (m33.2 123)), (124, (m33.2 124))]) [7, 8, 9, 10, 11, 12] [] rfl ⟨rfl, rfl, rfl, rfl, rfl, rfl, rfl, rfl, rfl, rfl, rfl, rfl, rfl, rfl, trivial⟩ ⟨rfl, rfl, rfl, rfl, trivial⟩ rfl rfl (by decide) (by decide) ?_
                    replace h158 : LxP y146 y148 y150 (m.1 6) y152 := h158
                    replace h159 : y152 = 0 → (m33.1 10) = 0 ∧ (m33.1 7) = (59 : Int) := h159
                    replace h160 : (m33.1 8) ≤ y148 := h160
                    replace h161 : y152 = 0 → (m33.1 8) + (m33.1 9) ≤ y148 := h161
                    have hf162 : 1 ≤ y152 := by omega
                    clear h159
                    clear h161
                    have hLx := h158
                    clear g4 g6 g8 g12 g14 h15 h17 h18 u20 ic28 q36_7 q36_9 q36_11 q36_12 ic39
                    refine T_ret rfl (fun _ => rfl) ?_
                    exact ⟨(mO m [(7, y146), (8, y148), (9, y150), (10, y152), (11, y154), (12, y156), (125, (m33.1 125))] [(123, (m33.2 123)), (124, (m33.2 124))]), (Ty_mO hT rfl rfl ⟨g147, g149, g151, g153, g155, g157, (q36.1 125), trivial⟩ ⟨(q36.2.1 123), (q36.2.1 124), trivial⟩), (show y152 = 0 → (m.1 10) = 0 by omega), (show LxP y146 y148 y150 (m.1 6) y152 by first | (first | exact hLx | exact (fun _ => hLx (by omega)) | (intro h9; exfalso; omega)) | (exfalso; omega)), (fun (h : y152 = 0) => absurd h (by omega)), rfl⟩
                  · skip
                    refine T_gf 43 (.int (i32 (m33.1 10))) rfl rfl rfl rfl rfl rfl ?_
                    refine T_if 148 46 rfl rfl rfl (r32 (by omega) (by omega)) (fun (h163 : (m33.1 10) ≠ 0) => ?_) (fun (h163 : ¬ ((m33.1 10) ≠ 0)) => by exfalso; omega)
                    refine T_ld 149 (.ref 189) rfl (fun _ => rfl) ?_
                    refine T_ld 151 (.int (i32 59)) rfl (fun _ => rfl) ?_
                    refine T_call 154 232 [.ref 189, .int (i32 59)] [] rfl (fun _ => rfl) rfl (c_need w (mO m [(7, (m33.1 7)), (8, (m33.1 8)), (9, (m33.1 9)), (10, (m33.1 10)), (11, (m33.1 11)), (12, (m33.1 12)), (125, (m33.1 125))] [(123, (m33.2 123)), (124, (m33.2 124))]) c N D (by omega) (Ty_mO hT rfl rfl ⟨(q36.1 7), (q36.1 8), (q36.1 9), (q36.1 10), (q36.1 11), (q36.1 12), (q36.1 125), trivial⟩ ⟨(q36.2.1 123), (q36.2.1 124), trivial⟩) 59 ⟨by decide, by decide⟩ (show 1 ≤ (59 : Int) by omega) (show LxP (m33.1 7) (m33.1 8) (m33.1 9) (m.1 6) (m33.1 10) by first | exact hLx | (intro h9; exfalso; omega) | (intro h9; have h8 := hLx (by omega); omega))) (fun rr164 k165 => ?_)
                    obtain ⟨y166, y168, y170, y172, y174, y176, g167, g169, g171, g173, g175, g177, h178, h179, h180, h181, rfl⟩ := k165
                    refine ⟨_, _, rfl, ?_⟩
                    refine T_nf2 (st' := []) (l' := [(7, y166), (8, y168), (9, y170), (10, y172), (11, y174), (12, y176), (125, (m33.1 125))]) (a' := [(123, (m33.2 123)), (124, (m33.2 124))]) [7, 8, 9, 10, 11, 12] [] rfl ⟨rfl, rfl, rfl, rfl, rfl, rfl, rfl, rfl, rfl, rfl, rfl, rfl, rfl, rfl, trivial⟩ ⟨rfl, rfl, rfl, rfl, trivial⟩ rfl rfl (by decide) (by decide) ?_
                    replace h178 : LxP y166 y168 y170 (m.1 6) y172 := h178
                    replace h179 : y172 = 0 → (m33.1 10) = 0 ∧ (m33.1 7) = (59 : Int) := h179
                    replace h180 : (m33.1 8) ≤ y168 := h180
                    replace h181 : y172 = 0 → (m33.1 8) + (m33.1 9) ≤ y168 := h181
                    have hf182 : 1 ≤ y172 := by omega
                    clear h179
                    clear h181
                    have hLx := h178
                    clear g4 g6 g8 g12 g14 h15 h17 h18 u20 ic28 q36_7 q36_9 q36_11 q36_12 ic39
                    refine T_ret rfl (fun _ => rfl) ?_
                    exact ⟨(mO m [(7, y166), (8, y168), (9, y170), (10, y172), (11, y174), (12, y176), (125, (m33.1 125))] [(123, (m33.2 123)), (124, (m33.2 124))]), (Ty_mO hT rfl rfl ⟨g167, g169, g171, g173, g175, g177, (q36.1 125), trivial⟩ ⟨(q36.2.1 123), (q36.2.1 124), trivial⟩), (show y172 = 0 → (m.1 10) = 0 by omega), (show LxP y166 y168 y170 (m.1 6) y172 by first | (first | exact hLx | exact (fun _ => hLx (by omega)) | (intro h9; exfalso; omega)) | (exfalso; omega)), (fun (h : y172 = 0) => absurd h (by omega)), rfl⟩
            refine Tm_lv (a := [(0, .ref 189), (1, .int (i32 1))]) rfl rfl ⟨rfl, rfl, trivial⟩ ?_
            exact L35_34 ((1000000 * (8 - (0 : Int)) + 2 * (4000 - y5) + (1 : Int) : Int) + 1).toNat 1 (mO m [(7, y3), (8, y5), (9, y7), (10, 0), (11, y11), (12, y13), (125, 0)] [(123, (m22.2 123)), (124, (m.2 124))]) ⟨by decide, by decide⟩ (Ty_mO hT rfl rfl ⟨g4, g6, g8, ⟨(by omega : (0 : Int) ≤ 0), (by omega : (0 : Int) ≤ 8)⟩, g12, g14, ⟨(by omega : (0 : Int) ≤ 0), (by omega : (0 : Int) ≤ 12)⟩, trivial⟩ ⟨(q25.2.1 123), (hT.2.1 124), trivial⟩) (show 0 ≤ (1 : Int) by omega) (show (1 : Int) ≤ 1 by omega) (show LxP y3 y5 y7 (m.1 6) (0 : Int) by exact hLx) (show (1 : Int) = 0 ∨ (1 : Int) = 1 by omega) (fun _ => ⟨(show (m.1 8) + 1 ≤ y5 by omega), (show (0 : Int) = ct (m22.2 123) 12 by first | exact hct | omega), (show ∀ j, 0 ≤ j → j < (0 : Int) → (m.2 124) j < (m.1 20) by first | exact hEM | (intro j j0 j1; unfold upI; split; (omega); (exact hEM j j0 (by omega))))⟩) (show 1000000 * (8 - (0 : Int)) + 2 * (4000 - y5) + (1 : Int) < ((((1000000 * (8 - (0 : Int)) + 2 * (4000 - y5) + (1 : Int) : Int) + 1).toNat : Nat) : Int) by omega)
          · skip
            refine T_gf 19 (.ref 282) rfl rfl rfl rfl rfl rfl ?_
            refine T_ld 20 (.int (i32 v21)) rfl (fun _ => rfl) ?_
            refine T_ld 21 (.int (i32 0)) rfl (fun _ => rfl) ?_
            have G183 : ∀ j, 0 ≤ (upI (m22.2 123) v21 0) j ∧ (upI (m22.2 123) v21 0) j ≤ 1 := upI_rg (q25.2.1 123) ⟨by omega, by omega⟩
            refine T_bast (a' := [(123, upI (m22.2 123) v21 0), (124, (m.2 124))]) 22 123 (m22.2 123) rfl rfl rfl (by omega) (show v21 < (12 : Int) by omega) (by omega) rfl rfl ?_
            refine T_iinc 25 [(1, .int (i32 (v21 + 1))), (0, .ref 189)] rfl rfl (by decide) rfl rfl ?_
            refine T_goto 9 rfl (fun _ => rfl) ?_
            refine Tm_lv (a := [(0, .ref 189), (1, .int (i32 (v21 + 1)))]) rfl rfl ⟨rfl, rfl, trivial⟩ ?_
            exact ih30 (v21 + 1) (mO m [(7, y3), (8, y5), (9, y7), (10, 0), (11, y11), (12, y13), (125, (m.1 125))] [(123, upI (m22.2 123) v21 0), (124, (m.2 124))]) (r32 (by omega) (by omega)) (Ty_mO hT rfl rfl ⟨g4, g6, g8, ⟨(by omega : (0 : Int) ≤ 0), (by omega : (0 : Int) ≤ 8)⟩, g12, g14, f125, trivial⟩ ⟨G183, (hT.2.1 124), trivial⟩) (show 0 ≤ (v21 + 1) by omega) (show (v21 + 1) ≤ 12 by omega) (show ∀ j, 0 ≤ j → j < (v21 + 1) → (upI (m22.2 123) v21 0) j = 0 by first | (intro j a b; omega) | (intro j a b; by_cases e : j = v21; (rw [e, upI_s]); (rw [upI_n e]; exact hz j a (by omega)))) (show 12 - (v21 + 1) < (n : Int) by omega)
      refine Tm_lv (a := [(0, .ref 189), (1, .int (i32 0))]) rfl rfl ⟨rfl, rfl, trivial⟩ ?_
      exact L9_23 ((12 - (0 : Int) : Int) + 1).toNat 0 (mO m [(7, y3), (8, y5), (9, y7), (10, 0), (11, y11), (12, y13), (125, (m.1 125))] [(123, (m.2 123)), (124, (m.2 124))]) ⟨by decide, by decide⟩ (Ty_mO hT rfl rfl ⟨g4, g6, g8, ⟨(by omega : (0 : Int) ≤ 0), (by omega : (0 : Int) ≤ 8)⟩, g12, g14, f125, trivial⟩ ⟨(hT.2.1 123), (hT.2.1 124), trivial⟩) (show 0 ≤ (0 : Int) by omega) (show (0 : Int) ≤ 12 by omega) (show ∀ j, 0 ≤ j → j < (0 : Int) → (m.2 123) j = 0 by first | (intro j a b; omega) | (intro j a b; by_cases e : j = v21; (rw [e, upI_s]); (rw [upI_n e]; exact hz j a (by omega)))) (show 12 - (0 : Int) < ((((12 - (0 : Int) : Int) + 1).toNat : Nat) : Int) by omega)
    · skip
      replace h15 : LxP y3 y5 y7 (m.1 6) y9 := h15
      have hLx := h15
      clear h16
      replace h17 : (m.1 8) ≤ y5 := h17
      clear h18
      have hf184 : 1 ≤ y9 := by omega
      refine T_ld 8 (.int (i32 0)) rfl (fun _ => rfl) ?_
      refine T_sto 9 [(1, .int (i32 0)), (0, .ref 189)] rfl (fun _ => rfl) ?_
      have L9_187 : ∀ (n : Nat) (v185 : Int) (m186 : mR), (R32 v185) → (Ty m186) → (0 ≤ v185) → (v185 ≤ 12) → (∀ j, 0 ≤ j → j < v185 → (m186.2 123) j = 0) → 12 - v185 < (n : Int) → TT w D pm_283 (9, [(0, .ref 189), (1, .int (i32 v185))], [], (mhp (mO m [(7, y3), (8, y5), (9, y7), (10, y9), (11, y11), (12, y13), (125, (m.1 125))] [(123, (m186.2 123)), (124, (m.2 124))]) c, N), 0, 0) (Q_takeEmit m c N) := by
        intro n
        induction n with
        | zero =>
          intro v185 m186 q188 q189 ic190 ic191 ic192 hmu
          obtain ⟨q188a, q188b⟩ := id q188
          have hz := ic192
          exfalso
          omega
        | succ n ih =>
          intro v185 m186 q188 q189 ic190 ic191 ic192 hmu
          obtain ⟨q188a, q188b⟩ := id q188
          have hz := ic192
          have ih194 := ih
          refine T_ld 10 (.int (i32 v185)) rfl (fun _ => rfl) ?_
          refine T_ld 12 (.int (i32 12)) rfl (fun _ => rfl) ?_
          refine T_icmp 28 15 rfl rfl rfl (r32 (by omega) (by omega)) ⟨by decide, by decide⟩ (fun (h195 : (12 : Int) ≤ v185) => ?_) (fun (h195 : ¬ ((12 : Int) ≤ v185)) => ?_)
          · skip
            refine T_ld 29 (.ref 189) rfl (fun _ => rfl) ?_
            refine T_ld 30 (.int (i32 0)) rfl (fun _ => rfl) ?_
            refine T_pf (l' := [(7, y3), (8, y5), (9, y7), (10, y9), (11, y11), (12, y13), (125, 0)]) 33 0 rfl rfl rfl rfl rfl rfl ?_
            refine T_ld 34 (.int (i32 1)) rfl (fun _ => rfl) ?_
            refine T_sto 35 [(1, .int (i32 1)), (0, .ref 189)] rfl (fun _ => rfl) ?_
            refine T_ld 36 (.int (i32 1)) rfl (fun _ => rfl) ?_
            refine T_if 148 39 rfl rfl rfl ⟨by decide, by decide⟩ (fun h196 => absurd (show (1 : Int) = 0 from h196) (by decide)) (fun _ => ?_)
            refine T_gf 43 (.int (i32 y9)) rfl rfl rfl rfl rfl rfl ?_
            refine T_if 148 46 rfl rfl rfl (r32 (by omega) (by omega)) (fun (h197 : y9 ≠ 0) => ?_) (fun (h197 : ¬ (y9 ≠ 0)) => by exfalso; omega)
            refine T_ld 149 (.ref 189) rfl (fun _ => rfl) ?_
            refine T_ld 151 (.int (i32 59)) rfl (fun _ => rfl) ?_
            refine T_call 154 232 [.ref 189, .int (i32 59)] [] rfl (fun _ => rfl) rfl (c_need w (mO m [(7, y3), (8, y5), (9, y7), (10, y9), (11, y11), (12, y13), (125, 0)] [(123, (m186.2 123)), (124, (m.2 124))]) c N D (by omega) (Ty_mO hT rfl rfl ⟨g4, g6, g8, g10, g12, g14, ⟨(by omega : (0 : Int) ≤ 0), (by omega : (0 : Int) ≤ 12)⟩, trivial⟩ ⟨(q189.2.1 123), (hT.2.1 124), trivial⟩) 59 ⟨by decide, by decide⟩ (show 1 ≤ (59 : Int) by omega) (show LxP y3 y5 y7 (m.1 6) y9 by first | exact hLx | (intro h9; exfalso; omega) | (intro h9; have h8 := hLx (by omega); omega))) (fun rr198 k199 => ?_)
            obtain ⟨y200, y202, y204, y206, y208, y210, g201, g203, g205, g207, g209, g211, h212, h213, h214, h215, rfl⟩ := k199
            refine ⟨_, _, rfl, ?_⟩
            refine T_nf2 (st' := []) (l' := [(7, y200), (8, y202), (9, y204), (10, y206), (11, y208), (12, y210), (125, 0)]) (a' := [(123, (m186.2 123)), (124, (m.2 124))]) [7, 8, 9, 10, 11, 12] [] rfl ⟨rfl, rfl, rfl, rfl, rfl, rfl, rfl, rfl, rfl, rfl, rfl, rfl, rfl, rfl, trivial⟩ ⟨rfl, rfl, rfl, rfl, trivial⟩ rfl rfl (by decide) (by decide) ?_
            replace h212 : LxP y200 y202 y204 (m.1 6) y206 := h212
            replace h213 : y206 = 0 → y9 = 0 ∧ y3 = (59 : Int) := h213
            replace h214 : y5 ≤ y202 := h214
            replace h215 : y206 = 0 → y5 + y7 ≤ y202 := h215
            have hf216 : 1 ≤ y206 := by omega
            clear h213
            clear h215
            have hLx := h212
            clear g4 g6 g8 g10 g12 g14 h15 h17 hf184 h197 h214
            refine T_ret rfl (fun _ => rfl) ?_
            exact ⟨(mO m [(7, y200), (8, y202), (9, y204), (10, y206), (11, y208), (12, y210), (125, 0)] [(123, (m186.2 123)), (124, (m.2 124))]), (Ty_mO hT rfl rfl ⟨g201, g203, g205, g207, g209, g211, ⟨(by omega : (0 : Int) ≤ 0), (by omega : (0 : Int) ≤ 12)⟩, trivial⟩ ⟨(q189.2.1 123), (hT.2.1 124), trivial⟩), (show y206 = 0 → (m.1 10) = 0 by omega), (show LxP y200 y202 y204 (m.1 6) y206 by first | (first | exact hLx | exact (fun _ => hLx (by omega)) | (intro h9; exfalso; omega)) | (exfalso; omega)), (fun (h : y206 = 0) => absurd h (by omega)), rfl⟩
          · skip
            refine T_gf 19 (.ref 282) rfl rfl rfl rfl rfl rfl ?_
            refine T_ld 20 (.int (i32 v185)) rfl (fun _ => rfl) ?_
            refine T_ld 21 (.int (i32 0)) rfl (fun _ => rfl) ?_
            have G217 : ∀ j, 0 ≤ (upI (m186.2 123) v185 0) j ∧ (upI (m186.2 123) v185 0) j ≤ 1 := upI_rg (q189.2.1 123) ⟨by omega, by omega⟩
            refine T_bast (a' := [(123, upI (m186.2 123) v185 0), (124, (m.2 124))]) 22 123 (m186.2 123) rfl rfl rfl (by omega) (show v185 < (12 : Int) by omega) (by omega) rfl rfl ?_
            refine T_iinc 25 [(1, .int (i32 (v185 + 1))), (0, .ref 189)] rfl rfl (by decide) rfl rfl ?_
            refine T_goto 9 rfl (fun _ => rfl) ?_
            refine Tm_lv (a := [(0, .ref 189), (1, .int (i32 (v185 + 1)))]) rfl rfl ⟨rfl, rfl, trivial⟩ ?_
            exact ih194 (v185 + 1) (mO m [(7, y3), (8, y5), (9, y7), (10, y9), (11, y11), (12, y13), (125, (m.1 125))] [(123, upI (m186.2 123) v185 0), (124, (m.2 124))]) (r32 (by omega) (by omega)) (Ty_mO hT rfl rfl ⟨g4, g6, g8, g10, g12, g14, f125, trivial⟩ ⟨G217, (hT.2.1 124), trivial⟩) (show 0 ≤ (v185 + 1) by omega) (show (v185 + 1) ≤ 12 by omega) (show ∀ j, 0 ≤ j → j < (v185 + 1) → (upI (m186.2 123) v185 0) j = 0 by first | (intro j a b; omega) | (intro j a b; by_cases e : j = v185; (rw [e, upI_s]); (rw [upI_n e]; exact hz j a (by omega)))) (show 12 - (v185 + 1) < (n : Int) by omega)
      refine Tm_lv (a := [(0, .ref 189), (1, .int (i32 0))]) rfl rfl ⟨rfl, rfl, trivial⟩ ?_
      exact L9_187 ((12 - (0 : Int) : Int) + 1).toNat 0 (mO m [(7, y3), (8, y5), (9, y7), (10, y9), (11, y11), (12, y13), (125, (m.1 125))] [(123, (m.2 123)), (124, (m.2 124))]) ⟨by decide, by decide⟩ (Ty_mO hT rfl rfl ⟨g4, g6, g8, g10, g12, g14, f125, trivial⟩ ⟨(hT.2.1 123), (hT.2.1 124), trivial⟩) (show 0 ≤ (0 : Int) by omega) (show (0 : Int) ≤ 12 by omega) (show ∀ j, 0 ≤ j → j < (0 : Int) → (m.2 123) j = 0 by first | (intro j a b; omega) | (intro j a b; by_cases e : j = v185; (rw [e, upI_s]); (rw [upI_n e]; exact hz j a (by omega)))) (show 12 - (0 : Int) < ((((12 - (0 : Int) : Int) + 1).toNat : Nat) : Int) by omega)
  · skip
    clear hC
    refine T_ld 1 (.ref 189) rfl (fun _ => rfl) ?_
    refine T_ld 4 (.int (i32 323)) rfl (fun _ => rfl) ?_
    refine T_call 7 232 [.ref 189, .int (i32 323)] [] rfl (fun _ => rfl) rfl (c_need w (mO m [(7, (m.1 7)), (8, (m.1 8)), (9, (m.1 9)), (10, (m.1 10)), (11, (m.1 11)), (12, (m.1 12)), (125, (m.1 125))] [(123, (m.2 123)), (124, (m.2 124))]) c N D (by omega) (Ty_mO hT rfl rfl ⟨f7, f8, f9, f10, f11, f12, f125, trivial⟩ ⟨(hT.2.1 123), (hT.2.1 124), trivial⟩) 323 ⟨by decide, by decide⟩ (show 1 ≤ (323 : Int) by omega) (show LxP (m.1 7) (m.1 8) (m.1 9) (m.1 6) (m.1 10) by first | exact hLx | (intro h9; exfalso; omega) | (intro h9; have h8 := hLx (by omega); omega))) (fun rr218 k219 => ?_)
    obtain ⟨y220, y222, y224, y226, y228, y230, g221, g223, g225, g227, g229, g231, h232, h233, h234, h235, rfl⟩ := k219
    refine ⟨_, _, rfl, ?_⟩
    refine T_nf2 (st' := []) (l' := [(7, y220), (8, y222), (9, y224), (10, y226), (11, y228), (12, y230), (125, (m.1 125))]) (a' := [(123, (m.2 123)), (124, (m.2 124))]) [7, 8, 9, 10, 11, 12] [] rfl ⟨rfl, rfl, rfl, rfl, rfl, rfl, rfl, rfl, rfl, rfl, rfl, rfl, rfl, rfl, trivial⟩ ⟨rfl, rfl, rfl, rfl, trivial⟩ rfl rfl (by decide) (by decide) ?_
    replace h232 : LxP y220 y222 y224 (m.1 6) y226 := h232
    replace h233 : y226 = 0 → (m.1 10) = 0 ∧ (m.1 7) = (323 : Int) := h233
    replace h234 : (m.1 8) ≤ y222 := h234
    replace h235 : y226 = 0 → (m.1 8) + (m.1 9) ≤ y222 := h235
    have hf236 : 1 ≤ y226 := by omega
    clear h233
    clear h235
    have hLx := h232
    refine T_ld 8 (.int (i32 0)) rfl (fun _ => rfl) ?_
    refine T_sto 9 [(1, .int (i32 0)), (0, .ref 189)] rfl (fun _ => rfl) ?_
    have L9_239 : ∀ (n : Nat) (v237 : Int) (m238 : mR), (R32 v237) → (Ty m238) → (0 ≤ v237) → (v237 ≤ 12) → (∀ j, 0 ≤ j → j < v237 → (m238.2 123) j = 0) → 12 - v237 < (n : Int) → TT w D pm_283 (9, [(0, .ref 189), (1, .int (i32 v237))], [], (mhp (mO m [(7, y220), (8, y222), (9, y224), (10, y226), (11, y228), (12, y230), (125, (m.1 125))] [(123, (m238.2 123)), (124, (m.2 124))]) c, N), 0, 0) (Q_takeEmit m c N) := by
      intro n
      induction n with
      | zero =>
        intro v237 m238 q240 q241 ic242 ic243 ic244 hmu
        obtain ⟨q240a, q240b⟩ := id q240
        have hz := ic244
        exfalso
        omega
      | succ n ih =>
        intro v237 m238 q240 q241 ic242 ic243 ic244 hmu
        obtain ⟨q240a, q240b⟩ := id q240
        have hz := ic244
        have ih246 := ih
        refine T_ld 10 (.int (i32 v237)) rfl (fun _ => rfl) ?_
        refine T_ld 12 (.int (i32 12)) rfl (fun _ => rfl) ?_
        refine T_icmp 28 15 rfl rfl rfl (r32 (by omega) (by omega)) ⟨by decide, by decide⟩ (fun (h247 : (12 : Int) ≤ v237) => ?_) (fun (h247 : ¬ ((12 : Int) ≤ v237)) => ?_)
        · skip
          refine T_ld 29 (.ref 189) rfl (fun _ => rfl) ?_
          refine T_ld 30 (.int (i32 0)) rfl (fun _ => rfl) ?_
          refine T_pf (l' := [(7, y220), (8, y222), (9, y224), (10, y226), (11, y228), (12, y230), (125, 0)]) 33 0 rfl rfl rfl rfl rfl rfl ?_
          refine T_ld 34 (.int (i32 1)) rfl (fun _ => rfl) ?_
          refine T_sto 35 [(1, .int (i32 1)), (0, .ref 189)] rfl (fun _ => rfl) ?_
          refine T_ld 36 (.int (i32 1)) rfl (fun _ => rfl) ?_
          refine T_if 148 39 rfl rfl rfl ⟨by decide, by decide⟩ (fun h248 => absurd (show (1 : Int) = 0 from h248) (by decide)) (fun _ => ?_)
          refine T_gf 43 (.int (i32 y226)) rfl rfl rfl rfl rfl rfl ?_
          refine T_if 148 46 rfl rfl rfl (r32 (by omega) (by omega)) (fun (h249 : y226 ≠ 0) => ?_) (fun (h249 : ¬ (y226 ≠ 0)) => by exfalso; omega)
          refine T_ld 149 (.ref 189) rfl (fun _ => rfl) ?_
          refine T_ld 151 (.int (i32 59)) rfl (fun _ => rfl) ?_
          refine T_call 154 232 [.ref 189, .int (i32 59)] [] rfl (fun _ => rfl) rfl (c_need w (mO m [(7, y220), (8, y222), (9, y224), (10, y226), (11, y228), (12, y230), (125, 0)] [(123, (m238.2 123)), (124, (m.2 124))]) c N D (by omega) (Ty_mO hT rfl rfl ⟨g221, g223, g225, g227, g229, g231, ⟨(by omega : (0 : Int) ≤ 0), (by omega : (0 : Int) ≤ 12)⟩, trivial⟩ ⟨(q241.2.1 123), (hT.2.1 124), trivial⟩) 59 ⟨by decide, by decide⟩ (show 1 ≤ (59 : Int) by omega) (show LxP y220 y222 y224 (m.1 6) y226 by first | exact hLx | (intro h9; exfalso; omega) | (intro h9; have h8 := hLx (by omega); omega))) (fun rr250 k251 => ?_)
          obtain ⟨y252, y254, y256, y258, y260, y262, g253, g255, g257, g259, g261, g263, h264, h265, h266, h267, rfl⟩ := k251
          refine ⟨_, _, rfl, ?_⟩
          refine T_nf2 (st' := []) (l' := [(7, y252), (8, y254), (9, y256), (10, y258), (11, y260), (12, y262), (125, 0)]) (a' := [(123, (m238.2 123)), (124, (m.2 124))]) [7, 8, 9, 10, 11, 12] [] rfl ⟨rfl, rfl, rfl, rfl, rfl, rfl, rfl, rfl, rfl, rfl, rfl, rfl, rfl, rfl, trivial⟩ ⟨rfl, rfl, rfl, rfl, trivial⟩ rfl rfl (by decide) (by decide) ?_
          replace h264 : LxP y252 y254 y256 (m.1 6) y258 := h264
          replace h265 : y258 = 0 → y226 = 0 ∧ y220 = (59 : Int) := h265
          replace h266 : y222 ≤ y254 := h266
          replace h267 : y258 = 0 → y222 + y224 ≤ y254 := h267
          have hf268 : 1 ≤ y258 := by omega
          clear h265
          clear h267
          have hLx := h264
          clear g221 g223 g225 g227 g229 g231 hf236 h232 h234 h249 h266
          refine T_ret rfl (fun _ => rfl) ?_
          exact ⟨(mO m [(7, y252), (8, y254), (9, y256), (10, y258), (11, y260), (12, y262), (125, 0)] [(123, (m238.2 123)), (124, (m.2 124))]), (Ty_mO hT rfl rfl ⟨g253, g255, g257, g259, g261, g263, ⟨(by omega : (0 : Int) ≤ 0), (by omega : (0 : Int) ≤ 12)⟩, trivial⟩ ⟨(q241.2.1 123), (hT.2.1 124), trivial⟩), (show y258 = 0 → (m.1 10) = 0 by omega), (show LxP y252 y254 y256 (m.1 6) y258 by first | (first | exact hLx | exact (fun _ => hLx (by omega)) | (intro h9; exfalso; omega)) | (exfalso; omega)), (fun (h : y258 = 0) => absurd h (by omega)), rfl⟩
        · skip
          refine T_gf 19 (.ref 282) rfl rfl rfl rfl rfl rfl ?_
          refine T_ld 20 (.int (i32 v237)) rfl (fun _ => rfl) ?_
          refine T_ld 21 (.int (i32 0)) rfl (fun _ => rfl) ?_
          have G269 : ∀ j, 0 ≤ (upI (m238.2 123) v237 0) j ∧ (upI (m238.2 123) v237 0) j ≤ 1 := upI_rg (q241.2.1 123) ⟨by omega, by omega⟩
          refine T_bast (a' := [(123, upI (m238.2 123) v237 0), (124, (m.2 124))]) 22 123 (m238.2 123) rfl rfl rfl (by omega) (show v237 < (12 : Int) by omega) (by omega) rfl rfl ?_
          refine T_iinc 25 [(1, .int (i32 (v237 + 1))), (0, .ref 189)] rfl rfl (by decide) rfl rfl ?_
          refine T_goto 9 rfl (fun _ => rfl) ?_
          refine Tm_lv (a := [(0, .ref 189), (1, .int (i32 (v237 + 1)))]) rfl rfl ⟨rfl, rfl, trivial⟩ ?_
          exact ih246 (v237 + 1) (mO m [(7, y220), (8, y222), (9, y224), (10, y226), (11, y228), (12, y230), (125, (m.1 125))] [(123, upI (m238.2 123) v237 0), (124, (m.2 124))]) (r32 (by omega) (by omega)) (Ty_mO hT rfl rfl ⟨g221, g223, g225, g227, g229, g231, f125, trivial⟩ ⟨G269, (hT.2.1 124), trivial⟩) (show 0 ≤ (v237 + 1) by omega) (show (v237 + 1) ≤ 12 by omega) (show ∀ j, 0 ≤ j → j < (v237 + 1) → (upI (m238.2 123) v237 0) j = 0 by first | (intro j a b; omega) | (intro j a b; by_cases e : j = v237; (rw [e, upI_s]); (rw [upI_n e]; exact hz j a (by omega)))) (show 12 - (v237 + 1) < (n : Int) by omega)
    refine Tm_lv (a := [(0, .ref 189), (1, .int (i32 0))]) rfl rfl ⟨rfl, rfl, trivial⟩ ?_
    exact L9_239 ((12 - (0 : Int) : Int) + 1).toNat 0 (mO m [(7, y220), (8, y222), (9, y224), (10, y226), (11, y228), (12, y230), (125, (m.1 125))] [(123, (m.2 123)), (124, (m.2 124))]) ⟨by decide, by decide⟩ (Ty_mO hT rfl rfl ⟨g221, g223, g225, g227, g229, g231, f125, trivial⟩ ⟨(hT.2.1 123), (hT.2.1 124), trivial⟩) (show 0 ≤ (0 : Int) by omega) (show (0 : Int) ≤ 12 by omega) (show ∀ j, 0 ≤ j → j < (0 : Int) → (m.2 123) j = 0 by first | (intro j a b; omega) | (intro j a b; by_cases e : j = v237; (rw [e, upI_s]); (rw [upI_n e]; exact hz j a (by omega)))) (show 12 - (0 : Int) < ((((12 - (0 : Int) : Int) + 1).toNat : Nat) : Int) by omega)
