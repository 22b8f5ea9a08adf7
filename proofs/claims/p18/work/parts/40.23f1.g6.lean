def fF_endOr : List Nat := [7, 8, 9, 10, 11, 12, 28, 69, 70, 71, 72, 73, 74, 75]
def fA_endOr : List Nat := [65, 66, 67, 68, 76, 77, 78, 79, 80, 85, 86, 87, 88, 89, 90, 91, 92]
def Q_endOr (m : mR) (c : Nat → Option am_C) (N : Nat) (k : Int) (B : Int) : ag_Re af_T → Prop := fun R => ∃ (M : mR), Ty M ∧ fr fF_endOr fA_endOr m M ∧ ((M.1 10) = 0 → (m.1 10) = 0) ∧ (LxP (M.1 7) (M.1 8) (M.1 9) (m.1 6) (M.1 10)) ∧ (M.1 10 = 0 → (GPc (m.1 8) (M.1 8) (M.1 75) (M.1 73) (m.1 73)) ∧ (GU (M.1 75) (M.1 69)) ∧ (GH (M.1 75) (M.1 73)) ∧ ((m.1 28) ≤ (M.1 28)) ∧ (XS (M.2 65) (M.2 67) (M.2 76) (M.2 78) (M.2 79) (M.2 80) B (M.1 28) (M.1 73) (M.1 74) (um (M.1 75))) ∧ (agr (m.2 65) (M.2 65) (m.1 28))) ∧ R = (.inl (none), (mhp M c, N), 0, 0)
set_option maxHeartbeats 3000000 in
theorem c_endOr (w : wX) (m : mR) (c : Nat → Option am_C) (N D : Nat) (hD : 8 ≤ D) (hT : Ty m) (k : Int) (B : Int) (qk : R32 k) (hLx0 : LxP (m.1 7) (m.1 8) (m.1 9) (m.1 6) (m.1 10)) (hf0 : m.1 10 = 0) (hC : (XS (m.2 65) (m.2 67) (m.2 76) (m.2 78) (m.2 79) (m.2 80) B (m.1 28) (m.1 73) (m.1 74) 1) ∧ (k = (m.1 73) - 1) ∧ (1 ≤ (m.1 73)) ∧ ((m.2 76) k = 0) ∧ ((m.1 69) ≤ 64) ∧ ((m.1 75) = 2)) : TC w D 263 [.ref 189, .int (i32 k)] (mhp m c, N) (Q_endOr m c N k B) := by
  obtain ⟨D, rfl⟩ : ∃ k, D = k + 1 := ⟨D - 1, by omega⟩
  obtain ⟨qka, qkb⟩ := id qk
  have hLx := hLx0
  have f7 : 0 ≤ m.1 7 ∧ m.1 7 ≤ 330 := hT.1 7
  have f8 : 0 ≤ m.1 8 ∧ m.1 8 ≤ 4000 := hT.1 8
  have f9 : 0 ≤ m.1 9 ∧ m.1 9 ≤ 4000 := hT.1 9
  have f10 : 0 ≤ m.1 10 ∧ m.1 10 ≤ 8 := hT.1 10
  have f28 : 0 ≤ m.1 28 ∧ m.1 28 ≤ 800 := hT.1 28
  have f69 : 0 ≤ m.1 69 ∧ m.1 69 ≤ 1024 := hT.1 69
  have f70 : 0 ≤ m.1 70 ∧ m.1 70 ≤ 4000 := hT.1 70
  have f71 : 0 ≤ m.1 71 ∧ m.1 71 ≤ 1 := hT.1 71
  have f72 : (-9223372036854775808) ≤ m.1 72 ∧ m.1 72 ≤ 9223372036854775807 := hT.1 72
  have f73 : 0 ≤ m.1 73 ∧ m.1 73 ≤ 60 := hT.1 73
  have f74 : 0 ≤ m.1 74 ∧ m.1 74 ≤ 24 := hT.1 74
  have f75 : 0 ≤ m.1 75 ∧ m.1 75 ≤ 3 := hT.1 75
  have f6 : 0 ≤ m.1 6 ∧ m.1 6 ≤ 4000 := hT.1 6
  refine Tc_of rfl ?_
  show TT w D pm_263 (0, [(0, .ref 189), (1, .int (i32 k))], [], (mhp (mO m [] []) c, N), 0, 0) (Q_endOr m c N k B)
  obtain ⟨hXS, hk, c1, hok, c2, c3⟩ := hC
  have hb := OS_hi hXS.1.2
  have hAgC := agr_r (m.2 65) (m.1 28)
  have h7 := hLx (by omega)
  have hok2 : (m.2 76) ((m.1 73) - 1) = 0 := by rw [← hk]; exact hok
  have J151_9 : ∀ (m8 : mR), Ty m8 → fr [7, 8, 9, 10, 11, 12, 28, 69, 70, 71, 72, 73, 74, 75] [65, 66, 67, 68] (mO m [] []) m8 → (1 ≤ (m8.1 10)) → TT w D pm_263 (151, [(0, .ref 189), (1, .int (i32 k))], [], (mhp (mO m8 [] []) c, N), 0, 0) (Q_endOr m c N k B) := by
    intro m8 Tm8 Fm8 ic10
    have q11_7 : 0 ≤ m8.1 7 ∧ m8.1 7 ≤ 330 := Tm8.1 7
    have q11_8 : 0 ≤ m8.1 8 ∧ m8.1 8 ≤ 4000 := Tm8.1 8
    have q11_9 : 0 ≤ m8.1 9 ∧ m8.1 9 ≤ 4000 := Tm8.1 9
    have q11_10 : 0 ≤ m8.1 10 ∧ m8.1 10 ≤ 8 := Tm8.1 10
    have q11_28 : 0 ≤ m8.1 28 ∧ m8.1 28 ≤ 800 := Tm8.1 28
    have q11_69 : 0 ≤ m8.1 69 ∧ m8.1 69 ≤ 1024 := Tm8.1 69
    have q11_70 : 0 ≤ m8.1 70 ∧ m8.1 70 ≤ 4000 := Tm8.1 70
    have q11_71 : 0 ≤ m8.1 71 ∧ m8.1 71 ≤ 1 := Tm8.1 71
    have q11_72 : (-9223372036854775808) ≤ m8.1 72 ∧ m8.1 72 ≤ 9223372036854775807 := Tm8.1 72
    have q11_73 : 0 ≤ m8.1 73 ∧ m8.1 73 ≤ 60 := Tm8.1 73
    have q11_74 : 0 ≤ m8.1 74 ∧ m8.1 74 ≤ 24 := Tm8.1 74
    have q11_75 : 0 ≤ m8.1 75 ∧ m8.1 75 ≤ 3 := Tm8.1 75
    refine T_ret rfl (fun _ => rfl) ?_
    exact ⟨(mO m8 [] []), Tm8, (fr_m (fr_s Fm8 (fr_m fr_0 rfl rfl) rfl rfl) rfl rfl), (show (m8.1 10) = 0 → (m.1 10) = 0 by omega), (show LxP (m8.1 7) (m8.1 8) (m8.1 9) (m.1 6) (m8.1 10) by first | (first | exact hLx | exact (fun _ => hLx (by omega)) | (intro h9; exfalso; omega)) | (exfalso; omega)), (fun (h : (m8.1 10) = 0) => absurd h (by omega)), rfl⟩
  have J144_15 : ∀ (m14 : mR), Ty m14 → fr [7, 8, 9, 10, 11, 12, 73, 74, 75] [76, 77, 78, 79, 80, 87, 88, 90, 92] (mO m [] []) m14 → (1 ≤ (m14.1 10)) → TT w D pm_263 (144, [(0, .ref 189), (1, .int (i32 k))], [], (mhp (mO m14 [] []) c, N), 0, 0) (Q_endOr m c N k B) := by
    intro m14 Tm14 Fm14 ic16
    have q17_7 : 0 ≤ m14.1 7 ∧ m14.1 7 ≤ 330 := Tm14.1 7
    have q17_8 : 0 ≤ m14.1 8 ∧ m14.1 8 ≤ 4000 := Tm14.1 8
    have q17_9 : 0 ≤ m14.1 9 ∧ m14.1 9 ≤ 4000 := Tm14.1 9
    have q17_10 : 0 ≤ m14.1 10 ∧ m14.1 10 ≤ 8 := Tm14.1 10
    have q17_73 : 0 ≤ m14.1 73 ∧ m14.1 73 ≤ 60 := Tm14.1 73
    have q17_74 : 0 ≤ m14.1 74 ∧ m14.1 74 ≤ 24 := Tm14.1 74
    have q17_75 : 0 ≤ m14.1 75 ∧ m14.1 75 ≤ 3 := Tm14.1 75
    refine T_goto 151 rfl (fun _ => rfl) ?_
    refine T_ret rfl (fun _ => rfl) ?_
    exact ⟨(mO m14 [] []), Tm14, (fr_m (fr_s Fm14 (fr_m fr_0 rfl rfl) rfl rfl) rfl rfl), (show (m14.1 10) = 0 → (m.1 10) = 0 by omega), (show LxP (m14.1 7) (m14.1 8) (m14.1 9) (m.1 6) (m14.1 10) by first | (first | exact hLx | exact (fun _ => hLx (by omega)) | (intro h9; exfalso; omega)) | (exfalso; omega)), (fun (h : (m14.1 10) = 0) => absurd h (by omega)), rfl⟩
  refine T_gf 4 (.ref 241) rfl rfl rfl rfl rfl rfl ?_
  refine T_ld 5 (.int (i32 k)) rfl (fun _ => rfl) ?_
  refine T_iald 6 79 (m.2 79) rfl rfl rfl (by omega) (show k < (60 : Int) by omega) rfl ?_
  have e20 : 0 ≤ (m.2 79) k ∧ (m.2 79) k ≤ 2 := (hT.2.1 79) k
  refine T_if 77 9 rfl rfl rfl (r32 (by omega) (by omega)) (fun (h21 : (m.2 79) k ≠ 0) => ?_) (fun (h21 : ¬ ((m.2 79) k ≠ 0)) => ?_)
  · skip
    refine T_gf 81 (.ref 241) rfl rfl rfl rfl rfl rfl ?_
    refine T_ld 82 (.int (i32 k)) rfl (fun _ => rfl) ?_
    refine T_iald 83 79 (m.2 79) rfl rfl rfl (by omega) (show k < (60 : Int) by omega) rfl ?_
    have e22 : 0 ≤ (m.2 79) k ∧ (m.2 79) k ≤ 2 := (hT.2.1 79) k
    refine T_ld 84 (.int (i32 1)) rfl (fun _ => rfl) ?_
    refine T_icmp 147 87 rfl rfl rfl (r32 (by omega) (by omega)) ⟨by decide, by decide⟩ (fun (h23 : (m.2 79) k ≠ 1) => ?_) (fun (h23 : ¬ ((m.2 79) k ≠ 1)) => ?_)
    · skip
      refine T_ld 148 (.ref 189) rfl (fun _ => rfl) ?_
      refine T_call 151 264 [.ref 189] [] rfl (fun _ => rfl) rfl (c_endChoice w (mO m [] []) c N D (by omega) hT B (show LxP (m.1 7) (m.1 8) (m.1 9) (m.1 6) (m.1 10) by first | exact hLx | exact (fun _ => hLx (by omega)) | (intro h9; exfalso; omega)) (show (m.1 10) = 0 by omega) ⟨(show XS (m.2 65) (m.2 67) (m.2 76) (m.2 78) (m.2 79) (m.2 80) B (m.1 28) (m.1 73) (m.1 74) 1 by first | exact hXS | assumption), (show 1 ≤ (m.1 73) by omega), (show (m.2 76) ((m.1 73) - 1) = 0 by first | assumption | omega), (show (m.1 69) ≤ 64 by omega)⟩) (fun rr24 k25 => ?_)
      obtain ⟨m26, Tm26, Fm26, h27, h28, c29, rfl⟩ := k25
      refine ⟨_, _, rfl, ?_⟩
      refine T_nb (st' := []) rfl ?_
      have g30 : 0 ≤ m26.1 7 ∧ m26.1 7 ≤ 330 := Tm26.1 7
      have g31 : 0 ≤ m26.1 8 ∧ m26.1 8 ≤ 4000 := Tm26.1 8
      have g32 : 0 ≤ m26.1 9 ∧ m26.1 9 ≤ 4000 := Tm26.1 9
      have g33 : 0 ≤ m26.1 10 ∧ m26.1 10 ≤ 8 := Tm26.1 10
      have g34 : 0 ≤ m26.1 28 ∧ m26.1 28 ≤ 800 := Tm26.1 28
      have g35 : 0 ≤ m26.1 69 ∧ m26.1 69 ≤ 1024 := Tm26.1 69
      have g36 : 0 ≤ m26.1 70 ∧ m26.1 70 ≤ 4000 := Tm26.1 70
      have g37 : 0 ≤ m26.1 71 ∧ m26.1 71 ≤ 1 := Tm26.1 71
      have g38 : (-9223372036854775808) ≤ m26.1 72 ∧ m26.1 72 ≤ 9223372036854775807 := Tm26.1 72
      have g39 : 0 ≤ m26.1 73 ∧ m26.1 73 ≤ 60 := Tm26.1 73
      have g40 : 0 ≤ m26.1 74 ∧ m26.1 74 ≤ 24 := Tm26.1 74
      have g41 : 0 ≤ m26.1 75 ∧ m26.1 75 ≤ 3 := Tm26.1 75
      by_cases hf42 : (m26.1 10) = 0
      · skip
        replace h27 : (m.1 10) = 0 := h27 hf42
        replace h28 : LxP (m26.1 7) (m26.1 8) (m26.1 9) (m.1 6) (m26.1 10) := h28
        have hLx := h28
        obtain ⟨c43, c44, c45, c46, c47, c48⟩ := c29 hf42
        replace c43 : GPc (m.1 8) (m26.1 8) (m26.1 75) (m26.1 73) (m.1 73) := c43
        have hGP := c43
        replace c44 : GU (m26.1 75) (m26.1 69) := c44
        have hGU := c44
        replace c45 : GH (m26.1 75) (m26.1 73) := c45
        have hGH := c45
        replace c46 : (m.1 28) ≤ (m26.1 28) := c46
        replace c47 : XS (m26.2 65) (m26.2 67) (m.2 76) (m.2 78) (m.2 79) (m.2 80) B (m26.1 28) (m26.1 73) (m26.1 74) (um (m26.1 75)) := c47
        have hXE := c47
        replace c48 : agr (m.2 65) (m26.2 65) (m.1 28) := c48
        have hAg := c48
        clear c29
        have hAgC : agr (m.2 65) (m26.2 65) (m.1 28) := by first | exact agr_r _ _ | exact hAgC | exact agr_t hAgC hAg (by omega)
        refine T_ret rfl (fun _ => rfl) ?_
        exact ⟨(mO m26 [] []), Tm26, (fr_m (fr_s Fm26 (fr_m fr_0 rfl rfl) rfl rfl) rfl rfl), (show (m26.1 10) = 0 → (m.1 10) = 0 by omega), (show LxP (m26.1 7) (m26.1 8) (m26.1 9) (m.1 6) (m26.1 10) by first | (first | exact hLx | exact (fun _ => hLx (by omega)) | (intro h9; exfalso; omega)) | (exfalso; omega)), (fun _ => ⟨(show GPc (m.1 8) (m26.1 8) (m26.1 75) (m26.1 73) (m.1 73) by first | (first | assumption | (unfold GPc; omega)) | (exfalso; omega)), (show GU (m26.1 75) (m26.1 69) by first | (first | assumption | (unfold GU; omega)) | (exfalso; omega)), (show GH (m26.1 75) (m26.1 73) by first | (first | assumption | (unfold GH; omega)) | (exfalso; omega)), (show (m.1 28) ≤ (m26.1 28) by omega), (show XS (m26.2 65) (m26.2 67) (m26.2 76) (m26.2 78) (m26.2 79) (m26.2 80) B (m26.1 28) (m26.1 73) (m26.1 74) (um (m26.1 75)) by rewrite [(show (m26.2 76) = (m.2 76) from (fr2 Fm26 76 rfl)), (show (m26.2 78) = (m.2 78) from (fr2 Fm26 78 rfl)), (show (m26.2 79) = (m.2 79) from (fr2 Fm26 79 rfl)), (show (m26.2 80) = (m.2 80) from (fr2 Fm26 80 rfl))]; first | (exact hXE) | (exfalso; omega)), (show agr (m.2 65) (m26.2 65) (m.1 28) by first | (exact hAgC) | (exfalso; omega))⟩), rfl⟩
      · skip
        clear c29
        clear h27
        replace h28 : LxP (m26.1 7) (m26.1 8) (m26.1 9) (m.1 6) (m26.1 10) := h28
        have hLx := h28
        have hf49 : 1 ≤ (m26.1 10) := by omega
        exact J151_9 (mO m26 [] []) Tm26 (fr_m (fr_s Fm26 (fr_m fr_0 rfl rfl) rfl rfl) rfl rfl) (show 1 ≤ (m26.1 10) by omega)
    · skip
      refine T_gf 91 (.ref 249) rfl rfl rfl rfl rfl rfl ?_
      refine T_ld 92 (.int (i32 k)) rfl (fun _ => rfl) ?_
      refine T_gf 96 (.int (i32 (m.1 69))) rfl rfl rfl rfl rfl rfl ?_
      have G50 : ∀ j, 0 ≤ (upI (m.2 87) k (m.1 69)) j ∧ (upI (m.2 87) k (m.1 69)) j ≤ 64 := upI_rg (hT.2.1 87) ⟨by omega, by omega⟩
      refine T_iast (a' := [(87, upI (m.2 87) k (m.1 69))]) 97 87 (m.2 87) rfl rfl rfl (by omega) (show k < (60 : Int) by omega) rfl rfl ?_
      refine T_gf 101 (.ref 250) rfl rfl rfl rfl rfl rfl ?_
      refine T_ld 102 (.int (i32 k)) rfl (fun _ => rfl) ?_
      refine T_gf 106 (.int (i32 (m.1 70))) rfl rfl rfl rfl rfl rfl ?_
      have G51 : ∀ j, 0 ≤ (upI (m.2 88) k (m.1 70)) j ∧ (upI (m.2 88) k (m.1 70)) j ≤ 4000 := upI_rg (hT.2.1 88) ⟨by omega, by omega⟩
      refine T_iast (a' := [(87, upI (m.2 87) k (m.1 69)), (88, upI (m.2 88) k (m.1 70))]) 107 88 (m.2 88) rfl rfl rfl (by omega) (show k < (60 : Int) by omega) rfl rfl ?_
      refine T_gf 111 (.ref 252) rfl rfl rfl rfl rfl rfl ?_
      refine T_ld 112 (.int (i32 k)) rfl (fun _ => rfl) ?_
      refine T_gf 116 (.int (i32 (m.1 71))) rfl rfl rfl rfl rfl rfl ?_
      have G52 : ∀ j, 0 ≤ (upI (m.2 90) k (m.1 71)) j ∧ (upI (m.2 90) k (m.1 71)) j ≤ 1 := upI_rg (hT.2.1 90) ⟨by omega, by omega⟩
      refine T_bast (a' := [(87, upI (m.2 87) k (m.1 69)), (88, upI (m.2 88) k (m.1 70)), (90, upI (m.2 90) k (m.1 71))]) 117 90 (m.2 90) rfl rfl rfl (by omega) (show k < (60 : Int) by omega) (by omega) rfl rfl ?_
      refine T_gf 121 (.ref 254) rfl rfl rfl rfl rfl rfl ?_
      refine T_ld 122 (.int (i32 k)) rfl (fun _ => rfl) ?_
      refine T_gf 126 (.long (i64 (m.1 72))) rfl rfl rfl rfl rfl rfl ?_
      have G53 : ∀ j, (-9223372036854775808) ≤ (upI (m.2 92) k (m.1 72)) j ∧ (upI (m.2 92) k (m.1 72)) j ≤ 9223372036854775807 := upI_rg (hT.2.1 92) ⟨by omega, by omega⟩
      refine T_last (a' := [(87, upI (m.2 87) k (m.1 69)), (88, upI (m.2 88) k (m.1 70)), (90, upI (m.2 90) k (m.1 71)), (92, upI (m.2 92) k (m.1 72))]) 127 92 (m.2 92) rfl rfl rfl (by omega) (show k < (60 : Int) by omega) rfl rfl ?_
      refine T_gf 131 (.ref 241) rfl rfl rfl rfl rfl rfl ?_
      refine T_ld 132 (.int (i32 k)) rfl (fun _ => rfl) ?_
      refine T_ld 133 (.int (i32 2)) rfl (fun _ => rfl) ?_
      have G54 : ∀ j, 0 ≤ (upI (m.2 79) k 2) j ∧ (upI (m.2 79) k 2) j ≤ 2 := upI_rg (hT.2.1 79) ⟨by omega, by omega⟩
      refine T_iast (a' := [(79, upI (m.2 79) k 2), (87, upI (m.2 87) k (m.1 69)), (88, upI (m.2 88) k (m.1 70)), (90, upI (m.2 90) k (m.1 71)), (92, upI (m.2 92) k (m.1 72))]) 134 79 (m.2 79) rfl rfl rfl (by omega) (show k < (60 : Int) by omega) rfl rfl ?_
      have hXT : XT (m.2 65) (m.2 67) (m.2 76) (m.2 78) (upI (m.2 79) k 2) (m.2 80) B (m.1 28) (m.1 73) (m.1 74) 0 := XT_st (x := 2) (U' := 0) hk hXS.1 (by omega) (by omega)
      refine T_ld 135 (.ref 189) rfl (fun _ => rfl) ?_
      refine T_ld 137 (.int (i32 58)) rfl (fun _ => rfl) ?_
      refine T_call 140 232 [.ref 189, .int (i32 58)] [] rfl (fun _ => rfl) rfl (d_need w (mO m [] [(79, upI (m.2 79) k 2), (87, upI (m.2 87) k (m.1 69)), (88, upI (m.2 88) k (m.1 70)), (90, upI (m.2 90) k (m.1 71)), (92, upI (m.2 92) k (m.1 72))]) c N D (by omega) (Ty_mO hT rfl rfl trivial ⟨G54, G50, G51, G52, G53, trivial⟩) 58 ⟨by decide, by decide⟩ (show 1 ≤ (58 : Int) by omega) (show LxP (m.1 7) (m.1 8) (m.1 9) (m.1 6) (m.1 10) by first | exact hLx | (intro h9; exfalso; omega) | (intro h9; have h8 := hLx (by omega); omega))) (fun rr55 k56 => ?_)
      obtain ⟨m57, Tm57, Fm57, h58, h59, h60, h61, rfl⟩ := k56
      refine ⟨_, _, rfl, ?_⟩
      refine T_nb (st' := []) rfl ?_
      have g62 : 0 ≤ m57.1 7 ∧ m57.1 7 ≤ 330 := Tm57.1 7
      have g63 : 0 ≤ m57.1 8 ∧ m57.1 8 ≤ 4000 := Tm57.1 8
      have g64 : 0 ≤ m57.1 9 ∧ m57.1 9 ≤ 4000 := Tm57.1 9
      have g65 : 0 ≤ m57.1 10 ∧ m57.1 10 ≤ 8 := Tm57.1 10
      by_cases hf66 : (m57.1 10) = 0
      · skip
        replace h58 : LxP (m57.1 7) (m57.1 8) (m57.1 9) (m.1 6) (m57.1 10) := h58
        have hLx := h58
        replace h59 : (m.1 10) = 0 ∧ (m.1 7) = (58 : Int) := h59 hf66
        replace h60 : (m.1 8) ≤ (m57.1 8) := h60
        replace h61 : (m.1 8) + (m.1 9) ≤ (m57.1 8) := h61 hf66
        have hAgC : agr (m.2 65) (m.2 65) (m.1 28) := by first | exact agr_r _ _ | exact hAgC | exact agr_t hAgC hAg (by omega)
        have hTop : (m.1 73) = 0 ∨ (m.2 76) ((m.1 73) - 1) = 2 ∨ ((m.2 76) ((m.1 73) - 1) = 0 ∧ (upI (m.2 79) k 2) ((m.1 73) - 1) = 2) := Or.inr (Or.inr ⟨hok2, by rw [← hk, upI_s]⟩)
        refine T_ld 141 (.ref 189) rfl (fun _ => rfl) ?_
        refine T_call 144 245 [.ref 189] [] rfl (fun _ => rfl) rfl (c_beginChoice w (mO m57 [] []) c N D (by omega) Tm57 B 0 (fun _ => ⟨(show XT (m57.2 65) (m57.2 67) (m57.2 76) (m57.2 78) (m57.2 79) (m57.2 80) B (m57.1 28) (m57.1 73) (m57.1 74) 0 by rewrite [(show (m57.2 65) = (m.2 65) from (fr2 Fm57 65 rfl)), (show (m57.2 67) = (m.2 67) from (fr2 Fm57 67 rfl)), (show (m57.2 76) = (m.2 76) from (fr2 Fm57 76 rfl)), (show (m57.2 78) = (m.2 78) from (fr2 Fm57 78 rfl)), (show (m57.2 79) = (upI (m.2 79) k 2) from (fr2 Fm57 79 rfl)), (show (m57.2 80) = (m.2 80) from (fr2 Fm57 80 rfl)), (show (m57.1 28) = (m.1 28) from (fr1 Fm57 28 rfl)), (show (m57.1 73) = (m.1 73) from (fr1 Fm57 73 rfl)), (show (m57.1 74) = (m.1 74) from (fr1 Fm57 74 rfl))]; first | exact hXT | exact hXS.1), (show (m57.1 73) = 0 ∨ (m57.2 76) ((m57.1 73) - 1) = 2 ∨ ((m57.2 76) ((m57.1 73) - 1) = 0 ∧ (m57.2 79) ((m57.1 73) - 1) = 2) by rewrite [(show (m57.1 73) = (m.1 73) from (fr1 Fm57 73 rfl)), (show (m57.2 76) = (m.2 76) from (fr2 Fm57 76 rfl)), (show (m57.2 79) = (upI (m.2 79) k 2) from (fr2 Fm57 79 rfl))]; first | exact hTop | omega)⟩)) (fun rr67 k68 => ?_)
        obtain ⟨m69, Tm69, Fm69, h70, c71, rfl⟩ := k68
        refine ⟨_, _, rfl, ?_⟩
        refine T_nb (st' := []) rfl ?_
        have g72 : 0 ≤ m69.1 10 ∧ m69.1 10 ≤ 8 := Tm69.1 10
        have g73 : 0 ≤ m69.1 73 ∧ m69.1 73 ≤ 60 := Tm69.1 73
        have g74 : 0 ≤ m69.1 74 ∧ m69.1 74 ≤ 24 := Tm69.1 74
        have g75 : 0 ≤ m69.1 75 ∧ m69.1 75 ≤ 3 := Tm69.1 75
        by_cases hf76 : (m69.1 10) = 0
        · skip
          replace h70 : (m57.1 10) = 0 := h70 hf76
          obtain ⟨c77, c78, c79⟩ := c71 hf76
          replace c77 : XS (m57.2 65) (m57.2 67) (m69.2 76) (m69.2 78) (m69.2 79) (m69.2 80) B (m57.1 28) (m69.1 73) (m69.1 74) 0 := c77
          rewrite [(show (m57.2 65) = (m.2 65) from (fr2 Fm57 65 rfl)), (show (m57.2 67) = (m.2 67) from (fr2 Fm57 67 rfl)), (show (m57.1 28) = (m.1 28) from (fr1 Fm57 28 rfl))] at c77
          have hXS := c77
          replace c78 : (m69.1 73) = (m57.1 73) + 1 := c78
          rewrite [(show (m57.1 73) = (m.1 73) from (fr1 Fm57 73 rfl))] at c78
          replace c79 : (m69.1 75) = 0 := c79
          clear c71
          have hAgC : agr (m.2 65) (m.2 65) (m.1 28) := by first | exact agr_r _ _ | exact hAgC | exact agr_t hAgC hAg (by omega)
          clear g65 h58 h70
          have hXE : XS (m.2 65) (m.2 67) (m69.2 76) (m69.2 78) (m69.2 79) (m69.2 80) B (m.1 28) (m69.1 73) (m69.1 74) (um (m69.1 75)) := by
            rw [show um (m69.1 75) = 0 from if_pos (by omega)]
            exact hXS
          refine T_goto 151 rfl (fun _ => rfl) ?_
          refine T_ret rfl (fun _ => rfl) ?_
          exact ⟨(mO m69 [] []), Tm69, (fr_m (fr_s Fm69 (fr_m (fr_s Fm57 (fr_m fr_0 rfl rfl) rfl rfl) rfl rfl) rfl rfl) rfl rfl), (show (m69.1 10) = 0 → (m.1 10) = 0 by omega), (show LxP (m69.1 7) (m69.1 8) (m69.1 9) (m.1 6) (m69.1 10) by rewrite [(show (m69.1 7) = (m57.1 7) from (fr1 Fm69 7 rfl)), (show (m69.1 8) = (m57.1 8) from (fr1 Fm69 8 rfl)), (show (m69.1 9) = (m57.1 9) from (fr1 Fm69 9 rfl))]; first | (first | exact hLx | exact (fun _ => hLx (by omega)) | (intro h9; exfalso; omega)) | (exfalso; omega)), (fun _ => ⟨(show GPc (m.1 8) (m69.1 8) (m69.1 75) (m69.1 73) (m.1 73) by rewrite [(show (m69.1 8) = (m57.1 8) from (fr1 Fm69 8 rfl))]; first | (first | assumption | (unfold GPc; omega)) | (exfalso; omega)), (show GU (m69.1 75) (m69.1 69) by rewrite [(show (m69.1 69) = (m.1 69) from ((fr1 Fm69 69 rfl).trans (fr1 Fm57 69 rfl)))]; first | (first | assumption | (unfold GU; omega)) | (exfalso; omega)), (show GH (m69.1 75) (m69.1 73) by first | (first | assumption | (unfold GH; omega)) | (exfalso; omega)), (show (m.1 28) ≤ (m69.1 28) by rewrite [(show (m69.1 28) = (m.1 28) from ((fr1 Fm69 28 rfl).trans (fr1 Fm57 28 rfl)))]; omega), (show XS (m69.2 65) (m69.2 67) (m69.2 76) (m69.2 78) (m69.2 79) (m69.2 80) B (m69.1 28) (m69.1 73) (m69.1 74) (um (m69.1 75)) by rewrite [(show (m69.2 65) = (m.2 65) from ((fr2 Fm69 65 rfl).trans (fr2 Fm57 65 rfl))), (show (m69.2 67) = (m.2 67) from ((fr2 Fm69 67 rfl).trans (fr2 Fm57 67 rfl))), (show (m69.1 28) = (m.1 28) from ((fr1 Fm69 28 rfl).trans (fr1 Fm57 28 rfl)))]; first | (exact hXE) | (exfalso; omega)), (show agr (m.2 65) (m69.2 65) (m.1 28) by rewrite [(show (m69.2 65) = (m.2 65) from ((fr2 Fm69 65 rfl).trans (fr2 Fm57 65 rfl)))]; first | (exact hAgC) | (exfalso; omega))⟩), rfl⟩
        · skip
          clear c71
          clear h70
          have hf80 : 1 ≤ (m69.1 10) := by omega
          clear g65 h58
          exact J144_15 (mO m69 [] []) Tm69 (fr_m (fr_s Fm69 (fr_m (fr_s Fm57 (fr_m fr_0 rfl rfl) rfl rfl) rfl rfl) rfl rfl) rfl rfl) (show 1 ≤ (m69.1 10) by omega)
      · skip
        replace h58 : LxP (m57.1 7) (m57.1 8) (m57.1 9) (m.1 6) (m57.1 10) := h58
        have hLx := h58
        clear h59
        replace h60 : (m.1 8) ≤ (m57.1 8) := h60
        clear h61
        have hf81 : 1 ≤ (m57.1 10) := by omega
        refine T_ld 141 (.ref 189) rfl (fun _ => rfl) ?_
        refine T_call 144 245 [.ref 189] [] rfl (fun _ => rfl) rfl (c_beginChoice w (mO m57 [] []) c N D (by omega) Tm57 B 0 (fun (h : (m57.1 10) = 0) => absurd h (by omega))) (fun rr82 k83 => ?_)
        obtain ⟨m84, Tm84, Fm84, h85, c86, rfl⟩ := k83
        refine ⟨_, _, rfl, ?_⟩
        refine T_nb (st' := []) rfl ?_
        have g87 : 0 ≤ m84.1 10 ∧ m84.1 10 ≤ 8 := Tm84.1 10
        have g88 : 0 ≤ m84.1 73 ∧ m84.1 73 ≤ 60 := Tm84.1 73
        have g89 : 0 ≤ m84.1 74 ∧ m84.1 74 ≤ 24 := Tm84.1 74
        have g90 : 0 ≤ m84.1 75 ∧ m84.1 75 ≤ 3 := Tm84.1 75
        replace h85 : (m84.1 10) = 0 → (m57.1 10) = 0 := h85
        have hf91 : 1 ≤ (m84.1 10) := by omega
        clear c86
        clear h85
        clear g65 h58 hf81
        exact J144_15 (mO m84 [] []) Tm84 (fr_m (fr_s Fm84 (fr_m (fr_s Fm57 (fr_m fr_0 rfl rfl) rfl rfl) rfl rfl) rfl rfl) rfl rfl) (show 1 ≤ (m84.1 10) by omega)
  · skip
    refine T_gf 13 (.int (i32 (m.1 7))) rfl rfl rfl rfl rfl rfl ?_
    refine T_ld 15 (.int (i32 63)) rfl (fun _ => rfl) ?_
    refine T_icmp 77 18 rfl rfl rfl (r32 (by omega) (by omega)) ⟨by decide, by decide⟩ (fun (h92 : (m.1 7) ≠ 63) => ?_) (fun (h92 : ¬ ((m.1 7) ≠ 63)) => ?_)
    · skip
      refine T_gf 81 (.ref 241) rfl rfl rfl rfl rfl rfl ?_
      refine T_ld 82 (.int (i32 k)) rfl (fun _ => rfl) ?_
      refine T_iald 83 79 (m.2 79) rfl rfl rfl (by omega) (show k < (60 : Int) by omega) rfl ?_
      have e93 : 0 ≤ (m.2 79) k ∧ (m.2 79) k ≤ 2 := (hT.2.1 79) k
      refine T_ld 84 (.int (i32 1)) rfl (fun _ => rfl) ?_
      refine T_icmp 147 87 rfl rfl rfl (r32 (by omega) (by omega)) ⟨by decide, by decide⟩ (fun (h94 : (m.2 79) k ≠ 1) => ?_) (fun (h94 : ¬ ((m.2 79) k ≠ 1)) => by exfalso; omega)
      refine T_ld 148 (.ref 189) rfl (fun _ => rfl) ?_
      refine T_call 151 264 [.ref 189] [] rfl (fun _ => rfl) rfl (c_endChoice w (mO m [] []) c N D (by omega) hT B (show LxP (m.1 7) (m.1 8) (m.1 9) (m.1 6) (m.1 10) by first | exact hLx | exact (fun _ => hLx (by omega)) | (intro h9; exfalso; omega)) (show (m.1 10) = 0 by omega) ⟨(show XS (m.2 65) (m.2 67) (m.2 76) (m.2 78) (m.2 79) (m.2 80) B (m.1 28) (m.1 73) (m.1 74) 1 by first | exact hXS | assumption), (show 1 ≤ (m.1 73) by omega), (show (m.2 76) ((m.1 73) - 1) = 0 by first | assumption | omega), (show (m.1 69) ≤ 64 by omega)⟩) (fun rr95 k96 => ?_)
      obtain ⟨m97, Tm97, Fm97, h98, h99, c100, rfl⟩ := k96
      refine ⟨_, _, rfl, ?_⟩
      refine T_nb (st' := []) rfl ?_
      have g101 : 0 ≤ m97.1 7 ∧ m97.1 7 ≤ 330 := Tm97.1 7
      have g102 : 0 ≤ m97.1 8 ∧ m97.1 8 ≤ 4000 := Tm97.1 8
      have g103 : 0 ≤ m97.1 9 ∧ m97.1 9 ≤ 4000 := Tm97.1 9
      have g104 : 0 ≤ m97.1 10 ∧ m97.1 10 ≤ 8 := Tm97.1 10
      have g105 : 0 ≤ m97.1 28 ∧ m97.1 28 ≤ 800 := Tm97.1 28
      have g106 : 0 ≤ m97.1 69 ∧ m97.1 69 ≤ 1024 := Tm97.1 69
      have g107 : 0 ≤ m97.1 70 ∧ m97.1 70 ≤ 4000 := Tm97.1 70
      have g108 : 0 ≤ m97.1 71 ∧ m97.1 71 ≤ 1 := Tm97.1 71
      have g109 : (-9223372036854775808) ≤ m97.1 72 ∧ m97.1 72 ≤ 9223372036854775807 := Tm97.1 72
      have g110 : 0 ≤ m97.1 73 ∧ m97.1 73 ≤ 60 := Tm97.1 73
      have g111 : 0 ≤ m97.1 74 ∧ m97.1 74 ≤ 24 := Tm97.1 74
      have g112 : 0 ≤ m97.1 75 ∧ m97.1 75 ≤ 3 := Tm97.1 75
      by_cases hf113 : (m97.1 10) = 0
      · skip
        replace h98 : (m.1 10) = 0 := h98 hf113
        replace h99 : LxP (m97.1 7) (m97.1 8) (m97.1 9) (m.1 6) (m97.1 10) := h99
        have hLx := h99
        obtain ⟨c114, c115, c116, c117, c118, c119⟩ := c100 hf113
        replace c114 : GPc (m.1 8) (m97.1 8) (m97.1 75) (m97.1 73) (m.1 73) := c114
        have hGP := c114
        replace c115 : GU (m97.1 75) (m97.1 69) := c115
        have hGU := c115
        replace c116 : GH (m97.1 75) (m97.1 73) := c116
        have hGH := c116
        replace c117 : (m.1 28) ≤ (m97.1 28) := c117
        replace c118 : XS (m97.2 65) (m97.2 67) (m.2 76) (m.2 78) (m.2 79) (m.2 80) B (m97.1 28) (m97.1 73) (m97.1 74) (um (m97.1 75)) := c118
        have hXE := c118
        replace c119 : agr (m.2 65) (m97.2 65) (m.1 28) := c119
        have hAg := c119
        clear c100
        have hAgC : agr (m.2 65) (m97.2 65) (m.1 28) := by first | exact agr_r _ _ | exact hAgC | exact agr_t hAgC hAg (by omega)
        refine T_ret rfl (fun _ => rfl) ?_
        exact ⟨(mO m97 [] []), Tm97, (fr_m (fr_s Fm97 (fr_m fr_0 rfl rfl) rfl rfl) rfl rfl), (show (m97.1 10) = 0 → (m.1 10) = 0 by omega), (show LxP (m97.1 7) (m97.1 8) (m97.1 9) (m.1 6) (m97.1 10) by first | (first | exact hLx | exact (fun _ => hLx (by omega)) | (intro h9; exfalso; omega)) | (exfalso; omega)), (fun _ => ⟨(show GPc (m.1 8) (m97.1 8) (m97.1 75) (m97.1 73) (m.1 73) by first | (first | assumption | (unfold GPc; omega)) | (exfalso; omega)), (show GU (m97.1 75) (m97.1 69) by first | (first | assumption | (unfold GU; omega)) | (exfalso; omega)), (show GH (m97.1 75) (m97.1 73) by first | (first | assumption | (unfold GH; omega)) | (exfalso; omega)), (show (m.1 28) ≤ (m97.1 28) by omega), (show XS (m97.2 65) (m97.2 67) (m97.2 76) (m97.2 78) (m97.2 79) (m97.2 80) B (m97.1 28) (m97.1 73) (m97.1 74) (um (m97.1 75)) by rewrite [(show (m97.2 76) = (m.2 76) from (fr2 Fm97 76 rfl)), (show (m97.2 78) = (m.2 78) from (fr2 Fm97 78 rfl)), (show (m97.2 79) = (m.2 79) from (fr2 Fm97 79 rfl)), (show (m97.2 80) = (m.2 80) from (fr2 Fm97 80 rfl))]; first | (exact hXE) | (exfalso; omega)), (show agr (m.2 65) (m97.2 65) (m.1 28) by first | (exact hAgC) | (exfalso; omega))⟩), rfl⟩
      · skip
        clear c100
        clear h98
        replace h99 : LxP (m97.1 7) (m97.1 8) (m97.1 9) (m.1 6) (m97.1 10) := h99
        have hLx := h99
        have hf120 : 1 ≤ (m97.1 10) := by omega
        exact J151_9 (mO m97 [] []) Tm97 (fr_m (fr_s Fm97 (fr_m fr_0 rfl rfl) rfl rfl) rfl rfl) (show 1 ≤ (m97.1 10) by omega)
    · skip
      refine T_gf 22 (.ref 247) rfl rfl rfl rfl rfl rfl ?_
      refine T_ld 23 (.int (i32 k)) rfl (fun _ => rfl) ?_
      refine T_gf 27 (.int (i32 (m.1 69))) rfl rfl rfl rfl rfl rfl ?_
      have G121 : ∀ j, 0 ≤ (upI (m.2 85) k (m.1 69)) j ∧ (upI (m.2 85) k (m.1 69)) j ≤ 64 := upI_rg (hT.2.1 85) ⟨by omega, by omega⟩
      refine T_iast (a' := [(85, upI (m.2 85) k (m.1 69))]) 28 85 (m.2 85) rfl rfl rfl (by omega) (show k < (60 : Int) by omega) rfl rfl ?_
      refine T_gf 32 (.ref 248) rfl rfl rfl rfl rfl rfl ?_
      refine T_ld 33 (.int (i32 k)) rfl (fun _ => rfl) ?_
      refine T_gf 37 (.int (i32 (m.1 70))) rfl rfl rfl rfl rfl rfl ?_
      have G122 : ∀ j, 0 ≤ (upI (m.2 86) k (m.1 70)) j ∧ (upI (m.2 86) k (m.1 70)) j ≤ 4000 := upI_rg (hT.2.1 86) ⟨by omega, by omega⟩
      refine T_iast (a' := [(85, upI (m.2 85) k (m.1 69)), (86, upI (m.2 86) k (m.1 70))]) 38 86 (m.2 86) rfl rfl rfl (by omega) (show k < (60 : Int) by omega) rfl rfl ?_
      refine T_gf 42 (.ref 251) rfl rfl rfl rfl rfl rfl ?_
      refine T_ld 43 (.int (i32 k)) rfl (fun _ => rfl) ?_
      refine T_gf 47 (.int (i32 (m.1 71))) rfl rfl rfl rfl rfl rfl ?_
      have G123 : ∀ j, 0 ≤ (upI (m.2 89) k (m.1 71)) j ∧ (upI (m.2 89) k (m.1 71)) j ≤ 1 := upI_rg (hT.2.1 89) ⟨by omega, by omega⟩
      refine T_bast (a' := [(85, upI (m.2 85) k (m.1 69)), (86, upI (m.2 86) k (m.1 70)), (89, upI (m.2 89) k (m.1 71))]) 48 89 (m.2 89) rfl rfl rfl (by omega) (show k < (60 : Int) by omega) (by omega) rfl rfl ?_
      refine T_gf 52 (.ref 253) rfl rfl rfl rfl rfl rfl ?_
      refine T_ld 53 (.int (i32 k)) rfl (fun _ => rfl) ?_
      refine T_gf 57 (.long (i64 (m.1 72))) rfl rfl rfl rfl rfl rfl ?_
      have G124 : ∀ j, (-9223372036854775808) ≤ (upI (m.2 91) k (m.1 72)) j ∧ (upI (m.2 91) k (m.1 72)) j ≤ 9223372036854775807 := upI_rg (hT.2.1 91) ⟨by omega, by omega⟩
      refine T_last (a' := [(85, upI (m.2 85) k (m.1 69)), (86, upI (m.2 86) k (m.1 70)), (89, upI (m.2 89) k (m.1 71)), (91, upI (m.2 91) k (m.1 72))]) 58 91 (m.2 91) rfl rfl rfl (by omega) (show k < (60 : Int) by omega) rfl rfl ?_
      refine T_gf 62 (.ref 241) rfl rfl rfl rfl rfl rfl ?_
      refine T_ld 63 (.int (i32 k)) rfl (fun _ => rfl) ?_
      refine T_ld 64 (.int (i32 1)) rfl (fun _ => rfl) ?_
      have G125 : ∀ j, 0 ≤ (upI (m.2 79) k 1) j ∧ (upI (m.2 79) k 1) j ≤ 2 := upI_rg (hT.2.1 79) ⟨by omega, by omega⟩
      refine T_iast (a' := [(79, upI (m.2 79) k 1), (85, upI (m.2 85) k (m.1 69)), (86, upI (m.2 86) k (m.1 70)), (89, upI (m.2 89) k (m.1 71)), (91, upI (m.2 91) k (m.1 72))]) 65 79 (m.2 79) rfl rfl rfl (by omega) (show k < (60 : Int) by omega) rfl rfl ?_
      have hXT : XT (m.2 65) (m.2 67) (m.2 76) (m.2 78) (upI (m.2 79) k 1) (m.2 80) B (m.1 28) (m.1 73) (m.1 74) 0 := XT_st (x := 1) (U' := 0) hk hXS.1 (by omega) (by omega)
      refine T_ld 66 (.ref 189) rfl (fun _ => rfl) ?_
      refine T_call 69 212 [.ref 189] [] rfl (fun _ => rfl) rfl (d_next w (mO m [] [(79, upI (m.2 79) k 1), (85, upI (m.2 85) k (m.1 69)), (86, upI (m.2 86) k (m.1 70)), (89, upI (m.2 89) k (m.1 71)), (91, upI (m.2 91) k (m.1 72))]) c N D (by omega) (Ty_mO hT rfl rfl trivial ⟨G125, G121, G122, G123, G124, trivial⟩) (show (m.1 10) = 0 → (m.1 8) + (m.1 9) ≤ (m.1 6) by first | omega | (intro h9; have h8 := hLx h9; omega))) (fun rr126 k127 => ?_)
      obtain ⟨m128, Tm128, Fm128, h129, h130, h131, h132, rfl⟩ := k127
      refine ⟨_, _, rfl, ?_⟩
      refine T_nb (st' := []) rfl ?_
      have g133 : 0 ≤ m128.1 7 ∧ m128.1 7 ≤ 330 := Tm128.1 7
      have g134 : 0 ≤ m128.1 8 ∧ m128.1 8 ≤ 4000 := Tm128.1 8
      have g135 : 0 ≤ m128.1 9 ∧ m128.1 9 ≤ 4000 := Tm128.1 9
      have g136 : 0 ≤ m128.1 10 ∧ m128.1 10 ≤ 8 := Tm128.1 10
      by_cases hf137 : (m128.1 10) = 0
      · skip
        replace h129 : LxP (m128.1 7) (m128.1 8) (m128.1 9) (m.1 6) (m128.1 10) := h129
        have hLx := h129
        replace h130 : (m.1 10) = 0 := h130 hf137
        replace h131 : (m.1 8) ≤ (m128.1 8) := h131
        replace h132 : (m.1 8) + (m.1 9) ≤ (m128.1 8) := h132 hf137
        have hAgC : agr (m.2 65) (m.2 65) (m.1 28) := by first | exact agr_r _ _ | exact hAgC | exact agr_t hAgC hAg (by omega)
        refine T_ld 70 (.ref 189) rfl (fun _ => rfl) ?_
        refine T_ld 71 (.int (i32 0)) rfl (fun _ => rfl) ?_
        refine T_pf (l' := [(75, 0)]) 74 0 rfl rfl rfl rfl rfl rfl ?_
        have hXE : XS (m.2 65) (m.2 67) (m.2 76) (m.2 78) (upI (m.2 79) k 1) (m.2 80) B (m.1 28) (m.1 73) (m.1 74) (um (0 : Int)) := by
          rw [show um (0 : Int) = 0 from if_pos (by omega)]
          exact ⟨hXT, hXS.2⟩
        refine T_goto 151 rfl (fun _ => rfl) ?_
        refine T_ret rfl (fun _ => rfl) ?_
        exact ⟨(mO m128 [(75, 0)] []), (Ty_mO Tm128 rfl rfl ⟨⟨(by omega : (0 : Int) ≤ 0), (by omega : (0 : Int) ≤ 3)⟩, trivial⟩ trivial), (fr_m (fr_s Fm128 (fr_m fr_0 rfl rfl) rfl rfl) rfl rfl), (show (m128.1 10) = 0 → (m.1 10) = 0 by omega), (show LxP (m128.1 7) (m128.1 8) (m128.1 9) (m.1 6) (m128.1 10) by first | (first | exact hLx | exact (fun _ => hLx (by omega)) | (intro h9; exfalso; omega)) | (exfalso; omega)), (fun _ => ⟨(show GPc (m.1 8) (m128.1 8) (0 : Int) (m128.1 73) (m.1 73) by rewrite [(show (m128.1 73) = (m.1 73) from (fr1 Fm128 73 rfl))]; first | (first | assumption | (unfold GPc; omega)) | (exfalso; omega)), (show GU (0 : Int) (m128.1 69) by rewrite [(show (m128.1 69) = (m.1 69) from (fr1 Fm128 69 rfl))]; first | (first | assumption | (unfold GU; omega)) | (exfalso; omega)), (show GH (0 : Int) (m128.1 73) by rewrite [(show (m128.1 73) = (m.1 73) from (fr1 Fm128 73 rfl))]; first | (first | assumption | (unfold GH; omega)) | (exfalso; omega)), (show (m.1 28) ≤ (m128.1 28) by rewrite [(show (m128.1 28) = (m.1 28) from (fr1 Fm128 28 rfl))]; omega), (show XS (m128.2 65) (m128.2 67) (m128.2 76) (m128.2 78) (m128.2 79) (m128.2 80) B (m128.1 28) (m128.1 73) (m128.1 74) (um (0 : Int)) by rewrite [(show (m128.2 65) = (m.2 65) from (fr2 Fm128 65 rfl)), (show (m128.2 67) = (m.2 67) from (fr2 Fm128 67 rfl)), (show (m128.2 76) = (m.2 76) from (fr2 Fm128 76 rfl)), (show (m128.2 78) = (m.2 78) from (fr2 Fm128 78 rfl)), (show (m128.2 79) = (upI (m.2 79) k 1) from (fr2 Fm128 79 rfl)), (show (m128.2 80) = (m.2 80) from (fr2 Fm128 80 rfl)), (show (m128.1 28) = (m.1 28) from (fr1 Fm128 28 rfl)), (show (m128.1 73) = (m.1 73) from (fr1 Fm128 73 rfl)), (show (m128.1 74) = (m.1 74) from (fr1 Fm128 74 rfl))]; first | (exact hXE) | (exfalso; omega)), (show agr (m.2 65) (m128.2 65) (m.1 28) by rewrite [(show (m128.2 65) = (m.2 65) from (fr2 Fm128 65 rfl))]; first | (exact hAgC) | (exfalso; omega))⟩), rfl⟩
      · skip
        replace h129 : LxP (m128.1 7) (m128.1 8) (m128.1 9) (m.1 6) (m128.1 10) := h129
        have hLx := h129
        clear h130
        replace h131 : (m.1 8) ≤ (m128.1 8) := h131
        clear h132
        have hf138 : 1 ≤ (m128.1 10) := by omega
        refine T_ld 70 (.ref 189) rfl (fun _ => rfl) ?_
        refine T_ld 71 (.int (i32 0)) rfl (fun _ => rfl) ?_
        refine T_pf (l' := [(75, 0)]) 74 0 rfl rfl rfl rfl rfl rfl ?_
        refine T_goto 151 rfl (fun _ => rfl) ?_
        refine T_ret rfl (fun _ => rfl) ?_
        exact ⟨(mO m128 [(75, 0)] []), (Ty_mO Tm128 rfl rfl ⟨⟨(by omega : (0 : Int) ≤ 0), (by omega : (0 : Int) ≤ 3)⟩, trivial⟩ trivial), (fr_m (fr_s Fm128 (fr_m fr_0 rfl rfl) rfl rfl) rfl rfl), (show (m128.1 10) = 0 → (m.1 10) = 0 by omega), (show LxP (m128.1 7) (m128.1 8) (m128.1 9) (m.1 6) (m128.1 10) by first | (first | exact hLx | exact (fun _ => hLx (by omega)) | (intro h9; exfalso; omega)) | (exfalso; omega)), (fun (h : (m128.1 10) = 0) => absurd h (by omega)), rfl⟩
