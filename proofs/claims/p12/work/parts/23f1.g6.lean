def fF_endOr : List Nat := [7, 8, 9, 10, 11, 12, 28, 69, 70, 71, 72, 73, 74, 75]
def fA_endOr : List Nat := [65, 66, 67, 68, 76, 77, 78, 79, 80, 85, 86, 87, 88, 89, 90, 91, 92]
def Q_endOr (m : mR) (c : Nat → Option am_C) (N : Nat) (k : Int) (B : Int) : ag_Re af_T → Prop := fun R => ∃ (M : mR), Ty M ∧ fr fF_endOr fA_endOr m M ∧ ((M.1 10) = 0 → (m.1 10) = 0) ∧ (LxP (M.1 7) (M.1 8) (M.1 9) (m.1 6) (M.1 10)) ∧ (M.1 10 = 0 → (GP (m.1 8) (M.1 8) (M.1 75) (M.1 73) (m.1 73)) ∧ (GU (M.1 75) (M.1 69)) ∧ (GH (M.1 75) (M.1 73)) ∧ ((m.1 28) ≤ (M.1 28)) ∧ (XS (M.2 65) (M.2 67) (M.2 76) (M.2 78) (M.2 79) (M.2 80) B (M.1 28) (M.1 73) (M.1 74) (um (M.1 75))) ∧ (agr (m.2 65) (M.2 65) (m.1 28))) ∧ R = (.inl (none), (mhp M c, N), 0, 0)
set_option maxHeartbeats 3000000 in
theorem c_endOr (w : wX) (m : mR) (c : Nat → Option am_C) (N D : Nat) (hD : 8 ≤ D) (hT : Ty m) (k : Int) (B : Int) (qk : R32 k) (hLx0 : LxP (m.1 7) (m.1 8) (m.1 9) (m.1 6) (m.1 10)) (hf0 : m.1 10 = 0) (hC : (XS (m.2 65) (m.2 67) (m.2 76) (m.2 78) (m.2 79) (m.2 80) B (m.1 28) (m.1 73) (m.1 74) 1) ∧ (k = (m.1 73) - 1) ∧ (1 ≤ (m.1 73)) ∧ ((m.2 76) k = 0) ∧ ((m.1 69) ≤ 64) ∧ ((m.1 75) = 2)) : TC w D 263 [.ref 189, .int (i32 k)] (mhp m c, N) (Q_endOr m c N k B) := by
  obtain ⟨D, rfl⟩ : ∃ k, D = k + 1 := ⟨D - 1, by omega⟩
  obtain ⟨qka, qkb⟩ := id qk
  have hLx := hLx0
  have f7 : 0 ≤ m.1 7 ∧ m.1 7 ≤ 330 := hT.1 7
  have f8 : 0 ≤ m.1 8 ∧ m.1 8 ≤ 4000 := hT.1 8
  have f9 : 0 ≤ m.1 9 ∧ m.1 9 ≤ 4000 := hT.1 9
  have f10 : 0 ≤ m.1 10 ∧ m.1 10 ≤ 8 := hT.1 10
  have f28 : 0 ≤ m.1 28 ∧ m.1 28 ≤ 800 := hT.1 28
  have f69 : 0 ≤ m.1 69 ∧ m.1 69 ≤ 1024 := hT.1 69
  have f70 : 0 ≤ m.1 70 ∧ m.1 70 ≤ 4000 := hT.1 70
  have f71 : 0 ≤ m.1 71 ∧ m.1 71 ≤ 1 := hT.1 71
  have f72 : (-9223372036854775808) ≤ m.1 72 ∧ m.1 72 ≤ 9223372036854775807 := hT.1 72
  have f73 : 0 ≤ m.1 73 ∧ m.1 73 ≤ 60 := hT.1 73
  have f74 : 0 ≤ m.1 74 ∧ m.1 74 ≤ 24 := hT.1 74
  have f75 : 0 ≤ m.1 75 ∧ m.1 75 ≤ 3 := hT.1 75
  have f6 : 0 ≤ m.1 6 ∧ m.1 6 ≤ 4000 := hT.1 6
  refine Tc_of rfl ?_
  show TT w D pm_263 (0, [(0, .ref 189), (1, .int (i32 k))], [], (mhp (mO m [] []) c, N), 0, 0) (Q_endOr m c N k B)
  obtain ⟨hXS, hk, c1, hok, c2, c3⟩ := hC
  have hb := OS_hi hXS.1.2
  have hAgC := agr_r (m.2 65) (m.1 28)
  have h7 := hLx (by omega)
  have hok2 : (m.2 76) ((m.1 73) - 1) = 0 := by rw [← hk]; exact hok
  have J151_9 : ∀ (m8 : mR), Ty m8 → fr [7, 8, 9, 10, 11, 12, 28, 69, 70, 71, 72, 73, 74, 75] [65, 66, 67, 68] (mO m [] []) m8 → (1 ≤ (m8.1 10)) → TT w D pm_263 (151, [(0, .ref 189), (1, .int (i32 k))], [], (mhp (mO m8 [] []) c, N), 0, 0) (Q_endOr m c N k B) := by
    intro m8 Tm8 Fm8 ic10
    have q11_7 : 0 ≤ m8.1 7 ∧ m8.1 7 ≤ 330 := Tm8.1 7
    have q11_8 : 0 ≤ m8.1 8 ∧ m8.1 8 ≤ 4000 := Tm8.1 8
    have q11_9 : 0 ≤ m8.1 9 ∧ m8.1 9 ≤ 4000 := Tm8.1 9
    have q11_10 : 0 ≤ m8.1 10 ∧ m8.1 10 ≤ 8 := Tm8.1 10
    have q11_28 : 0 ≤ m8.1 28 ∧ m8.1 28 ≤ 800 := Tm8.1 28
    have q11_69 : 0 ≤ m8.1 69 ∧ m8.1 69 ≤ 1024 := Tm8.1 69
    have q11_70 : 0 ≤ m8.1 70 ∧ m8.1 70 ≤ 4000 := Tm8.1 70
    have q11_71 : 0 ≤ m8.1 71 ∧ m8.1 71 ≤ 1 := Tm8.1 71
    have q11_72 : (-9223372036854775808) ≤ m8.1 72 ∧ m8.1 72 ≤ 9223372036854775807 := Tm8.1 72
    have q11_73 : 0 ≤ m8.1 73 ∧ m8.1 73 ≤ 60 := Tm8.1 73
    have q11_74 : 0 ≤ m8.1 74 ∧ m8.1 74 ≤ 24 := Tm8.1 74
    have q11_75 : 0 ≤ m8.1 75 ∧ m8.1 75 ≤ 3 := Tm8.1 75
    refine T_ret rfl (fun _ => rfl) ?_
    exact ⟨(mO m8 [] []), Tm8, (fr_m (fr_s Fm8 (fr_m fr_0 rfl rfl) rfl rfl) rfl rfl), (show (m8.1 10) = 0 → (m.1 10) = 0 by omega), (show LxP (m8.1 7) (m8.1 8) (m8.1 9) (m.1 6) (m8.1 10) by first | (first | exact hLx | exact (fun _ => hLx (by omega)) | (intro h9; exfalso; omega)) | (exfalso; omega)), (fun (h : (m8.1 10) = 0) => absurd h (by omega)), rfl⟩
  have J144_14 : ∀ (m13 : mR), Ty m13 → fr [7, 8, 9, 10, 11, 12, 73, 74, 75] [76, 77, 78, 79, 80, 87, 88, 90, 92] (mO m [] []) m13 → (1 ≤ (m13.1 10)) → TT w D pm_263 (144, [(0, .ref 189), (1, .int (i32 k))], [], (mhp (mO m13 [] []) c, N), 0, 0) (Q_endOr m c N k B) := by
    intro m13 Tm13 Fm13 ic15
    have q16_7 : 0 ≤ m13.1 7 ∧ m13.1 7 ≤ 330 := Tm13.1 7
    have q16_8 : 0 ≤ m13.1 8 ∧ m13.1 8 ≤ 4000 := Tm13.1 8
    have q16_9 : 0 ≤ m13.1 9 ∧ m13.1 9 ≤ 4000 := Tm13.1 9
    have q16_10 : 0 ≤ m13.1 10 ∧ m13.1 10 ≤ 8 := Tm13.1 10
    have q16_73 : 0 ≤ m13.1 73 ∧ m13.1 73 ≤ 60 := Tm13.1 73
    have q16_74 : 0 ≤ m13.1 74 ∧ m13.1 74 ≤ 24 := Tm13.1 74
    have q16_75 : 0 ≤ m13.1 75 ∧ m13.1 75 ≤ 3 := Tm13.1 75
    refine T_goto 151 rfl (fun _ => rfl) ?_
    refine T_ret rfl (fun _ => rfl) ?_
    exact ⟨(mO m13 [] []), Tm13, (fr_m (fr_s Fm13 (fr_m fr_0 rfl rfl) rfl rfl) rfl rfl), (show (m13.1 10) = 0 → (m.1 10) = 0 by omega), (show LxP (m13.1 7) (m13.1 8) (m13.1 9) (m.1 6) (m13.1 10) by first | (first | exact hLx | exact (fun _ => hLx (by omega)) | (intro h9; exfalso; omega)) | (exfalso; omega)), (fun (h : (m13.1 10) = 0) => absurd h (by omega)), rfl⟩
  refine T_gf 4 (.ref 241) rfl rfl rfl rfl rfl rfl ?_
  refine T_ld 5 (.int (i32 k)) rfl (fun _ => rfl) ?_
  refine T_iald 6 79 (m.2 79) rfl rfl rfl (by omega) (show k < (60 : Int) by omega) rfl ?_
  have e18 : 0 ≤ (m.2 79) k ∧ (m.2 79) k ≤ 2 := (hT.2.1 79) k
  refine T_if 77 9 rfl rfl rfl (r32 (by omega) (by omega)) (fun (h19 : (m.2 79) k ≠ 0) => ?_) (fun (h19 : ¬ ((m.2 79) k ≠ 0)) => ?_)
  · skip
    refine T_gf 81 (.ref 241) rfl rfl rfl rfl rfl rfl ?_
    refine T_ld 82 (.int (i32 k)) rfl (fun _ => rfl) ?_
    refine T_iald 83 79 (m.2 79) rfl rfl rfl (by omega) (show k < (60 : Int) by omega) rfl ?_
    have e20 : 0 ≤ (m.2 79) k ∧ (m.2 79) k ≤ 2 := (hT.2.1 79) k
    refine T_ld 84 (.int (i32 1)) rfl (fun _ => rfl) ?_
    refine T_icmp 147 87 rfl rfl rfl (r32 (by omega) (by omega)) ⟨by decide, by decide⟩ (fun (h21 : (m.2 79) k ≠ 1) => ?_) (fun (h21 : ¬ ((m.2 79) k ≠ 1)) => ?_)
    · skip
      refine T_ld 148 (.ref 189) rfl (fun _ => rfl) ?_
      refine T_call 151 264 [.ref 189] [] rfl (fun _ => rfl) rfl (c_endChoice w (mO m [] []) c N D (by omega) hT B (show LxP (m.1 7) (m.1 8) (m.1 9) (m.1 6) (m.1 10) by first | exact hLx | exact (fun _ => hLx (by omega)) | (intro h9; exfalso; omega)) (show (m.1 10) = 0 by omega) ⟨(show XS (m.2 65) (m.2 67) (m.2 76) (m.2 78) (m.2 79) (m.2 80) B (m.1 28) (m.1 73) (m.1 74) 1 by first | exact hXS | assumption), (show 1 ≤ (m.1 73) by omega), (show (m.2 76) ((m.1 73) - 1) = 0 by first | assumption | omega), (show (m.1 69) ≤ 64 by omega)⟩) (fun rr22 k23 => ?_)
      obtain ⟨m24, Tm24, Fm24, h25, h26, c27, rfl⟩ := k23
      refine ⟨_, _, rfl, ?_⟩
      refine T_nb (st' := []) rfl ?_
      have g28 : 0 ≤ m24.1 7 ∧ m24.1 7 ≤ 330 := Tm24.1 7
      have g29 : 0 ≤ m24.1 8 ∧ m24.1 8 ≤ 4000 := Tm24.1 8
      have g30 : 0 ≤ m24.1 9 ∧ m24.1 9 ≤ 4000 := Tm24.1 9
      have g31 : 0 ≤ m24.1 10 ∧ m24.1 10 ≤ 8 := Tm24.1 10
      have g32 : 0 ≤ m24.1 28 ∧ m24.1 28 ≤ 800 := Tm24.1 28
      have g33 : 0 ≤ m24.1 69 ∧ m24.1 69 ≤ 1024 := Tm24.1 69
      have g34 : 0 ≤ m24.1 70 ∧ m24.1 70 ≤ 4000 := Tm24.1 70
      have g35 : 0 ≤ m24.1 71 ∧ m24.1 71 ≤ 1 := Tm24.1 71
      have g36 : (-9223372036854775808) ≤ m24.1 72 ∧ m24.1 72 ≤ 9223372036854775807 := Tm24.1 72
      have g37 : 0 ≤ m24.1 73 ∧ m24.1 73 ≤ 60 := Tm24.1 73
      have g38 : 0 ≤ m24.1 74 ∧ m24.1 74 ≤ 24 := Tm24.1 74
      have g39 : 0 ≤ m24.1 75 ∧ m24.1 75 ≤ 3 := Tm24.1 75
      by_cases hf40 : (m24.1 10) = 0
      · skip
        replace h25 : (m.1 10) = 0 := h25 hf40
        replace h26 : LxP (m24.1 7) (m24.1 8) (m24.1 9) (m.1 6) (m24.1 10) := h26
        have hLx := h26
        obtain ⟨c41, c42, c43, c44, c45, c46⟩ := c27 hf40
        replace c41 : GP (m.1 8) (m24.1 8) (m24.1 75) (m24.1 73) (m.1 73) := c41
        have hGP := c41
        replace c42 : GU (m24.1 75) (m24.1 69) := c42
        have hGU := c42
        replace c43 : GH (m24.1 75) (m24.1 73) := c43
        have hGH := c43
        replace c44 : (m.1 28) ≤ (m24.1 28) := c44
        replace c45 : XS (m24.2 65) (m24.2 67) (m.2 76) (m.2 78) (m.2 79) (m.2 80) B (m24.1 28) (m24.1 73) (m24.1 74) (um (m24.1 75)) := c45
        have hXE := c45
        replace c46 : agr (m.2 65) (m24.2 65) (m.1 28) := c46
        have hAg := c46
        clear c27
        have hAgC : agr (m.2 65) (m24.2 65) (m.1 28) := by first | exact agr_r _ _ | exact hAgC | exact agr_t hAgC hAg (by omega)
        refine T_ret rfl (fun _ => rfl) ?_
        exact ⟨(mO m24 [] []), Tm24, (fr_m (fr_s Fm24 (fr_m fr_0 rfl rfl) rfl rfl) rfl rfl), (show (m24.1 10) = 0 → (m.1 10) = 0 by omega), (show LxP (m24.1 7) (m24.1 8) (m24.1 9) (m.1 6) (m24.1 10) by first | (first | exact hLx | exact (fun _ => hLx (by omega)) | (intro h9; exfalso; omega)) | (exfalso; omega)), (fun _ => ⟨(show GP (m.1 8) (m24.1 8) (m24.1 75) (m24.1 73) (m.1 73) by first | (first | assumption | (unfold GP; omega)) | (exfalso; omega)), (show GU (m24.1 75) (m24.1 69) by first | (first | assumption | (unfold GU; omega)) | (exfalso; omega)), (show GH (m24.1 75) (m24.1 73) by first | (first | assumption | (unfold GH; omega)) | (exfalso; omega)), (show (m.1 28) ≤ (m24.1 28) by omega), (show XS (m24.2 65) (m24.2 67) (m24.2 76) (m24.2 78) (m24.2 79) (m24.2 80) B (m24.1 28) (m24.1 73) (m24.1 74) (um (m24.1 75)) by rewrite [(show (m24.2 76) = (m.2 76) from (fr2 Fm24 76 rfl)), (show (m24.2 78) = (m.2 78) from (fr2 Fm24 78 rfl)), (show (m24.2 79) = (m.2 79) from (fr2 Fm24 79 rfl)), (show (m24.2 80) = (m.2 80) from (fr2 Fm24 80 rfl))]; first | (exact hXE) | (exfalso; omega)), (show agr (m.2 65) (m24.2 65) (m.1 28) by first | (exact hAgC) | (exfalso; omega))⟩), rfl⟩
      · skip
        clear c27
        clear h25
        replace h26 : LxP (m24.1 7) (m24.1 8) (m24.1 9) (m.1 6) (m24.1 10) := h26
        have hLx := h26
        have hf47 : 1 ≤ (m24.1 10) := by omega
        exact J151_9 (mO m24 [] []) Tm24 (fr_m (fr_s Fm24 (fr_m fr_0 rfl rfl) rfl rfl) rfl rfl) (show 1 ≤ (m24.1 10) by omega)
    · skip
      refine T_gf 91 (.ref 249) rfl rfl rfl rfl rfl rfl ?_
      refine T_ld 92 (.int (i32 k)) rfl (fun _ => rfl) ?_
      refine T_gf 96 (.int (i32 (m.1 69))) rfl rfl rfl rfl rfl rfl ?_
      have G48 : ∀ j, 0 ≤ (upI (m.2 87) k (m.1 69)) j ∧ (upI (m.2 87) k (m.1 69)) j ≤ 64 := upI_rg (hT.2.1 87) ⟨by omega, by omega⟩
      refine T_iast (a' := [(87, upI (m.2 87) k (m.1 69))]) 97 87 (m.2 87) rfl rfl rfl (by omega) (show k < (60 : Int) by omega) rfl rfl ?_
      refine T_gf 101 (.ref 250) rfl rfl rfl rfl rfl rfl ?_
      refine T_ld 102 (.int (i32 k)) rfl (fun _ => rfl) ?_
      refine T_gf 106 (.int (i32 (m.1 70))) rfl rfl rfl rfl rfl rfl ?_
      have G49 : ∀ j, 0 ≤ (upI (m.2 88) k (m.1 70)) j ∧ (upI (m.2 88) k (m.1 70)) j ≤ 4000 := upI_rg (hT.2.1 88) ⟨by omega, by omega⟩
      refine T_iast (a' := [(87, upI (m.2 87) k (m.1 69)), (88, upI (m.2 88) k (m.1 70))]) 107 88 (m.2 88) rfl rfl rfl (by omega) (show k < (60 : Int) by omega) rfl rfl ?_
      refine T_gf 111 (.ref 252) rfl rfl rfl rfl rfl rfl ?_
      refine T_ld 112 (.int (i32 k)) rfl (fun _ => rfl) ?_
      refine T_gf 116 (.int (i32 (m.1 71))) rfl rfl rfl rfl rfl rfl ?_
      have G50 : ∀ j, 0 ≤ (upI (m.2 90) k (m.1 71)) j ∧ (upI (m.2 90) k (m.1 71)) j ≤ 1 := upI_rg (hT.2.1 90) ⟨by omega, by omega⟩
      refine T_bast (a' := [(87, upI (m.2 87) k (m.1 69)), (88, upI (m.2 88) k (m.1 70)), (90, upI (m.2 90) k (m.1 71))]) 117 90 (m.2 90) rfl rfl rfl (by omega) (show k < (60 : Int) by omega) (by omega) rfl rfl ?_
      refine T_gf 121 (.ref 254) rfl rfl rfl rfl rfl rfl ?_
      refine T_ld 122 (.int (i32 k)) rfl (fun _ => rfl) ?_
      refine T_gf 126 (.long (i64 (m.1 72))) rfl rfl rfl rfl rfl rfl ?_
      have G51 : ∀ j, (-9223372036854775808) ≤ (upI (m.2 92) k (m.1 72)) j ∧ (upI (m.2 92) k (m.1 72)) j ≤ 9223372036854775807 := upI_rg (hT.2.1 92) ⟨by omega, by omega⟩
      refine T_last (a' := [(87, upI (m.2 87) k (m.1 69)), (88, upI (m.2 88) k (m.1 70)), (90, upI (m.2 90) k (m.1 71)), (92, upI (m.2 92) k (m.1 72))]) 127 92 (m.2 92) rfl rfl rfl (by omega) (show k < (60 : Int) by omega) rfl rfl ?_
      refine T_gf 131 (.ref 241) rfl rfl rfl rfl rfl rfl ?_
      refine T_ld 132 (.int (i32 k)) rfl (fun _ => rfl) ?_
      refine T_ld 133 (.int (i32 2)) rfl (fun _ => rfl) ?_
      have G52 : ∀ j, 0 ≤ (upI (m.2 79) k 2) j ∧ (upI (m.2 79) k 2) j ≤ 2 := upI_rg (hT.2.1 79) ⟨by omega, by omega⟩
      refine T_iast (a' := [(79, upI (m.2 79) k 2), (87, upI (m.2 87) k (m.1 69)), (88, upI (m.2 88) k (m.1 70)), (90, upI (m.2 90) k (m.1 71)), (92, upI (m.2 92) k (m.1 72))]) 134 79 (m.2 79) rfl rfl rfl (by omega) (show k < (60 : Int) by omega) rfl rfl ?_
      have hXT : XT (m.2 65) (m.2 67) (m.2 76) (m.2 78) (upI (m.2 79) k 2) (m.2 80) B (m.1 28) (m.1 73) (m.1 74) 0 := XT_st (x := 2) (U' := 0) hk hXS.1 (by omega) (by omega)
      refine T_ld 135 (.ref 189) rfl (fun _ => rfl) ?_
      refine T_ld 137 (.int (i32 58)) rfl (fun _ => rfl) ?_
      refine T_call 140 232 [.ref 189, .int (i32 58)] [] rfl (fun _ => rfl) rfl (d_need w (mO m [] [(79, upI (m.2 79) k 2), (87, upI (m.2 87) k (m.1 69)), (88, upI (m.2 88) k (m.1 70)), (90, upI (m.2 90) k (m.1 71)), (92, upI (m.2 92) k (m.1 72))]) c N D (by omega) (Ty_mO hT rfl rfl trivial ⟨G52, G48, G49, G50, G51, trivial⟩) 58 ⟨by decide, by decide⟩ (show 1 ≤ (58 : Int) by omega) (show LxP (m.1 7) (m.1 8) (m.1 9) (m.1 6) (m.1 10) by first | exact hLx | (intro h9; exfalso; omega) | (intro h9; have h8 := hLx (by omega); omega))) (fun rr53 k54 => ?_)
      obtain ⟨m55, Tm55, Fm55, h56, h57, h58, h59, rfl⟩ := k54
      refine ⟨_, _, rfl, ?_⟩
      refine T_nb (st' := []) rfl ?_
      have g60 : 0 ≤ m55.1 7 ∧ m55.1 7 ≤ 330 := Tm55.1 7
      have g61 : 0 ≤ m55.1 8 ∧ m55.1 8 ≤ 4000 := Tm55.1 8
      have g62 : 0 ≤ m55.1 9 ∧ m55.1 9 ≤ 4000 := Tm55.1 9
      have g63 : 0 ≤ m55.1 10 ∧ m55.1 10 ≤ 8 := Tm55.1 10
      by_cases hf64 : (m55.1 10) = 0
      · skip
        replace h56 : LxP (m55.1 7) (m55.1 8) (m55.1 9) (m.1 6) (m55.1 10) := h56
        have hLx := h56
        replace h57 : (m.1 10) = 0 ∧ (m.1 7) = (58 : Int) := h57 hf64
        replace h58 : (m.1 8) ≤ (m55.1 8) := h58
        replace h59 : (m.1 8) + (m.1 9) ≤ (m55.1 8) := h59 hf64
        have hAgC : agr (m.2 65) (m.2 65) (m.1 28) := by first | exact agr_r _ _ | exact hAgC | exact agr_t hAgC hAg (by omega)
        have hTop : (m.1 73) = 0 ∨ (m.2 76) ((m.1 73) - 1) = 2 ∨ ((m.2 76) ((m.1 73) - 1) = 0 ∧ (upI (m.2 79) k 2) ((m.1 73) - 1) = 2) := Or.inr (Or.inr ⟨hok2, by rw [← hk, upI_s]⟩)
        refine T_ld 141 (.ref 189) rfl (fun _ => rfl) ?_
        refine T_call 144 245 [.ref 189] [] rfl (fun _ => rfl) rfl (c_beginChoice w (mO m55 [] []) c N D (by omega) Tm55 B 0 (fun _ => ⟨(show XT (m55.2 65) (m55.2 67) (m55.2 76) (m55.2 78) (m55.2 79) (m55.2 80) B (m55.1 28) (m55.1 73) (m55.1 74) 0 by rewrite [(show (m55.2 65) = (m.2 65) from (fr2 Fm55 65 rfl)), (show (m55.2 67) = (m.2 67) from (fr2 Fm55 67 rfl)), (show (m55.2 76) = (m.2 76) from (fr2 Fm55 76 rfl)), (show (m55.2 78) = (m.2 78) from (fr2 Fm55 78 rfl)), (show (m55.2 79) = (upI (m.2 79) k 2) from (fr2 Fm55 79 rfl)), (show (m55.2 80) = (m.2 80) from (fr2 Fm55 80 rfl)), (show (m55.1 28) = (m.1 28) from (fr1 Fm55 28 rfl)), (show (m55.1 73) = (m.1 73) from (fr1 Fm55 73 rfl)), (show (m55.1 74) = (m.1 74) from (fr1 Fm55 74 rfl))]; first | exact hXT | exact hXS.1), (show (m55.1 73) = 0 ∨ (m55.2 76) ((m55.1 73) - 1) = 2 ∨ ((m55.2 76) ((m55.1 73) - 1) = 0 ∧ (m55.2 79) ((m55.1 73) - 1) = 2) by rewrite [(show (m55.1 73) = (m.1 73) from (fr1 Fm55 73 rfl)), (show (m55.2 76) = (m.2 76) from (fr2 Fm55 76 rfl)), (show (m55.2 79) = (upI (m.2 79) k 2) from (fr2 Fm55 79 rfl))]; first | exact hTop | omega)⟩)) (fun rr65 k66 => ?_)
        obtain ⟨m67, Tm67, Fm67, h68, c69, rfl⟩ := k66
        refine ⟨_, _, rfl, ?_⟩
        refine T_nb (st' := []) rfl ?_
        have g70 : 0 ≤ m67.1 10 ∧ m67.1 10 ≤ 8 := Tm67.1 10
        have g71 : 0 ≤ m67.1 73 ∧ m67.1 73 ≤ 60 := Tm67.1 73
        have g72 : 0 ≤ m67.1 74 ∧ m67.1 74 ≤ 24 := Tm67.1 74
        have g73 : 0 ≤ m67.1 75 ∧ m67.1 75 ≤ 3 := Tm67.1 75
        by_cases hf74 : (m67.1 10) = 0
        · skip
          replace h68 : (m55.1 10) = 0 := h68 hf74
          obtain ⟨c75, c76, c77⟩ := c69 hf74
          replace c75 : XS (m55.2 65) (m55.2 67) (m67.2 76) (m67.2 78) (m67.2 79) (m67.2 80) B (m55.1 28) (m67.1 73) (m67.1 74) 0 := c75
          rewrite [(show (m55.2 65) = (m.2 65) from (fr2 Fm55 65 rfl)), (show (m55.2 67) = (m.2 67) from (fr2 Fm55 67 rfl)), (show (m55.1 28) = (m.1 28) from (fr1 Fm55 28 rfl))] at c75
          have hXS := c75
          replace c76 : (m67.1 73) = (m55.1 73) + 1 := c76
          rewrite [(show (m55.1 73) = (m.1 73) from (fr1 Fm55 73 rfl))] at c76
          replace c77 : (m67.1 75) = 0 := c77
          clear c69
          have hAgC : agr (m.2 65) (m.2 65) (m.1 28) := by first | exact agr_r _ _ | exact hAgC | exact agr_t hAgC hAg (by omega)
          clear g63 h56 h68
          have hXE : XS (m.2 65) (m.2 67) (m67.2 76) (m67.2 78) (m67.2 79) (m67.2 80) B (m.1 28) (m67.1 73) (m67.1 74) (um (m67.1 75)) := by
            rw [show um (m67.1 75) = 0 from if_pos (by omega)]
            exact hXS
          refine T_goto 151 rfl (fun _ => rfl) ?_
          refine T_ret rfl (fun _ => rfl) ?_
          exact ⟨(mO m67 [] []), Tm67, (fr_m (fr_s Fm67 (fr_m (fr_s Fm55 (fr_m fr_0 rfl rfl) rfl rfl) rfl rfl) rfl rfl) rfl rfl), (show (m67.1 10) = 0 → (m.1 10) = 0 by omega), (show LxP (m67.1 7) (m67.1 8) (m67.1 9) (m.1 6) (m67.1 10) by rewrite [(show (m67.1 7) = (m55.1 7) from (fr1 Fm67 7 rfl)), (show (m67.1 8) = (m55.1 8) from (fr1 Fm67 8 rfl)), (show (m67.1 9) = (m55.1 9) from (fr1 Fm67 9 rfl))]; first | (first | exact hLx | exact (fun _ => hLx (by omega)) | (intro h9; exfalso; omega)) | (exfalso; omega)), (fun _ => ⟨(show GP (m.1 8) (m67.1 8) (m67.1 75) (m67.1 73) (m.1 73) by rewrite [(show (m67.1 8) = (m55.1 8) from (fr1 Fm67 8 rfl))]; first | (first | assumption | (unfold GP; omega)) | (exfalso; omega)), (show GU (m67.1 75) (m67.1 69) by rewrite [(show (m67.1 69) = (m.1 69) from ((fr1 Fm67 69 rfl).trans (fr1 Fm55 69 rfl)))]; first | (first | assumption | (unfold GU; omega)) | (exfalso; omega)), (show GH (m67.1 75) (m67.1 73) by first | (first | assumption | (unfold GH; omega)) | (exfalso; omega)), (show (m.1 28) ≤ (m67.1 28) by rewrite [(show (m67.1 28) = (m.1 28) from ((fr1 Fm67 28 rfl).trans (fr1 Fm55 28 rfl)))]; omega), (show XS (m67.2 65) (m67.2 67) (m67.2 76) (m67.2 78) (m67.2 79) (m67.2 80) B (m67.1 28) (m67.1 73) (m67.1 74) (um (m67.1 75)) by rewrite [(show (m67.2 65) = (m.2 65) from ((fr2 Fm67 65 rfl).trans (fr2 Fm55 65 rfl))), (show (m67.2 67) = (m.2 67) from ((fr2 Fm67 67 rfl).trans (fr2 Fm55 67 rfl))), (show (m67.1 28) = (m.1 28) from ((fr1 Fm67 28 rfl).trans (fr1 Fm55 28 rfl)))]; first | (exact hXE) | (exfalso; omega)), (show agr (m.2 65) (m67.2 65) (m.1 28) by rewrite [(show (m67.2 65) = (m.2 65) from ((fr2 Fm67 65 rfl).trans (fr2 Fm55 65 rfl)))]; first | (exact hAgC) | (exfalso; omega))⟩), rfl⟩
        · skip
          clear c69
          clear h68
          have hf78 : 1 ≤ (m67.1 10) := by omega
          clear g63 h56
          exact J144_14 (mO m67 [] []) Tm67 (fr_m (fr_s Fm67 (fr_m (fr_s Fm55 (fr_m fr_0 rfl rfl) rfl rfl) rfl rfl) rfl rfl) rfl rfl) (show 1 ≤ (m67.1 10) by omega)
      · skip
        replace h56 : LxP (m55.1 7) (m55.1 8) (m55.1 9) (m.1 6) (m55.1 10) := h56
        have hLx := h56
        clear h57
        replace h58 : (m.1 8) ≤ (m55.1 8) := h58
        clear h59
        have hf79 : 1 ≤ (m55.1 10) := by omega
        refine T_ld 141 (.ref 189) rfl (fun _ => rfl) ?_
        refine T_call 144 245 [.ref 189] [] rfl (fun _ => rfl) rfl (c_beginChoice w (mO m55 [] []) c N D (by omega) Tm55 B 0 (fun (h : (m55.1 10) = 0) => absurd h (by omega))) (fun rr80 k81 => ?_)
        obtain ⟨m82, Tm82, Fm82, h83, c84, rfl⟩ := k81
        refine ⟨_, _, rfl, ?_⟩
        refine T_nb (st' := []) rfl ?_
        have g85 : 0 ≤ m82.1 10 ∧ m82.1 10 ≤ 8 := Tm82.1 10
        have g86 : 0 ≤ m82.1 73 ∧ m82.1 73 ≤ 60 := Tm82.1 73
        have g87 : 0 ≤ m82.1 74 ∧ m82.1 74 ≤ 24 := Tm82.1 74
        have g88 : 0 ≤ m82.1 75 ∧ m82.1 75 ≤ 3 := Tm82.1 75
        replace h83 : (m82.1 10) = 0 → (m55.1 10) = 0 := h83
        have hf89 : 1 ≤ (m82.1 10) := by omega
        clear c84
        clear h83
        clear g63 h56 hf79
        exact J144_14 (mO m82 [] []) Tm82 (fr_m (fr_s Fm82 (fr_m (fr_s Fm55 (fr_m fr_0 rfl rfl) rfl rfl) rfl rfl) rfl rfl) rfl rfl) (show 1 ≤ (m82.1 10) by omega)
  · skip
    refine T_gf 13 (.int (i32 (m.1 7))) rfl rfl rfl rfl rfl rfl ?_
    refine T_ld 15 (.int (i32 63)) rfl (fun _ => rfl) ?_
    refine T_icmp 77 18 rfl rfl rfl (r32 (by omega) (by omega)) ⟨by decide, by decide⟩ (fun (h90 : (m.1 7) ≠ 63) => ?_) (fun (h90 : ¬ ((m.1 7) ≠ 63)) => ?_)
    · skip
      refine T_gf 81 (.ref 241) rfl rfl rfl rfl rfl rfl ?_
      refine T_ld 82 (.int (i32 k)) rfl (fun _ => rfl) ?_
      refine T_iald 83 79 (m.2 79) rfl rfl rfl (by omega) (show k < (60 : Int) by omega) rfl ?_
      have e91 : 0 ≤ (m.2 79) k ∧ (m.2 79) k ≤ 2 := (hT.2.1 79) k
      refine T_ld 84 (.int (i32 1)) rfl (fun _ => rfl) ?_
      refine T_icmp 147 87 rfl rfl rfl (r32 (by omega) (by omega)) ⟨by decide, by decide⟩ (fun (h92 : (m.2 79) k ≠ 1) => ?_) (fun (h92 : ¬ ((m.2 79) k ≠ 1)) => by exfalso; omega)
      refine T_ld 148 (.ref 189) rfl (fun _ => rfl) ?_
      refine T_call 151 264 [.ref 189] [] rfl (fun _ => rfl) rfl (c_endChoice w (mO m [] []) c N D (by omega) hT B (show LxP (m.1 7) (m.1 8) (m.1 9) (m.1 6) (m.1 10) by first | exact hLx | exact (fun _ => hLx (by omega)) | (intro h9; exfalso; omega)) (show (m.1 10) = 0 by omega) ⟨(show XS (m.2 65) (m.2 67) (m.2 76) (m.2 78) (m.2 79) (m.2 80) B (m.1 28) (m.1 73) (m.1 74) 1 by first | exact hXS | assumption), (show 1 ≤ (m.1 73) by omega), (show (m.2 76) ((m.1 73) - 1) = 0 by first | assumption | omega), (show (m.1 69) ≤ 64 by omega)⟩) (fun rr93 k94 => ?_)
      obtain ⟨m95, Tm95, Fm95, h96, h97, c98, rfl⟩ := k94
      refine ⟨_, _, rfl, ?_⟩
      refine T_nb (st' := []) rfl ?_
      have g99 : 0 ≤ m95.1 7 ∧ m95.1 7 ≤ 330 := Tm95.1 7
      have g100 : 0 ≤ m95.1 8 ∧ m95.1 8 ≤ 4000 := Tm95.1 8
      have g101 : 0 ≤ m95.1 9 ∧ m95.1 9 ≤ 4000 := Tm95.1 9
      have g102 : 0 ≤ m95.1 10 ∧ m95.1 10 ≤ 8 := Tm95.1 10
      have g103 : 0 ≤ m95.1 28 ∧ m95.1 28 ≤ 800 := Tm95.1 28
      have g104 : 0 ≤ m95.1 69 ∧ m95.1 69 ≤ 1024 := Tm95.1 69
      have g105 : 0 ≤ m95.1 70 ∧ m95.1 70 ≤ 4000 := Tm95.1 70
      have g106 : 0 ≤ m95.1 71 ∧ m95.1 71 ≤ 1 := Tm95.1 71
      have g107 : (-9223372036854775808) ≤ m95.1 72 ∧ m95.1 72 ≤ 9223372036854775807 := Tm95.1 72
      have g108 : 0 ≤ m95.1 73 ∧ m95.1 73 ≤ 60 := Tm95.1 73
      have g109 : 0 ≤ m95.1 74 ∧ m95.1 74 ≤ 24 := Tm95.1 74
      have g110 : 0 ≤ m95.1 75 ∧ m95.1 75 ≤ 3 := Tm95.1 75
      by_cases hf111 : (m95.1 10) = 0
      · skip
        replace h96 : (m.1 10) = 0 := h96 hf111
        replace h97 : LxP (m95.1 7) (m95.1 8) (m95.1 9) (m.1 6) (m95.1 10) := h97
        have hLx := h97
        obtain ⟨c112, c113, c114, c115, c116, c117⟩ := c98 hf111
        replace c112 : GP (m.1 8) (m95.1 8) (m95.1 75) (m95.1 73) (m.1 73) := c112
        have hGP := c112
        replace c113 : GU (m95.1 75) (m95.1 69) := c113
        have hGU := c113
        replace c114 : GH (m95.1 75) (m95.1 73) := c114
        have hGH := c114
        replace c115 : (m.1 28) ≤ (m95.1 28) := c115
        replace c116 : XS (m95.2 65) (m95.2 67) (m.2 76) (m.2 78) (m.2 79) (m.2 80) B (m95.1 28) (m95.1 73) (m95.1 74) (um (m95.1 75)) := c116
        have hXE := c116
        replace c117 : agr (m.2 65) (m95.2 65) (m.1 28) := c117
        have hAg := c117
        clear c98
        have hAgC : agr (m.2 65) (m95.2 65) (m.1 28) := by first | exact agr_r _ _ | exact hAgC | exact agr_t hAgC hAg (by omega)
        refine T_ret rfl (fun _ => rfl) ?_
        exact ⟨(mO m95 [] []), Tm95, (fr_m (fr_s Fm95 (fr_m fr_0 rfl rfl) rfl rfl) rfl rfl), (show (m95.1 10) = 0 → (m.1 10) = 0 by omega), (show LxP (m95.1 7) (m95.1 8) (m95.1 9) (m.1 6) (m95.1 10) by first | (first | exact hLx | exact (fun _ => hLx (by omega)) | (intro h9; exfalso; omega)) | (exfalso; omega)), (fun _ => ⟨(show GP (m.1 8) (m95.1 8) (m95.1 75) (m95.1 73) (m.1 73) by first | (first | assumption | (unfold GP; omega)) | (exfalso; omega)), (show GU (m95.1 75) (m95.1 69) by first | (first | assumption | (unfold GU; omega)) | (exfalso; omega)), (show GH (m95.1 75) (m95.1 73) by first | (first | assumption | (unfold GH; omega)) | (exfalso; omega)), (show (m.1 28) ≤ (m95.1 28) by omega), (show XS (m95.2 65) (m95.2 67) (m95.2 76) (m95.2 78) (m95.2 79) (m95.2 80) B (m95.1 28) (m95.1 73) (m95.1 74) (um (m95.1 75)) by rewrite [(show (m95.2 76) = (m.2 76) from (fr2 Fm95 76 rfl)), (show (m95.2 78) = (m.2 78) from (fr2 Fm95 78 rfl)), (show (m95.2 79) = (m.2 79) from (fr2 Fm95 79 rfl)), (show (m95.2 80) = (m.2 80) from (fr2 Fm95 80 rfl))]; first | (exact hXE) | (exfalso; omega)), (show agr (m.2 65) (m95.2 65) (m.1 28) by first | (exact hAgC) | (exfalso; omega))⟩), rfl⟩
      · skip
        clear c98
        clear h96
        replace h97 : LxP (m95.1 7) (m95.1 8) (m95.1 9) (m.1 6) (m95.1 10) := h97
        have hLx := h97
        have hf118 : 1 ≤ (m95.1 10) := by omega
        exact J151_9 (mO m95 [] []) Tm95 (fr_m (fr_s Fm95 (fr_m fr_0 rfl rfl) rfl rfl) rfl rfl) (show 1 ≤ (m95.1 10) by omega)
    · skip
      refine T_gf 22 (.ref 247) rfl rfl rfl rfl rfl rfl ?_
      refine T_ld 23 (.int (i32 k)) rfl (fun _ => rfl) ?_
      refine T_gf 27 (.int (i32 (m.1 69))) rfl rfl rfl rfl rfl rfl ?_
      have G119 : ∀ j, 0 ≤ (upI (m.2 85) k (m.1 69)) j ∧ (upI (m.2 85) k (m.1 69)) j ≤ 64 := upI_rg (hT.2.1 85) ⟨by omega, by omega⟩
      refine T_iast (a' := [(85, upI (m.2 85) k (m.1 69))]) 28 85 (m.2 85) rfl rfl rfl (by omega) (show k < (60 : Int) by omega) rfl rfl ?_
      refine T_gf 32 (.ref 248) rfl rfl rfl rfl rfl rfl ?_
      refine T_ld 33 (.int (i32 k)) rfl (fun _ => rfl) ?_
      refine T_gf 37 (.int (i32 (m.1 70))) rfl rfl rfl rfl rfl rfl ?_
      have G120 : ∀ j, 0 ≤ (upI (m.2 86) k (m.1 70)) j ∧ (upI (m.2 86) k (m.1 70)) j ≤ 4000 := upI_rg (hT.2.1 86) ⟨by omega, by omega⟩
      refine T_iast (a' := [(85, upI (m.2 85) k (m.1 69)), (86, upI (m.2 86) k (m.1 70))]) 38 86 (m.2 86) rfl rfl rfl (by omega) (show k < (60 : Int) by omega) rfl rfl ?_
      refine T_gf 42 (.ref 251) rfl rfl rfl rfl rfl rfl ?_
      refine T_ld 43 (.int (i32 k)) rfl (fun _ => rfl) ?_
      refine T_gf 47 (.int (i32 (m.1 71))) rfl rfl rfl rfl rfl rfl ?_
      have G121 : ∀ j, 0 ≤ (upI (m.2 89) k (m.1 71)) j ∧ (upI (m.2 89) k (m.1 71)) j ≤ 1 := upI_rg (hT.2.1 89) ⟨by omega, by omega⟩
      refine T_bast (a' := [(85, upI (m.2 85) k (m.1 69)), (86, upI (m.2 86) k (m.1 70)), (89, upI (m.2 89) k (m.1 71))]) 48 89 (m.2 89) rfl rfl rfl (by omega) (show k < (60 : Int) by omega) (by omega) rfl rfl ?_
      refine T_gf 52 (.ref 253) rfl rfl rfl rfl rfl rfl ?_
      refine T_ld 53 (.int (i32 k)) rfl (fun _ => rfl) ?_
      refine T_gf 57 (.long (i64 (m.1 72))) rfl rfl rfl rfl rfl rfl ?_
      have G122 : ∀ j, (-9223372036854775808) ≤ (upI (m.2 91) k (m.1 72)) j ∧ (upI (m.2 91) k (m.1 72)) j ≤ 9223372036854775807 := upI_rg (hT.2.1 91) ⟨by omega, by omega⟩
      refine T_last (a' := [(85, upI (m.2 85) k (m.1 69)), (86, upI (m.2 86) k (m.1 70)), (89, upI (m.2 89) k (m.1 71)), (91, upI (m.2 91) k (m.1 72))]) 58 91 (m.2 91) rfl rfl rfl (by omega) (show k < (60 : Int) by omega) rfl rfl ?_
      refine T_gf 62 (.ref 241) rfl rfl rfl rfl rfl rfl ?_
      refine T_ld 63 (.int (i32 k)) rfl (fun _ => rfl) ?_
      refine T_ld 64 (.int (i32 1)) rfl (fun _ => rfl) ?_
      have G123 : ∀ j, 0 ≤ (upI (m.2 79) k 1) j ∧ (upI (m.2 79) k 1) j ≤ 2 := upI_rg (hT.2.1 79) ⟨by omega, by omega⟩
      refine T_iast (a' := [(79, upI (m.2 79) k 1), (85, upI (m.2 85) k (m.1 69)), (86, upI (m.2 86) k (m.1 70)), (89, upI (m.2 89) k (m.1 71)), (91, upI (m.2 91) k (m.1 72))]) 65 79 (m.2 79) rfl rfl rfl (by omega) (show k < (60 : Int) by omega) rfl rfl ?_
      have hXT : XT (m.2 65) (m.2 67) (m.2 76) (m.2 78) (upI (m.2 79) k 1) (m.2 80) B (m.1 28) (m.1 73) (m.1 74) 0 := XT_st (x := 1) (U' := 0) hk hXS.1 (by omega) (by omega)
      refine T_ld 66 (.ref 189) rfl (fun _ => rfl) ?_
      refine T_call 69 212 [.ref 189] [] rfl (fun _ => rfl) rfl (d_next w (mO m [] [(79, upI (m.2 79) k 1), (85, upI (m.2 85) k (m.1 69)), (86, upI (m.2 86) k (m.1 70)), (89, upI (m.2 89) k (m.1 71)), (91, upI (m.2 91) k (m.1 72))]) c N D (by omega) (Ty_mO hT rfl rfl trivial ⟨G123, G119, G120, G121, G122, trivial⟩) (show (m.1 10) = 0 → (m.1 8) + (m.1 9) ≤ (m.1 6) by first | omega | (intro h9; have h8 := hLx h9; omega))) (fun rr124 k125 => ?_)
      obtain ⟨m126, Tm126, Fm126, h127, h128, h129, h130, rfl⟩ := k125
      refine ⟨_, _, rfl, ?_⟩
      refine T_nb (st' := []) rfl ?_
      have g131 : 0 ≤ m126.1 7 ∧ m126.1 7 ≤ 330 := Tm126.1 7
      have g132 : 0 ≤ m126.1 8 ∧ m126.1 8 ≤ 4000 := Tm126.1 8
      have g133 : 0 ≤ m126.1 9 ∧ m126.1 9 ≤ 4000 := Tm126.1 9
      have g134 : 0 ≤ m126.1 10 ∧ m126.1 10 ≤ 8 := Tm126.1 10
      by_cases hf135 : (m126.1 10) = 0
      · skip
        replace h127 : LxP (m126.1 7) (m126.1 8) (m126.1 9) (m.1 6) (m126.1 10) := h127
        have hLx := h127
        replace h128 : (m.1 10) = 0 := h128 hf135
        replace h129 : (m.1 8) ≤ (m126.1 8) := h129
        replace h130 : (m.1 8) + (m.1 9) ≤ (m126.1 8) := h130 hf135
        have hAgC : agr (m.2 65) (m.2 65) (m.1 28) := by first | exact agr_r _ _ | exact hAgC | exact agr_t hAgC hAg (by omega)
        refine T_ld 70 (.ref 189) rfl (fun _ => rfl) ?_
        refine T_ld 71 (.int (i32 0)) rfl (fun _ => rfl) ?_
        refine T_pf (l' := [(75, 0)]) 74 0 rfl rfl rfl rfl rfl rfl ?_
        have hXE : XS (m.2 65) (m.2 67) (m.2 76) (m.2 78) (upI (m.2 79) k 1) (m.2 80) B (m.1 28) (m.1 73) (m.1 74) (um (0 : Int)) := by
          rw [show um (0 : Int) = 0 from if_pos (by omega)]
          exact ⟨hXT, hXS.2⟩
        refine T_goto 151 rfl (fun _ => rfl) ?_
        refine T_ret rfl (fun _ => rfl) ?_
        exact ⟨(mO m126 [(75, 0)] []), (Ty_mO Tm126 rfl rfl ⟨⟨(by omega : (0 : Int) ≤ 0), (by omega : (0 : Int) ≤ 3)⟩, trivial⟩ trivial), (fr_m (fr_s Fm126 (fr_m fr_0 rfl rfl) rfl rfl) rfl rfl), (show (m126.1 10) = 0 → (m.1 10) = 0 by omega), (show LxP (m126.1 7) (m126.1 8) (m126.1 9) (m.1 6) (m126.1 10) by first | (first | exact hLx | exact (fun _ => hLx (by omega)) | (intro h9; exfalso; omega)) | (exfalso; omega)), (fun _ => ⟨(show GP (m.1 8) (m126.1 8) (0 : Int) (m126.1 73) (m.1 73) by rewrite [(show (m126.1 73) = (m.1 73) from (fr1 Fm126 73 rfl))]; first | (first | assumption | (unfold GP; omega)) | (exfalso; omega)), (show GU (0 : Int) (m126.1 69) by rewrite [(show (m126.1 69) = (m.1 69) from (fr1 Fm126 69 rfl))]; first | (first | assumption | (unfold GU; omega)) | (exfalso; omega)), (show GH (0 : Int) (m126.1 73) by rewrite [(show (m126.1 73) = (m.1 73) from (fr1 Fm126 73 rfl))]; first | (first | assumption | (unfold GH; omega)) | (exfalso; omega)), (show (m.1 28) ≤ (m126.1 28) by rewrite [(show (m126.1 28) = (m.1 28) from (fr1 Fm126 28 rfl))]; omega), (show XS (m126.2 65) (m126.2 67) (m126.2 76) (m126.2 78) (m126.2 79) (m126.2 80) B (m126.1 28) (m126.1 73) (m126.1 74) (um (0 : Int)) by rewrite [(show (m126.2 65) = (m.2 65) from (fr2 Fm126 65 rfl)), (show (m126.2 67) = (m.2 67) from (fr2 Fm126 67 rfl)), (show (m126.2 76) = (m.2 76) from (fr2 Fm126 76 rfl)), (show (m126.2 78) = (m.2 78) from (fr2 Fm126 78 rfl)), (show (m126.2 79) = (upI (m.2 79) k 1) from (fr2 Fm126 79 rfl)), (show (m126.2 80) = (m.2 80) from (fr2 Fm126 80 rfl)), (show (m126.1 28) = (m.1 28) from (fr1 Fm126 28 rfl)), (show (m126.1 73) = (m.1 73) from (fr1 Fm126 73 rfl)), (show (m126.1 74) = (m.1 74) from (fr1 Fm126 74 rfl))]; first | (exact hXE) | (exfalso; omega)), (show agr (m.2 65) (m126.2 65) (m.1 28) by rewrite [(show (m126.2 65) = (m.2 65) from (fr2 Fm126 65 rfl))]; first | (exact hAgC) | (exfalso; omega))⟩), rfl⟩
      · skip
        replace h127 : LxP (m126.1 7) (m126.1 8) (m126.1 9) (m.1 6) (m126.1 10) := h127
        have hLx := h127
        clear h128
        replace h129 : (m.1 8) ≤ (m126.1 8) := h129
        clear h130
        have hf136 : 1 ≤ (m126.1 10) := by omega
        refine T_ld 70 (.ref 189) rfl (fun _ => rfl) ?_
        refine T_ld 71 (.int (i32 0)) rfl (fun _ => rfl) ?_
        refine T_pf (l' := [(75, 0)]) 74 0 rfl rfl rfl rfl rfl rfl ?_
        refine T_goto 151 rfl (fun _ => rfl) ?_
        refine T_ret rfl (fun _ => rfl) ?_
        exact ⟨(mO m126 [(75, 0)] []), (Ty_mO Tm126 rfl rfl ⟨⟨(by omega : (0 : Int) ≤ 0), (by omega : (0 : Int) ≤ 3)⟩, trivial⟩ trivial), (fr_m (fr_s Fm126 (fr_m fr_0 rfl rfl) rfl rfl) rfl rfl), (show (m126.1 10) = 0 → (m.1 10) = 0 by omega), (show LxP (m126.1 7) (m126.1 8) (m126.1 9) (m.1 6) (m126.1 10) by first | (first | exact hLx | exact (fun _ => hLx (by omega)) | (intro h9; exfalso; omega)) | (exfalso; omega)), (fun (h : (m126.1 10) = 0) => absurd h (by omega)), rfl⟩
