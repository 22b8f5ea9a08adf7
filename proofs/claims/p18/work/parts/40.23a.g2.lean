def Q_takeFieldOf (m : mR) (c : Nat → Option am_C) (N : Nat) (h : Int) : ag_Re af_T → Prop := fun R => ∃ (y7 : Int) (y8 : Int) (y9 : Int) (y10 : Int) (y11 : Int) (y12 : Int) (F29 : Int → Int) (F30 : Int → Int) (F31 : Int → Int) (F32 : Int → Int) (F33 : Int → Int), (0 ≤ y7 ∧ y7 ≤ 330) ∧ (0 ≤ y8 ∧ y8 ≤ 4000) ∧ (0 ≤ y9 ∧ y9 ≤ 4000) ∧ (0 ≤ y10 ∧ y10 ≤ 8) ∧ ((-1) ≤ y11 ∧ y11 ≤ 4000) ∧ ((-9223372036854775808) ≤ y12 ∧ y12 ≤ 9223372036854775807) ∧ (∀ j, 0 ≤ F29 j ∧ F29 j ≤ 16) ∧ (∀ j, 0 ≤ F30 j ∧ F30 j ≤ 1024) ∧ (∀ j, 0 ≤ F31 j ∧ F31 j ≤ 4000) ∧ (∀ j, 0 ≤ F32 j ∧ F32 j ≤ 4000) ∧ (∀ j, 0 ≤ F33 j ∧ F33 j ≤ 64) ∧ (LxP y7 y8 y9 (m.1 6) y10) ∧ ((m.1 8) ≤ y8) ∧ (y10 = 0 → (m.1 10) = 0 ∧ (m.1 8) + (m.1 9) ≤ y8) ∧ (HBi F29 F30 F33) ∧ (∀ k, F31 k + F32 k ≤ 4000) ∧ (∀ g, g ≠ h → F30 g = (m.2 30) g) ∧ (y10 = 0 → (m.1 10) = 0 ∧ (m.1 8) + 1 ≤ y8) ∧ R = (.inl (none), (mhp (mO m [(7, y7), (8, y8), (9, y9), (10, y10), (11, y11), (12, y12)] [(29, F29), (30, F30), (31, F31), (32, F32), (33, F33)]) c, N), 0, 0)
set_option maxHeartbeats 8000000 in
theorem c_takeFieldOf (w : wX) (m : mR) (c : Nat → Option am_C) (N D : Nat) (hD : 7 ≤ D) (hT : Ty m) (h : Int) (qh : R32 h) (hLx0 : LxP (m.1 7) (m.1 8) (m.1 9) (m.1 6) (m.1 10)) (p1 : 0 ≤ h ∧ h ≤ 11) (p2 : HBi (m.2 29) (m.2 30) (m.2 33)) (p3 : ∀ k, (m.2 31) k + (m.2 32) k ≤ 4000) : TC w D 233 [.ref 189, .int (i32 h)] (mhp m c, N) (Q_takeFieldOf m c N h) := by
  obtain ⟨D, rfl⟩ : ∃ k, D = k + 1 := ⟨D - 1, by omega⟩
  obtain ⟨qha, qhb⟩ := id qh
  have hLx := hLx0
  have f7 : 0 ≤ m.1 7 ∧ m.1 7 ≤ 330 := hT.1 7
  have f8 : 0 ≤ m.1 8 ∧ m.1 8 ≤ 4000 := hT.1 8
  have f9 : 0 ≤ m.1 9 ∧ m.1 9 ≤ 4000 := hT.1 9
  have f10 : 0 ≤ m.1 10 ∧ m.1 10 ≤ 8 := hT.1 10
  have f11 : (-1) ≤ m.1 11 ∧ m.1 11 ≤ 4000 := hT.1 11
  have f12 : (-9223372036854775808) ≤ m.1 12 ∧ m.1 12 ≤ 9223372036854775807 := hT.1 12
  have f6 : 0 ≤ m.1 6 ∧ m.1 6 ≤ 4000 := hT.1 6
  refine Tc_of rfl ?_
  show TT w D pm_233 (0, [(0, .ref 189), (1, .int (i32 h))], [], (mhp m c, N), 0, 0) (Q_takeFieldOf m c N h)
  rw [show (mhp m c, N) = (mhp (mO m [(7, (m.1 7)), (8, (m.1 8)), (9, (m.1 9)), (10, (m.1 10)), (11, (m.1 11)), (12, (m.1 12))] [(29, (m.2 29)), (30, (m.2 30)), (31, (m.2 31)), (32, (m.2 32)), (33, (m.2 33))]) c, N) from congrArg (fun M => (mhp M c, N)) (mO_pad m [7, 8, 9, 10, 11, 12] [29, 30, 31, 32, 33])]
  have hT4 : ∀ j, 0 ≤ m.2 29 j ∧ m.2 29 j ≤ 16 := hT.2.1 29
  refine T_gf 4 (.int (i32 (m.1 10))) rfl rfl rfl rfl rfl rfl ?_
  refine T_if 8 7 rfl rfl rfl (r32 (by omega) (by omega)) (fun (h1 : (m.1 10) ≤ 0) => ?_) (fun (h1 : ¬ ((m.1 10) ≤ 0)) => ?_)
  · skip
    refine T_ld 10 (.int (i32 16)) rfl (fun _ => rfl) ?_
    refine T_ld 11 (.int (i32 h)) rfl (fun _ => rfl) ?_
    refine T_imul 12 rfl rfl ?_
    refine T_gf 16 (.ref 199) rfl rfl rfl rfl rfl rfl ?_
    refine T_ld 17 (.int (i32 h)) rfl (fun _ => rfl) ?_
    refine T_iald 18 29 (m.2 29) rfl rfl rfl (by omega) (show h < (12 : Int) by omega) rfl ?_
    have e2 : 0 ≤ (m.2 29) h ∧ (m.2 29) h ≤ 16 := (hT.2.1 29) h
    refine T_iadd 19 rfl rfl ?_
    refine T_sto 20 [(2, .int (i32 ((16 * h) + ((m.2 29) h)))), (0, .ref 189), (1, .int (i32 h))] rfl (fun _ => rfl) ?_
    have J55 : ∀ (y3 : Int) (y4 : Int), (0 ≤ y3 ∧ y3 ≤ 8) → ((-1) ≤ y4 ∧ y4 ≤ 4000) → (y3 = 0 → ((m.1 7) = 1 ∧ (m.2 29) h < 16)) → TT w D pm_233 (55, [(0, .ref 189), (1, .int (i32 h)), (2, .int (i32 ((16 * h) + ((m.2 29) h))))], [], (mhp (mO m [(7, (m.1 7)), (8, (m.1 8)), (9, (m.1 9)), (10, y3), (11, y4), (12, (m.1 12))] [(29, (m.2 29)), (30, (m.2 30)), (31, (m.2 31)), (32, (m.2 32)), (33, (m.2 33))]) c, N), 0, 0) (Q_takeFieldOf m c N h) := by
      intro y3 y4 q5 q6 i7
      refine T_ld 57 (.int (i32 16)) rfl (fun _ => rfl) ?_
      refine T_ld 58 (.int (i32 h)) rfl (fun _ => rfl) ?_
      refine T_imul 59 rfl rfl ?_
      refine T_sto 60 [(3, .int (i32 (16 * h))), (0, .ref 189), (1, .int (i32 h)), (2, .int (i32 ((16 * h) + ((m.2 29) h))))] rfl (fun _ => rfl) ?_
      have L60 : ∀ (n : Nat) (v8 : Int) (y9 : Int) (y10 : Int), (R32 v8) → (0 ≤ y9 ∧ y9 ≤ 8) → ((-1) ≤ y10 ∧ y10 ≤ 4000) → (16 * h ≤ v8 ∧ v8 ≤ ((16 * h) + ((m.2 29) h))) → (y9 = 0 → ((m.1 7) = 1 ∧ (m.2 29) h < 16)) → ((m.1 7) = (m.1 7) ∧ (m.1 8) = (m.1 8) ∧ (m.1 9) = (m.1 9)) → ((16 * h) + ((m.2 29) h)) - v8 < (n : Int) → TT w D pm_233 (60, [(0, .ref 189), (1, .int (i32 h)), (2, .int (i32 ((16 * h) + ((m.2 29) h)))), (3, .int (i32 v8))], [], (mhp (mO m [(7, (m.1 7)), (8, (m.1 8)), (9, (m.1 9)), (10, y9), (11, y10), (12, (m.1 12))] [(29, (m.2 29)), (30, (m.2 30)), (31, (m.2 31)), (32, (m.2 32)), (33, (m.2 33))]) c, N), 0, 0) (Q_takeFieldOf m c N h) := by
        intro n
        induction n with
        | zero =>
          intro v8 y9 y10 q11 q12 q13 i14 i15 i16 hmu
          obtain ⟨q11a, q11b⟩ := id q11
          exfalso
          omega
        | succ n ih =>
          intro v8 y9 y10 q11 q12 q13 i14 i15 i16 hmu
          obtain ⟨q11a, q11b⟩ := id q11
          have ih17 := ih
          refine T_ld 61 (.int (i32 v8)) rfl (fun _ => rfl) ?_
          refine T_ld 62 (.int (i32 ((16 * h) + ((m.2 29) h)))) rfl (fun _ => rfl) ?_
          refine T_icmp 106 65 rfl rfl rfl (r32 (by omega) (by omega)) (r32 (by omega) (by omega)) (fun (h18 : (16 * h) + ((m.2 29) h) ≤ v8) => ?_) (fun (h18 : ¬ ((16 * h) + ((m.2 29) h) ≤ v8)) => ?_)
          · skip
            refine T_gf 110 (.int (i32 y9)) rfl rfl rfl rfl rfl rfl ?_
            refine T_if 114 113 rfl rfl rfl (r32 (by omega) (by omega)) (fun (h19 : y9 ≤ 0) => ?_) (fun (h19 : ¬ (y9 ≤ 0)) => ?_)
            · skip
              have hhf : (m.2 29) h < 16 := by omega
              have h7 := hLx0 (by omega)
              have hhw : (m.1 8) + (m.1 9) ≤ (m.1 6) ∧ (m.1 6) ≤ 4000 := by omega
              have hbb := HBi_le p2 hT4 (hT.2.1 33) (show 0 ≤ h by omega) (by omega)
              refine T_gf 118 (.ref 201) rfl rfl rfl rfl rfl rfl ?_
              refine T_ld 119 (.int (i32 ((16 * h) + ((m.2 29) h)))) rfl (fun _ => rfl) ?_
              refine T_gf 123 (.int (i32 (m.1 8))) rfl rfl rfl rfl rfl rfl ?_
              have G20 : ∀ j, 0 ≤ (upI (m.2 31) ((16 * h) + ((m.2 29) h)) (m.1 8)) j ∧ (upI (m.2 31) ((16 * h) + ((m.2 29) h)) (m.1 8)) j ≤ 4000 := upI_rg (hT.2.1 31) ⟨by omega, by omega⟩
              refine T_iast (a' := [(29, (m.2 29)), (30, (m.2 30)), (31, upI (m.2 31) ((16 * h) + ((m.2 29) h)) (m.1 8)), (32, (m.2 32)), (33, (m.2 33))]) 124 31 (m.2 31) rfl rfl rfl (by omega) (show ((16 * h) + ((m.2 29) h)) < (192 : Int) by omega) rfl rfl ?_
              refine T_gf 128 (.ref 202) rfl rfl rfl rfl rfl rfl ?_
              refine T_ld 129 (.int (i32 ((16 * h) + ((m.2 29) h)))) rfl (fun _ => rfl) ?_
              refine T_gf 133 (.int (i32 (m.1 9))) rfl rfl rfl rfl rfl rfl ?_
              have G21 : ∀ j, 0 ≤ (upI (m.2 32) ((16 * h) + ((m.2 29) h)) (m.1 9)) j ∧ (upI (m.2 32) ((16 * h) + ((m.2 29) h)) (m.1 9)) j ≤ 4000 := upI_rg (hT.2.1 32) ⟨by omega, by omega⟩
              refine T_iast (a' := [(29, (m.2 29)), (30, (m.2 30)), (31, upI (m.2 31) ((16 * h) + ((m.2 29) h)) (m.1 8)), (32, upI (m.2 32) ((16 * h) + ((m.2 29) h)) (m.1 9)), (33, (m.2 33))]) 134 32 (m.2 32) rfl rfl rfl (by omega) (show ((16 * h) + ((m.2 29) h)) < (192 : Int) by omega) rfl rfl ?_
              refine T_ld 135 (.ref 189) rfl (fun _ => rfl) ?_
              refine T_call 138 212 [.ref 189] [] rfl (fun _ => rfl) rfl (c_next w (mO m [(7, (m.1 7)), (8, (m.1 8)), (9, (m.1 9)), (10, y9), (11, y10), (12, (m.1 12))] [(29, (m.2 29)), (30, (m.2 30)), (31, upI (m.2 31) ((16 * h) + ((m.2 29) h)) (m.1 8)), (32, upI (m.2 32) ((16 * h) + ((m.2 29) h)) (m.1 9)), (33, (m.2 33))]) c N D (by omega) (Ty_mO hT rfl rfl ⟨f7, f8, f9, q12, q13, f12, trivial⟩ ⟨(hT.2.1 29), (hT.2.1 30), G20, G21, (hT.2.1 33), trivial⟩) (show y9 = 0 → (m.1 8) + (m.1 9) ≤ (m.1 6) by first | omega | (intro h9; have h8 := hLx h9; omega))) (fun r22 k23 => ?_)
              obtain ⟨y24, y26, y28, y30, y32, y34, g25, g27, g29, g31, g33, g35, h36, h37, h38, h39, rfl⟩ := k23
              replace h36 : LxP y24 y26 y28 (m.1 6) y30 := h36
              replace h37 : y30 = 0 → y9 = 0 := h37
              replace h38 : (m.1 8) ≤ y26 := h38
              replace h39 : y30 = 0 → (m.1 8) + (m.1 9) ≤ y26 := h39
              have hLx := h36
              refine ⟨_, _, rfl, ?_⟩
              refine T_nf (st' := []) (l' := [(7, y24), (8, y26), (9, y28), (10, y30), (11, y32), (12, y34)]) (a' := [(29, (m.2 29)), (30, (m.2 30)), (31, upI (m.2 31) ((16 * h) + ((m.2 29) h)) (m.1 8)), (32, upI (m.2 32) ((16 * h) + ((m.2 29) h)) (m.1 9)), (33, (m.2 33))]) rfl rfl rfl rfl rfl ?_
              have u40 : (m.1 8) ≤ y26 := by omega
              have u41 : y30 = 0 → (m.1 10) = 0 := by omega
              have u42 : y30 = 0 → (m.1 8) + (m.1 9) ≤ y26 := by omega
              clear q5 q6 i7 q12 q13 i15 h19
              refine T_ld 139 (.ref 189) rfl (fun _ => rfl) ?_
              refine T_ld 141 (.int (i32 58)) rfl (fun _ => rfl) ?_
              refine T_call 144 232 [.ref 189, .int (i32 58)] [] rfl (fun _ => rfl) rfl (c_need w (mO m [(7, y24), (8, y26), (9, y28), (10, y30), (11, y32), (12, y34)] [(29, (m.2 29)), (30, (m.2 30)), (31, upI (m.2 31) ((16 * h) + ((m.2 29) h)) (m.1 8)), (32, upI (m.2 32) ((16 * h) + ((m.2 29) h)) (m.1 9)), (33, (m.2 33))]) c N D (by omega) (Ty_mO hT rfl rfl ⟨g25, g27, g29, g31, g33, g35, trivial⟩ ⟨(hT.2.1 29), (hT.2.1 30), G20, G21, (hT.2.1 33), trivial⟩) 58 ⟨by decide, by decide⟩ (show 1 ≤ 58 by omega) (show LxP y24 y26 y28 (m.1 6) y30 by first | exact hLx | (intro h9; exfalso; omega) | (intro h9; have h8 := hLx (by omega); omega))) (fun r43 k44 => ?_)
              obtain ⟨y45, y47, y49, y51, y53, y55, g46, g48, g50, g52, g54, g56, h57, h58, h59, h60, rfl⟩ := k44
              replace h57 : LxP y45 y47 y49 (m.1 6) y51 := h57
              replace h58 : y51 = 0 → y30 = 0 ∧ y24 = 58 := h58
              replace h59 : y26 ≤ y47 := h59
              replace h60 : y51 = 0 → y26 + y28 ≤ y47 := h60
              have hLx := h57
              refine ⟨_, _, rfl, ?_⟩
              refine T_nf (st' := []) (l' := [(7, y45), (8, y47), (9, y49), (10, y51), (11, y53), (12, y55)]) (a' := [(29, (m.2 29)), (30, (m.2 30)), (31, upI (m.2 31) ((16 * h) + ((m.2 29) h)) (m.1 8)), (32, upI (m.2 32) ((16 * h) + ((m.2 29) h)) (m.1 9)), (33, (m.2 33))]) rfl rfl rfl rfl rfl ?_
              have u61 : (m.1 8) ≤ y47 := by omega
              have u62 : y51 = 0 → (m.1 10) = 0 := by omega
              have u63 : y51 = 0 → (m.1 8) + (m.1 9) ≤ y47 := by omega
              clear u40 u41 u42 h36 h37 h38 h39 g25 g27 g29 g31 g33 g35
              refine T_gf 148 (.ref 203) rfl rfl rfl rfl rfl rfl ?_
              refine T_ld 149 (.int (i32 ((16 * h) + ((m.2 29) h)))) rfl (fun _ => rfl) ?_
              refine T_ld 150 (.ref 189) rfl (fun _ => rfl) ?_
              refine T_ld 151 (.int (i32 1)) rfl (fun _ => rfl) ?_
              refine T_ld 153 (.int (i32 64)) rfl (fun _ => rfl) ?_
              refine T_call 156 234 [.ref 189, .int (i32 1), .int (i32 64)] [.int (i32 ((16 * h) + ((m.2 29) h))), .ref 203] rfl (fun _ => rfl) rfl (c_number w (mO m [(7, y45), (8, y47), (9, y49), (10, y51), (11, y53), (12, y55)] [(29, (m.2 29)), (30, (m.2 30)), (31, upI (m.2 31) ((16 * h) + ((m.2 29) h)) (m.1 8)), (32, upI (m.2 32) ((16 * h) + ((m.2 29) h)) (m.1 9)), (33, (m.2 33))]) c N D (by omega) (Ty_mO hT rfl rfl ⟨g46, g48, g50, g52, g54, g56, trivial⟩ ⟨(hT.2.1 29), (hT.2.1 30), G20, G21, (hT.2.1 33), trivial⟩) 1 64 ⟨by decide, by decide⟩ ⟨by decide, by decide⟩ (show LxP y45 y47 y49 (m.1 6) y51 by first | exact hLx | (intro h9; exfalso; omega) | (intro h9; have h8 := hLx (by omega); omega)) (show 1 ≤ 64 by omega)) (fun r64 k65 => ?_)
              obtain ⟨y66, y68, y70, y72, y74, y76, nu, g67, g69, g71, g73, g75, g77, g78, h79, h80, h81, h82, h83, h84, rfl⟩ := k65
              replace h79 : LxP y66 y68 y70 (m.1 6) y72 := h79
              replace h80 : y47 ≤ y68 := h80
              replace h81 : y72 = 0 → y51 = 0 ∧ y47 + y49 ≤ y68 := h81
              replace h82 : y72 = 0 → y45 = 2 := h82
              replace h83 : 1 ≤ nu ∧ nu ≤ 64 := h83
              replace h84 : y72 = 0 → nu = y55 := h84
              have hLx := h79
              refine ⟨_, _, rfl, ?_⟩
              refine T_nf (st' := [.int (i32 nu), .int (i32 ((16 * h) + ((m.2 29) h))), .ref 203]) (l' := [(7, y66), (8, y68), (9, y70), (10, y72), (11, y74), (12, y76)]) (a' := [(29, (m.2 29)), (30, (m.2 30)), (31, upI (m.2 31) ((16 * h) + ((m.2 29) h)) (m.1 8)), (32, upI (m.2 32) ((16 * h) + ((m.2 29) h)) (m.1 9)), (33, (m.2 33))]) rfl rfl rfl rfl rfl ?_
              obtain ⟨g78a, g78b⟩ := g78
              have u85 : (m.1 8) ≤ y68 := by omega
              have u86 : y72 = 0 → (m.1 10) = 0 := by omega
              have u87 : y72 = 0 → (m.1 8) + (m.1 9) ≤ y68 := by omega
              clear u61 u62 u63 h57 h58 h59 h60 g46 g48 g50 g52 g54 g56
              have G88 : ∀ j, 0 ≤ (upI (m.2 33) ((16 * h) + ((m.2 29) h)) nu) j ∧ (upI (m.2 33) ((16 * h) + ((m.2 29) h)) nu) j ≤ 64 := upI_rg (hT.2.1 33) ⟨by omega, by omega⟩
              refine T_iast (a' := [(29, (m.2 29)), (30, (m.2 30)), (31, upI (m.2 31) ((16 * h) + ((m.2 29) h)) (m.1 8)), (32, upI (m.2 32) ((16 * h) + ((m.2 29) h)) (m.1 9)), (33, upI (m.2 33) ((16 * h) + ((m.2 29) h)) nu)]) 157 33 (m.2 33) rfl rfl rfl (by omega) (show ((16 * h) + ((m.2 29) h)) < (192 : Int) by omega) rfl rfl ?_
              refine T_ld 158 (.ref 189) rfl (fun _ => rfl) ?_
              refine T_ld 160 (.int (i32 59)) rfl (fun _ => rfl) ?_
              refine T_call 163 232 [.ref 189, .int (i32 59)] [] rfl (fun _ => rfl) rfl (c_need w (mO m [(7, y66), (8, y68), (9, y70), (10, y72), (11, y74), (12, y76)] [(29, (m.2 29)), (30, (m.2 30)), (31, upI (m.2 31) ((16 * h) + ((m.2 29) h)) (m.1 8)), (32, upI (m.2 32) ((16 * h) + ((m.2 29) h)) (m.1 9)), (33, upI (m.2 33) ((16 * h) + ((m.2 29) h)) nu)]) c N D (by omega) (Ty_mO hT rfl rfl ⟨g67, g69, g71, g73, g75, g77, trivial⟩ ⟨(hT.2.1 29), (hT.2.1 30), G20, G21, G88, trivial⟩) 59 ⟨by decide, by decide⟩ (show 1 ≤ 59 by omega) (show LxP y66 y68 y70 (m.1 6) y72 by first | exact hLx | (intro h9; exfalso; omega) | (intro h9; have h8 := hLx (by omega); omega))) (fun r89 k90 => ?_)
              obtain ⟨y91, y93, y95, y97, y99, y101, g92, g94, g96, g98, g100, g102, h103, h104, h105, h106, rfl⟩ := k90
              replace h103 : LxP y91 y93 y95 (m.1 6) y97 := h103
              replace h104 : y97 = 0 → y72 = 0 ∧ y66 = 59 := h104
              replace h105 : y68 ≤ y93 := h105
              replace h106 : y97 = 0 → y68 + y70 ≤ y93 := h106
              have hLx := h103
              refine ⟨_, _, rfl, ?_⟩
              refine T_nf (st' := []) (l' := [(7, y91), (8, y93), (9, y95), (10, y97), (11, y99), (12, y101)]) (a' := [(29, (m.2 29)), (30, (m.2 30)), (31, upI (m.2 31) ((16 * h) + ((m.2 29) h)) (m.1 8)), (32, upI (m.2 32) ((16 * h) + ((m.2 29) h)) (m.1 9)), (33, upI (m.2 33) ((16 * h) + ((m.2 29) h)) nu)]) rfl rfl rfl rfl rfl ?_
              have u107 : (m.1 8) ≤ y93 := by omega
              have u108 : y97 = 0 → (m.1 10) = 0 := by omega
              have u109 : y97 = 0 → (m.1 8) + (m.1 9) ≤ y93 := by omega
              clear u85 u86 u87 h79 h80 h81 h82 h84 g67 g69 g71 g73 g75 g77
              refine T_gf 167 (.ref 199) rfl rfl rfl rfl rfl rfl ?_
              refine T_ld 168 (.int (i32 h)) rfl (fun _ => rfl) ?_
              refine T_dup2 169 rfl (fun _ => rfl) ?_
              refine T_iald 170 29 (m.2 29) rfl rfl rfl (by omega) (show h < (12 : Int) by omega) rfl ?_
              have e110 : 0 ≤ (m.2 29) h ∧ (m.2 29) h ≤ 16 := (hT.2.1 29) h
              refine T_ld 171 (.int (i32 1)) rfl (fun _ => rfl) ?_
              refine T_iadd 172 rfl rfl ?_
              have G111 : ∀ j, 0 ≤ (upI (m.2 29) h (((m.2 29) h) + 1)) j ∧ (upI (m.2 29) h (((m.2 29) h) + 1)) j ≤ 16 := upI_rg (hT.2.1 29) ⟨by omega, by omega⟩
              refine T_iast (a' := [(29, upI (m.2 29) h (((m.2 29) h) + 1)), (30, (m.2 30)), (31, upI (m.2 31) ((16 * h) + ((m.2 29) h)) (m.1 8)), (32, upI (m.2 32) ((16 * h) + ((m.2 29) h)) (m.1 9)), (33, upI (m.2 33) ((16 * h) + ((m.2 29) h)) nu)]) 173 29 (m.2 29) rfl rfl rfl (by omega) (show h < (12 : Int) by omega) rfl rfl ?_
              refine T_gf 177 (.ref 200) rfl rfl rfl rfl rfl rfl ?_
              refine T_ld 178 (.int (i32 h)) rfl (fun _ => rfl) ?_
              refine T_dup2 179 rfl (fun _ => rfl) ?_
              refine T_iald 180 30 (m.2 30) rfl rfl rfl (by omega) (show h < (12 : Int) by omega) rfl ?_
              have e112 : 0 ≤ (m.2 30) h ∧ (m.2 30) h ≤ 1024 := (hT.2.1 30) h
              refine T_gf 184 (.ref 203) rfl rfl rfl rfl rfl rfl ?_
              refine T_ld 185 (.int (i32 ((16 * h) + ((m.2 29) h)))) rfl (fun _ => rfl) ?_
              refine T_iald 186 33 (upI (m.2 33) ((16 * h) + ((m.2 29) h)) nu) rfl rfl rfl (by omega) (show ((16 * h) + ((m.2 29) h)) < (192 : Int) by omega) rfl ?_
              refine T_cast nu upI_s ?_
              refine T_iadd 187 rfl rfl ?_
              have G113 : ∀ j, 0 ≤ (upI (m.2 30) h (((m.2 30) h) + nu)) j ∧ (upI (m.2 30) h (((m.2 30) h) + nu)) j ≤ 1024 := upI_rg (hT.2.1 30) ⟨by omega, by omega⟩
              refine T_iast (a' := [(29, upI (m.2 29) h (((m.2 29) h) + 1)), (30, upI (m.2 30) h (((m.2 30) h) + nu)), (31, upI (m.2 31) ((16 * h) + ((m.2 29) h)) (m.1 8)), (32, upI (m.2 32) ((16 * h) + ((m.2 29) h)) (m.1 9)), (33, upI (m.2 33) ((16 * h) + ((m.2 29) h)) nu)]) 188 30 (m.2 30) rfl rfl rfl (by omega) (show h < (12 : Int) by omega) rfl rfl ?_
              refine T_ret rfl (fun _ => rfl) ?_
              exact ⟨y91, y93, y95, y97, y99, y101, upI (m.2 29) h (((m.2 29) h) + 1), upI (m.2 30) h (((m.2 30) h) + nu), upI (m.2 31) ((16 * h) + ((m.2 29) h)) (m.1 8), upI (m.2 32) ((16 * h) + ((m.2 29) h)) (m.1 9), upI (m.2 33) ((16 * h) + ((m.2 29) h)) nu, g92, g94, g96, g98, g100, g102, G111, G113, G20, G21, G88, (by first | exact hLx | (intro h9; first | omega | (have h8 := hLx (by omega); omega))), (by omega), (by omega), (by first | exact p2 | exact HBi_put p2 hT4 (by omega) (by omega) (by omega)), (by first | exact p3 | (intro k; have := p3 k; unfold upI; split <;> omega)), (by first | exact fun g hg => rfl | exact fun g hg => upI_n hg), (by omega), rfl⟩
            · skip
              refine T_ret rfl (fun _ => rfl) ?_
              exact ⟨(m.1 7), (m.1 8), (m.1 9), y9, y10, (m.1 12), (m.2 29), (m.2 30), (m.2 31), (m.2 32), (m.2 33), f7, f8, f9, q12, q13, f12, (hT.2.1 29), (hT.2.1 30), (hT.2.1 31), (hT.2.1 32), (hT.2.1 33), (by first | exact hLx | (intro h9; first | omega | (have h8 := hLx (by omega); omega))), (by omega), (by omega), (by first | exact p2 | exact HBi_put p2 hT4 (by omega) (by omega) (by omega)), (by first | exact p3 | (intro k; have := p3 k; unfold upI; split <;> omega)), (by first | exact fun g hg => rfl | exact fun g hg => upI_n hg), (by omega), rfl⟩
          · skip
            refine T_gf 69 (.int (i32 y9)) rfl rfl rfl rfl rfl rfl ?_
            refine T_if 106 72 rfl rfl rfl (r32 (by omega) (by omega)) (fun (h114 : y9 ≠ 0) => ?_) (fun (h114 : ¬ (y9 ≠ 0)) => ?_)
            · skip
              refine T_gf 110 (.int (i32 y9)) rfl rfl rfl rfl rfl rfl ?_
              refine T_if 114 113 rfl rfl rfl (r32 (by omega) (by omega)) (fun (h115 : y9 ≤ 0) => by exfalso; omega) (fun (h115 : ¬ (y9 ≤ 0)) => ?_)
              refine T_ret rfl (fun _ => rfl) ?_
              exact ⟨(m.1 7), (m.1 8), (m.1 9), y9, y10, (m.1 12), (m.2 29), (m.2 30), (m.2 31), (m.2 32), (m.2 33), f7, f8, f9, q12, q13, f12, (hT.2.1 29), (hT.2.1 30), (hT.2.1 31), (hT.2.1 32), (hT.2.1 33), (by first | exact hLx | (intro h9; first | omega | (have h8 := hLx (by omega); omega))), (by omega), (by omega), (by first | exact p2 | exact HBi_put p2 hT4 (by omega) (by omega) (by omega)), (by first | exact p3 | (intro k; have := p3 k; unfold upI; split <;> omega)), (by first | exact fun g hg => rfl | exact fun g hg => upI_n hg), (by omega), rfl⟩
            · skip
              have hp3 := p3 v8
              refine T_ld 73 (.ref 189) rfl (fun _ => rfl) ?_
              refine T_gf 77 (.ref 201) rfl rfl rfl rfl rfl rfl ?_
              refine T_ld 78 (.int (i32 v8)) rfl (fun _ => rfl) ?_
              refine T_iald 79 31 (m.2 31) rfl rfl rfl (by omega) (show v8 < (192 : Int) by omega) rfl ?_
              have e116 : 0 ≤ (m.2 31) v8 ∧ (m.2 31) v8 ≤ 4000 := (hT.2.1 31) v8
              refine T_gf 83 (.ref 202) rfl rfl rfl rfl rfl rfl ?_
              refine T_ld 84 (.int (i32 v8)) rfl (fun _ => rfl) ?_
              refine T_iald 85 32 (m.2 32) rfl rfl rfl (by omega) (show v8 < (192 : Int) by omega) rfl ?_
              have e117 : 0 ≤ (m.2 32) v8 ∧ (m.2 32) v8 ≤ 4000 := (hT.2.1 32) v8
              refine T_call 88 230 [.ref 189, .int (i32 ((m.2 31) v8)), .int (i32 ((m.2 32) v8))] [] rfl (fun _ => rfl) rfl (c_isHere w (mO m [(7, (m.1 7)), (8, (m.1 8)), (9, (m.1 9)), (10, y9), (11, y10), (12, (m.1 12))] [(29, (m.2 29)), (30, (m.2 30)), (31, (m.2 31)), (32, (m.2 32)), (33, (m.2 33))]) c N D (by omega) (Ty_mO hT rfl rfl ⟨f7, f8, f9, q12, q13, f12, trivial⟩ ⟨(hT.2.1 29), (hT.2.1 30), (hT.2.1 31), (hT.2.1 32), (hT.2.1 33), trivial⟩) ((m.2 31) v8) ((m.2 32) v8) (r32 (by omega) (by omega)) (r32 (by omega) (by omega)) (show 0 ≤ ((m.2 31) v8) by omega) (show 0 ≤ ((m.2 32) v8) by omega) (show ((m.2 31) v8) + ((m.2 32) v8) ≤ 4000 by omega) (show 1 ≤ (m.1 9) ∧ (m.1 8) + (m.1 9) ≤ (m.1 6) by first | omega | (have h8 := hLx (by omega); omega))) (fun r118 k119 => ?_)
              obtain ⟨x120, g121, h122, rfl⟩ := k119
              replace h122 : (x120 = 1 ∧ sameN (m.2 4) (m.1 8) (m.1 9) ((m.2 31) v8) ((m.2 32) v8)) ∨ (x120 = 0 ∧ ¬ sameN (m.2 4) (m.1 8) (m.1 9) ((m.2 31) v8) ((m.2 32) v8)) := h122
              have hh := h122
              refine ⟨_, _, rfl, ?_⟩
              refine T_nf (st' := [.int (i32 x120)]) (l' := [(7, (m.1 7)), (8, (m.1 8)), (9, (m.1 9)), (10, y9), (11, y10), (12, (m.1 12))]) (a' := [(29, (m.2 29)), (30, (m.2 30)), (31, (m.2 31)), (32, (m.2 32)), (33, (m.2 33))]) rfl rfl rfl rfl rfl ?_
              obtain ⟨g121a, g121b⟩ := g121
              have u123 : (m.1 8) ≤ (m.1 8) := by omega
              have u124 : y9 = 0 → (m.1 10) = 0 := by omega
              clear q5 q6 i7
              refine T_if 100 91 rfl rfl rfl (r32 (by omega) (by omega)) (fun (h125 : x120 = 0) => ?_) (fun (h125 : ¬ (x120 = 0)) => ?_)
              · skip
                refine T_iinc 103 [(3, .int (i32 (v8 + 1))), (0, .ref 189), (1, .int (i32 h)), (2, .int (i32 ((16 * h) + ((m.2 29) h))))] rfl rfl (by decide) rfl rfl ?_
                refine T_goto 60 rfl (fun _ => rfl) ?_
                refine Tm_lv (a := [(0, .ref 189), (1, .int (i32 h)), (2, .int (i32 ((16 * h) + ((m.2 29) h)))), (3, .int (i32 (v8 + 1)))]) rfl rfl ⟨rfl, rfl, rfl, rfl, trivial⟩ ?_
                exact ih17 (v8 + 1) y9 y10 (r32 (by omega) (by omega)) q12 q13 (by omega) (by omega) (by omega) (by omega)
              · skip
                refine T_ld 92 (.ref 189) rfl (fun _ => rfl) ?_
                refine T_ld 93 (.int (i32 3)) rfl (fun _ => rfl) ?_
                refine T_gf 97 (.int (i32 (m.1 8))) rfl rfl rfl rfl rfl rfl ?_
                refine T_call 100 222 [.ref 189, .int (i32 3), .int (i32 (m.1 8))] [] rfl (fun _ => rfl) rfl (c_wrong w (mO m [(7, (m.1 7)), (8, (m.1 8)), (9, (m.1 9)), (10, y9), (11, y10), (12, (m.1 12))] [(29, (m.2 29)), (30, (m.2 30)), (31, (m.2 31)), (32, (m.2 32)), (33, (m.2 33))]) c N D (by omega) (Ty_mO hT rfl rfl ⟨f7, f8, f9, q12, q13, f12, trivial⟩ ⟨(hT.2.1 29), (hT.2.1 30), (hT.2.1 31), (hT.2.1 32), (hT.2.1 33), trivial⟩) 3 (m.1 8) ⟨by decide, by decide⟩ (r32 (by omega) (by omega)) (show 1 ≤ 3 ∧ 3 ≤ 8 by omega) (show 0 ≤ (m.1 8) ∧ (m.1 8) ≤ 4000 by omega)) (fun r126 k127 => ?_)
                obtain ⟨y128, y130, g129, g131, h132, rfl⟩ := k127
                replace h132 : (0 < y9 → y128 = y9 ∧ y130 = y10) ∧ (y9 ≤ 0 → y128 = 3 ∧ y130 = (m.1 8)) := h132
                refine ⟨_, _, rfl, ?_⟩
                refine T_nf (st' := []) (l' := [(7, (m.1 7)), (8, (m.1 8)), (9, (m.1 9)), (10, y128), (11, y130), (12, (m.1 12))]) (a' := [(29, (m.2 29)), (30, (m.2 30)), (31, (m.2 31)), (32, (m.2 32)), (33, (m.2 33))]) rfl rfl rfl rfl rfl ?_
                have u133 : 1 ≤ y128 ∧ y128 ≤ 8 := by omega
                have u134 : (m.1 8) ≤ (m.1 8) := by omega
                have u135 : y128 = 0 → (m.1 10) = 0 := by omega
                clear q12 q13 i15 h114 u124 h122 g121a g121b h125
                refine T_iinc 103 [(3, .int (i32 (v8 + 1))), (0, .ref 189), (1, .int (i32 h)), (2, .int (i32 ((16 * h) + ((m.2 29) h))))] rfl rfl (by decide) rfl rfl ?_
                refine T_goto 60 rfl (fun _ => rfl) ?_
                refine Tm_lv (a := [(0, .ref 189), (1, .int (i32 h)), (2, .int (i32 ((16 * h) + ((m.2 29) h)))), (3, .int (i32 (v8 + 1)))]) rfl rfl ⟨rfl, rfl, rfl, rfl, trivial⟩ ?_
                exact ih17 (v8 + 1) y128 y130 (r32 (by omega) (by omega)) g129 g131 (by omega) (by omega) (by omega) (by omega)
      refine Tm_lv (a := [(0, .ref 189), (1, .int (i32 h)), (2, .int (i32 ((16 * h) + ((m.2 29) h)))), (3, .int (i32 (16 * h)))]) rfl rfl ⟨rfl, rfl, rfl, rfl, trivial⟩ ?_
      exact L60 ((((16 * h) + ((m.2 29) h)) - (16 * h) : Int) + 1).toNat (16 * h) y3 y4 (r32 (by omega) (by omega)) q5 q6 (by omega) (by omega) (by omega) (by omega)
    refine T_gf 24 (.int (i32 (m.1 7))) rfl rfl rfl rfl rfl rfl ?_
    refine T_ld 25 (.int (i32 1)) rfl (fun _ => rfl) ?_
    refine T_icmp 35 28 rfl rfl rfl (r32 (by omega) (by omega)) ⟨by decide, by decide⟩ (fun (h136 : (m.1 7) = 1) => ?_) (fun (h136 : ¬ ((m.1 7) = 1)) => ?_)
    · skip
      refine T_gf 39 (.ref 199) rfl rfl rfl rfl rfl rfl ?_
      refine T_ld 40 (.int (i32 h)) rfl (fun _ => rfl) ?_
      refine T_iald 41 29 (m.2 29) rfl rfl rfl (by omega) (show h < (12 : Int) by omega) rfl ?_
      have e137 : 0 ≤ (m.2 29) h ∧ (m.2 29) h ≤ 16 := (hT.2.1 29) h
      refine T_ld 43 (.int (i32 16)) rfl (fun _ => rfl) ?_
      refine T_icmp 55 46 rfl rfl rfl (r32 (by omega) (by omega)) ⟨by decide, by decide⟩ (fun (h138 : (m.2 29) h ≠ 16) => ?_) (fun (h138 : ¬ ((m.2 29) h ≠ 16)) => ?_)
      · skip
        refine Tm_lv (a := [(0, .ref 189), (1, .int (i32 h)), (2, .int (i32 ((16 * h) + ((m.2 29) h))))]) rfl rfl ⟨rfl, rfl, rfl, trivial⟩ ?_
        exact J55 (m.1 10) (m.1 11) f10 f11 (by omega)
      · skip
        refine T_ld 47 (.ref 189) rfl (fun _ => rfl) ?_
        refine T_ld 48 (.int (i32 4)) rfl (fun _ => rfl) ?_
        refine T_gf 52 (.int (i32 (m.1 8))) rfl rfl rfl rfl rfl rfl ?_
        refine T_call 55 222 [.ref 189, .int (i32 4), .int (i32 (m.1 8))] [] rfl (fun _ => rfl) rfl (c_wrong w (mO m [(7, (m.1 7)), (8, (m.1 8)), (9, (m.1 9)), (10, (m.1 10)), (11, (m.1 11)), (12, (m.1 12))] [(29, (m.2 29)), (30, (m.2 30)), (31, (m.2 31)), (32, (m.2 32)), (33, (m.2 33))]) c N D (by omega) (Ty_mO hT rfl rfl ⟨f7, f8, f9, f10, f11, f12, trivial⟩ ⟨(hT.2.1 29), (hT.2.1 30), (hT.2.1 31), (hT.2.1 32), (hT.2.1 33), trivial⟩) 4 (m.1 8) ⟨by decide, by decide⟩ (r32 (by omega) (by omega)) (show 1 ≤ 4 ∧ 4 ≤ 8 by omega) (show 0 ≤ (m.1 8) ∧ (m.1 8) ≤ 4000 by omega)) (fun r139 k140 => ?_)
        obtain ⟨y141, y143, g142, g144, h145, rfl⟩ := k140
        replace h145 : (0 < (m.1 10) → y141 = (m.1 10) ∧ y143 = (m.1 11)) ∧ ((m.1 10) ≤ 0 → y141 = 4 ∧ y143 = (m.1 8)) := h145
        refine ⟨_, _, rfl, ?_⟩
        refine T_nf (st' := []) (l' := [(7, (m.1 7)), (8, (m.1 8)), (9, (m.1 9)), (10, y141), (11, y143), (12, (m.1 12))]) (a' := [(29, (m.2 29)), (30, (m.2 30)), (31, (m.2 31)), (32, (m.2 32)), (33, (m.2 33))]) rfl rfl rfl rfl rfl ?_
        have u146 : 1 ≤ y141 ∧ y141 ≤ 8 := by omega
        have u147 : (m.1 8) ≤ (m.1 8) := by omega
        have u148 : y141 = 0 → (m.1 10) = 0 := by omega
        refine Tm_lv (a := [(0, .ref 189), (1, .int (i32 h)), (2, .int (i32 ((16 * h) + ((m.2 29) h))))]) rfl rfl ⟨rfl, rfl, rfl, trivial⟩ ?_
        exact J55 y141 y143 g142 g144 (by omega)
    · skip
      refine T_ld 29 (.ref 189) rfl (fun _ => rfl) ?_
      refine T_call 32 226 [.ref 189] [] rfl (fun _ => rfl) rfl (c_bad w (mO m [(7, (m.1 7)), (8, (m.1 8)), (9, (m.1 9)), (10, (m.1 10)), (11, (m.1 11)), (12, (m.1 12))] [(29, (m.2 29)), (30, (m.2 30)), (31, (m.2 31)), (32, (m.2 32)), (33, (m.2 33))]) c N D (by omega) (Ty_mO hT rfl rfl ⟨f7, f8, f9, f10, f11, f12, trivial⟩ ⟨(hT.2.1 29), (hT.2.1 30), (hT.2.1 31), (hT.2.1 32), (hT.2.1 33), trivial⟩) ) (fun r149 k150 => ?_)
      obtain ⟨y151, y153, g152, g154, h155, rfl⟩ := k150
      replace h155 : (0 < (m.1 10) → y151 = (m.1 10) ∧ y153 = (m.1 11)) ∧ ((m.1 10) ≤ 0 → y151 = 1 ∧ y153 = (m.1 8)) := h155
      refine ⟨_, _, rfl, ?_⟩
      refine T_nf (st' := []) (l' := [(7, (m.1 7)), (8, (m.1 8)), (9, (m.1 9)), (10, y151), (11, y153), (12, (m.1 12))]) (a' := [(29, (m.2 29)), (30, (m.2 30)), (31, (m.2 31)), (32, (m.2 32)), (33, (m.2 33))]) rfl rfl rfl rfl rfl ?_
      have u156 : 1 ≤ y151 ∧ y151 ≤ 8 := by omega
      have u157 : (m.1 8) ≤ (m.1 8) := by omega
      have u158 : y151 = 0 → (m.1 10) = 0 := by omega
      refine T_goto 55 rfl (fun _ => rfl) ?_
      refine Tm_lv (a := [(0, .ref 189), (1, .int (i32 h)), (2, .int (i32 ((16 * h) + ((m.2 29) h))))]) rfl rfl ⟨rfl, rfl, rfl, trivial⟩ ?_
      exact J55 y151 y153 g152 g154 (by omega)
  · skip
    refine T_ret rfl (fun _ => rfl) ?_
    exact ⟨(m.1 7), (m.1 8), (m.1 9), (m.1 10), (m.1 11), (m.1 12), (m.2 29), (m.2 30), (m.2 31), (m.2 32), (m.2 33), f7, f8, f9, f10, f11, f12, (hT.2.1 29), (hT.2.1 30), (hT.2.1 31), (hT.2.1 32), (hT.2.1 33), (by first | exact hLx | (intro h9; first | omega | (have h8 := hLx (by omega); omega))), (by omega), (by omega), (by first | exact p2 | exact HBi_put p2 hT4 (by omega) (by omega) (by omega)), (by first | exact p3 | (intro k; have := p3 k; unfold upI; split <;> omega)), (by first | exact fun g hg => rfl | exact fun g hg => upI_n hg), (by omega), rfl⟩
def Q_takeMeta (m : mR) (c : Nat → Option am_C) (N : Nat) : ag_Re af_T → Prop := fun R => ∃ (y7 : Int) (y8 : Int) (y9 : Int) (y10 : Int) (y11 : Int) (y12 : Int) (y13 : Int) (y21 : Int) (F14 : Int → Int) (F15 : Int → Int) (F16 : Int → Int) (F17 : Int → Int) (F35 : Int → Int), (0 ≤ y7 ∧ y7 ≤ 330) ∧ (0 ≤ y8 ∧ y8 ≤ 4000) ∧ (0 ≤ y9 ∧ y9 ≤ 4000) ∧ (0 ≤ y10 ∧ y10 ≤ 8) ∧ ((-1) ≤ y11 ∧ y11 ≤ 4000) ∧ ((-9223372036854775808) ≤ y12 ∧ y12 ≤ 9223372036854775807) ∧ (0 ≤ y13 ∧ y13 ≤ 120) ∧ (0 ≤ y21 ∧ y21 ≤ 16) ∧ (∀ j, 0 ≤ F14 j ∧ F14 j ≤ 4000) ∧ (∀ j, 0 ≤ F15 j ∧ F15 j ≤ 4000) ∧ (∀ j, 0 ≤ F16 j ∧ F16 j ≤ 7) ∧ (∀ j, 0 ≤ F17 j ∧ F17 j ≤ 15) ∧ (∀ j, 0 ≤ F35 j ∧ F35 j ≤ 64) ∧ (LxP y7 y8 y9 (m.1 6) y10) ∧ ((m.1 8) ≤ y8) ∧ (y10 = 0 → (m.1 10) = 0 ∧ (m.1 8) + (m.1 9) ≤ y8) ∧ (∀ k, F14 k + F15 k ≤ 4000) ∧ (y10 = 0 → PN y13 (m.1 19) (m.1 20) y21 (m.1 22) (m.1 23) (m.1 25) (m.1 26) F16 F17) ∧ R = (.inl (none), (mhp (mO m [(7, y7), (8, y8), (9, y9), (10, y10), (11, y11), (12, y12), (13, y13), (21, y21)] [(14, F14), (15, F15), (16, F16), (17, F17), (35, F35)]) c, N), 0, 0)
set_option maxHeartbeats 8000000 in
theorem c_takeMeta (w : wX) (m : mR) (c : Nat → Option am_C) (N D : Nat) (hD : 7 ≤ D) (hT : Ty m) (hLx0 : LxP (m.1 7) (m.1 8) (m.1 9) (m.1 6) (m.1 10)) (p1 : ∀ k, (m.2 14) k + (m.2 15) k ≤ 4000) (p2 : (m.1 7) ≠ 0) (pPN : (m.1 10) = 0 → PN (m.1 13) (m.1 19) (m.1 20) (m.1 21) (m.1 22) (m.1 23) (m.1 25) (m.1 26) (m.2 16) (m.2 17)) : TC w D 238 [.ref 189] (mhp m c, N) (Q_takeMeta m c N) := by
  obtain ⟨D, rfl⟩ : ∃ k, D = k + 1 := ⟨D - 1, by omega⟩
  have hLx := hLx0
  have f7 : 0 ≤ m.1 7 ∧ m.1 7 ≤ 330 := hT.1 7
  have f8 : 0 ≤ m.1 8 ∧ m.1 8 ≤ 4000 := hT.1 8
  have f9 : 0 ≤ m.1 9 ∧ m.1 9 ≤ 4000 := hT.1 9
  have f10 : 0 ≤ m.1 10 ∧ m.1 10 ≤ 8 := hT.1 10
  have f11 : (-1) ≤ m.1 11 ∧ m.1 11 ≤ 4000 := hT.1 11
  have f12 : (-9223372036854775808) ≤ m.1 12 ∧ m.1 12 ≤ 9223372036854775807 := hT.1 12
  have f13 : 0 ≤ m.1 13 ∧ m.1 13 ≤ 120 := hT.1 13
  have f21 : 0 ≤ m.1 21 ∧ m.1 21 ≤ 16 := hT.1 21
  have f25 : 0 ≤ m.1 25 ∧ m.1 25 ≤ 16 := hT.1 25
  have f22 : 0 ≤ m.1 22 ∧ m.1 22 ≤ 8 := hT.1 22
  have f19 : 0 ≤ m.1 19 ∧ m.1 19 ≤ 12 := hT.1 19
  have f20 : 0 ≤ m.1 20 ∧ m.1 20 ≤ 12 := hT.1 20
  have f6 : 0 ≤ m.1 6 ∧ m.1 6 ≤ 4000 := hT.1 6
  have f23 : 0 ≤ m.1 23 ∧ m.1 23 ≤ 16 := hT.1 23
  have f26 : 0 ≤ m.1 26 ∧ m.1 26 ≤ 8 := hT.1 26
  refine Tc_of rfl ?_
  show TT w D pm_238 (0, [(0, .ref 189)], [], (mhp m c, N), 0, 0) (Q_takeMeta m c N)
  rw [show (mhp m c, N) = (mhp (mO m [(7, (m.1 7)), (8, (m.1 8)), (9, (m.1 9)), (10, (m.1 10)), (11, (m.1 11)), (12, (m.1 12)), (13, (m.1 13)), (21, (m.1 21))] [(14, (m.2 14)), (15, (m.2 15)), (16, (m.2 16)), (17, (m.2 17)), (35, (m.2 35))]) c, N) from congrArg (fun M => (mhp M c, N)) (mO_pad m [7, 8, 9, 10, 11, 12, 13, 21] [14, 15, 16, 17, 35])]
  refine T_ld 1 (.ref 189) rfl (fun _ => rfl) ?_
  refine T_call 4 212 [.ref 189] [] rfl (fun _ => rfl) rfl (c_next w (mO m [(7, (m.1 7)), (8, (m.1 8)), (9, (m.1 9)), (10, (m.1 10)), (11, (m.1 11)), (12, (m.1 12)), (13, (m.1 13)), (21, (m.1 21))] [(14, (m.2 14)), (15, (m.2 15)), (16, (m.2 16)), (17, (m.2 17)), (35, (m.2 35))]) c N D (by omega) (Ty_mO hT rfl rfl ⟨f7, f8, f9, f10, f11, f12, f13, f21, trivial⟩ ⟨(hT.2.1 14), (hT.2.1 15), (hT.2.1 16), (hT.2.1 17), (hT.2.1 35), trivial⟩) (show (m.1 10) = 0 → (m.1 8) + (m.1 9) ≤ (m.1 6) by first | omega | (intro h9; have h8 := hLx h9; omega))) (fun r1 k2 => ?_)
  obtain ⟨y3, y5, y7, y9, y11, y13, g4, g6, g8, g10, g12, g14, h15, h16, h17, h18, rfl⟩ := k2
  replace h15 : LxP y3 y5 y7 (m.1 6) y9 := h15
  replace h16 : y9 = 0 → (m.1 10) = 0 := h16
  replace h17 : (m.1 8) ≤ y5 := h17
  replace h18 : y9 = 0 → (m.1 8) + (m.1 9) ≤ y5 := h18
  have hLx := h15
  refine ⟨_, _, rfl, ?_⟩
  refine T_nf (st' := []) (l' := [(7, y3), (8, y5), (9, y7), (10, y9), (11, y11), (12, y13), (13, (m.1 13)), (21, (m.1 21))]) (a' := [(14, (m.2 14)), (15, (m.2 15)), (16, (m.2 16)), (17, (m.2 17)), (35, (m.2 35))]) rfl rfl rfl rfl rfl ?_
  have u19 : (m.1 8) ≤ y5 := by omega
  have u20 : y9 = 0 → (m.1 10) = 0 := by omega
  have u21 : y9 = 0 → (m.1 8) + (m.1 9) ≤ y5 := by omega
  refine T_ld 5 (.ref 189) rfl (fun _ => rfl) ?_
  refine T_ld 6 (.int (i32 3)) rfl (fun _ => rfl) ?_
  refine T_gf 10 (.int (i32 (m.1 21))) rfl rfl rfl rfl rfl rfl ?_
  refine T_ld 12 (.int (i32 16)) rfl (fun _ => rfl) ?_
  have hn : y9 = 0 → (m.1 13) ≤ 119 := fun h => by
    have hh := (pPN (by omega)).1
    omega
  refine T_call 15 225 [.ref 189, .int (i32 3), .int (i32 (m.1 21)), .int (i32 16)] [] rfl (fun _ => rfl) rfl (c_newName w (mO m [(7, y3), (8, y5), (9, y7), (10, y9), (11, y11), (12, y13), (13, (m.1 13)), (21, (m.1 21))] [(14, (m.2 14)), (15, (m.2 15)), (16, (m.2 16)), (17, (m.2 17)), (35, (m.2 35))]) c N D (by omega) (Ty_mO hT rfl rfl ⟨g4, g6, g8, g10, g12, g14, f13, f21, trivial⟩ ⟨(hT.2.1 14), (hT.2.1 15), (hT.2.1 16), (hT.2.1 17), (hT.2.1 35), trivial⟩) 3 (m.1 21) 16 ⟨by decide, by decide⟩ (r32 (by omega) (by omega)) ⟨by decide, by decide⟩ (show LxP y3 y5 y7 (m.1 6) y9 by first | exact hLx | (intro h9; exfalso; omega) | (intro h9; have h8 := hLx (by omega); omega)) (show ∀ k, (m.2 14) k + (m.2 15) k ≤ 4000 by first | exact p1 | exact hNM) (show y9 = 0 → (m.1 13) ≤ 119 by omega) (show 1 ≤ 3 ∧ 3 ≤ 7 by omega) (show 0 ≤ (m.1 21) ∧ ((m.1 21) ≠ 16 → (m.1 21) ≤ 15) by omega)) (fun r22 k23 => ?_)
  obtain ⟨y24, y26, y28, y30, y32, y34, y36, F38, F40, F42, F44, nn, g25, g27, g29, g31, g33, g35, g37, G39, G41, G43, G45, g46, h47, h48, h49, h50, h51, h52, h53, rfl⟩ := k23
  replace h47 : LxP y24 y26 y28 (m.1 6) y30 := h47
  replace h48 : y5 ≤ y26 := h48
  replace h49 : y30 = 0 → y9 = 0 ∧ y5 + y7 ≤ y26 := h49
  replace h50 : y30 = 0 → nn = 1 ∧ y3 = 1 := h50
  replace h51 : nn = 1 → (m.1 21) ≠ 16 := h51
  replace h52 : ∀ k, F38 k + F40 k ≤ 4000 := h52
  replace h53 : (nn = 1 ∧ y9 = 0 ∧ y36 = (m.1 13) + 1 ∧ F38 = upI (m.2 14) (m.1 13) y5 ∧ F40 = upI (m.2 15) (m.1 13) y7 ∧ F42 = upI (m.2 16) (m.1 13) 3 ∧ F44 = upI (m.2 17) (m.1 13) (m.1 21)) ∨ (nn = 0 ∧ 0 < y30 ∧ y36 = (m.1 13) ∧ F38 = (m.2 14) ∧ F40 = (m.2 15) ∧ F42 = (m.2 16) ∧ F44 = (m.2 17)) := h53
  have hLx := h47
  have hNM := h52
  have hN := h53
  refine ⟨_, _, rfl, ?_⟩
  refine T_nf (st' := [.int (i32 nn)]) (l' := [(7, y24), (8, y26), (9, y28), (10, y30), (11, y32), (12, y34), (13, y36), (21, (m.1 21))]) (a' := [(14, F38), (15, F40), (16, F42), (17, F44), (35, (m.2 35))]) rfl rfl rfl rfl rfl ?_
  obtain ⟨g46a, g46b⟩ := g46
  have u54 : (m.1 8) ≤ y26 := by omega
  have u55 : y30 = 0 → (m.1 10) = 0 := by omega
  have u56 : y30 = 0 → (m.1 8) + (m.1 9) ≤ y26 := by omega
  clear u19 u20 u21 h15 h16 h17 h18 g4 g6 g8 g10 g12 g14
  refine T_if 19 18 rfl rfl rfl (r32 (by omega) (by omega)) (fun (h57 : nn ≠ 0) => ?_) (fun (h57 : ¬ (nn ≠ 0)) => ?_)
  · skip
    have hlt : (m.1 21) ≤ 15 := by omega
    obtain ⟨hNa, hNb, hNc⟩ : y36 = (m.1 13) + 1 ∧ F42 = upI (m.2 16) (m.1 13) 3 ∧ F44 = upI (m.2 17) (m.1 13) (m.1 21) := by
      rcases hN with ⟨e1, e2, e3, e4, e5, e6, e7⟩ | ⟨e1, e2⟩
      · exact ⟨e3, e6, e7⟩
      · omega
    refine T_ld 20 (.ref 189) rfl (fun _ => rfl) ?_
    refine T_ld 22 (.int (i32 58)) rfl (fun _ => rfl) ?_
    refine T_call 25 232 [.ref 189, .int (i32 58)] [] rfl (fun _ => rfl) rfl (c_need w (mO m [(7, y24), (8, y26), (9, y28), (10, y30), (11, y32), (12, y34), (13, y36), (21, (m.1 21))] [(14, F38), (15, F40), (16, F42), (17, F44), (35, (m.2 35))]) c N D (by omega) (Ty_mO hT rfl rfl ⟨g25, g27, g29, g31, g33, g35, g37, f21, trivial⟩ ⟨G39, G41, G43, G45, (hT.2.1 35), trivial⟩) 58 ⟨by decide, by decide⟩ (show 1 ≤ 58 by omega) (show LxP y24 y26 y28 (m.1 6) y30 by first | exact hLx | (intro h9; exfalso; omega) | (intro h9; have h8 := hLx (by omega); omega))) (fun r58 k59 => ?_)
    obtain ⟨y60, y62, y64, y66, y68, y70, g61, g63, g65, g67, g69, g71, h72, h73, h74, h75, rfl⟩ := k59
    replace h72 : LxP y60 y62 y64 (m.1 6) y66 := h72
    replace h73 : y66 = 0 → y30 = 0 ∧ y24 = 58 := h73
    replace h74 : y26 ≤ y62 := h74
    replace h75 : y66 = 0 → y26 + y28 ≤ y62 := h75
    have hLx := h72
    refine ⟨_, _, rfl, ?_⟩
    refine T_nf (st' := []) (l' := [(7, y60), (8, y62), (9, y64), (10, y66), (11, y68), (12, y70), (13, y36), (21, (m.1 21))]) (a' := [(14, F38), (15, F40), (16, F42), (17, F44), (35, (m.2 35))]) rfl rfl rfl rfl rfl ?_
    have u76 : (m.1 8) ≤ y62 := by omega
    have u77 : y66 = 0 → (m.1 10) = 0 := by omega
    have u78 : y66 = 0 → (m.1 8) + (m.1 9) ≤ y62 := by omega
    clear u54 u55 u56 h47 h48 h49 h50 h51 h53 g25 g27 g29 g31 g33 g35 g46a g46b h57
    refine T_gf 29 (.ref 205) rfl rfl rfl rfl rfl rfl ?_
    refine T_gf 33 (.int (i32 (m.1 21))) rfl rfl rfl rfl rfl rfl ?_
    refine T_ld 34 (.ref 189) rfl (fun _ => rfl) ?_
    refine T_ld 35 (.int (i32 1)) rfl (fun _ => rfl) ?_
    refine T_ld 37 (.int (i32 64)) rfl (fun _ => rfl) ?_
    refine T_call 40 234 [.ref 189, .int (i32 1), .int (i32 64)] [.int (i32 (m.1 21)), .ref 205] rfl (fun _ => rfl) rfl (c_number w (mO m [(7, y60), (8, y62), (9, y64), (10, y66), (11, y68), (12, y70), (13, y36), (21, (m.1 21))] [(14, F38), (15, F40), (16, F42), (17, F44), (35, (m.2 35))]) c N D (by omega) (Ty_mO hT rfl rfl ⟨g61, g63, g65, g67, g69, g71, g37, f21, trivial⟩ ⟨G39, G41, G43, G45, (hT.2.1 35), trivial⟩) 1 64 ⟨by decide, by decide⟩ ⟨by decide, by decide⟩ (show LxP y60 y62 y64 (m.1 6) y66 by first | exact hLx | (intro h9; exfalso; omega) | (intro h9; have h8 := hLx (by omega); omega)) (show 1 ≤ 64 by omega)) (fun r79 k80 => ?_)
    obtain ⟨y81, y83, y85, y87, y89, y91, nu, g82, g84, g86, g88, g90, g92, g93, h94, h95, h96, h97, h98, h99, rfl⟩ := k80
    replace h94 : LxP y81 y83 y85 (m.1 6) y87 := h94
    replace h95 : y62 ≤ y83 := h95
    replace h96 : y87 = 0 → y66 = 0 ∧ y62 + y64 ≤ y83 := h96
    replace h97 : y87 = 0 → y60 = 2 := h97
    replace h98 : 1 ≤ nu ∧ nu ≤ 64 := h98
    replace h99 : y87 = 0 → nu = y70 := h99
    have hLx := h94
    refine ⟨_, _, rfl, ?_⟩
    refine T_nf (st' := [.int (i32 nu), .int (i32 (m.1 21)), .ref 205]) (l' := [(7, y81), (8, y83), (9, y85), (10, y87), (11, y89), (12, y91), (13, y36), (21, (m.1 21))]) (a' := [(14, F38), (15, F40), (16, F42), (17, F44), (35, (m.2 35))]) rfl rfl rfl rfl rfl ?_
    obtain ⟨g93a, g93b⟩ := g93
    have u100 : (m.1 8) ≤ y83 := by omega
    have u101 : y87 = 0 → (m.1 10) = 0 := by omega
    have u102 : y87 = 0 → (m.1 8) + (m.1 9) ≤ y83 := by omega
    clear u76 u77 u78 h72 h73 h74 h75 g61 g63 g65 g67 g69 g71
    have G103 : ∀ j, 0 ≤ (upI (m.2 35) (m.1 21) nu) j ∧ (upI (m.2 35) (m.1 21) nu) j ≤ 64 := upI_rg (hT.2.1 35) ⟨by omega, by omega⟩
    refine T_iast (a' := [(14, F38), (15, F40), (16, F42), (17, F44), (35, upI (m.2 35) (m.1 21) nu)]) 41 35 (m.2 35) rfl rfl rfl (by omega) (show (m.1 21) < (16 : Int) by omega) rfl rfl ?_
    refine T_ld 42 (.ref 189) rfl (fun _ => rfl) ?_
    refine T_ld 44 (.int (i32 59)) rfl (fun _ => rfl) ?_
    refine T_call 47 232 [.ref 189, .int (i32 59)] [] rfl (fun _ => rfl) rfl (c_need w (mO m [(7, y81), (8, y83), (9, y85), (10, y87), (11, y89), (12, y91), (13, y36), (21, (m.1 21))] [(14, F38), (15, F40), (16, F42), (17, F44), (35, upI (m.2 35) (m.1 21) nu)]) c N D (by omega) (Ty_mO hT rfl rfl ⟨g82, g84, g86, g88, g90, g92, g37, f21, trivial⟩ ⟨G39, G41, G43, G45, G103, trivial⟩) 59 ⟨by decide, by decide⟩ (show 1 ≤ 59 by omega) (show LxP y81 y83 y85 (m.1 6) y87 by first | exact hLx | (intro h9; exfalso; omega) | (intro h9; have h8 := hLx (by omega); omega))) (fun r104 k105 => ?_)
    obtain ⟨y106, y108, y110, y112, y114, y116, g107, g109, g111, g113, g115, g117, h118, h119, h120, h121, rfl⟩ := k105
    replace h118 : LxP y106 y108 y110 (m.1 6) y112 := h118
    replace h119 : y112 = 0 → y87 = 0 ∧ y81 = 59 := h119
    replace h120 : y83 ≤ y108 := h120
    replace h121 : y112 = 0 → y83 + y85 ≤ y108 := h121
    have hLx := h118
    refine ⟨_, _, rfl, ?_⟩
    refine T_nf (st' := []) (l' := [(7, y106), (8, y108), (9, y110), (10, y112), (11, y114), (12, y116), (13, y36), (21, (m.1 21))]) (a' := [(14, F38), (15, F40), (16, F42), (17, F44), (35, upI (m.2 35) (m.1 21) nu)]) rfl rfl rfl rfl rfl ?_
    have u122 : (m.1 8) ≤ y108 := by omega
    have u123 : y112 = 0 → (m.1 10) = 0 := by omega
    have u124 : y112 = 0 → (m.1 8) + (m.1 9) ≤ y108 := by omega
    clear u100 u101 u102 h94 h95 h96 h97 h99 g82 g84 g86 g88 g90 g92
    refine T_ld 48 (.ref 189) rfl (fun _ => rfl) ?_
    refine T_ld 49 (.ref 189) rfl (fun _ => rfl) ?_
    refine T_gf1 52 (.int (i32 (m.1 21))) rfl rfl rfl rfl ?_
    refine T_ld 53 (.int (i32 1)) rfl (fun _ => rfl) ?_
    refine T_iadd 54 rfl rfl ?_
    refine T_pf (l' := [(7, y106), (8, y108), (9, y110), (10, y112), (11, y114), (12, y116), (13, y36), (21, (m.1 21) + 1)]) 57 ((m.1 21) + 1) rfl rfl rfl rfl rfl rfl ?_
    have g125 : 0 ≤ (m.1 21) + 1 ∧ (m.1 21) + 1 ≤ 16 := ⟨by omega, by omega⟩
    refine T_ret rfl (fun _ => rfl) ?_
    exact ⟨y106, y108, y110, y112, y114, y116, y36, (m.1 21) + 1, F38, F40, F42, F44, upI (m.2 35) (m.1 21) nu, g107, g109, g111, g113, g115, g117, g37, g125, G39, G41, G43, G45, G103, (by first | exact hLx | (intro h9; first | omega | (have h8 := hLx (by omega); omega))), (by omega), (by omega), (by first | assumption | exact hNM), (by first | exact pPN | (intro h; exfalso; omega) | (intro h; have hP := pPN (by omega); rw [hNa, hNb, hNc]; exact PN_3 hP (by omega))), rfl⟩
  · skip
    refine T_ret rfl (fun _ => rfl) ?_
    exact ⟨y24, y26, y28, y30, y32, y34, y36, (m.1 21), F38, F40, F42, F44, (m.2 35), g25, g27, g29, g31, g33, g35, g37, f21, G39, G41, G43, G45, (hT.2.1 35), (by first | exact hLx | (intro h9; first | omega | (have h8 := hLx (by omega); omega))), (by omega), (by omega), (by first | assumption | exact hNM), (by first | exact pPN | (intro h; exfalso; omega) | (intro h; have hP := pPN (by omega); rw [hNa, hNb, hNc]; exact PN_3 hP (by omega))), rfl⟩
def Q_takeArray (m : mR) (c : Nat → Option am_C) (N : Nat) : ag_Re af_T → Prop := fun R => ∃ (y7 : Int) (y8 : Int) (y9 : Int) (y10 : Int) (y11 : Int) (y12 : Int) (y13 : Int) (y22 : Int) (F14 : Int → Int) (F15 : Int → Int) (F16 : Int → Int) (F17 : Int → Int) (F36 : Int → Int) (F93 : Int → Int), (0 ≤ y7 ∧ y7 ≤ 330) ∧ (0 ≤ y8 ∧ y8 ≤ 4000) ∧ (0 ≤ y9 ∧ y9 ≤ 4000) ∧ (0 ≤ y10 ∧ y10 ≤ 8) ∧ ((-1) ≤ y11 ∧ y11 ≤ 4000) ∧ ((-9223372036854775808) ≤ y12 ∧ y12 ≤ 9223372036854775807) ∧ (0 ≤ y13 ∧ y13 ≤ 120) ∧ (0 ≤ y22 ∧ y22 ≤ 8) ∧ (∀ j, 0 ≤ F14 j ∧ F14 j ≤ 4000) ∧ (∀ j, 0 ≤ F15 j ∧ F15 j ≤ 4000) ∧ (∀ j, 0 ≤ F16 j ∧ F16 j ≤ 7) ∧ (∀ j, 0 ≤ F17 j ∧ F17 j ≤ 15) ∧ (∀ j, 0 ≤ F36 j ∧ F36 j ≤ 64) ∧ (∀ j, 0 ≤ F93 j ∧ F93 j ≤ 64) ∧ (LxP y7 y8 y9 (m.1 6) y10) ∧ ((m.1 8) ≤ y8) ∧ (y10 = 0 → (m.1 10) = 0 ∧ (m.1 8) + (m.1 9) ≤ y8) ∧ (∀ k, F14 k + F15 k ≤ 4000) ∧ (y10 = 0 → PN y13 (m.1 19) (m.1 20) (m.1 21) y22 (m.1 23) (m.1 25) (m.1 26) F16 F17) ∧ (∀ k, 0 ≤ k → k < y22 → 1 ≤ F93 k ∧ 1 ≤ F36 k) ∧ ((m.1 22) ≤ y22) ∧ R = (.inl (none), (mhp (mO m [(7, y7), (8, y8), (9, y9), (10, y10), (11, y11), (12, y12), (13, y13), (22, y22)] [(14, F14), (15, F15), (16, F16), (17, F17), (36, F36), (93, F93)]) c, N), 0, 0)
set_option maxHeartbeats 8000000 in
theorem c_takeArray (w : wX) (m : mR) (c : Nat → Option am_C) (N D : Nat) (hD : 7 ≤ D) (hT : Ty m) (hLx0 : LxP (m.1 7) (m.1 8) (m.1 9) (m.1 6) (m.1 10)) (p1 : ∀ k, (m.2 14) k + (m.2 15) k ≤ 4000) (p2 : (m.1 7) ≠ 0) (pPN : (m.1 10) = 0 → PN (m.1 13) (m.1 19) (m.1 20) (m.1 21) (m.1 22) (m.1 23) (m.1 25) (m.1 26) (m.2 16) (m.2 17)) (pAR : ∀ k, 0 ≤ k → k < (m.1 22) → 1 ≤ (m.2 93) k ∧ 1 ≤ (m.2 36) k) : TC w D 239 [.ref 189] (mhp m c, N) (Q_takeArray m c N) := by
  obtain ⟨D, rfl⟩ : ∃ k, D = k + 1 := ⟨D - 1, by omega⟩
  have hLx := hLx0
  have f7 : 0 ≤ m.1 7 ∧ m.1 7 ≤ 330 := hT.1 7
  have f8 : 0 ≤ m.1 8 ∧ m.1 8 ≤ 4000 := hT.1 8
  have f9 : 0 ≤ m.1 9 ∧ m.1 9 ≤ 4000 := hT.1 9
  have f10 : 0 ≤ m.1 10 ∧ m.1 10 ≤ 8 := hT.1 10
  have f11 : (-1) ≤ m.1 11 ∧ m.1 11 ≤ 4000 := hT.1 11
  have f12 : (-9223372036854775808) ≤ m.1 12 ∧ m.1 12 ≤ 9223372036854775807 := hT.1 12
  have f13 : 0 ≤ m.1 13 ∧ m.1 13 ≤ 120 := hT.1 13
  have f22 : 0 ≤ m.1 22 ∧ m.1 22 ≤ 8 := hT.1 22
  have f25 : 0 ≤ m.1 25 ∧ m.1 25 ≤ 16 := hT.1 25
  have f19 : 0 ≤ m.1 19 ∧ m.1 19 ≤ 12 := hT.1 19
  have f20 : 0 ≤ m.1 20 ∧ m.1 20 ≤ 12 := hT.1 20
  have f21 : 0 ≤ m.1 21 ∧ m.1 21 ≤ 16 := hT.1 21
  have f6 : 0 ≤ m.1 6 ∧ m.1 6 ≤ 4000 := hT.1 6
  have f23 : 0 ≤ m.1 23 ∧ m.1 23 ≤ 16 := hT.1 23
  have f26 : 0 ≤ m.1 26 ∧ m.1 26 ≤ 8 := hT.1 26
  refine Tc_of rfl ?_
  show TT w D pm_239 (0, [(0, .ref 189)], [], (mhp m c, N), 0, 0) (Q_takeArray m c N)
  rw [show (mhp m c, N) = (mhp (mO m [(7, (m.1 7)), (8, (m.1 8)), (9, (m.1 9)), (10, (m.1 10)), (11, (m.1 11)), (12, (m.1 12)), (13, (m.1 13)), (22, (m.1 22))] [(14, (m.2 14)), (15, (m.2 15)), (16, (m.2 16)), (17, (m.2 17)), (36, (m.2 36)), (93, (m.2 93))]) c, N) from congrArg (fun M => (mhp M c, N)) (mO_pad m [7, 8, 9, 10, 11, 12, 13, 22] [14, 15, 16, 17, 36, 93])]
  refine T_ld 1 (.ref 189) rfl (fun _ => rfl) ?_
  refine T_call 4 212 [.ref 189] [] rfl (fun _ => rfl) rfl (c_next w (mO m [(7, (m.1 7)), (8, (m.1 8)), (9, (m.1 9)), (10, (m.1 10)), (11, (m.1 11)), (12, (m.1 12)), (13, (m.1 13)), (22, (m.1 22))] [(14, (m.2 14)), (15, (m.2 15)), (16, (m.2 16)), (17, (m.2 17)), (36, (m.2 36)), (93, (m.2 93))]) c N D (by omega) (Ty_mO hT rfl rfl ⟨f7, f8, f9, f10, f11, f12, f13, f22, trivial⟩ ⟨(hT.2.1 14), (hT.2.1 15), (hT.2.1 16), (hT.2.1 17), (hT.2.1 36), (hT.2.1 93), trivial⟩) (show (m.1 10) = 0 → (m.1 8) + (m.1 9) ≤ (m.1 6) by first | omega | (intro h9; have h8 := hLx h9; omega))) (fun r1 k2 => ?_)
  obtain ⟨y3, y5, y7, y9, y11, y13, g4, g6, g8, g10, g12, g14, h15, h16, h17, h18, rfl⟩ := k2
  replace h15 : LxP y3 y5 y7 (m.1 6) y9 := h15
  replace h16 : y9 = 0 → (m.1 10) = 0 := h16
  replace h17 : (m.1 8) ≤ y5 := h17
  replace h18 : y9 = 0 → (m.1 8) + (m.1 9) ≤ y5 := h18
  have hLx := h15
  refine ⟨_, _, rfl, ?_⟩
  refine T_nf (st' := []) (l' := [(7, y3), (8, y5), (9, y7), (10, y9), (11, y11), (12, y13), (13, (m.1 13)), (22, (m.1 22))]) (a' := [(14, (m.2 14)), (15, (m.2 15)), (16, (m.2 16)), (17, (m.2 17)), (36, (m.2 36)), (93, (m.2 93))]) rfl rfl rfl rfl rfl ?_
  have u19 : (m.1 8) ≤ y5 := by omega
  have u20 : y9 = 0 → (m.1 10) = 0 := by omega
  have u21 : y9 = 0 → (m.1 8) + (m.1 9) ≤ y5 := by omega
  refine T_ld 5 (.ref 189) rfl (fun _ => rfl) ?_
  refine T_ld 6 (.int (i32 4)) rfl (fun _ => rfl) ?_
  refine T_gf 10 (.int (i32 (m.1 22))) rfl rfl rfl rfl rfl rfl ?_
  refine T_ld 12 (.int (i32 8)) rfl (fun _ => rfl) ?_
  have hn : y9 = 0 → (m.1 13) ≤ 119 := fun h => by
    have hh := (pPN (by omega)).1
    omega
  refine T_call 15 225 [.ref 189, .int (i32 4), .int (i32 (m.1 22)), .int (i32 8)] [] rfl (fun _ => rfl) rfl (c_newName w (mO m [(7, y3), (8, y5), (9, y7), (10, y9), (11, y11), (12, y13), (13, (m.1 13)), (22, (m.1 22))] [(14, (m.2 14)), (15, (m.2 15)), (16, (m.2 16)), (17, (m.2 17)), (36, (m.2 36)), (93, (m.2 93))]) c N D (by omega) (Ty_mO hT rfl rfl ⟨g4, g6, g8, g10, g12, g14, f13, f22, trivial⟩ ⟨(hT.2.1 14), (hT.2.1 15), (hT.2.1 16), (hT.2.1 17), (hT.2.1 36), (hT.2.1 93), trivial⟩) 4 (m.1 22) 8 ⟨by decide, by decide⟩ (r32 (by omega) (by omega)) ⟨by decide, by decide⟩ (show LxP y3 y5 y7 (m.1 6) y9 by first | exact hLx | (intro h9; exfalso; omega) | (intro h9; have h8 := hLx (by omega); omega)) (show ∀ k, (m.2 14) k + (m.2 15) k ≤ 4000 by first | exact p1 | exact hNM) (show y9 = 0 → (m.1 13) ≤ 119 by omega) (show 1 ≤ 4 ∧ 4 ≤ 7 by omega) (show 0 ≤ (m.1 22) ∧ ((m.1 22) ≠ 8 → (m.1 22) ≤ 15) by omega)) (fun r22 k23 => ?_)
  obtain ⟨y24, y26, y28, y30, y32, y34, y36, F38, F40, F42, F44, nn, g25, g27, g29, g31, g33, g35, g37, G39, G41, G43, G45, g46, h47, h48, h49, h50, h51, h52, h53, rfl⟩ := k23
  replace h47 : LxP y24 y26 y28 (m.1 6) y30 := h47
  replace h48 : y5 ≤ y26 := h48
  replace h49 : y30 = 0 → y9 = 0 ∧ y5 + y7 ≤ y26 := h49
  replace h50 : y30 = 0 → nn = 1 ∧ y3 = 1 := h50
  replace h51 : nn = 1 → (m.1 22) ≠ 8 := h51
  replace h52 : ∀ k, F38 k + F40 k ≤ 4000 := h52
  replace h53 : (nn = 1 ∧ y9 = 0 ∧ y36 = (m.1 13) + 1 ∧ F38 = upI (m.2 14) (m.1 13) y5 ∧ F40 = upI (m.2 15) (m.1 13) y7 ∧ F42 = upI (m.2 16) (m.1 13) 4 ∧ F44 = upI (m.2 17) (m.1 13) (m.1 22)) ∨ (nn = 0 ∧ 0 < y30 ∧ y36 = (m.1 13) ∧ F38 = (m.2 14) ∧ F40 = (m.2 15) ∧ F42 = (m.2 16) ∧ F44 = (m.2 17)) := h53
  have hLx := h47
  have hNM := h52
  have hN := h53
  refine ⟨_, _, rfl, ?_⟩
  refine T_nf (st' := [.int (i32 nn)]) (l' := [(7, y24), (8, y26), (9, y28), (10, y30), (11, y32), (12, y34), (13, y36), (22, (m.1 22))]) (a' := [(14, F38), (15, F40), (16, F42), (17, F44), (36, (m.2 36)), (93, (m.2 93))]) rfl rfl rfl rfl rfl ?_
  obtain ⟨g46a, g46b⟩ := g46
  have u54 : (m.1 8) ≤ y26 := by omega
  have u55 : y30 = 0 → (m.1 10) = 0 := by omega
  have u56 : y30 = 0 → (m.1 8) + (m.1 9) ≤ y26 := by omega
  clear u19 u20 u21 h15 h16 h17 h18 g4 g6 g8 g10 g12 g14
  refine T_if 19 18 rfl rfl rfl (r32 (by omega) (by omega)) (fun (h57 : nn ≠ 0) => ?_) (fun (h57 : ¬ (nn ≠ 0)) => ?_)
  · skip
    have hlt : (m.1 22) ≤ 7 := by omega
    obtain ⟨hNa, hNb, hNc⟩ : y36 = (m.1 13) + 1 ∧ F42 = upI (m.2 16) (m.1 13) 4 ∧ F44 = upI (m.2 17) (m.1 13) (m.1 22) := by
      rcases hN with ⟨e1, e2, e3, e4, e5, e6, e7⟩ | ⟨e1, e2⟩
      · exact ⟨e3, e6, e7⟩
      · omega
    refine T_ld 20 (.ref 189) rfl (fun _ => rfl) ?_
    refine T_ld 22 (.int (i32 58)) rfl (fun _ => rfl) ?_
    refine T_call 25 232 [.ref 189, .int (i32 58)] [] rfl (fun _ => rfl) rfl (c_need w (mO m [(7, y24), (8, y26), (9, y28), (10, y30), (11, y32), (12, y34), (13, y36), (22, (m.1 22))] [(14, F38), (15, F40), (16, F42), (17, F44), (36, (m.2 36)), (93, (m.2 93))]) c N D (by omega) (Ty_mO hT rfl rfl ⟨g25, g27, g29, g31, g33, g35, g37, f22, trivial⟩ ⟨G39, G41, G43, G45, (hT.2.1 36), (hT.2.1 93), trivial⟩) 58 ⟨by decide, by decide⟩ (show 1 ≤ 58 by omega) (show LxP y24 y26 y28 (m.1 6) y30 by first | exact hLx | (intro h9; exfalso; omega) | (intro h9; have h8 := hLx (by omega); omega))) (fun r58 k59 => ?_)
    obtain ⟨y60, y62, y64, y66, y68, y70, g61, g63, g65, g67, g69, g71, h72, h73, h74, h75, rfl⟩ := k59
    replace h72 : LxP y60 y62 y64 (m.1 6) y66 := h72
    replace h73 : y66 = 0 → y30 = 0 ∧ y24 = 58 := h73
    replace h74 : y26 ≤ y62 := h74
    replace h75 : y66 = 0 → y26 + y28 ≤ y62 := h75
    have hLx := h72
    refine ⟨_, _, rfl, ?_⟩
    refine T_nf (st' := []) (l' := [(7, y60), (8, y62), (9, y64), (10, y66), (11, y68), (12, y70), (13, y36), (22, (m.1 22))]) (a' := [(14, F38), (15, F40), (16, F42), (17, F44), (36, (m.2 36)), (93, (m.2 93))]) rfl rfl rfl rfl rfl ?_
    have u76 : (m.1 8) ≤ y62 := by omega
    have u77 : y66 = 0 → (m.1 10) = 0 := by omega
    have u78 : y66 = 0 → (m.1 8) + (m.1 9) ≤ y62 := by omega
    clear u54 u55 u56 h47 h48 h49 h50 h51 h53 g25 g27 g29 g31 g33 g35 g46a g46b h57
    refine T_gf 29 (.ref 206) rfl rfl rfl rfl rfl rfl ?_
    refine T_gf 33 (.int (i32 (m.1 22))) rfl rfl rfl rfl rfl rfl ?_
    refine T_ld 34 (.ref 189) rfl (fun _ => rfl) ?_
    refine T_ld 35 (.int (i32 1)) rfl (fun _ => rfl) ?_
    refine T_ld 37 (.int (i32 64)) rfl (fun _ => rfl) ?_
    refine T_call 40 234 [.ref 189, .int (i32 1), .int (i32 64)] [.int (i32 (m.1 22)), .ref 206] rfl (fun _ => rfl) rfl (c_number w (mO m [(7, y60), (8, y62), (9, y64), (10, y66), (11, y68), (12, y70), (13, y36), (22, (m.1 22))] [(14, F38), (15, F40), (16, F42), (17, F44), (36, (m.2 36)), (93, (m.2 93))]) c N D (by omega) (Ty_mO hT rfl rfl ⟨g61, g63, g65, g67, g69, g71, g37, f22, trivial⟩ ⟨G39, G41, G43, G45, (hT.2.1 36), (hT.2.1 93), trivial⟩) 1 64 ⟨by decide, by decide⟩ ⟨by decide, by decide⟩ (show LxP y60 y62 y64 (m.1 6) y66 by first | exact hLx | (intro h9; exfalso; omega) | (intro h9; have h8 := hLx (by omega); omega)) (show 1 ≤ 64 by omega)) (fun r79 k80 => ?_)
    obtain ⟨y81, y83, y85, y87, y89, y91, nu, g82, g84, g86, g88, g90, g92, g93, h94, h95, h96, h97, h98, h99, rfl⟩ := k80
    replace h94 : LxP y81 y83 y85 (m.1 6) y87 := h94
    replace h95 : y62 ≤ y83 := h95
    replace h96 : y87 = 0 → y66 = 0 ∧ y62 + y64 ≤ y83 := h96
    replace h97 : y87 = 0 → y60 = 2 := h97
    replace h98 : 1 ≤ nu ∧ nu ≤ 64 := h98
    replace h99 : y87 = 0 → nu = y70 := h99
    have hLx := h94
    refine ⟨_, _, rfl, ?_⟩
    refine T_nf (st' := [.int (i32 nu), .int (i32 (m.1 22)), .ref 206]) (l' := [(7, y81), (8, y83), (9, y85), (10, y87), (11, y89), (12, y91), (13, y36), (22, (m.1 22))]) (a' := [(14, F38), (15, F40), (16, F42), (17, F44), (36, (m.2 36)), (93, (m.2 93))]) rfl rfl rfl rfl rfl ?_
    obtain ⟨g93a, g93b⟩ := g93
    have u100 : (m.1 8) ≤ y83 := by omega
    have u101 : y87 = 0 → (m.1 10) = 0 := by omega
    have u102 : y87 = 0 → (m.1 8) + (m.1 9) ≤ y83 := by omega
    clear u76 u77 u78 h72 h73 h74 h75 g61 g63 g65 g67 g69 g71
    have G103 : ∀ j, 0 ≤ (upI (m.2 36) (m.1 22) nu) j ∧ (upI (m.2 36) (m.1 22) nu) j ≤ 64 := upI_rg (hT.2.1 36) ⟨by omega, by omega⟩
    refine T_iast (a' := [(14, F38), (15, F40), (16, F42), (17, F44), (36, upI (m.2 36) (m.1 22) nu), (93, (m.2 93))]) 41 36 (m.2 36) rfl rfl rfl (by omega) (show (m.1 22) < (8 : Int) by omega) rfl rfl ?_
    refine T_ld 42 (.ref 189) rfl (fun _ => rfl) ?_
    refine T_ld 44 (.int (i32 91)) rfl (fun _ => rfl) ?_
    refine T_call 47 232 [.ref 189, .int (i32 91)] [] rfl (fun _ => rfl) rfl (c_need w (mO m [(7, y81), (8, y83), (9, y85), (10, y87), (11, y89), (12, y91), (13, y36), (22, (m.1 22))] [(14, F38), (15, F40), (16, F42), (17, F44), (36, upI (m.2 36) (m.1 22) nu), (93, (m.2 93))]) c N D (by omega) (Ty_mO hT rfl rfl ⟨g82, g84, g86, g88, g90, g92, g37, f22, trivial⟩ ⟨G39, G41, G43, G45, G103, (hT.2.1 93), trivial⟩) 91 ⟨by decide, by decide⟩ (show 1 ≤ 91 by omega) (show LxP y81 y83 y85 (m.1 6) y87 by first | exact hLx | (intro h9; exfalso; omega) | (intro h9; have h8 := hLx (by omega); omega))) (fun r104 k105 => ?_)
    obtain ⟨y106, y108, y110, y112, y114, y116, g107, g109, g111, g113, g115, g117, h118, h119, h120, h121, rfl⟩ := k105
    replace h118 : LxP y106 y108 y110 (m.1 6) y112 := h118
    replace h119 : y112 = 0 → y87 = 0 ∧ y81 = 91 := h119
    replace h120 : y83 ≤ y108 := h120
    replace h121 : y112 = 0 → y83 + y85 ≤ y108 := h121
    have hLx := h118
    refine ⟨_, _, rfl, ?_⟩
    refine T_nf (st' := []) (l' := [(7, y106), (8, y108), (9, y110), (10, y112), (11, y114), (12, y116), (13, y36), (22, (m.1 22))]) (a' := [(14, F38), (15, F40), (16, F42), (17, F44), (36, upI (m.2 36) (m.1 22) nu), (93, (m.2 93))]) rfl rfl rfl rfl rfl ?_
    have u122 : (m.1 8) ≤ y108 := by omega
    have u123 : y112 = 0 → (m.1 10) = 0 := by omega
    have u124 : y112 = 0 → (m.1 8) + (m.1 9) ≤ y108 := by omega
    clear u100 u101 u102 h94 h95 h96 h97 h99 g82 g84 g86 g88 g90 g92
    refine T_gf 51 (.ref 255) rfl rfl rfl rfl rfl rfl ?_
    refine T_gf 55 (.int (i32 (m.1 22))) rfl rfl rfl rfl rfl rfl ?_
    refine T_ld 56 (.ref 189) rfl (fun _ => rfl) ?_
    refine T_ld 57 (.int (i32 1)) rfl (fun _ => rfl) ?_
    refine T_ld 59 (.int (i32 64)) rfl (fun _ => rfl) ?_
    refine T_call 62 234 [.ref 189, .int (i32 1), .int (i32 64)] [.int (i32 (m.1 22)), .ref 255] rfl (fun _ => rfl) rfl (c_number w (mO m [(7, y106), (8, y108), (9, y110), (10, y112), (11, y114), (12, y116), (13, y36), (22, (m.1 22))] [(14, F38), (15, F40), (16, F42), (17, F44), (36, upI (m.2 36) (m.1 22) nu), (93, (m.2 93))]) c N D (by omega) (Ty_mO hT rfl rfl ⟨g107, g109, g111, g113, g115, g117, g37, f22, trivial⟩ ⟨G39, G41, G43, G45, G103, (hT.2.1 93), trivial⟩) 1 64 ⟨by decide, by decide⟩ ⟨by decide, by decide⟩ (show LxP y106 y108 y110 (m.1 6) y112 by first | exact hLx | (intro h9; exfalso; omega) | (intro h9; have h8 := hLx (by omega); omega)) (show 1 ≤ 64 by omega)) (fun r125 k126 => ?_)
    obtain ⟨y127, y129, y131, y133, y135, y137, nu139, g128, g130, g132, g134, g136, g138, g140, h141, h142, h143, h144, h145, h146, rfl⟩ := k126
    replace h141 : LxP y127 y129 y131 (m.1 6) y133 := h141
    replace h142 : y108 ≤ y129 := h142
    replace h143 : y133 = 0 → y112 = 0 ∧ y108 + y110 ≤ y129 := h143
    replace h144 : y133 = 0 → y106 = 2 := h144
    replace h145 : 1 ≤ nu139 ∧ nu139 ≤ 64 := h145
    replace h146 : y133 = 0 → nu139 = y116 := h146
    have hLx := h141
    refine ⟨_, _, rfl, ?_⟩
    refine T_nf (st' := [.int (i32 nu139), .int (i32 (m.1 22)), .ref 255]) (l' := [(7, y127), (8, y129), (9, y131), (10, y133), (11, y135), (12, y137), (13, y36), (22, (m.1 22))]) (a' := [(14, F38), (15, F40), (16, F42), (17, F44), (36, upI (m.2 36) (m.1 22) nu), (93, (m.2 93))]) rfl rfl rfl rfl rfl ?_
    obtain ⟨g140a, g140b⟩ := g140
    have u147 : (m.1 8) ≤ y129 := by omega
    have u148 : y133 = 0 → (m.1 10) = 0 := by omega
    have u149 : y133 = 0 → (m.1 8) + (m.1 9) ≤ y129 := by omega
    clear u122 u123 u124 h118 h119 h120 h121 g107 g109 g111 g113 g115 g117
    have G150 : ∀ j, 0 ≤ (upI (m.2 93) (m.1 22) nu139) j ∧ (upI (m.2 93) (m.1 22) nu139) j ≤ 64 := upI_rg (hT.2.1 93) ⟨by omega, by omega⟩
    refine T_iast (a' := [(14, F38), (15, F40), (16, F42), (17, F44), (36, upI (m.2 36) (m.1 22) nu), (93, upI (m.2 93) (m.1 22) nu139)]) 63 93 (m.2 93) rfl rfl rfl (by omega) (show (m.1 22) < (8 : Int) by omega) rfl rfl ?_
    refine T_ld 64 (.ref 189) rfl (fun _ => rfl) ?_
    refine T_ld 66 (.int (i32 93)) rfl (fun _ => rfl) ?_
    refine T_call 69 232 [.ref 189, .int (i32 93)] [] rfl (fun _ => rfl) rfl (c_need w (mO m [(7, y127), (8, y129), (9, y131), (10, y133), (11, y135), (12, y137), (13, y36), (22, (m.1 22))] [(14, F38), (15, F40), (16, F42), (17, F44), (36, upI (m.2 36) (m.1 22) nu), (93, upI (m.2 93) (m.1 22) nu139)]) c N D (by omega) (Ty_mO hT rfl rfl ⟨g128, g130, g132, g134, g136, g138, g37, f22, trivial⟩ ⟨G39, G41, G43, G45, G103, G150, trivial⟩) 93 ⟨by decide, by decide⟩ (show 1 ≤ 93 by omega) (show LxP y127 y129 y131 (m.1 6) y133 by first | exact hLx | (intro h9; exfalso; omega) | (intro h9; have h8 := hLx (by omega); omega))) (fun r151 k152 => ?_)
    obtain ⟨y153, y155, y157, y159, y161, y163, g154, g156, g158, g160, g162, g164, h165, h166, h167, h168, rfl⟩ := k152
    replace h165 : LxP y153 y155 y157 (m.1 6) y159 := h165
    replace h166 : y159 = 0 → y133 = 0 ∧ y127 = 93 := h166
    replace h167 : y129 ≤ y155 := h167
    replace h168 : y159 = 0 → y129 + y131 ≤ y155 := h168
    have hLx := h165
    refine ⟨_, _, rfl, ?_⟩
    refine T_nf (st' := []) (l' := [(7, y153), (8, y155), (9, y157), (10, y159), (11, y161), (12, y163), (13, y36), (22, (m.1 22))]) (a' := [(14, F38), (15, F40), (16, F42), (17, F44), (36, upI (m.2 36) (m.1 22) nu), (93, upI (m.2 93) (m.1 22) nu139)]) rfl rfl rfl rfl rfl ?_
    have u169 : (m.1 8) ≤ y155 := by omega
    have u170 : y159 = 0 → (m.1 10) = 0 := by omega
    have u171 : y159 = 0 → (m.1 8) + (m.1 9) ≤ y155 := by omega
    clear u147 u148 u149 h141 h142 h143 h144 h146 g128 g130 g132 g134 g136 g138
    refine T_ld 70 (.ref 189) rfl (fun _ => rfl) ?_
    refine T_ld 72 (.int (i32 59)) rfl (fun _ => rfl) ?_
    refine T_call 75 232 [.ref 189, .int (i32 59)] [] rfl (fun _ => rfl) rfl (c_need w (mO m [(7, y153), (8, y155), (9, y157), (10, y159), (11, y161), (12, y163), (13, y36), (22, (m.1 22))] [(14, F38), (15, F40), (16, F42), (17, F44), (36, upI (m.2 36) (m.1 22) nu), (93, upI (m.2 93) (m.1 22) nu139)]) c N D (by omega) (Ty_mO hT rfl rfl ⟨g154, g156, g158, g160, g162, g164, g37, f22, trivial⟩ ⟨G39, G41, G43, G45, G103, G150, trivial⟩) 59 ⟨by decide, by decide⟩ (show 1 ≤ 59 by omega) (show LxP y153 y155 y157 (m.1 6) y159 by first | exact hLx | (intro h9; exfalso; omega) | (intro h9; have h8 := hLx (by omega); omega))) (fun r172 k173 => ?_)
    obtain ⟨y174, y176, y178, y180, y182, y184, g175, g177, g179, g181, g183, g185, h186, h187, h188, h189, rfl⟩ := k173
    replace h186 : LxP y174 y176 y178 (m.1 6) y180 := h186
    replace h187 : y180 = 0 → y159 = 0 ∧ y153 = 59 := h187
    replace h188 : y155 ≤ y176 := h188
    replace h189 : y180 = 0 → y155 + y157 ≤ y176 := h189
    have hLx := h186
    refine ⟨_, _, rfl, ?_⟩
    refine T_nf (st' := []) (l' := [(7, y174), (8, y176), (9, y178), (10, y180), (11, y182), (12, y184), (13, y36), (22, (m.1 22))]) (a' := [(14, F38), (15, F40), (16, F42), (17, F44), (36, upI (m.2 36) (m.1 22) nu), (93, upI (m.2 93) (m.1 22) nu139)]) rfl rfl rfl rfl rfl ?_
    have u190 : (m.1 8) ≤ y176 := by omega
    have u191 : y180 = 0 → (m.1 10) = 0 := by omega
    have u192 : y180 = 0 → (m.1 8) + (m.1 9) ≤ y176 := by omega
    clear u169 u170 u171 h165 h166 h167 h168 g154 g156 g158 g160 g162 g164
    refine T_ld 76 (.ref 189) rfl (fun _ => rfl) ?_
    refine T_ld 77 (.ref 189) rfl (fun _ => rfl) ?_
    refine T_gf1 80 (.int (i32 (m.1 22))) rfl rfl rfl rfl ?_
    refine T_ld 81 (.int (i32 1)) rfl (fun _ => rfl) ?_
    refine T_iadd 82 rfl rfl ?_
    refine T_pf (l' := [(7, y174), (8, y176), (9, y178), (10, y180), (11, y182), (12, y184), (13, y36), (22, (m.1 22) + 1)]) 85 ((m.1 22) + 1) rfl rfl rfl rfl rfl rfl ?_
    have g193 : 0 ≤ (m.1 22) + 1 ∧ (m.1 22) + 1 ≤ 8 := ⟨by omega, by omega⟩
    refine T_ret rfl (fun _ => rfl) ?_
    exact ⟨y174, y176, y178, y180, y182, y184, y36, (m.1 22) + 1, F38, F40, F42, F44, upI (m.2 36) (m.1 22) nu, upI (m.2 93) (m.1 22) nu139, g175, g177, g179, g181, g183, g185, g37, g193, G39, G41, G43, G45, G103, G150, (by first | exact hLx | (intro h9; first | omega | (have h8 := hLx (by omega); omega))), (by omega), (by omega), (by first | assumption | exact hNM), (by first | exact pPN | (intro h; exfalso; omega) | (intro h; have hP := pPN (by omega); rw [hNa, hNb, hNc]; exact PN_4 hP (by omega))), (by first | exact pAR | (intro k h1 h2; have := pAR k h1; unfold upI; split <;> omega)), (by omega), rfl⟩
  · skip
    refine T_ret rfl (fun _ => rfl) ?_
    exact ⟨y24, y26, y28, y30, y32, y34, y36, (m.1 22), F38, F40, F42, F44, (m.2 36), (m.2 93), g25, g27, g29, g31, g33, g35, g37, f22, G39, G41, G43, G45, (hT.2.1 36), (hT.2.1 93), (by first | exact hLx | (intro h9; first | omega | (have h8 := hLx (by omega); omega))), (by omega), (by omega), (by first | assumption | exact hNM), (by first | exact pPN | (intro h; exfalso; omega) | (intro h; have hP := pPN (by omega); rw [hNa, hNb, hNc]; exact PN_4 hP (by omega))), (by first | exact pAR | (intro k h1 h2; have := pAR k h1; unfold upI; split <;> omega)), (by omega), rfl⟩
def Q_takeUse (m : mR) (c : Nat → Option am_C) (N : Nat) : ag_Re af_T → Prop := fun R => ∃ (y7 : Int) (y8 : Int) (y9 : Int) (y10 : Int) (y11 : Int) (y12 : Int) (y13 : Int) (y20 : Int) (F14 : Int → Int) (F15 : Int → Int) (F16 : Int → Int) (F17 : Int → Int) (F34 : Int → Int), (0 ≤ y7 ∧ y7 ≤ 330) ∧ (0 ≤ y8 ∧ y8 ≤ 4000) ∧ (0 ≤ y9 ∧ y9 ≤ 4000) ∧ (0 ≤ y10 ∧ y10 ≤ 8) ∧ ((-1) ≤ y11 ∧ y11 ≤ 4000) ∧ ((-9223372036854775808) ≤ y12 ∧ y12 ≤ 9223372036854775807) ∧ (0 ≤ y13 ∧ y13 ≤ 120) ∧ (0 ≤ y20 ∧ y20 ≤ 12) ∧ (∀ j, 0 ≤ F14 j ∧ F14 j ≤ 4000) ∧ (∀ j, 0 ≤ F15 j ∧ F15 j ≤ 4000) ∧ (∀ j, 0 ≤ F16 j ∧ F16 j ≤ 7) ∧ (∀ j, 0 ≤ F17 j ∧ F17 j ≤ 15) ∧ (∀ j, 0 ≤ F34 j ∧ F34 j ≤ 11) ∧ (LxP y7 y8 y9 (m.1 6) y10) ∧ ((m.1 8) ≤ y8) ∧ (y10 = 0 → (m.1 10) = 0 ∧ (m.1 8) + (m.1 9) ≤ y8) ∧ (∀ k, F14 k + F15 k ≤ 4000) ∧ (y10 = 0 → PN y13 (m.1 19) y20 (m.1 21) (m.1 22) (m.1 23) (m.1 25) (m.1 26) F16 F17) ∧ (y10 = 0 → ∀ k, 0 ≤ k → k < y20 → F34 k < (m.1 19)) ∧ R = (.inl (none), (mhp (mO m [(7, y7), (8, y8), (9, y9), (10, y10), (11, y11), (12, y12), (13, y13), (20, y20)] [(14, F14), (15, F15), (16, F16), (17, F17), (34, F34)]) c, N), 0, 0)
set_option maxHeartbeats 8000000 in
theorem c_takeUse (w : wX) (m : mR) (c : Nat → Option am_C) (N D : Nat) (hD : 7 ≤ D) (hT : Ty m) (hLx0 : LxP (m.1 7) (m.1 8) (m.1 9) (m.1 6) (m.1 10)) (p1 : ∀ k, (m.2 14) k + (m.2 15) k ≤ 4000) (p2 : (m.1 7) ≠ 0) (pPN : (m.1 10) = 0 → PN (m.1 13) (m.1 19) (m.1 20) (m.1 21) (m.1 22) (m.1 23) (m.1 25) (m.1 26) (m.2 16) (m.2 17)) (pIN : ∀ k, 0 ≤ k → k < (m.1 20) → (m.2 34) k < (m.1 19)) : TC w D 235 [.ref 189] (mhp m c, N) (Q_takeUse m c N) := by
  obtain ⟨D, rfl⟩ : ∃ k, D = k + 1 := ⟨D - 1, by omega⟩
  have hLx := hLx0
  have f7 : 0 ≤ m.1 7 ∧ m.1 7 ≤ 330 := hT.1 7
  have f8 : 0 ≤ m.1 8 ∧ m.1 8 ≤ 4000 := hT.1 8
  have f9 : 0 ≤ m.1 9 ∧ m.1 9 ≤ 4000 := hT.1 9
  have f10 : 0 ≤ m.1 10 ∧ m.1 10 ≤ 8 := hT.1 10
  have f11 : (-1) ≤ m.1 11 ∧ m.1 11 ≤ 4000 := hT.1 11
  have f12 : (-9223372036854775808) ≤ m.1 12 ∧ m.1 12 ≤ 9223372036854775807 := hT.1 12
  have f13 : 0 ≤ m.1 13 ∧ m.1 13 ≤ 120 := hT.1 13
  have f20 : 0 ≤ m.1 20 ∧ m.1 20 ≤ 12 := hT.1 20
  have f25 : 0 ≤ m.1 25 ∧ m.1 25 ≤ 16 := hT.1 25
  have f22 : 0 ≤ m.1 22 ∧ m.1 22 ≤ 8 := hT.1 22
  have f19 : 0 ≤ m.1 19 ∧ m.1 19 ≤ 12 := hT.1 19
  have f21 : 0 ≤ m.1 21 ∧ m.1 21 ≤ 16 := hT.1 21
  have f6 : 0 ≤ m.1 6 ∧ m.1 6 ≤ 4000 := hT.1 6
  have f23 : 0 ≤ m.1 23 ∧ m.1 23 ≤ 16 := hT.1 23
  have f26 : 0 ≤ m.1 26 ∧ m.1 26 ≤ 8 := hT.1 26
  refine Tc_of rfl ?_
  show TT w D pm_235 (0, [(0, .ref 189)], [], (mhp m c, N), 0, 0) (Q_takeUse m c N)
  rw [show (mhp m c, N) = (mhp (mO m [(7, (m.1 7)), (8, (m.1 8)), (9, (m.1 9)), (10, (m.1 10)), (11, (m.1 11)), (12, (m.1 12)), (13, (m.1 13)), (20, (m.1 20))] [(14, (m.2 14)), (15, (m.2 15)), (16, (m.2 16)), (17, (m.2 17)), (34, (m.2 34))]) c, N) from congrArg (fun M => (mhp M c, N)) (mO_pad m [7, 8, 9, 10, 11, 12, 13, 20] [14, 15, 16, 17, 34])]
  refine T_ld 1 (.ref 189) rfl (fun _ => rfl) ?_
  refine T_call 4 212 [.ref 189] [] rfl (fun _ => rfl) rfl (c_next w (mO m [(7, (m.1 7)), (8, (m.1 8)), (9, (m.1 9)), (10, (m.1 10)), (11, (m.1 11)), (12, (m.1 12)), (13, (m.1 13)), (20, (m.1 20))] [(14, (m.2 14)), (15, (m.2 15)), (16, (m.2 16)), (17, (m.2 17)), (34, (m.2 34))]) c N D (by omega) (Ty_mO hT rfl rfl ⟨f7, f8, f9, f10, f11, f12, f13, f20, trivial⟩ ⟨(hT.2.1 14), (hT.2.1 15), (hT.2.1 16), (hT.2.1 17), (hT.2.1 34), trivial⟩) (show (m.1 10) = 0 → (m.1 8) + (m.1 9) ≤ (m.1 6) by first | omega | (intro h9; have h8 := hLx h9; omega))) (fun r1 k2 => ?_)
  obtain ⟨y3, y5, y7, y9, y11, y13, g4, g6, g8, g10, g12, g14, h15, h16, h17, h18, rfl⟩ := k2
  replace h15 : LxP y3 y5 y7 (m.1 6) y9 := h15
  replace h16 : y9 = 0 → (m.1 10) = 0 := h16
  replace h17 : (m.1 8) ≤ y5 := h17
  replace h18 : y9 = 0 → (m.1 8) + (m.1 9) ≤ y5 := h18
  have hLx := h15
  refine ⟨_, _, rfl, ?_⟩
  refine T_nf (st' := []) (l' := [(7, y3), (8, y5), (9, y7), (10, y9), (11, y11), (12, y13), (13, (m.1 13)), (20, (m.1 20))]) (a' := [(14, (m.2 14)), (15, (m.2 15)), (16, (m.2 16)), (17, (m.2 17)), (34, (m.2 34))]) rfl rfl rfl rfl rfl ?_
  have u19 : (m.1 8) ≤ y5 := by omega
  have u20 : y9 = 0 → (m.1 10) = 0 := by omega
  have u21 : y9 = 0 → (m.1 8) + (m.1 9) ≤ y5 := by omega
  refine T_ld 5 (.ref 189) rfl (fun _ => rfl) ?_
  refine T_ld 6 (.int (i32 2)) rfl (fun _ => rfl) ?_
  refine T_gf 10 (.int (i32 (m.1 20))) rfl rfl rfl rfl rfl rfl ?_
  refine T_ld 12 (.int (i32 12)) rfl (fun _ => rfl) ?_
  have hn : y9 = 0 → (m.1 13) ≤ 119 := fun h => by
    have hh := (pPN (by omega)).1
    omega
  refine T_call 15 225 [.ref 189, .int (i32 2), .int (i32 (m.1 20)), .int (i32 12)] [] rfl (fun _ => rfl) rfl (c_newName w (mO m [(7, y3), (8, y5), (9, y7), (10, y9), (11, y11), (12, y13), (13, (m.1 13)), (20, (m.1 20))] [(14, (m.2 14)), (15, (m.2 15)), (16, (m.2 16)), (17, (m.2 17)), (34, (m.2 34))]) c N D (by omega) (Ty_mO hT rfl rfl ⟨g4, g6, g8, g10, g12, g14, f13, f20, trivial⟩ ⟨(hT.2.1 14), (hT.2.1 15), (hT.2.1 16), (hT.2.1 17), (hT.2.1 34), trivial⟩) 2 (m.1 20) 12 ⟨by decide, by decide⟩ (r32 (by omega) (by omega)) ⟨by decide, by decide⟩ (show LxP y3 y5 y7 (m.1 6) y9 by first | exact hLx | (intro h9; exfalso; omega) | (intro h9; have h8 := hLx (by omega); omega)) (show ∀ k, (m.2 14) k + (m.2 15) k ≤ 4000 by first | exact p1 | exact hNM) (show y9 = 0 → (m.1 13) ≤ 119 by omega) (show 1 ≤ 2 ∧ 2 ≤ 7 by omega) (show 0 ≤ (m.1 20) ∧ ((m.1 20) ≠ 12 → (m.1 20) ≤ 15) by omega)) (fun r22 k23 => ?_)
  obtain ⟨y24, y26, y28, y30, y32, y34, y36, F38, F40, F42, F44, nn, g25, g27, g29, g31, g33, g35, g37, G39, G41, G43, G45, g46, h47, h48, h49, h50, h51, h52, h53, rfl⟩ := k23
  replace h47 : LxP y24 y26 y28 (m.1 6) y30 := h47
  replace h48 : y5 ≤ y26 := h48
  replace h49 : y30 = 0 → y9 = 0 ∧ y5 + y7 ≤ y26 := h49
  replace h50 : y30 = 0 → nn = 1 ∧ y3 = 1 := h50
  replace h51 : nn = 1 → (m.1 20) ≠ 12 := h51
  replace h52 : ∀ k, F38 k + F40 k ≤ 4000 := h52
  replace h53 : (nn = 1 ∧ y9 = 0 ∧ y36 = (m.1 13) + 1 ∧ F38 = upI (m.2 14) (m.1 13) y5 ∧ F40 = upI (m.2 15) (m.1 13) y7 ∧ F42 = upI (m.2 16) (m.1 13) 2 ∧ F44 = upI (m.2 17) (m.1 13) (m.1 20)) ∨ (nn = 0 ∧ 0 < y30 ∧ y36 = (m.1 13) ∧ F38 = (m.2 14) ∧ F40 = (m.2 15) ∧ F42 = (m.2 16) ∧ F44 = (m.2 17)) := h53
  have hLx := h47
  have hNM := h52
  have hN := h53
  refine ⟨_, _, rfl, ?_⟩
  refine T_nf (st' := [.int (i32 nn)]) (l' := [(7, y24), (8, y26), (9, y28), (10, y30), (11, y32), (12, y34), (13, y36), (20, (m.1 20))]) (a' := [(14, F38), (15, F40), (16, F42), (17, F44), (34, (m.2 34))]) rfl rfl rfl rfl rfl ?_
  obtain ⟨g46a, g46b⟩ := g46
  have u54 : (m.1 8) ≤ y26 := by omega
  have u55 : y30 = 0 → (m.1 10) = 0 := by omega
  have u56 : y30 = 0 → (m.1 8) + (m.1 9) ≤ y26 := by omega
  clear u19 u20 u21 h15 h16 h17 h18 g4 g6 g8 g10 g12 g14
  refine T_if 19 18 rfl rfl rfl (r32 (by omega) (by omega)) (fun (h57 : nn ≠ 0) => ?_) (fun (h57 : ¬ (nn ≠ 0)) => ?_)
  · skip
    have hlt : (m.1 20) ≤ 11 := by omega
    obtain ⟨hNa, hNb, hNc⟩ : y36 = (m.1 13) + 1 ∧ F42 = upI (m.2 16) (m.1 13) 2 ∧ F44 = upI (m.2 17) (m.1 13) (m.1 20) := by
      rcases hN with ⟨e1, e2, e3, e4, e5, e6, e7⟩ | ⟨e1, e2⟩
      · exact ⟨e3, e6, e7⟩
      · omega
    refine T_ld 20 (.ref 189) rfl (fun _ => rfl) ?_
    refine T_ld 22 (.int (i32 58)) rfl (fun _ => rfl) ?_
    refine T_call 25 232 [.ref 189, .int (i32 58)] [] rfl (fun _ => rfl) rfl (c_need w (mO m [(7, y24), (8, y26), (9, y28), (10, y30), (11, y32), (12, y34), (13, y36), (20, (m.1 20))] [(14, F38), (15, F40), (16, F42), (17, F44), (34, (m.2 34))]) c N D (by omega) (Ty_mO hT rfl rfl ⟨g25, g27, g29, g31, g33, g35, g37, f20, trivial⟩ ⟨G39, G41, G43, G45, (hT.2.1 34), trivial⟩) 58 ⟨by decide, by decide⟩ (show 1 ≤ 58 by omega) (show LxP y24 y26 y28 (m.1 6) y30 by first | exact hLx | (intro h9; exfalso; omega) | (intro h9; have h8 := hLx (by omega); omega))) (fun r58 k59 => ?_)
    obtain ⟨y60, y62, y64, y66, y68, y70, g61, g63, g65, g67, g69, g71, h72, h73, h74, h75, rfl⟩ := k59
    replace h72 : LxP y60 y62 y64 (m.1 6) y66 := h72
    replace h73 : y66 = 0 → y30 = 0 ∧ y24 = 58 := h73
    replace h74 : y26 ≤ y62 := h74
    replace h75 : y66 = 0 → y26 + y28 ≤ y62 := h75
    have hLx := h72
    refine ⟨_, _, rfl, ?_⟩
    refine T_nf (st' := []) (l' := [(7, y60), (8, y62), (9, y64), (10, y66), (11, y68), (12, y70), (13, y36), (20, (m.1 20))]) (a' := [(14, F38), (15, F40), (16, F42), (17, F44), (34, (m.2 34))]) rfl rfl rfl rfl rfl ?_
    have u76 : (m.1 8) ≤ y62 := by omega
    have u77 : y66 = 0 → (m.1 10) = 0 := by omega
    have u78 : y66 = 0 → (m.1 8) + (m.1 9) ≤ y62 := by omega
    clear u54 u55 u56 h47 h48 h49 h50 h51 h53 g25 g27 g29 g31 g33 g35 g46a g46b h57
    refine T_ld 26 (.ref 189) rfl (fun _ => rfl) ?_
    refine T_ld 27 (.int (i32 1)) rfl (fun _ => rfl) ?_
    have hOL : y66 = 0 → ∀ k, 0 ≤ k → k < y36 → F42 k = 1 → 0 ≤ F44 k ∧ F44 k < (m.1 19) := fun h => by
      have hP := pPN (by omega)
      rw [hNa, hNb, hNc]
      intro k h1 h2 h3
      have h4 := PNu_1 hP (v := (m.1 20)) (by omega) k h1 h2 h3
      omega
    refine T_call 30 236 [.ref 189, .int (i32 1)] [] rfl (fun _ => rfl) rfl (c_oldName w (mO m [(7, y60), (8, y62), (9, y64), (10, y66), (11, y68), (12, y70), (13, y36), (20, (m.1 20))] [(14, F38), (15, F40), (16, F42), (17, F44), (34, (m.2 34))]) c N D (by omega) (Ty_mO hT rfl rfl ⟨g61, g63, g65, g67, g69, g71, g37, f20, trivial⟩ ⟨G39, G41, G43, G45, (hT.2.1 34), trivial⟩) 1 (m.1 19) ⟨by decide, by decide⟩ (show LxP y60 y62 y64 (m.1 6) y66 by first | exact hLx | (intro h9; exfalso; omega) | (intro h9; have h8 := hLx (by omega); omega)) (show ∀ k, F38 k + F40 k ≤ 4000 by first | exact p1 | exact hNM) (show 1 ≤ 1 ∧ 1 ≤ 7 ∧ 1 ≠ 5 by omega) (show (m.1 19) ≤ 16 by omega) (show y66 = 0 → ∀ k, 0 ≤ k → k < y36 → F42 k = 1 → 0 ≤ F44 k ∧ F44 k < (m.1 19) by first | exact hOL | (intro h; exfalso; omega)) (show 1 = 3 → 3 ≤ (m.1 19) by omega)) (fun r79 k80 => ?_)
    obtain ⟨y81, y83, y85, y87, y89, y91, oo, g82, g84, g86, g88, g90, g92, g93, h94, h95, h96, h97, h98, h99, rfl⟩ := k80
    replace h94 : LxP y81 y83 y85 (m.1 6) y87 := h94
    replace h95 : y62 ≤ y83 := h95
    replace h96 : y87 = 0 → y66 = 0 ∧ y62 + y64 ≤ y83 := h96
    replace h97 : y87 = 0 → y60 = 1 := h97
    replace h98 : 0 ≤ oo ∧ (oo < (m.1 19) ∨ oo = 0) := h98
    replace h99 : y87 = 0 → oo < (m.1 19) := h99
    have hLx := h94
    refine ⟨_, _, rfl, ?_⟩
    refine T_nf (st' := [.int (i32 oo)]) (l' := [(7, y81), (8, y83), (9, y85), (10, y87), (11, y89), (12, y91), (13, y36), (20, (m.1 20))]) (a' := [(14, F38), (15, F40), (16, F42), (17, F44), (34, (m.2 34))]) rfl rfl rfl rfl rfl ?_
    obtain ⟨g93a, g93b⟩ := g93
    have u100 : (m.1 8) ≤ y83 := by omega
    have u101 : y87 = 0 → (m.1 10) = 0 := by omega
    have u102 : y87 = 0 → (m.1 8) + (m.1 9) ≤ y83 := by omega
    clear u76 u77 u78 h72 h73 h74 h75 g61 g63 g65 g67 g69 g71
    refine T_sto 31 [(1, .int (i32 oo)), (0, .ref 189)] rfl (fun _ => rfl) ?_
    refine T_ld 32 (.ref 189) rfl (fun _ => rfl) ?_
    refine T_ld 34 (.int (i32 59)) rfl (fun _ => rfl) ?_
    refine T_call 37 232 [.ref 189, .int (i32 59)] [] rfl (fun _ => rfl) rfl (c_need w (mO m [(7, y81), (8, y83), (9, y85), (10, y87), (11, y89), (12, y91), (13, y36), (20, (m.1 20))] [(14, F38), (15, F40), (16, F42), (17, F44), (34, (m.2 34))]) c N D (by omega) (Ty_mO hT rfl rfl ⟨g82, g84, g86, g88, g90, g92, g37, f20, trivial⟩ ⟨G39, G41, G43, G45, (hT.2.1 34), trivial⟩) 59 ⟨by decide, by decide⟩ (show 1 ≤ 59 by omega) (show LxP y81 y83 y85 (m.1 6) y87 by first | exact hLx | (intro h9; exfalso; omega) | (intro h9; have h8 := hLx (by omega); omega))) (fun r103 k104 => ?_)
    obtain ⟨y105, y107, y109, y111, y113, y115, g106, g108, g110, g112, g114, g116, h117, h118, h119, h120, rfl⟩ := k104
    replace h117 : LxP y105 y107 y109 (m.1 6) y111 := h117
    replace h118 : y111 = 0 → y87 = 0 ∧ y81 = 59 := h118
    replace h119 : y83 ≤ y107 := h119
    replace h120 : y111 = 0 → y83 + y85 ≤ y107 := h120
    have hLx := h117
    refine ⟨_, _, rfl, ?_⟩
    refine T_nf (st' := []) (l' := [(7, y105), (8, y107), (9, y109), (10, y111), (11, y113), (12, y115), (13, y36), (20, (m.1 20))]) (a' := [(14, F38), (15, F40), (16, F42), (17, F44), (34, (m.2 34))]) rfl rfl rfl rfl rfl ?_
    have u121 : (m.1 8) ≤ y107 := by omega
    have u122 : y111 = 0 → (m.1 10) = 0 := by omega
    have u123 : y111 = 0 → (m.1 8) + (m.1 9) ≤ y107 := by omega
    have u124 : y111 = 0 → oo < (m.1 19) := by omega
    clear u100 u101 u102 h94 h95 h96 h97 h99 g82 g84 g86 g88 g90 g92
    refine T_gf 41 (.ref 204) rfl rfl rfl rfl rfl rfl ?_
    refine T_gf 45 (.int (i32 (m.1 20))) rfl rfl rfl rfl rfl rfl ?_
    refine T_ld 46 (.int (i32 oo)) rfl (fun _ => rfl) ?_
    have G125 : ∀ j, 0 ≤ (upI (m.2 34) (m.1 20) oo) j ∧ (upI (m.2 34) (m.1 20) oo) j ≤ 11 := upI_rg (hT.2.1 34) ⟨by omega, by omega⟩
    refine T_iast (a' := [(14, F38), (15, F40), (16, F42), (17, F44), (34, upI (m.2 34) (m.1 20) oo)]) 47 34 (m.2 34) rfl rfl rfl (by omega) (show (m.1 20) < (12 : Int) by omega) rfl rfl ?_
    refine T_ld 48 (.ref 189) rfl (fun _ => rfl) ?_
    refine T_ld 49 (.ref 189) rfl (fun _ => rfl) ?_
    refine T_gf1 52 (.int (i32 (m.1 20))) rfl rfl rfl rfl ?_
    refine T_ld 53 (.int (i32 1)) rfl (fun _ => rfl) ?_
    refine T_iadd 54 rfl rfl ?_
    refine T_pf (l' := [(7, y105), (8, y107), (9, y109), (10, y111), (11, y113), (12, y115), (13, y36), (20, (m.1 20) + 1)]) 57 ((m.1 20) + 1) rfl rfl rfl rfl rfl rfl ?_
    have g126 : 0 ≤ (m.1 20) + 1 ∧ (m.1 20) + 1 ≤ 12 := ⟨by omega, by omega⟩
    refine T_ret rfl (fun _ => rfl) ?_
    exact ⟨y105, y107, y109, y111, y113, y115, y36, (m.1 20) + 1, F38, F40, F42, F44, upI (m.2 34) (m.1 20) oo, g106, g108, g110, g112, g114, g116, g37, g126, G39, G41, G43, G45, G125, (by first | exact hLx | (intro h9; first | omega | (have h8 := hLx (by omega); omega))), (by omega), (by omega), (by first | assumption | exact hNM), (by first | exact pPN | (intro h; exfalso; omega) | (intro h; have hP := pPN (by omega); rw [hNa, hNb, hNc]; exact PN_2 hP (by omega))), (by first | exact fun _ => pIN | (intro h; exfalso; omega) | (intro h k h1 h2; have := pIN k h1; unfold upI; split <;> omega)), rfl⟩
  · skip
    refine T_ret rfl (fun _ => rfl) ?_
    exact ⟨y24, y26, y28, y30, y32, y34, y36, (m.1 20), F38, F40, F42, F44, (m.2 34), g25, g27, g29, g31, g33, g35, g37, f20, G39, G41, G43, G45, (hT.2.1 34), (by first | exact hLx | (intro h9; first | omega | (have h8 := hLx (by omega); omega))), (by omega), (by omega), (by first | assumption | exact hNM), (by first | exact pPN | (intro h; exfalso; omega) | (intro h; have hP := pPN (by omega); rw [hNa, hNb, hNc]; exact PN_2 hP (by omega))), (by first | exact fun _ => pIN | (intro h; exfalso; omega) | (intro h k h1 h2; have := pIN k h1; unfold upI; split <;> omega)), rfl⟩
def Q_takeHeader (m : mR) (c : Nat → Option am_C) (N : Nat) : ag_Re af_T → Prop := fun R => ∃ (y7 : Int) (y8 : Int) (y9 : Int) (y10 : Int) (y11 : Int) (y12 : Int) (y13 : Int) (y19 : Int) (F14 : Int → Int) (F15 : Int → Int) (F16 : Int → Int) (F17 : Int → Int) (F29 : Int → Int) (F30 : Int → Int) (F31 : Int → Int) (F32 : Int → Int) (F33 : Int → Int), (0 ≤ y7 ∧ y7 ≤ 330) ∧ (0 ≤ y8 ∧ y8 ≤ 4000) ∧ (0 ≤ y9 ∧ y9 ≤ 4000) ∧ (0 ≤ y10 ∧ y10 ≤ 8) ∧ ((-1) ≤ y11 ∧ y11 ≤ 4000) ∧ ((-9223372036854775808) ≤ y12 ∧ y12 ≤ 9223372036854775807) ∧ (0 ≤ y13 ∧ y13 ≤ 120) ∧ (0 ≤ y19 ∧ y19 ≤ 12) ∧ (∀ j, 0 ≤ F14 j ∧ F14 j ≤ 4000) ∧ (∀ j, 0 ≤ F15 j ∧ F15 j ≤ 4000) ∧ (∀ j, 0 ≤ F16 j ∧ F16 j ≤ 7) ∧ (∀ j, 0 ≤ F17 j ∧ F17 j ≤ 15) ∧ (∀ j, 0 ≤ F29 j ∧ F29 j ≤ 16) ∧ (∀ j, 0 ≤ F30 j ∧ F30 j ≤ 1024) ∧ (∀ j, 0 ≤ F31 j ∧ F31 j ≤ 4000) ∧ (∀ j, 0 ≤ F32 j ∧ F32 j ≤ 4000) ∧ (∀ j, 0 ≤ F33 j ∧ F33 j ≤ 64) ∧ (LxP y7 y8 y9 (m.1 6) y10) ∧ ((m.1 8) ≤ y8) ∧ (y10 = 0 → (m.1 10) = 0 ∧ (m.1 8) + (m.1 9) ≤ y8) ∧ (∀ k, F14 k + F15 k ≤ 4000) ∧ (y10 = 0 → PN y13 y19 (m.1 20) (m.1 21) (m.1 22) (m.1 23) (m.1 25) (m.1 26) F16 F17) ∧ (HBi F29 F30 F33) ∧ (∀ k, F31 k + F32 k ≤ 4000) ∧ (y10 = 0 → ∀ g, 0 ≤ g → g < y19 → F30 g ≤ 512) ∧ ((m.1 19) ≤ y19) ∧ R = (.inl (none), (mhp (mO m [(7, y7), (8, y8), (9, y9), (10, y10), (11, y11), (12, y12), (13, y13), (19, y19)] [(14, F14), (15, F15), (16, F16), (17, F17), (29, F29), (30, F30), (31, F31), (32, F32), (33, F33)]) c, N), 0, 0)
set_option maxHeartbeats 8000000 in
theorem c_takeHeader (w : wX) (m : mR) (c : Nat → Option am_C) (N D : Nat) (hD : 8 ≤ D) (hT : Ty m) (hLx0 : LxP (m.1 7) (m.1 8) (m.1 9) (m.1 6) (m.1 10)) (p1 : ∀ k, (m.2 14) k + (m.2 15) k ≤ 4000) (p2 : (m.1 7) ≠ 0) (pPN : (m.1 10) = 0 → PN (m.1 13) (m.1 19) (m.1 20) (m.1 21) (m.1 22) (m.1 23) (m.1 25) (m.1 26) (m.2 16) (m.2 17)) (hHB0 : HBi (m.2 29) (m.2 30) (m.2 33)) (hFA0 : ∀ k, (m.2 31) k + (m.2 32) k ≤ 4000) (pHO : (m.1 10) = 0 → ∀ g, 0 ≤ g → g < (m.1 19) → (m.2 30) g ≤ 512) : TC w D 224 [.ref 189] (mhp m c, N) (Q_takeHeader m c N) := by
  obtain ⟨D, rfl⟩ : ∃ k, D = k + 1 := ⟨D - 1, by omega⟩
  have hLx := hLx0
  have hHB := hHB0
  have hFA := hFA0
  have f7 : 0 ≤ m.1 7 ∧ m.1 7 ≤ 330 := hT.1 7
  have f8 : 0 ≤ m.1 8 ∧ m.1 8 ≤ 4000 := hT.1 8
  have f9 : 0 ≤ m.1 9 ∧ m.1 9 ≤ 4000 := hT.1 9
  have f10 : 0 ≤ m.1 10 ∧ m.1 10 ≤ 8 := hT.1 10
  have f11 : (-1) ≤ m.1 11 ∧ m.1 11 ≤ 4000 := hT.1 11
  have f12 : (-9223372036854775808) ≤ m.1 12 ∧ m.1 12 ≤ 9223372036854775807 := hT.1 12
  have f13 : 0 ≤ m.1 13 ∧ m.1 13 ≤ 120 := hT.1 13
  have f19 : 0 ≤ m.1 19 ∧ m.1 19 ≤ 12 := hT.1 19
  have f25 : 0 ≤ m.1 25 ∧ m.1 25 ≤ 16 := hT.1 25
  have f22 : 0 ≤ m.1 22 ∧ m.1 22 ≤ 8 := hT.1 22
  have f20 : 0 ≤ m.1 20 ∧ m.1 20 ≤ 12 := hT.1 20
  have f21 : 0 ≤ m.1 21 ∧ m.1 21 ≤ 16 := hT.1 21
  have f6 : 0 ≤ m.1 6 ∧ m.1 6 ≤ 4000 := hT.1 6
  have f23 : 0 ≤ m.1 23 ∧ m.1 23 ≤ 16 := hT.1 23
  have f26 : 0 ≤ m.1 26 ∧ m.1 26 ≤ 8 := hT.1 26
  refine Tc_of rfl ?_
  show TT w D pm_224 (0, [(0, .ref 189)], [], (mhp m c, N), 0, 0) (Q_takeHeader m c N)
  rw [show (mhp m c, N) = (mhp (mO m [(7, (m.1 7)), (8, (m.1 8)), (9, (m.1 9)), (10, (m.1 10)), (11, (m.1 11)), (12, (m.1 12)), (13, (m.1 13)), (19, (m.1 19))] [(14, (m.2 14)), (15, (m.2 15)), (16, (m.2 16)), (17, (m.2 17)), (29, (m.2 29)), (30, (m.2 30)), (31, (m.2 31)), (32, (m.2 32)), (33, (m.2 33))]) c, N) from congrArg (fun M => (mhp M c, N)) (mO_pad m [7, 8, 9, 10, 11, 12, 13, 19] [14, 15, 16, 17, 29, 30, 31, 32, 33])]
  refine T_ld 1 (.ref 189) rfl (fun _ => rfl) ?_
  refine T_call 4 212 [.ref 189] [] rfl (fun _ => rfl) rfl (c_next w (mO m [(7, (m.1 7)), (8, (m.1 8)), (9, (m.1 9)), (10, (m.1 10)), (11, (m.1 11)), (12, (m.1 12)), (13, (m.1 13)), (19, (m.1 19))] [(14, (m.2 14)), (15, (m.2 15)), (16, (m.2 16)), (17, (m.2 17)), (29, (m.2 29)), (30, (m.2 30)), (31, (m.2 31)), (32, (m.2 32)), (33, (m.2 33))]) c N D (by omega) (Ty_mO hT rfl rfl ⟨f7, f8, f9, f10, f11, f12, f13, f19, trivial⟩ ⟨(hT.2.1 14), (hT.2.1 15), (hT.2.1 16), (hT.2.1 17), (hT.2.1 29), (hT.2.1 30), (hT.2.1 31), (hT.2.1 32), (hT.2.1 33), trivial⟩) (show (m.1 10) = 0 → (m.1 8) + (m.1 9) ≤ (m.1 6) by first | omega | (intro h9; have h8 := hLx h9; omega))) (fun r1 k2 => ?_)
  obtain ⟨y3, y5, y7, y9, y11, y13, g4, g6, g8, g10, g12, g14, h15, h16, h17, h18, rfl⟩ := k2
  replace h15 : LxP y3 y5 y7 (m.1 6) y9 := h15
  replace h16 : y9 = 0 → (m.1 10) = 0 := h16
  replace h17 : (m.1 8) ≤ y5 := h17
  replace h18 : y9 = 0 → (m.1 8) + (m.1 9) ≤ y5 := h18
  have hLx := h15
  refine ⟨_, _, rfl, ?_⟩
  refine T_nf (st' := []) (l' := [(7, y3), (8, y5), (9, y7), (10, y9), (11, y11), (12, y13), (13, (m.1 13)), (19, (m.1 19))]) (a' := [(14, (m.2 14)), (15, (m.2 15)), (16, (m.2 16)), (17, (m.2 17)), (29, (m.2 29)), (30, (m.2 30)), (31, (m.2 31)), (32, (m.2 32)), (33, (m.2 33))]) rfl rfl rfl rfl rfl ?_
  have u19 : (m.1 8) ≤ y5 := by omega
  have u20 : y9 = 0 → (m.1 10) = 0 := by omega
  have u21 : y9 = 0 → (m.1 10) = 0 ∧ (m.1 8) + (m.1 9) ≤ y5 := by omega
  refine T_gf 8 (.int (i32 y5)) rfl rfl rfl rfl rfl rfl ?_
  refine T_sto 9 [(1, .int (i32 y5)), (0, .ref 189)] rfl (fun _ => rfl) ?_
  refine T_ld 10 (.ref 189) rfl (fun _ => rfl) ?_
  refine T_ld 11 (.int (i32 1)) rfl (fun _ => rfl) ?_
  refine T_gf 15 (.int (i32 (m.1 19))) rfl rfl rfl rfl rfl rfl ?_
  refine T_ld 17 (.int (i32 12)) rfl (fun _ => rfl) ?_
  have hn : y9 = 0 → (m.1 13) ≤ 119 := fun h => by
    have hh := (pPN (by omega)).1
    omega
  refine T_call 20 225 [.ref 189, .int (i32 1), .int (i32 (m.1 19)), .int (i32 12)] [] rfl (fun _ => rfl) rfl (c_newName w (mO m [(7, y3), (8, y5), (9, y7), (10, y9), (11, y11), (12, y13), (13, (m.1 13)), (19, (m.1 19))] [(14, (m.2 14)), (15, (m.2 15)), (16, (m.2 16)), (17, (m.2 17)), (29, (m.2 29)), (30, (m.2 30)), (31, (m.2 31)), (32, (m.2 32)), (33, (m.2 33))]) c N D (by omega) (Ty_mO hT rfl rfl ⟨g4, g6, g8, g10, g12, g14, f13, f19, trivial⟩ ⟨(hT.2.1 14), (hT.2.1 15), (hT.2.1 16), (hT.2.1 17), (hT.2.1 29), (hT.2.1 30), (hT.2.1 31), (hT.2.1 32), (hT.2.1 33), trivial⟩) 1 (m.1 19) 12 ⟨by decide, by decide⟩ (r32 (by omega) (by omega)) ⟨by decide, by decide⟩ (show LxP y3 y5 y7 (m.1 6) y9 by first | exact hLx | (intro h9; exfalso; omega) | (intro h9; have h8 := hLx (by omega); omega)) (show ∀ k, (m.2 14) k + (m.2 15) k ≤ 4000 by first | exact p1 | exact hNM) (show y9 = 0 → (m.1 13) ≤ 119 by omega) (show 1 ≤ 1 ∧ 1 ≤ 7 by omega) (show 0 ≤ (m.1 19) ∧ ((m.1 19) ≠ 12 → (m.1 19) ≤ 15) by omega)) (fun r22 k23 => ?_)
  obtain ⟨y24, y26, y28, y30, y32, y34, y36, F38, F40, F42, F44, nn, g25, g27, g29, g31, g33, g35, g37, G39, G41, G43, G45, g46, h47, h48, h49, h50, h51, h52, h53, rfl⟩ := k23
  replace h47 : LxP y24 y26 y28 (m.1 6) y30 := h47
  replace h48 : y5 ≤ y26 := h48
  replace h49 : y30 = 0 → y9 = 0 ∧ y5 + y7 ≤ y26 := h49
  replace h50 : y30 = 0 → nn = 1 ∧ y3 = 1 := h50
  replace h51 : nn = 1 → (m.1 19) ≠ 12 := h51
  replace h52 : ∀ k, F38 k + F40 k ≤ 4000 := h52
  replace h53 : (nn = 1 ∧ y9 = 0 ∧ y36 = (m.1 13) + 1 ∧ F38 = upI (m.2 14) (m.1 13) y5 ∧ F40 = upI (m.2 15) (m.1 13) y7 ∧ F42 = upI (m.2 16) (m.1 13) 1 ∧ F44 = upI (m.2 17) (m.1 13) (m.1 19)) ∨ (nn = 0 ∧ 0 < y30 ∧ y36 = (m.1 13) ∧ F38 = (m.2 14) ∧ F40 = (m.2 15) ∧ F42 = (m.2 16) ∧ F44 = (m.2 17)) := h53
  have hLx := h47
  have hNM := h52
  have hN := h53
  refine ⟨_, _, rfl, ?_⟩
  refine T_nf (st' := [.int (i32 nn)]) (l' := [(7, y24), (8, y26), (9, y28), (10, y30), (11, y32), (12, y34), (13, y36), (19, (m.1 19))]) (a' := [(14, F38), (15, F40), (16, F42), (17, F44), (29, (m.2 29)), (30, (m.2 30)), (31, (m.2 31)), (32, (m.2 32)), (33, (m.2 33))]) rfl rfl rfl rfl rfl ?_
  obtain ⟨g46a, g46b⟩ := g46
  have u54 : (m.1 8) ≤ y26 := by omega
  have u55 : y30 = 0 → (m.1 10) = 0 := by omega
  have u56 : y30 = 0 → (m.1 10) = 0 ∧ (m.1 8) + (m.1 9) ≤ y26 := by omega
  clear u20 u21 h15 h16 h18 g4 g8 g10 g12 g14
  refine T_if 24 23 rfl rfl rfl (r32 (by omega) (by omega)) (fun (h57 : nn ≠ 0) => ?_) (fun (h57 : ¬ (nn ≠ 0)) => ?_)
  · skip
    have hlt : (m.1 19) ≤ 11 := by omega
    obtain ⟨hNa, hNb, hNc⟩ : y36 = (m.1 13) + 1 ∧ F42 = upI (m.2 16) (m.1 13) 1 ∧ F44 = upI (m.2 17) (m.1 13) (m.1 19) := by
      rcases hN with ⟨e1, e2, e3, e4, e5, e6, e7⟩ | ⟨e1, e2⟩
      · exact ⟨e3, e6, e7⟩
      · omega
    refine T_gf 28 (.int (i32 (m.1 19))) rfl rfl rfl rfl rfl rfl ?_
    refine T_sto 29 [(2, .int (i32 (m.1 19))), (1, .int (i32 y5)), (0, .ref 189)] rfl (fun _ => rfl) ?_
    refine T_ld 30 (.ref 189) rfl (fun _ => rfl) ?_
    refine T_ld 31 (.ref 189) rfl (fun _ => rfl) ?_
    refine T_gf1 34 (.int (i32 (m.1 19))) rfl rfl rfl rfl ?_
    refine T_ld 35 (.int (i32 1)) rfl (fun _ => rfl) ?_
    refine T_iadd 36 rfl rfl ?_
    refine T_pf (l' := [(7, y24), (8, y26), (9, y28), (10, y30), (11, y32), (12, y34), (13, y36), (19, (m.1 19) + 1)]) 39 ((m.1 19) + 1) rfl rfl rfl rfl rfl rfl ?_
    have g58 : 0 ≤ (m.1 19) + 1 ∧ (m.1 19) + 1 ≤ 12 := ⟨by omega, by omega⟩
    refine T_gf 43 (.ref 199) rfl rfl rfl rfl rfl rfl ?_
    refine T_ld 44 (.int (i32 (m.1 19))) rfl (fun _ => rfl) ?_
    refine T_ld 45 (.int (i32 0)) rfl (fun _ => rfl) ?_
    have G59 : ∀ j, 0 ≤ (upI (m.2 29) (m.1 19) 0) j ∧ (upI (m.2 29) (m.1 19) 0) j ≤ 16 := upI_rg (hT.2.1 29) ⟨by omega, by omega⟩
    refine T_iast (a' := [(14, F38), (15, F40), (16, F42), (17, F44), (29, upI (m.2 29) (m.1 19) 0), (30, (m.2 30)), (31, (m.2 31)), (32, (m.2 32)), (33, (m.2 33))]) 46 29 (m.2 29) rfl rfl rfl (by omega) (show (m.1 19) < (12 : Int) by omega) rfl rfl ?_
    refine T_gf 50 (.ref 200) rfl rfl rfl rfl rfl rfl ?_
    refine T_ld 51 (.int (i32 (m.1 19))) rfl (fun _ => rfl) ?_
    refine T_ld 52 (.int (i32 0)) rfl (fun _ => rfl) ?_
    have G60 : ∀ j, 0 ≤ (upI (m.2 30) (m.1 19) 0) j ∧ (upI (m.2 30) (m.1 19) 0) j ≤ 1024 := upI_rg (hT.2.1 30) ⟨by omega, by omega⟩
    refine T_iast (a' := [(14, F38), (15, F40), (16, F42), (17, F44), (29, upI (m.2 29) (m.1 19) 0), (30, upI (m.2 30) (m.1 19) 0), (31, (m.2 31)), (32, (m.2 32)), (33, (m.2 33))]) 53 30 (m.2 30) rfl rfl rfl (by omega) (show (m.1 19) < (12 : Int) by omega) rfl rfl ?_
    have hHB := HBi_new (h := (m.1 19)) hHB0
    have hFR : ∀ g, g ≠ (m.1 19) → (upI (m.2 30) (m.1 19) 0) g = (m.2 30) g := fun g hg => upI_n hg
    refine T_ld 54 (.ref 189) rfl (fun _ => rfl) ?_
    refine T_ld 56 (.int (i32 123)) rfl (fun _ => rfl) ?_
    refine T_call 59 232 [.ref 189, .int (i32 123)] [] rfl (fun _ => rfl) rfl (c_need w (mO m [(7, y24), (8, y26), (9, y28), (10, y30), (11, y32), (12, y34), (13, y36), (19, (m.1 19) + 1)] [(14, F38), (15, F40), (16, F42), (17, F44), (29, upI (m.2 29) (m.1 19) 0), (30, upI (m.2 30) (m.1 19) 0), (31, (m.2 31)), (32, (m.2 32)), (33, (m.2 33))]) c N D (by omega) (Ty_mO hT rfl rfl ⟨g25, g27, g29, g31, g33, g35, g37, g58, trivial⟩ ⟨G39, G41, G43, G45, G59, G60, (hT.2.1 31), (hT.2.1 32), (hT.2.1 33), trivial⟩) 123 ⟨by decide, by decide⟩ (show 1 ≤ 123 by omega) (show LxP y24 y26 y28 (m.1 6) y30 by first | exact hLx | (intro h9; exfalso; omega) | (intro h9; have h8 := hLx (by omega); omega))) (fun r61 k62 => ?_)
    obtain ⟨y63, y65, y67, y69, y71, y73, g64, g66, g68, g70, g72, g74, h75, h76, h77, h78, rfl⟩ := k62
    replace h75 : LxP y63 y65 y67 (m.1 6) y69 := h75
    replace h76 : y69 = 0 → y30 = 0 ∧ y24 = 123 := h76
    replace h77 : y26 ≤ y65 := h77
    replace h78 : y69 = 0 → y26 + y28 ≤ y65 := h78
    have hLx := h75
    refine ⟨_, _, rfl, ?_⟩
    refine T_nf (st' := []) (l' := [(7, y63), (8, y65), (9, y67), (10, y69), (11, y71), (12, y73), (13, y36), (19, (m.1 19) + 1)]) (a' := [(14, F38), (15, F40), (16, F42), (17, F44), (29, upI (m.2 29) (m.1 19) 0), (30, upI (m.2 30) (m.1 19) 0), (31, (m.2 31)), (32, (m.2 32)), (33, (m.2 33))]) rfl rfl rfl rfl rfl ?_
    have u79 : (m.1 8) ≤ y65 := by omega
    have u80 : y69 = 0 → (m.1 10) = 0 := by omega
    have u81 : y69 = 0 → (m.1 10) = 0 ∧ (m.1 8) + (m.1 9) ≤ y65 := by omega
    clear u54 u55 u56 h47 h48 h49 h50 h51 h53 g25 g27 g29 g31 g33 g35 g46a g46b h57
    refine T_ld 60 (.int (i32 1)) rfl (fun _ => rfl) ?_
    refine T_sto 61 [(3, .int (i32 1)), (2, .int (i32 (m.1 19))), (1, .int (i32 y5)), (0, .ref 189)] rfl (fun _ => rfl) ?_
    have L61 : ∀ (n : Nat) (v82 : Int) (y83 : Int) (y84 : Int) (y85 : Int) (y86 : Int) (y87 : Int) (y88 : Int) (F89 : Int → Int) (F90 : Int → Int) (F91 : Int → Int) (F92 : Int → Int) (F93 : Int → Int), (R32 v82) → (0 ≤ y83 ∧ y83 ≤ 330) → (0 ≤ y84 ∧ y84 ≤ 4000) → (0 ≤ y85 ∧ y85 ≤ 4000) → (0 ≤ y86 ∧ y86 ≤ 8) → ((-1) ≤ y87 ∧ y87 ≤ 4000) → ((-9223372036854775808) ≤ y88 ∧ y88 ≤ 9223372036854775807) → (∀ j, 0 ≤ F89 j ∧ F89 j ≤ 16) → (∀ j, 0 ≤ F90 j ∧ F90 j ≤ 1024) → (∀ j, 0 ≤ F91 j ∧ F91 j ≤ 4000) → (∀ j, 0 ≤ F92 j ∧ F92 j ≤ 4000) → (∀ j, 0 ≤ F93 j ∧ F93 j ≤ 64) → (v82 = 0 ∨ v82 = 1) → (LxP y83 y84 y85 (m.1 6) y86) → (HBi F89 F90 F93) → (∀ k, F91 k + F92 k ≤ 4000) → (∀ g, g ≠ (m.1 19) → F90 g = (m.2 30) g) → ((m.1 8) ≤ y84) → (y86 = 0 → (m.1 10) = 0 ∧ (m.1 8) + (m.1 9) ≤ y84) → (y84 ≤ 4000) → 2 * (4001 - y84) + v82 < (n : Int) → TT w D pm_224 (61, [(0, .ref 189), (1, .int (i32 y5)), (2, .int (i32 (m.1 19))), (3, .int (i32 v82))], [], (mhp (mO m [(7, y83), (8, y84), (9, y85), (10, y86), (11, y87), (12, y88), (13, y36), (19, (m.1 19) + 1)] [(14, F38), (15, F40), (16, F42), (17, F44), (29, F89), (30, F90), (31, F91), (32, F92), (33, F93)]) c, N), 0, 0) (Q_takeHeader m c N) := by
      intro n
      induction n with
      | zero =>
        intro v82 y83 y84 y85 y86 y87 y88 F89 F90 F91 F92 F93 q94 q95 q96 q97 q98 q99 q100 q101 q102 q103 q104 q105 i106 i107 i108 i109 i110 i111 i112 i113 hmu
        obtain ⟨q94a, q94b⟩ := id q94
        have hLx := i107
        have hHB := i108
        have hFA := i109
        have hFR := i110
        exfalso
        omega
      | succ n ih =>
        intro v82 y83 y84 y85 y86 y87 y88 F89 F90 F91 F92 F93 q94 q95 q96 q97 q98 q99 q100 q101 q102 q103 q104 q105 i106 i107 i108 i109 i110 i111 i112 i113 hmu
        obtain ⟨q94a, q94b⟩ := id q94
        have hLx := i107
        have hHB := i108
        have hFA := i109
        have hFR := i110
        have ih114 := ih
        refine T_ld 62 (.int (i32 v82)) rfl (fun _ => rfl) ?_
        refine T_if 102 65 rfl rfl rfl (r32 (by omega) (by omega)) (fun (h115 : v82 = 0) => ?_) (fun (h115 : ¬ (v82 = 0)) => ?_)
        · skip
          have hq1 : (m.1 8) ≤ y84 := by omega
          refine T_gf 106 (.int (i32 y86)) rfl rfl rfl rfl rfl rfl ?_
          refine T_if 140 109 rfl rfl rfl (r32 (by omega) (by omega)) (fun (h116 : y86 ≠ 0) => ?_) (fun (h116 : ¬ (y86 ≠ 0)) => ?_)
          · skip
            have hob : y86 = 0 → F90 (m.1 19) ≤ 512 := by omega
            have hpr : y86 = 0 → (m.1 8) + (m.1 9) ≤ y84 := by omega
            refine T_ld 141 (.ref 189) rfl (fun _ => rfl) ?_
            refine T_ld 143 (.int (i32 125)) rfl (fun _ => rfl) ?_
            refine T_call 146 232 [.ref 189, .int (i32 125)] [] rfl (fun _ => rfl) rfl (c_need w (mO m [(7, y83), (8, y84), (9, y85), (10, y86), (11, y87), (12, y88), (13, y36), (19, (m.1 19) + 1)] [(14, F38), (15, F40), (16, F42), (17, F44), (29, F89), (30, F90), (31, F91), (32, F92), (33, F93)]) c N D (by omega) (Ty_mO hT rfl rfl ⟨q95, q96, q97, q98, q99, q100, g37, g58, trivial⟩ ⟨G39, G41, G43, G45, q101, q102, q103, q104, q105, trivial⟩) 125 ⟨by decide, by decide⟩ (show 1 ≤ 125 by omega) (show LxP y83 y84 y85 (m.1 6) y86 by first | exact hLx | (intro h9; exfalso; omega) | (intro h9; have h8 := hLx (by omega); omega))) (fun r117 k118 => ?_)
            obtain ⟨y119, y121, y123, y125, y127, y129, g120, g122, g124, g126, g128, g130, h131, h132, h133, h134, rfl⟩ := k118
            replace h131 : LxP y119 y121 y123 (m.1 6) y125 := h131
            replace h132 : y125 = 0 → y86 = 0 ∧ y83 = 125 := h132
            replace h133 : y84 ≤ y121 := h133
            replace h134 : y125 = 0 → y84 + y85 ≤ y121 := h134
            have hLx := h131
            refine ⟨_, _, rfl, ?_⟩
            refine T_nf (st' := []) (l' := [(7, y119), (8, y121), (9, y123), (10, y125), (11, y127), (12, y129), (13, y36), (19, (m.1 19) + 1)]) (a' := [(14, F38), (15, F40), (16, F42), (17, F44), (29, F89), (30, F90), (31, F91), (32, F92), (33, F93)]) rfl rfl rfl rfl rfl ?_
            have u135 : (m.1 8) ≤ y121 := by omega
            have u136 : y125 = 0 → (m.1 10) = 0 := by omega
            have u137 : y125 = 0 → (m.1 10) = 0 ∧ (m.1 8) + (m.1 9) ≤ y121 := by omega
            clear u79 u80 u81 h75 h76 h77 h78 g64 g66 g68 g70 g72 g74 q95 q96 q97 q98 q99 q100 i107 i111 i112 i113 h116
            refine T_ret rfl (fun _ => rfl) ?_
            exact ⟨y119, y121, y123, y125, y127, y129, y36, (m.1 19) + 1, F38, F40, F42, F44, F89, F90, F91, F92, F93, g120, g122, g124, g126, g128, g130, g37, g58, G39, G41, G43, G45, q101, q102, q103, q104, q105, (by first | exact hLx | (intro h9; first | omega | (have h8 := hLx (by omega); omega))), (by omega), (by omega), (by first | assumption | exact hNM), (by first | exact pPN | (intro h; exfalso; omega) | (intro h; have hP := pPN (by omega); rw [hNa, hNb, hNc]; exact PN_1 hP (by omega))), (by exact hHB), (by exact hFA), (by first | exact pHO | (intro h; exfalso; omega) | (intro h g g1 g2; by_cases e : g = (m.1 19); (rw [e]; exact hob (by omega)); (rw [hFR g e]; exact pHO (by omega) g g1 (by omega)))), (by omega), rfl⟩
          · skip
            refine T_gf 113 (.ref 200) rfl rfl rfl rfl rfl rfl ?_
            refine T_ld 114 (.int (i32 (m.1 19))) rfl (fun _ => rfl) ?_
            refine T_iald 115 30 F90 rfl rfl rfl (by omega) (show (m.1 19) < (12 : Int) by omega) rfl ?_
            have e138 : 0 ≤ F90 (m.1 19) ∧ F90 (m.1 19) ≤ 1024 := q102 (m.1 19)
            refine T_ld 117 (.int (i32 8)) rfl (fun _ => rfl) ?_
            refine T_irem 118 rfl rfl (by omega) (by omega) (by omega) (by omega) ?_
            refine T_if 133 121 rfl rfl rfl (r32 (by omega) (by omega)) (fun (h139 : (F90 (m.1 19)) % 8 ≠ 0) => ?_) (fun (h139 : ¬ ((F90 (m.1 19)) % 8 ≠ 0)) => ?_)
            · skip
              refine T_ld 134 (.ref 189) rfl (fun _ => rfl) ?_
              refine T_ld 136 (.int (i32 8)) rfl (fun _ => rfl) ?_
              refine T_ld 137 (.int (i32 y5)) rfl (fun _ => rfl) ?_
              refine T_call 140 222 [.ref 189, .int (i32 8), .int (i32 y5)] [] rfl (fun _ => rfl) rfl (c_wrong w (mO m [(7, y83), (8, y84), (9, y85), (10, y86), (11, y87), (12, y88), (13, y36), (19, (m.1 19) + 1)] [(14, F38), (15, F40), (16, F42), (17, F44), (29, F89), (30, F90), (31, F91), (32, F92), (33, F93)]) c N D (by omega) (Ty_mO hT rfl rfl ⟨q95, q96, q97, q98, q99, q100, g37, g58, trivial⟩ ⟨G39, G41, G43, G45, q101, q102, q103, q104, q105, trivial⟩) 8 y5 ⟨by decide, by decide⟩ (r32 (by omega) (by omega)) (show 1 ≤ 8 ∧ 8 ≤ 8 by omega) (show 0 ≤ y5 ∧ y5 ≤ 4000 by omega)) (fun r140 k141 => ?_)
              obtain ⟨y142, y144, g143, g145, h146, rfl⟩ := k141
              replace h146 : (0 < y86 → y142 = y86 ∧ y144 = y87) ∧ (y86 ≤ 0 → y142 = 8 ∧ y144 = y5) := h146
              refine ⟨_, _, rfl, ?_⟩
              refine T_nf (st' := []) (l' := [(7, y83), (8, y84), (9, y85), (10, y142), (11, y144), (12, y88), (13, y36), (19, (m.1 19) + 1)]) (a' := [(14, F38), (15, F40), (16, F42), (17, F44), (29, F89), (30, F90), (31, F91), (32, F92), (33, F93)]) rfl rfl rfl rfl rfl ?_
              have u147 : 1 ≤ y142 ∧ y142 ≤ 8 := by omega
              have u148 : (m.1 8) ≤ y84 := by omega
              have u149 : y142 = 0 → (m.1 10) = 0 := by omega
              have u150 : y142 = 0 → (m.1 10) = 0 ∧ (m.1 8) + (m.1 9) ≤ y84 := by omega
              clear u79 u80 u81 h75 h76 h77 h78 g64 g66 g68 g70 g72 g74 q98 q99 i107 i112 h116
              have hob : y142 = 0 → F90 (m.1 19) ≤ 512 := by omega
              have hpr : y142 = 0 → (m.1 8) + (m.1 9) ≤ y84 := by omega
              refine T_ld 141 (.ref 189) rfl (fun _ => rfl) ?_
              refine T_ld 143 (.int (i32 125)) rfl (fun _ => rfl) ?_
              refine T_call 146 232 [.ref 189, .int (i32 125)] [] rfl (fun _ => rfl) rfl (c_need w (mO m [(7, y83), (8, y84), (9, y85), (10, y142), (11, y144), (12, y88), (13, y36), (19, (m.1 19) + 1)] [(14, F38), (15, F40), (16, F42), (17, F44), (29, F89), (30, F90), (31, F91), (32, F92), (33, F93)]) c N D (by omega) (Ty_mO hT rfl rfl ⟨q95, q96, q97, g143, g145, q100, g37, g58, trivial⟩ ⟨G39, G41, G43, G45, q101, q102, q103, q104, q105, trivial⟩) 125 ⟨by decide, by decide⟩ (show 1 ≤ 125 by omega) (show LxP y83 y84 y85 (m.1 6) y142 by first | exact hLx | (intro h9; exfalso; omega) | (intro h9; have h8 := hLx (by omega); omega))) (fun r151 k152 => ?_)
              obtain ⟨y153, y155, y157, y159, y161, y163, g154, g156, g158, g160, g162, g164, h165, h166, h167, h168, rfl⟩ := k152
              replace h165 : LxP y153 y155 y157 (m.1 6) y159 := h165
              replace h166 : y159 = 0 → y142 = 0 ∧ y83 = 125 := h166
              replace h167 : y84 ≤ y155 := h167
              replace h168 : y159 = 0 → y84 + y85 ≤ y155 := h168
              have hLx := h165
              refine ⟨_, _, rfl, ?_⟩
              refine T_nf (st' := []) (l' := [(7, y153), (8, y155), (9, y157), (10, y159), (11, y161), (12, y163), (13, y36), (19, (m.1 19) + 1)]) (a' := [(14, F38), (15, F40), (16, F42), (17, F44), (29, F89), (30, F90), (31, F91), (32, F92), (33, F93)]) rfl rfl rfl rfl rfl ?_
              have u169 : (m.1 8) ≤ y155 := by omega
              have u170 : y159 = 0 → (m.1 10) = 0 := by omega
              have u171 : y159 = 0 → (m.1 10) = 0 ∧ (m.1 8) + (m.1 9) ≤ y155 := by omega
              clear q95 q96 q97 q100 i111 i113 u148 u149 u150 h146 g143 g145 u147
              refine T_ret rfl (fun _ => rfl) ?_
              exact ⟨y153, y155, y157, y159, y161, y163, y36, (m.1 19) + 1, F38, F40, F42, F44, F89, F90, F91, F92, F93, g154, g156, g158, g160, g162, g164, g37, g58, G39, G41, G43, G45, q101, q102, q103, q104, q105, (by first | exact hLx | (intro h9; first | omega | (have h8 := hLx (by omega); omega))), (by omega), (by omega), (by first | assumption | exact hNM), (by first | exact pPN | (intro h; exfalso; omega) | (intro h; have hP := pPN (by omega); rw [hNa, hNb, hNc]; exact PN_1 hP (by omega))), (by exact hHB), (by exact hFA), (by first | exact pHO | (intro h; exfalso; omega) | (intro h g g1 g2; by_cases e : g = (m.1 19); (rw [e]; exact hob (by omega)); (rw [hFR g e]; exact pHO (by omega) g g1 (by omega)))), (by omega), rfl⟩
            · skip
              refine T_gf 125 (.ref 200) rfl rfl rfl rfl rfl rfl ?_
              refine T_ld 126 (.int (i32 (m.1 19))) rfl (fun _ => rfl) ?_
              refine T_iald 127 30 F90 rfl rfl rfl (by omega) (show (m.1 19) < (12 : Int) by omega) rfl ?_
              have e172 : 0 ≤ F90 (m.1 19) ∧ F90 (m.1 19) ≤ 1024 := q102 (m.1 19)
              refine T_ld 130 (.int (i32 512)) rfl (fun _ => rfl) ?_
              refine T_icmp 140 133 rfl rfl rfl (r32 (by omega) (by omega)) ⟨by decide, by decide⟩ (fun (h173 : F90 (m.1 19) ≤ 512) => ?_) (fun (h173 : ¬ (F90 (m.1 19) ≤ 512)) => ?_)
              · skip
                have hob : y86 = 0 → F90 (m.1 19) ≤ 512 := by omega
                have hpr : y86 = 0 → (m.1 8) + (m.1 9) ≤ y84 := by omega
                refine T_ld 141 (.ref 189) rfl (fun _ => rfl) ?_
                refine T_ld 143 (.int (i32 125)) rfl (fun _ => rfl) ?_
                refine T_call 146 232 [.ref 189, .int (i32 125)] [] rfl (fun _ => rfl) rfl (c_need w (mO m [(7, y83), (8, y84), (9, y85), (10, y86), (11, y87), (12, y88), (13, y36), (19, (m.1 19) + 1)] [(14, F38), (15, F40), (16, F42), (17, F44), (29, F89), (30, F90), (31, F91), (32, F92), (33, F93)]) c N D (by omega) (Ty_mO hT rfl rfl ⟨q95, q96, q97, q98, q99, q100, g37, g58, trivial⟩ ⟨G39, G41, G43, G45, q101, q102, q103, q104, q105, trivial⟩) 125 ⟨by decide, by decide⟩ (show 1 ≤ 125 by omega) (show LxP y83 y84 y85 (m.1 6) y86 by first | exact hLx | (intro h9; exfalso; omega) | (intro h9; have h8 := hLx (by omega); omega))) (fun r174 k175 => ?_)
                obtain ⟨y176, y178, y180, y182, y184, y186, g177, g179, g181, g183, g185, g187, h188, h189, h190, h191, rfl⟩ := k175
                replace h188 : LxP y176 y178 y180 (m.1 6) y182 := h188
                replace h189 : y182 = 0 → y86 = 0 ∧ y83 = 125 := h189
                replace h190 : y84 ≤ y178 := h190
                replace h191 : y182 = 0 → y84 + y85 ≤ y178 := h191
                have hLx := h188
                refine ⟨_, _, rfl, ?_⟩
                refine T_nf (st' := []) (l' := [(7, y176), (8, y178), (9, y180), (10, y182), (11, y184), (12, y186), (13, y36), (19, (m.1 19) + 1)]) (a' := [(14, F38), (15, F40), (16, F42), (17, F44), (29, F89), (30, F90), (31, F91), (32, F92), (33, F93)]) rfl rfl rfl rfl rfl ?_
                have u192 : (m.1 8) ≤ y178 := by omega
                have u193 : y182 = 0 → (m.1 10) = 0 := by omega
                have u194 : y182 = 0 → (m.1 10) = 0 ∧ (m.1 8) + (m.1 9) ≤ y178 := by omega
                clear u79 u80 u81 h75 h76 h77 h78 g64 g66 g68 g70 g72 g74 q95 q96 q97 q98 q99 q100 i107 i111 i112 i113 h116
                refine T_ret rfl (fun _ => rfl) ?_
                exact ⟨y176, y178, y180, y182, y184, y186, y36, (m.1 19) + 1, F38, F40, F42, F44, F89, F90, F91, F92, F93, g177, g179, g181, g183, g185, g187, g37, g58, G39, G41, G43, G45, q101, q102, q103, q104, q105, (by first | exact hLx | (intro h9; first | omega | (have h8 := hLx (by omega); omega))), (by omega), (by omega), (by first | assumption | exact hNM), (by first | exact pPN | (intro h; exfalso; omega) | (intro h; have hP := pPN (by omega); rw [hNa, hNb, hNc]; exact PN_1 hP (by omega))), (by exact hHB), (by exact hFA), (by first | exact pHO | (intro h; exfalso; omega) | (intro h g g1 g2; by_cases e : g = (m.1 19); (rw [e]; exact hob (by omega)); (rw [hFR g e]; exact pHO (by omega) g g1 (by omega)))), (by omega), rfl⟩
              · skip
                refine T_ld 134 (.ref 189) rfl (fun _ => rfl) ?_
                refine T_ld 136 (.int (i32 8)) rfl (fun _ => rfl) ?_
                refine T_ld 137 (.int (i32 y5)) rfl (fun _ => rfl) ?_
                refine T_call 140 222 [.ref 189, .int (i32 8), .int (i32 y5)] [] rfl (fun _ => rfl) rfl (c_wrong w (mO m [(7, y83), (8, y84), (9, y85), (10, y86), (11, y87), (12, y88), (13, y36), (19, (m.1 19) + 1)] [(14, F38), (15, F40), (16, F42), (17, F44), (29, F89), (30, F90), (31, F91), (32, F92), (33, F93)]) c N D (by omega) (Ty_mO hT rfl rfl ⟨q95, q96, q97, q98, q99, q100, g37, g58, trivial⟩ ⟨G39, G41, G43, G45, q101, q102, q103, q104, q105, trivial⟩) 8 y5 ⟨by decide, by decide⟩ (r32 (by omega) (by omega)) (show 1 ≤ 8 ∧ 8 ≤ 8 by omega) (show 0 ≤ y5 ∧ y5 ≤ 4000 by omega)) (fun r195 k196 => ?_)
                obtain ⟨y197, y199, g198, g200, h201, rfl⟩ := k196
                replace h201 : (0 < y86 → y197 = y86 ∧ y199 = y87) ∧ (y86 ≤ 0 → y197 = 8 ∧ y199 = y5) := h201
                refine ⟨_, _, rfl, ?_⟩
                refine T_nf (st' := []) (l' := [(7, y83), (8, y84), (9, y85), (10, y197), (11, y199), (12, y88), (13, y36), (19, (m.1 19) + 1)]) (a' := [(14, F38), (15, F40), (16, F42), (17, F44), (29, F89), (30, F90), (31, F91), (32, F92), (33, F93)]) rfl rfl rfl rfl rfl ?_
                have u202 : 1 ≤ y197 ∧ y197 ≤ 8 := by omega
                have u203 : (m.1 8) ≤ y84 := by omega
                have u204 : y197 = 0 → (m.1 10) = 0 := by omega
                have u205 : y197 = 0 → (m.1 10) = 0 ∧ (m.1 8) + (m.1 9) ≤ y84 := by omega
                clear u79 u80 u81 h75 h76 h77 h78 g64 g66 g68 g70 g72 g74 q98 q99 i107 i112 h116
                have hob : y197 = 0 → F90 (m.1 19) ≤ 512 := by omega
                have hpr : y197 = 0 → (m.1 8) + (m.1 9) ≤ y84 := by omega
                refine T_ld 141 (.ref 189) rfl (fun _ => rfl) ?_
                refine T_ld 143 (.int (i32 125)) rfl (fun _ => rfl) ?_
                refine T_call 146 232 [.ref 189, .int (i32 125)] [] rfl (fun _ => rfl) rfl (c_need w (mO m [(7, y83), (8, y84), (9, y85), (10, y197), (11, y199), (12, y88), (13, y36), (19, (m.1 19) + 1)] [(14, F38), (15, F40), (16, F42), (17, F44), (29, F89), (30, F90), (31, F91), (32, F92), (33, F93)]) c N D (by omega) (Ty_mO hT rfl rfl ⟨q95, q96, q97, g198, g200, q100, g37, g58, trivial⟩ ⟨G39, G41, G43, G45, q101, q102, q103, q104, q105, trivial⟩) 125 ⟨by decide, by decide⟩ (show 1 ≤ 125 by omega) (show LxP y83 y84 y85 (m.1 6) y197 by first | exact hLx | (intro h9; exfalso; omega) | (intro h9; have h8 := hLx (by omega); omega))) (fun r206 k207 => ?_)
                obtain ⟨y208, y210, y212, y214, y216, y218, g209, g211, g213, g215, g217, g219, h220, h221, h222, h223, rfl⟩ := k207
                replace h220 : LxP y208 y210 y212 (m.1 6) y214 := h220
                replace h221 : y214 = 0 → y197 = 0 ∧ y83 = 125 := h221
                replace h222 : y84 ≤ y210 := h222
                replace h223 : y214 = 0 → y84 + y85 ≤ y210 := h223
                have hLx := h220
                refine ⟨_, _, rfl, ?_⟩
                refine T_nf (st' := []) (l' := [(7, y208), (8, y210), (9, y212), (10, y214), (11, y216), (12, y218), (13, y36), (19, (m.1 19) + 1)]) (a' := [(14, F38), (15, F40), (16, F42), (17, F44), (29, F89), (30, F90), (31, F91), (32, F92), (33, F93)]) rfl rfl rfl rfl rfl ?_
                have u224 : (m.1 8) ≤ y210 := by omega
                have u225 : y214 = 0 → (m.1 10) = 0 := by omega
                have u226 : y214 = 0 → (m.1 10) = 0 ∧ (m.1 8) + (m.1 9) ≤ y210 := by omega
                clear q95 q96 q97 q100 i111 i113 u203 u204 u205 h201 g198 g200 u202
                refine T_ret rfl (fun _ => rfl) ?_
                exact ⟨y208, y210, y212, y214, y216, y218, y36, (m.1 19) + 1, F38, F40, F42, F44, F89, F90, F91, F92, F93, g209, g211, g213, g215, g217, g219, g37, g58, G39, G41, G43, G45, q101, q102, q103, q104, q105, (by first | exact hLx | (intro h9; first | omega | (have h8 := hLx (by omega); omega))), (by omega), (by omega), (by first | assumption | exact hNM), (by first | exact pPN | (intro h; exfalso; omega) | (intro h; have hP := pPN (by omega); rw [hNa, hNb, hNc]; exact PN_1 hP (by omega))), (by exact hHB), (by exact hFA), (by first | exact pHO | (intro h; exfalso; omega) | (intro h g g1 g2; by_cases e : g = (m.1 19); (rw [e]; exact hob (by omega)); (rw [hFR g e]; exact pHO (by omega) g g1 (by omega)))), (by omega), rfl⟩
        · skip
          refine T_gf 69 (.int (i32 y86)) rfl rfl rfl rfl rfl rfl ?_
          refine T_if 102 72 rfl rfl rfl (r32 (by omega) (by omega)) (fun (h227 : y86 ≠ 0) => ?_) (fun (h227 : ¬ (y86 ≠ 0)) => ?_)
          · skip
            have hq1 : (m.1 8) ≤ y84 := by omega
            refine T_gf 106 (.int (i32 y86)) rfl rfl rfl rfl rfl rfl ?_
            refine T_if 140 109 rfl rfl rfl (r32 (by omega) (by omega)) (fun (h228 : y86 ≠ 0) => ?_) (fun (h228 : ¬ (y86 ≠ 0)) => by exfalso; omega)
            have hob : y86 = 0 → F90 (m.1 19) ≤ 512 := by omega
            have hpr : y86 = 0 → (m.1 8) + (m.1 9) ≤ y84 := by omega
            refine T_ld 141 (.ref 189) rfl (fun _ => rfl) ?_
            refine T_ld 143 (.int (i32 125)) rfl (fun _ => rfl) ?_
            refine T_call 146 232 [.ref 189, .int (i32 125)] [] rfl (fun _ => rfl) rfl (c_need w (mO m [(7, y83), (8, y84), (9, y85), (10, y86), (11, y87), (12, y88), (13, y36), (19, (m.1 19) + 1)] [(14, F38), (15, F40), (16, F42), (17, F44), (29, F89), (30, F90), (31, F91), (32, F92), (33, F93)]) c N D (by omega) (Ty_mO hT rfl rfl ⟨q95, q96, q97, q98, q99, q100, g37, g58, trivial⟩ ⟨G39, G41, G43, G45, q101, q102, q103, q104, q105, trivial⟩) 125 ⟨by decide, by decide⟩ (show 1 ≤ 125 by omega) (show LxP y83 y84 y85 (m.1 6) y86 by first | exact hLx | (intro h9; exfalso; omega) | (intro h9; have h8 := hLx (by omega); omega))) (fun r229 k230 => ?_)
            obtain ⟨y231, y233, y235, y237, y239, y241, g232, g234, g236, g238, g240, g242, h243, h244, h245, h246, rfl⟩ := k230
            replace h243 : LxP y231 y233 y235 (m.1 6) y237 := h243
            replace h244 : y237 = 0 → y86 = 0 ∧ y83 = 125 := h244
            replace h245 : y84 ≤ y233 := h245
            replace h246 : y237 = 0 → y84 + y85 ≤ y233 := h246
            have hLx := h243
            refine ⟨_, _, rfl, ?_⟩
            refine T_nf (st' := []) (l' := [(7, y231), (8, y233), (9, y235), (10, y237), (11, y239), (12, y241), (13, y36), (19, (m.1 19) + 1)]) (a' := [(14, F38), (15, F40), (16, F42), (17, F44), (29, F89), (30, F90), (31, F91), (32, F92), (33, F93)]) rfl rfl rfl rfl rfl ?_
            have u247 : (m.1 8) ≤ y233 := by omega
            have u248 : y237 = 0 → (m.1 10) = 0 := by omega
            have u249 : y237 = 0 → (m.1 10) = 0 ∧ (m.1 8) + (m.1 9) ≤ y233 := by omega
            clear u79 u80 u81 h75 h76 h77 h78 g64 g66 g68 g70 g72 g74 q95 q96 q97 q98 q99 q100 i107 i111 i112 i113 h227 h228
            refine T_ret rfl (fun _ => rfl) ?_
            exact ⟨y231, y233, y235, y237, y239, y241, y36, (m.1 19) + 1, F38, F40, F42, F44, F89, F90, F91, F92, F93, g232, g234, g236, g238, g240, g242, g37, g58, G39, G41, G43, G45, q101, q102, q103, q104, q105, (by first | exact hLx | (intro h9; first | omega | (have h8 := hLx (by omega); omega))), (by omega), (by omega), (by first | assumption | exact hNM), (by first | exact pPN | (intro h; exfalso; omega) | (intro h; have hP := pPN (by omega); rw [hNa, hNb, hNc]; exact PN_1 hP (by omega))), (by exact hHB), (by exact hFA), (by first | exact pHO | (intro h; exfalso; omega) | (intro h g g1 g2; by_cases e : g = (m.1 19); (rw [e]; exact hob (by omega)); (rw [hFR g e]; exact pHO (by omega) g g1 (by omega)))), (by omega), rfl⟩
          · skip
            refine T_ld 73 (.ref 189) rfl (fun _ => rfl) ?_
            refine T_ld 74 (.int (i32 (m.1 19))) rfl (fun _ => rfl) ?_
            refine T_call 77 233 [.ref 189, .int (i32 (m.1 19))] [] rfl (fun _ => rfl) rfl (c_takeFieldOf w (mO m [(7, y83), (8, y84), (9, y85), (10, y86), (11, y87), (12, y88), (13, y36), (19, (m.1 19) + 1)] [(14, F38), (15, F40), (16, F42), (17, F44), (29, F89), (30, F90), (31, F91), (32, F92), (33, F93)]) c N D (by omega) (Ty_mO hT rfl rfl ⟨q95, q96, q97, q98, q99, q100, g37, g58, trivial⟩ ⟨G39, G41, G43, G45, q101, q102, q103, q104, q105, trivial⟩) (m.1 19) (r32 (by omega) (by omega)) (show LxP y83 y84 y85 (m.1 6) y86 by first | exact hLx | (intro h9; exfalso; omega) | (intro h9; have h8 := hLx (by omega); omega)) (show 0 ≤ (m.1 19) ∧ (m.1 19) ≤ 11 by omega) (show HBi F89 F90 F93 by assumption) (show ∀ k, F91 k + F92 k ≤ 4000 by assumption)) (fun r250 k251 => ?_)
            obtain ⟨y252, y254, y256, y258, y260, y262, F264, F266, F268, F270, F272, g253, g255, g257, g259, g261, g263, G265, G267, G269, G271, G273, h274, h275, h276, h277, h278, h279, h280, rfl⟩ := k251
            replace h274 : LxP y252 y254 y256 (m.1 6) y258 := h274
            replace h275 : y84 ≤ y254 := h275
            replace h276 : y258 = 0 → y86 = 0 ∧ y84 + y85 ≤ y254 := h276
            replace h277 : HBi F264 F266 F272 := h277
            replace h278 : ∀ k, F268 k + F270 k ≤ 4000 := h278
            replace h279 : ∀ g, g ≠ (m.1 19) → F266 g = F90 g := h279
            replace h280 : y258 = 0 → y86 = 0 ∧ y84 + 1 ≤ y254 := h280
            have hLx := h274
            have hHB := h277
            have hFA := h278
            have hFRc := h279
            refine ⟨_, _, rfl, ?_⟩
            refine T_nf (st' := []) (l' := [(7, y252), (8, y254), (9, y256), (10, y258), (11, y260), (12, y262), (13, y36), (19, (m.1 19) + 1)]) (a' := [(14, F38), (15, F40), (16, F42), (17, F44), (29, F264), (30, F266), (31, F268), (32, F270), (33, F272)]) rfl rfl rfl rfl rfl ?_
            have u281 : (m.1 8) ≤ y254 := by omega
            have u282 : y258 = 0 → (m.1 10) = 0 := by omega
            have u283 : y258 = 0 → (m.1 10) = 0 ∧ (m.1 8) + (m.1 9) ≤ y254 := by omega
            clear u79 u80 u81 h75 h76 h77 h78 g64 g66 g68 g70 g72 g74 q95 q96 q97 q98 q99 q100 i107 i108 i109 i110 i111 i112 i113 h227
            refine T_gf 81 (.int (i32 y258)) rfl rfl rfl rfl rfl rfl ?_
            refine T_if 97 84 rfl rfl rfl (r32 (by omega) (by omega)) (fun (h284 : y258 ≠ 0) => ?_) (fun (h284 : ¬ (y258 ≠ 0)) => ?_)
            · skip
              refine T_ld 98 (.int (i32 0)) rfl (fun _ => rfl) ?_
              refine T_sto 99 [(3, .int (i32 0)), (0, .ref 189), (1, .int (i32 y5)), (2, .int (i32 (m.1 19)))] rfl (fun _ => rfl) ?_
              refine T_goto 61 rfl (fun _ => rfl) ?_
              refine Tm_lv (a := [(0, .ref 189), (1, .int (i32 y5)), (2, .int (i32 (m.1 19))), (3, .int (i32 0))]) rfl rfl ⟨rfl, rfl, rfl, rfl, trivial⟩ ?_
              exact ih114 0 y252 y254 y256 y258 y260 y262 F264 F266 F268 F270 F272 (r32 (by omega) (by omega)) g253 g255 g257 g259 g261 g263 G265 G267 G269 G271 G273 (by omega) (by exact hLx) (by exact hHB) (by exact hFA) (by first | exact hFR | exact fun g hg => (hFRc g hg).trans (hFR g hg)) (by omega) (by omega) (by omega) (by omega)
            · skip
              refine T_gf 88 (.int (i32 y252)) rfl rfl rfl rfl rfl rfl ?_
              refine T_ld 90 (.int (i32 125)) rfl (fun _ => rfl) ?_
              refine T_icmp 97 93 rfl rfl rfl (r32 (by omega) (by omega)) ⟨by decide, by decide⟩ (fun (h285 : y252 = 125) => ?_) (fun (h285 : ¬ (y252 = 125)) => ?_)
              · skip
                refine T_ld 98 (.int (i32 0)) rfl (fun _ => rfl) ?_
                refine T_sto 99 [(3, .int (i32 0)), (0, .ref 189), (1, .int (i32 y5)), (2, .int (i32 (m.1 19)))] rfl (fun _ => rfl) ?_
                refine T_goto 61 rfl (fun _ => rfl) ?_
                refine Tm_lv (a := [(0, .ref 189), (1, .int (i32 y5)), (2, .int (i32 (m.1 19))), (3, .int (i32 0))]) rfl rfl ⟨rfl, rfl, rfl, rfl, trivial⟩ ?_
                exact ih114 0 y252 y254 y256 y258 y260 y262 F264 F266 F268 F270 F272 (r32 (by omega) (by omega)) g253 g255 g257 g259 g261 g263 G265 G267 G269 G271 G273 (by omega) (by exact hLx) (by exact hHB) (by exact hFA) (by first | exact hFR | exact fun g hg => (hFRc g hg).trans (hFR g hg)) (by omega) (by omega) (by omega) (by omega)
              · skip
                refine T_ld 94 (.int (i32 1)) rfl (fun _ => rfl) ?_
                refine T_goto 98 rfl (fun _ => rfl) ?_
                refine T_sto 99 [(3, .int (i32 1)), (0, .ref 189), (1, .int (i32 y5)), (2, .int (i32 (m.1 19)))] rfl (fun _ => rfl) ?_
                refine T_goto 61 rfl (fun _ => rfl) ?_
                refine Tm_lv (a := [(0, .ref 189), (1, .int (i32 y5)), (2, .int (i32 (m.1 19))), (3, .int (i32 1))]) rfl rfl ⟨rfl, rfl, rfl, rfl, trivial⟩ ?_
                exact ih114 1 y252 y254 y256 y258 y260 y262 F264 F266 F268 F270 F272 (r32 (by omega) (by omega)) g253 g255 g257 g259 g261 g263 G265 G267 G269 G271 G273 (by omega) (by exact hLx) (by exact hHB) (by exact hFA) (by first | exact hFR | exact fun g hg => (hFRc g hg).trans (hFR g hg)) (by omega) (by omega) (by omega) (by omega)
    refine Tm_lv (a := [(0, .ref 189), (1, .int (i32 y5)), (2, .int (i32 (m.1 19))), (3, .int (i32 1))]) rfl rfl ⟨rfl, rfl, rfl, rfl, trivial⟩ ?_
    exact L61 ((2 * (4001 - y65) + 1 : Int) + 1).toNat 1 y63 y65 y67 y69 y71 y73 (upI (m.2 29) (m.1 19) 0) (upI (m.2 30) (m.1 19) 0) (m.2 31) (m.2 32) (m.2 33) (r32 (by omega) (by omega)) g64 g66 g68 g70 g72 g74 G59 G60 (hT.2.1 31) (hT.2.1 32) (hT.2.1 33) (by omega) (by exact hLx) (by exact hHB) (by exact hFA) (by first | exact hFR | exact fun g hg => (hFRc g hg).trans (hFR g hg)) (by omega) (by omega) (by omega) (by omega)
  · skip
    refine T_ret rfl (fun _ => rfl) ?_
    exact ⟨y24, y26, y28, y30, y32, y34, y36, (m.1 19), F38, F40, F42, F44, (m.2 29), (m.2 30), (m.2 31), (m.2 32), (m.2 33), g25, g27, g29, g31, g33, g35, g37, f19, G39, G41, G43, G45, (hT.2.1 29), (hT.2.1 30), (hT.2.1 31), (hT.2.1 32), (hT.2.1 33), (by first | exact hLx | (intro h9; first | omega | (have h8 := hLx (by omega); omega))), (by omega), (by omega), (by first | assumption | exact hNM), (by first | exact pPN | (intro h; exfalso; omega) | (intro h; have hP := pPN (by omega); rw [hNa, hNb, hNc]; exact PN_1 hP (by omega))), (by exact hHB), (by exact hFA), (by first | exact pHO | (intro h; exfalso; omega) | (intro h g g1 g2; by_cases e : g = (m.1 19); (rw [e]; exact hob (by omega)); (rw [hFR g e]; exact pHO (by omega) g g1 (by omega)))), (by omega), rfl⟩
