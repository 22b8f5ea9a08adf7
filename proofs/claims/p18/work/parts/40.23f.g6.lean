def fF_endChoice : List Nat := [7, 8, 9, 10, 11, 12, 28, 69, 70, 71, 72, 73, 74, 75]
def fA_endChoice : List Nat := [65, 66, 67, 68]
def Q_endChoice (m : mR) (c : Nat → Option am_C) (N : Nat) (B : Int) : ag_Re af_T → Prop := fun R => ∃ (M : mR), Ty M ∧ fr fF_endChoice fA_endChoice m M ∧ ((M.1 10) = 0 → (m.1 10) = 0) ∧ (LxP (M.1 7) (M.1 8) (M.1 9) (m.1 6) (M.1 10)) ∧ (M.1 10 = 0 → (GPc (m.1 8) (M.1 8) (M.1 75) (M.1 73) (m.1 73)) ∧ (GU (M.1 75) (M.1 69)) ∧ (GH (M.1 75) (M.1 73)) ∧ ((m.1 28) ≤ (M.1 28)) ∧ (XS (M.2 65) (M.2 67) (m.2 76) (m.2 78) (m.2 79) (m.2 80) B (M.1 28) (M.1 73) (M.1 74) (um (M.1 75))) ∧ (agr (m.2 65) (M.2 65) (m.1 28))) ∧ R = (.inl (none), (mhp M c, N), 0, 0)
set_option maxHeartbeats 3000000 in
theorem c_endChoice (w : wX) (m : mR) (c : Nat → Option am_C) (N D : Nat) (hD : 7 ≤ D) (hT : Ty m) (B : Int) (hLx0 : LxP (m.1 7) (m.1 8) (m.1 9) (m.1 6) (m.1 10)) (hf0 : m.1 10 = 0) (hC : (XS (m.2 65) (m.2 67) (m.2 76) (m.2 78) (m.2 79) (m.2 80) B (m.1 28) (m.1 73) (m.1 74) 1) ∧ (1 ≤ (m.1 73)) ∧ ((m.2 76) ((m.1 73) - 1) = 0) ∧ ((m.1 69) ≤ 64)) : TC w D 264 [.ref 189] (mhp m c, N) (Q_endChoice m c N B) := by
  obtain ⟨D, rfl⟩ : ∃ k, D = k + 1 := ⟨D - 1, by omega⟩
  have hLx := hLx0
  have f7 : 0 ≤ m.1 7 ∧ m.1 7 ≤ 330 := hT.1 7
  have f8 : 0 ≤ m.1 8 ∧ m.1 8 ≤ 4000 := hT.1 8
  have f9 : 0 ≤ m.1 9 ∧ m.1 9 ≤ 4000 := hT.1 9
  have f10 : 0 ≤ m.1 10 ∧ m.1 10 ≤ 8 := hT.1 10
  have f28 : 0 ≤ m.1 28 ∧ m.1 28 ≤ 800 := hT.1 28
  have f69 : 0 ≤ m.1 69 ∧ m.1 69 ≤ 1024 := hT.1 69
  have f70 : 0 ≤ m.1 70 ∧ m.1 70 ≤ 4000 := hT.1 70
  have f71 : 0 ≤ m.1 71 ∧ m.1 71 ≤ 1 := hT.1 71
  have f72 : (-9223372036854775808) ≤ m.1 72 ∧ m.1 72 ≤ 9223372036854775807 := hT.1 72
  have f73 : 0 ≤ m.1 73 ∧ m.1 73 ≤ 60 := hT.1 73
  have f74 : 0 ≤ m.1 74 ∧ m.1 74 ≤ 24 := hT.1 74
  have f75 : 0 ≤ m.1 75 ∧ m.1 75 ≤ 3 := hT.1 75
  have f6 : 0 ≤ m.1 6 ∧ m.1 6 ≤ 4000 := hT.1 6
  refine Tc_of rfl ?_
  show TT w D pm_264 (0, [(0, .ref 189)], [], (mhp (mO m [] []) c, N), 0, 0) (Q_endChoice m c N B)
  obtain ⟨hXS, c1, c2, c3⟩ := hC
  have hb := OS_hi hXS.1.2
  have hXC := XC_0 hXS (by omega) (by omega) (hT.2.1 79 _).1
  have hAgC := agr_r (m.2 65) (m.1 28)
  have h7 := hLx (by omega)
  refine T_ld 1 (.ref 189) rfl (fun _ => rfl) ?_
  refine T_ld 2 (.ref 189) rfl (fun _ => rfl) ?_
  refine T_gf1 5 (.int (i32 (m.1 73))) rfl rfl rfl rfl ?_
  refine T_ld 6 (.int (i32 1)) rfl (fun _ => rfl) ?_
  refine T_isub 7 rfl rfl ?_
  refine T_pf (l' := [(73, (m.1 73) - 1)]) 10 ((m.1 73) - 1) rfl rfl rfl rfl rfl rfl ?_
  have g4 : 0 ≤ (m.1 73) - 1 ∧ (m.1 73) - 1 ≤ 60 := ⟨by omega, by omega⟩
  refine T_ld 11 (.ref 189) rfl (fun _ => rfl) ?_
  refine T_ld 12 (.ref 189) rfl (fun _ => rfl) ?_
  refine T_gf1 15 (.int (i32 (m.1 74))) rfl rfl rfl rfl ?_
  refine T_ld 16 (.int (i32 1)) rfl (fun _ => rfl) ?_
  refine T_isub 17 rfl rfl ?_
  refine T_pf (l' := [(73, (m.1 73) - 1), (74, (m.1 74) - 1)]) 20 ((m.1 74) - 1) rfl rfl rfl rfl rfl rfl ?_
  have g5 : 0 ≤ (m.1 74) - 1 ∧ (m.1 74) - 1 ≤ 24 := ⟨by omega, by omega⟩
  refine T_gf 24 (.int (i32 ((m.1 73) - 1))) rfl rfl rfl rfl rfl rfl ?_
  refine T_if 31 27 rfl rfl rfl (r32 (by omega) (by omega)) (fun (h6 : (m.1 73) - 1 ≤ 0) => ?_) (fun (h6 : ¬ ((m.1 73) - 1 ≤ 0)) => ?_)
  · skip
    refine T_ld 32 (.int (i32 0)) rfl (fun _ => rfl) ?_
    refine T_sto 33 [(1, .int (i32 0)), (0, .ref 189)] rfl (fun _ => rfl) ?_
    refine T_fl (Ty_mO hT rfl rfl ⟨g4, g5, trivial⟩ trivial) (fun m7 Tm7 Fm7 => ?_)
    have L33_10 : ∀ (n20 : Nat) (v8 : Int) (m9 : mR), (R32 v8) → Ty m9 → fr [10, 11, 28, 69, 70, 71, 72, 73, 74] [65, 66, 67, 68] (mO m7 [] []) m9 → (0 ≤ v8) → (v8 ≤ 0) → (v8 = 0 ∨ v8 = 1) → (v8 = 1 → 1 ≤ (m9.1 73)) → ((m9.1 73) + 1 ≤ (m.1 73)) → ((m9.1 10) = 0 ∨ v8 = 0) → ((m9.1 10) = 0 → (XC (m9.2 65) (m9.2 67) (m.2 76) (m.2 78) (m.2 79) (m.2 80) B (m9.1 28) (m9.1 73) (m9.1 74)) ∧ ((m9.1 69) ≤ 64) ∧ ((m.1 28) ≤ (m9.1 28)) ∧ (v8 = 0 → (m9.1 73) = 0) ∧ (agr (m.2 65) (m9.2 65) (m.1 28))) → (m9.1 73) < (n20 : Int) → TT w D pm_264 (33, [(0, .ref 189), (1, .int (i32 v8))], [], (mhp (mO m9 [] []) c, N), 0, 0) (Q_endChoice m c N B) := by
      intro n20
      induction n20 with
      | zero =>
        intro v8 m9 q17 Tm9 Fm9 ic11 ic12 ic13 ic14 ic15 ic16 c19 hmu
        obtain ⟨q17a, q17b⟩ := id q17
        have q18_10 : 0 ≤ m9.1 10 ∧ m9.1 10 ≤ 8 := Tm9.1 10
        have q18_28 : 0 ≤ m9.1 28 ∧ m9.1 28 ≤ 800 := Tm9.1 28
        have q18_69 : 0 ≤ m9.1 69 ∧ m9.1 69 ≤ 1024 := Tm9.1 69
        have q18_70 : 0 ≤ m9.1 70 ∧ m9.1 70 ≤ 4000 := Tm9.1 70
        have q18_71 : 0 ≤ m9.1 71 ∧ m9.1 71 ≤ 1 := Tm9.1 71
        have q18_72 : (-9223372036854775808) ≤ m9.1 72 ∧ m9.1 72 ≤ 9223372036854775807 := Tm9.1 72
        have q18_73 : 0 ≤ m9.1 73 ∧ m9.1 73 ≤ 60 := Tm9.1 73
        have q18_74 : 0 ≤ m9.1 74 ∧ m9.1 74 ≤ 24 := Tm9.1 74
        exfalso
        omega
      | succ n20 ih =>
        intro v8 m9 q17 Tm9 Fm9 ic11 ic12 ic13 ic14 ic15 ic16 c19 hmu
        obtain ⟨q17a, q17b⟩ := id q17
        have q18_10 : 0 ≤ m9.1 10 ∧ m9.1 10 ≤ 8 := Tm9.1 10
        have q18_28 : 0 ≤ m9.1 28 ∧ m9.1 28 ≤ 800 := Tm9.1 28
        have q18_69 : 0 ≤ m9.1 69 ∧ m9.1 69 ≤ 1024 := Tm9.1 69
        have q18_70 : 0 ≤ m9.1 70 ∧ m9.1 70 ≤ 4000 := Tm9.1 70
        have q18_71 : 0 ≤ m9.1 71 ∧ m9.1 71 ≤ 1 := Tm9.1 71
        have q18_72 : (-9223372036854775808) ≤ m9.1 72 ∧ m9.1 72 ≤ 9223372036854775807 := Tm9.1 72
        have q18_73 : 0 ≤ m9.1 73 ∧ m9.1 73 ≤ 60 := Tm9.1 73
        have q18_74 : 0 ≤ m9.1 74 ∧ m9.1 74 ≤ 24 := Tm9.1 74
        have ih21 := ih
        by_cases hf22 : (m9.1 10) = 0
        · skip
          obtain ⟨c23, c24, c25, c26, c27⟩ := c19 hf22
          clear c19
          have hXC := c23
          have hAgC := c27
          refine T_ld 34 (.int (i32 v8)) rfl (fun _ => rfl) ?_
          refine T_if 195 37 rfl rfl rfl (r32 (by omega) (by omega)) (fun (h28 : v8 = 0) => ?_) (fun (h28 : ¬ (v8 = 0)) => by exfalso; omega)
          refine T_gf 199 (.int (i32 (m9.1 73))) rfl rfl rfl rfl rfl rfl ?_
          refine T_if 208 202 rfl rfl rfl (r32 (by omega) (by omega)) (fun (h29 : (m9.1 73) ≠ 0) => ?_) (fun (h29 : ¬ ((m9.1 73) ≠ 0)) => ?_)
          · skip
            obtain ⟨hXB, hh2⟩ := XC_bra hXC (by omega) (by omega) (hT.2.1 76 _) (hT.2.1 79 _).1
            refine T_gf 212 (.ref 239) rfl rfl rfl rfl rfl rfl ?_
            refine T_gf 216 (.int (i32 (m9.1 73))) rfl rfl rfl rfl rfl rfl ?_
            refine T_ld 217 (.int (i32 1)) rfl (fun _ => rfl) ?_
            refine T_isub 218 rfl rfl ?_
            refine T_iald 219 77 (m.2 77) rfl rfl rfl (by omega) (show ((m9.1 73) - 1) < (60 : Int) by omega) (show (m9.2 77) = (m.2 77) from ((fr2 Fm9 77 rfl).trans (fr2 Fm7 77 rfl))) ?_
            have e30 : 0 ≤ m.2 77 ((m9.1 73) - 1) ∧ m.2 77 ((m9.1 73) - 1) ≤ 4000 := hT.2.1 77 ((m9.1 73) - 1)
            refine T_sto 220 [(2, .int (i32 ((m.2 77) ((m9.1 73) - 1)))), (0, .ref 189), (1, .int (i32 v8))] rfl (fun _ => rfl) ?_
            refine T_ld 221 (.ref 189) rfl (fun _ => rfl) ?_
            refine T_ld 223 (.int (i32 41)) rfl (fun _ => rfl) ?_
            refine T_call 226 232 [.ref 189, .int (i32 41)] [] rfl (fun _ => rfl) rfl (d_need w (mO m9 [] []) c N D (by omega) Tm9 41 ⟨by decide, by decide⟩ (show 1 ≤ (41 : Int) by omega) (show LxP (m9.1 7) (m9.1 8) (m9.1 9) (m9.1 6) (m9.1 10) by rewrite [(show (m9.1 7) = (m.1 7) from ((fr1 Fm9 7 rfl).trans (fr1 Fm7 7 rfl))), (show (m9.1 8) = (m.1 8) from ((fr1 Fm9 8 rfl).trans (fr1 Fm7 8 rfl))), (show (m9.1 9) = (m.1 9) from ((fr1 Fm9 9 rfl).trans (fr1 Fm7 9 rfl))), (show (m9.1 6) = (m.1 6) from ((fr1 Fm9 6 rfl).trans (fr1 Fm7 6 rfl)))]; first | exact hLx | (intro h9; exfalso; omega) | (intro h9; have h8 := hLx (by omega); omega))) (fun rr31 k32 => ?_)
            obtain ⟨m33, Tm33, Fm33, h34, h35, h36, h37, rfl⟩ := k32
            refine ⟨_, _, rfl, ?_⟩
            refine T_nb (st' := []) rfl ?_
            have g38 : 0 ≤ m33.1 7 ∧ m33.1 7 ≤ 330 := Tm33.1 7
            have g39 : 0 ≤ m33.1 8 ∧ m33.1 8 ≤ 4000 := Tm33.1 8
            have g40 : 0 ≤ m33.1 9 ∧ m33.1 9 ≤ 4000 := Tm33.1 9
            have g41 : 0 ≤ m33.1 10 ∧ m33.1 10 ≤ 8 := Tm33.1 10
            by_cases hf42 : (m33.1 10) = 0
            · skip
              replace h34 : LxP (m33.1 7) (m33.1 8) (m33.1 9) (m9.1 6) (m33.1 10) := h34
              rewrite [(show (m9.1 6) = (m.1 6) from ((fr1 Fm9 6 rfl).trans (fr1 Fm7 6 rfl)))] at h34
              have hLx := h34
              replace h35 : (m9.1 10) = 0 ∧ (m9.1 7) = (41 : Int) := h35 hf42
              rewrite [(show (m9.1 7) = (m.1 7) from ((fr1 Fm9 7 rfl).trans (fr1 Fm7 7 rfl)))] at h35
              replace h36 : (m9.1 8) ≤ (m33.1 8) := h36
              rewrite [(show (m9.1 8) = (m.1 8) from ((fr1 Fm9 8 rfl).trans (fr1 Fm7 8 rfl)))] at h36
              replace h37 : (m9.1 8) + (m9.1 9) ≤ (m33.1 8) := h37 hf42
              rewrite [(show (m9.1 8) = (m.1 8) from ((fr1 Fm9 8 rfl).trans (fr1 Fm7 8 rfl))), (show (m9.1 9) = (m.1 9) from ((fr1 Fm9 9 rfl).trans (fr1 Fm7 9 rfl)))] at h37
              have hAgC : agr (m.2 65) (m9.2 65) (m.1 28) := by first | exact agr_r _ _ | exact hAgC | exact agr_t hAgC hAg (by omega)
              have u43 : (m.1 28) ≤ (m9.1 28) := by omega
              have u44 : (m9.1 69) ≤ 64 := by omega
              clear q18_10 ic16 h35
              refine T_ld 227 (.ref 189) rfl (fun _ => rfl) ?_
              refine T_ld 228 (.ref 189) rfl (fun _ => rfl) ?_
              refine T_gf1 231 (.int (i32 (m9.1 73))) rfl rfl (mfv_c (F := fun x => .int (i32 x)) rfl (show (m33.1 73) = (m9.1 73) from (fr1 Fm33 73 rfl))) rfl ?_
              refine T_ld 232 (.int (i32 1)) rfl (fun _ => rfl) ?_
              refine T_isub 233 rfl rfl ?_
              refine T_pf (l' := [(73, (m9.1 73) - 1)]) 236 ((m9.1 73) - 1) rfl rfl rfl rfl rfl rfl ?_
              have g45 : 0 ≤ (m9.1 73) - 1 ∧ (m9.1 73) - 1 ≤ 60 := ⟨by omega, by omega⟩
              refine T_ld 237 (.ref 189) rfl (fun _ => rfl) ?_
              refine T_ld 238 (.int (i32 ((m.2 77) ((m9.1 73) - 1)))) rfl (fun _ => rfl) ?_
              refine T_pf (l' := [(70, (m.2 77) ((m9.1 73) - 1)), (73, (m9.1 73) - 1)]) 241 ((m.2 77) ((m9.1 73) - 1)) rfl rfl rfl rfl rfl rfl ?_
              have g46 : 0 ≤ (m.2 77) ((m9.1 73) - 1) ∧ (m.2 77) ((m9.1 73) - 1) ≤ 4000 := ⟨by omega, by omega⟩
              refine T_ld 242 (.ref 189) rfl (fun _ => rfl) ?_
              refine T_ld 243 (.int (i32 1)) rfl (fun _ => rfl) ?_
              refine T_pf (l' := [(70, (m.2 77) ((m9.1 73) - 1)), (73, (m9.1 73) - 1), (75, 1)]) 246 1 rfl rfl rfl rfl rfl rfl ?_
              have hXE : XS (m9.2 65) (m9.2 67) (m.2 76) (m.2 78) (m.2 79) (m.2 80) B (m9.1 28) ((m9.1 73) - 1) (m9.1 74) (um (1 : Int)) := by
                rw [show um (1 : Int) = 1 from if_neg (by omega)]
                exact hXB
              refine T_ret rfl (fun _ => rfl) ?_
              exact ⟨(mO m33 [(70, (m.2 77) ((m9.1 73) - 1)), (73, (m9.1 73) - 1), (75, 1)] []), (Ty_mO Tm33 rfl rfl ⟨g46, g45, ⟨(by omega : (0 : Int) ≤ 1), (by omega : (1 : Int) ≤ 3)⟩, trivial⟩ trivial), (fr_m (fr_s Fm33 (fr_m (fr_s Fm9 (fr_m (fr_s Fm7 (fr_m fr_0 rfl rfl) rfl rfl) rfl rfl) rfl rfl) rfl rfl) rfl rfl) rfl rfl), (show (m33.1 10) = 0 → (m.1 10) = 0 by omega), (show LxP (m33.1 7) (m33.1 8) (m33.1 9) (m.1 6) (m33.1 10) by first | (first | exact hLx | exact (fun _ => hLx (by omega)) | (intro h9; exfalso; omega)) | (exfalso; omega)), (fun _ => ⟨(show GPc (m.1 8) (m33.1 8) (1 : Int) ((m9.1 73) - 1) (m.1 73) by first | (first | assumption | (unfold GPc; omega)) | (exfalso; omega)), (show GU (1 : Int) (m33.1 69) by rewrite [(show (m33.1 69) = (m9.1 69) from (fr1 Fm33 69 rfl))]; first | (first | assumption | (unfold GU; omega)) | (exfalso; omega)), (show GH (1 : Int) ((m9.1 73) - 1) by first | (first | assumption | (unfold GH; omega)) | (exfalso; omega)), (show (m.1 28) ≤ (m33.1 28) by rewrite [(show (m33.1 28) = (m9.1 28) from (fr1 Fm33 28 rfl))]; omega), (show XS (m33.2 65) (m33.2 67) (m.2 76) (m.2 78) (m.2 79) (m.2 80) B (m33.1 28) ((m9.1 73) - 1) (m33.1 74) (um (1 : Int)) by rewrite [(show (m33.2 65) = (m9.2 65) from (fr2 Fm33 65 rfl)), (show (m33.2 67) = (m9.2 67) from (fr2 Fm33 67 rfl)), (show (m33.1 28) = (m9.1 28) from (fr1 Fm33 28 rfl)), (show (m33.1 74) = (m9.1 74) from (fr1 Fm33 74 rfl))]; first | (exact hXE) | (exfalso; omega)), (show agr (m.2 65) (m33.2 65) (m.1 28) by rewrite [(show (m33.2 65) = (m9.2 65) from (fr2 Fm33 65 rfl))]; first | (exact hAgC) | (exfalso; omega))⟩), rfl⟩
            · skip
              replace h34 : LxP (m33.1 7) (m33.1 8) (m33.1 9) (m9.1 6) (m33.1 10) := h34
              rewrite [(show (m9.1 6) = (m.1 6) from ((fr1 Fm9 6 rfl).trans (fr1 Fm7 6 rfl)))] at h34
              have hLx := h34
              clear h35
              replace h36 : (m9.1 8) ≤ (m33.1 8) := h36
              rewrite [(show (m9.1 8) = (m.1 8) from ((fr1 Fm9 8 rfl).trans (fr1 Fm7 8 rfl)))] at h36
              clear h37
              have hf47 : 1 ≤ (m33.1 10) := by omega
              clear q18_10 ic16
              refine T_ld 227 (.ref 189) rfl (fun _ => rfl) ?_
              refine T_ld 228 (.ref 189) rfl (fun _ => rfl) ?_
              refine T_gf1 231 (.int (i32 (m9.1 73))) rfl rfl (mfv_c (F := fun x => .int (i32 x)) rfl (show (m33.1 73) = (m9.1 73) from (fr1 Fm33 73 rfl))) rfl ?_
              refine T_ld 232 (.int (i32 1)) rfl (fun _ => rfl) ?_
              refine T_isub 233 rfl rfl ?_
              refine T_pf (l' := [(73, (m9.1 73) - 1)]) 236 ((m9.1 73) - 1) rfl rfl rfl rfl rfl rfl ?_
              have g48 : 0 ≤ (m9.1 73) - 1 ∧ (m9.1 73) - 1 ≤ 60 := ⟨by omega, by omega⟩
              refine T_ld 237 (.ref 189) rfl (fun _ => rfl) ?_
              refine T_ld 238 (.int (i32 ((m.2 77) ((m9.1 73) - 1)))) rfl (fun _ => rfl) ?_
              refine T_pf (l' := [(70, (m.2 77) ((m9.1 73) - 1)), (73, (m9.1 73) - 1)]) 241 ((m.2 77) ((m9.1 73) - 1)) rfl rfl rfl rfl rfl rfl ?_
              have g49 : 0 ≤ (m.2 77) ((m9.1 73) - 1) ∧ (m.2 77) ((m9.1 73) - 1) ≤ 4000 := ⟨by omega, by omega⟩
              refine T_ld 242 (.ref 189) rfl (fun _ => rfl) ?_
              refine T_ld 243 (.int (i32 1)) rfl (fun _ => rfl) ?_
              refine T_pf (l' := [(70, (m.2 77) ((m9.1 73) - 1)), (73, (m9.1 73) - 1), (75, 1)]) 246 1 rfl rfl rfl rfl rfl rfl ?_
              refine T_ret rfl (fun _ => rfl) ?_
              exact ⟨(mO m33 [(70, (m.2 77) ((m9.1 73) - 1)), (73, (m9.1 73) - 1), (75, 1)] []), (Ty_mO Tm33 rfl rfl ⟨g49, g48, ⟨(by omega : (0 : Int) ≤ 1), (by omega : (1 : Int) ≤ 3)⟩, trivial⟩ trivial), (fr_m (fr_s Fm33 (fr_m (fr_s Fm9 (fr_m (fr_s Fm7 (fr_m fr_0 rfl rfl) rfl rfl) rfl rfl) rfl rfl) rfl rfl) rfl rfl) rfl rfl), (show (m33.1 10) = 0 → (m.1 10) = 0 by omega), (show LxP (m33.1 7) (m33.1 8) (m33.1 9) (m.1 6) (m33.1 10) by first | (first | exact hLx | exact (fun _ => hLx (by omega)) | (intro h9; exfalso; omega)) | (exfalso; omega)), (fun (h : (m33.1 10) = 0) => absurd h (by omega)), rfl⟩
          · skip
            refine T_ld 203 (.ref 189) rfl (fun _ => rfl) ?_
            refine T_ld 204 (.int (i32 3)) rfl (fun _ => rfl) ?_
            refine T_pf (l' := [(75, 3)]) 207 3 rfl rfl rfl rfl rfl rfl ?_
            have hXE : XS (m9.2 65) (m9.2 67) (m.2 76) (m.2 78) (m.2 79) (m.2 80) B (m9.1 28) (m9.1 73) (m9.1 74) (um (3 : Int)) := by
              rw [show um (3 : Int) = 1 from if_neg (by omega)]
              have e : (m9.1 73) = 0 := by omega
              have H := hXC
              rw [e] at H ⊢
              exact XC_end H
            refine T_ret rfl (fun _ => rfl) ?_
            exact ⟨(mO m9 [(75, 3)] []), (Ty_mO Tm9 rfl rfl ⟨⟨(by omega : (0 : Int) ≤ 3), (by omega : (3 : Int) ≤ 3)⟩, trivial⟩ trivial), (fr_m (fr_s Fm9 (fr_m (fr_s Fm7 (fr_m fr_0 rfl rfl) rfl rfl) rfl rfl) rfl rfl) rfl rfl), (show (m9.1 10) = 0 → (m.1 10) = 0 by omega), (show LxP (m9.1 7) (m9.1 8) (m9.1 9) (m.1 6) (m9.1 10) by rewrite [(show (m9.1 7) = (m.1 7) from ((fr1 Fm9 7 rfl).trans (fr1 Fm7 7 rfl))), (show (m9.1 8) = (m.1 8) from ((fr1 Fm9 8 rfl).trans (fr1 Fm7 8 rfl))), (show (m9.1 9) = (m.1 9) from ((fr1 Fm9 9 rfl).trans (fr1 Fm7 9 rfl)))]; first | (first | exact hLx | exact (fun _ => hLx (by omega)) | (intro h9; exfalso; omega)) | (exfalso; omega)), (fun _ => ⟨(show GPc (m.1 8) (m9.1 8) (3 : Int) (m9.1 73) (m.1 73) by rewrite [(show (m9.1 8) = (m.1 8) from ((fr1 Fm9 8 rfl).trans (fr1 Fm7 8 rfl)))]; first | (first | assumption | (unfold GPc; omega)) | (exfalso; omega)), (show GU (3 : Int) (m9.1 69) by first | (first | assumption | (unfold GU; omega)) | (exfalso; omega)), (show GH (3 : Int) (m9.1 73) by first | (first | assumption | (unfold GH; omega)) | (exfalso; omega)), (show (m.1 28) ≤ (m9.1 28) by omega), (show XS (m9.2 65) (m9.2 67) (m.2 76) (m.2 78) (m.2 79) (m.2 80) B (m9.1 28) (m9.1 73) (m9.1 74) (um (3 : Int)) by first | (exact hXE) | (exfalso; omega)), (show agr (m.2 65) (m9.2 65) (m.1 28) by first | (exact hAgC) | (exfalso; omega))⟩), rfl⟩
        · skip
          clear c19
          have hf50 : 1 ≤ (m9.1 10) := by omega
          refine T_ld 34 (.int (i32 v8)) rfl (fun _ => rfl) ?_
          refine T_if 195 37 rfl rfl rfl (r32 (by omega) (by omega)) (fun (h51 : v8 = 0) => ?_) (fun (h51 : ¬ (v8 = 0)) => by exfalso; omega)
          refine T_gf 199 (.int (i32 (m9.1 73))) rfl rfl rfl rfl rfl rfl ?_
          refine T_if 208 202 rfl rfl rfl (r32 (by omega) (by omega)) (fun (h52 : (m9.1 73) ≠ 0) => ?_) (fun (h52 : ¬ ((m9.1 73) ≠ 0)) => ?_)
          · skip
            refine T_gf 212 (.ref 239) rfl rfl rfl rfl rfl rfl ?_
            refine T_gf 216 (.int (i32 (m9.1 73))) rfl rfl rfl rfl rfl rfl ?_
            refine T_ld 217 (.int (i32 1)) rfl (fun _ => rfl) ?_
            refine T_isub 218 rfl rfl ?_
            refine T_iald 219 77 (m.2 77) rfl rfl rfl (by omega) (show ((m9.1 73) - 1) < (60 : Int) by omega) (show (m9.2 77) = (m.2 77) from ((fr2 Fm9 77 rfl).trans (fr2 Fm7 77 rfl))) ?_
            have e53 : 0 ≤ m.2 77 ((m9.1 73) - 1) ∧ m.2 77 ((m9.1 73) - 1) ≤ 4000 := hT.2.1 77 ((m9.1 73) - 1)
            refine T_sto 220 [(2, .int (i32 ((m.2 77) ((m9.1 73) - 1)))), (0, .ref 189), (1, .int (i32 v8))] rfl (fun _ => rfl) ?_
            refine T_ld 221 (.ref 189) rfl (fun _ => rfl) ?_
            refine T_ld 223 (.int (i32 41)) rfl (fun _ => rfl) ?_
            refine T_call 226 232 [.ref 189, .int (i32 41)] [] rfl (fun _ => rfl) rfl (d_need w (mO m9 [] []) c N D (by omega) Tm9 41 ⟨by decide, by decide⟩ (show 1 ≤ (41 : Int) by omega) (show LxP (m9.1 7) (m9.1 8) (m9.1 9) (m9.1 6) (m9.1 10) by rewrite [(show (m9.1 7) = (m.1 7) from ((fr1 Fm9 7 rfl).trans (fr1 Fm7 7 rfl))), (show (m9.1 8) = (m.1 8) from ((fr1 Fm9 8 rfl).trans (fr1 Fm7 8 rfl))), (show (m9.1 9) = (m.1 9) from ((fr1 Fm9 9 rfl).trans (fr1 Fm7 9 rfl))), (show (m9.1 6) = (m.1 6) from ((fr1 Fm9 6 rfl).trans (fr1 Fm7 6 rfl)))]; first | exact hLx | (intro h9; exfalso; omega) | (intro h9; have h8 := hLx (by omega); omega))) (fun rr54 k55 => ?_)
            obtain ⟨m56, Tm56, Fm56, h57, h58, h59, h60, rfl⟩ := k55
            refine ⟨_, _, rfl, ?_⟩
            refine T_nb (st' := []) rfl ?_
            have g61 : 0 ≤ m56.1 7 ∧ m56.1 7 ≤ 330 := Tm56.1 7
            have g62 : 0 ≤ m56.1 8 ∧ m56.1 8 ≤ 4000 := Tm56.1 8
            have g63 : 0 ≤ m56.1 9 ∧ m56.1 9 ≤ 4000 := Tm56.1 9
            have g64 : 0 ≤ m56.1 10 ∧ m56.1 10 ≤ 8 := Tm56.1 10
            replace h57 : LxP (m56.1 7) (m56.1 8) (m56.1 9) (m9.1 6) (m56.1 10) := h57
            rewrite [(show (m9.1 6) = (m.1 6) from ((fr1 Fm9 6 rfl).trans (fr1 Fm7 6 rfl)))] at h57
            replace h58 : (m56.1 10) = 0 → (m9.1 10) = 0 ∧ (m9.1 7) = (41 : Int) := h58
            rewrite [(show (m9.1 7) = (m.1 7) from ((fr1 Fm9 7 rfl).trans (fr1 Fm7 7 rfl)))] at h58
            replace h59 : (m9.1 8) ≤ (m56.1 8) := h59
            rewrite [(show (m9.1 8) = (m.1 8) from ((fr1 Fm9 8 rfl).trans (fr1 Fm7 8 rfl)))] at h59
            replace h60 : (m56.1 10) = 0 → (m9.1 8) + (m9.1 9) ≤ (m56.1 8) := h60
            rewrite [(show (m9.1 8) = (m.1 8) from ((fr1 Fm9 8 rfl).trans (fr1 Fm7 8 rfl))), (show (m9.1 9) = (m.1 9) from ((fr1 Fm9 9 rfl).trans (fr1 Fm7 9 rfl)))] at h60
            have hf65 : 1 ≤ (m56.1 10) := by omega
            clear h58
            clear h60
            have hLx := h57
            clear q18_10 ic16 hf50
            refine T_ld 227 (.ref 189) rfl (fun _ => rfl) ?_
            refine T_ld 228 (.ref 189) rfl (fun _ => rfl) ?_
            refine T_gf1 231 (.int (i32 (m9.1 73))) rfl rfl (mfv_c (F := fun x => .int (i32 x)) rfl (show (m56.1 73) = (m9.1 73) from (fr1 Fm56 73 rfl))) rfl ?_
            refine T_ld 232 (.int (i32 1)) rfl (fun _ => rfl) ?_
            refine T_isub 233 rfl rfl ?_
            refine T_pf (l' := [(73, (m9.1 73) - 1)]) 236 ((m9.1 73) - 1) rfl rfl rfl rfl rfl rfl ?_
            have g66 : 0 ≤ (m9.1 73) - 1 ∧ (m9.1 73) - 1 ≤ 60 := ⟨by omega, by omega⟩
            refine T_ld 237 (.ref 189) rfl (fun _ => rfl) ?_
            refine T_ld 238 (.int (i32 ((m.2 77) ((m9.1 73) - 1)))) rfl (fun _ => rfl) ?_
            refine T_pf (l' := [(70, (m.2 77) ((m9.1 73) - 1)), (73, (m9.1 73) - 1)]) 241 ((m.2 77) ((m9.1 73) - 1)) rfl rfl rfl rfl rfl rfl ?_
            have g67 : 0 ≤ (m.2 77) ((m9.1 73) - 1) ∧ (m.2 77) ((m9.1 73) - 1) ≤ 4000 := ⟨by omega, by omega⟩
            refine T_ld 242 (.ref 189) rfl (fun _ => rfl) ?_
            refine T_ld 243 (.int (i32 1)) rfl (fun _ => rfl) ?_
            refine T_pf (l' := [(70, (m.2 77) ((m9.1 73) - 1)), (73, (m9.1 73) - 1), (75, 1)]) 246 1 rfl rfl rfl rfl rfl rfl ?_
            refine T_ret rfl (fun _ => rfl) ?_
            exact ⟨(mO m56 [(70, (m.2 77) ((m9.1 73) - 1)), (73, (m9.1 73) - 1), (75, 1)] []), (Ty_mO Tm56 rfl rfl ⟨g67, g66, ⟨(by omega : (0 : Int) ≤ 1), (by omega : (1 : Int) ≤ 3)⟩, trivial⟩ trivial), (fr_m (fr_s Fm56 (fr_m (fr_s Fm9 (fr_m (fr_s Fm7 (fr_m fr_0 rfl rfl) rfl rfl) rfl rfl) rfl rfl) rfl rfl) rfl rfl) rfl rfl), (show (m56.1 10) = 0 → (m.1 10) = 0 by omega), (show LxP (m56.1 7) (m56.1 8) (m56.1 9) (m.1 6) (m56.1 10) by first | (first | exact hLx | exact (fun _ => hLx (by omega)) | (intro h9; exfalso; omega)) | (exfalso; omega)), (fun (h : (m56.1 10) = 0) => absurd h (by omega)), rfl⟩
          · skip
            refine T_ld 203 (.ref 189) rfl (fun _ => rfl) ?_
            refine T_ld 204 (.int (i32 3)) rfl (fun _ => rfl) ?_
            refine T_pf (l' := [(75, 3)]) 207 3 rfl rfl rfl rfl rfl rfl ?_
            refine T_ret rfl (fun _ => rfl) ?_
            exact ⟨(mO m9 [(75, 3)] []), (Ty_mO Tm9 rfl rfl ⟨⟨(by omega : (0 : Int) ≤ 3), (by omega : (3 : Int) ≤ 3)⟩, trivial⟩ trivial), (fr_m (fr_s Fm9 (fr_m (fr_s Fm7 (fr_m fr_0 rfl rfl) rfl rfl) rfl rfl) rfl rfl) rfl rfl), (show (m9.1 10) = 0 → (m.1 10) = 0 by omega), (show LxP (m9.1 7) (m9.1 8) (m9.1 9) (m.1 6) (m9.1 10) by rewrite [(show (m9.1 7) = (m.1 7) from ((fr1 Fm9 7 rfl).trans (fr1 Fm7 7 rfl))), (show (m9.1 8) = (m.1 8) from ((fr1 Fm9 8 rfl).trans (fr1 Fm7 8 rfl))), (show (m9.1 9) = (m.1 9) from ((fr1 Fm9 9 rfl).trans (fr1 Fm7 9 rfl)))]; first | (first | exact hLx | exact (fun _ => hLx (by omega)) | (intro h9; exfalso; omega)) | (exfalso; omega)), (fun (h : (m9.1 10) = 0) => absurd h (by omega)), rfl⟩
    refine Tm_lv (a := [(0, .ref 189), (1, .int (i32 0))]) rfl rfl ⟨rfl, rfl, trivial⟩ ?_
    exact L33_10 ((((m.1 73) - 1) : Int) + 1).toNat 0 (mO m7 [] []) ⟨by decide, by decide⟩ Tm7 (fr_m fr_0 rfl rfl) (show 0 ≤ (0 : Int) by omega) (show (0 : Int) ≤ 0 by omega) (show (0 : Int) = 0 ∨ (0 : Int) = 1 by omega) (show (0 : Int) = 1 → 1 ≤ (m7.1 73) by rewrite [(show (m7.1 73) = ((m.1 73) - 1) from (fr1 Fm7 73 rfl))]; omega) (show (m7.1 73) + 1 ≤ (m.1 73) by rewrite [(show (m7.1 73) = ((m.1 73) - 1) from (fr1 Fm7 73 rfl))]; omega) (show (m7.1 10) = 0 ∨ (0 : Int) = 0 by rewrite [(show (m7.1 10) = (m.1 10) from (fr1 Fm7 10 rfl))]; omega) (fun _ => ⟨(show XC (m7.2 65) (m7.2 67) (m.2 76) (m.2 78) (m.2 79) (m.2 80) B (m7.1 28) (m7.1 73) (m7.1 74) by rewrite [(show (m7.2 65) = (m.2 65) from (fr2 Fm7 65 rfl)), (show (m7.2 67) = (m.2 67) from (fr2 Fm7 67 rfl)), (show (m7.1 28) = (m.1 28) from (fr1 Fm7 28 rfl)), (show (m7.1 73) = ((m.1 73) - 1) from (fr1 Fm7 73 rfl)), (show (m7.1 74) = ((m.1 74) - 1) from (fr1 Fm7 74 rfl))]; exact hXC), (show (m7.1 69) ≤ 64 by rewrite [(show (m7.1 69) = (m.1 69) from (fr1 Fm7 69 rfl))]; omega), (show (m.1 28) ≤ (m7.1 28) by rewrite [(show (m7.1 28) = (m.1 28) from (fr1 Fm7 28 rfl))]; omega), (show (0 : Int) = 0 → (m7.1 73) = 0 by rewrite [(show (m7.1 73) = ((m.1 73) - 1) from (fr1 Fm7 73 rfl))]; omega), (show agr (m.2 65) (m7.2 65) (m.1 28) by rewrite [(show (m7.2 65) = (m.2 65) from (fr2 Fm7 65 rfl))]; exact hAgC)⟩) (show (m7.1 73) < ((((((m.1 73) - 1) : Int) + 1).toNat : Nat) : Int) by rewrite [(show (m7.1 73) = ((m.1 73) - 1) from (fr1 Fm7 73 rfl))]; omega)
  · skip
    refine T_ld 28 (.int (i32 1)) rfl (fun _ => rfl) ?_
    refine T_goto 32 rfl (fun _ => rfl) ?_
    refine T_sto 33 [(1, .int (i32 1)), (0, .ref 189)] rfl (fun _ => rfl) ?_
    refine T_fl (Ty_mO hT rfl rfl ⟨g4, g5, trivial⟩ trivial) (fun m68 Tm68 Fm68 => ?_)
    have L33_71 : ∀ (n81 : Nat) (v69 : Int) (m70 : mR), (R32 v69) → Ty m70 → fr [10, 11, 28, 69, 70, 71, 72, 73, 74] [65, 66, 67, 68] (mO m68 [] []) m70 → (0 ≤ v69) → (v69 ≤ 1) → (v69 = 0 ∨ v69 = 1) → (v69 = 1 → 1 ≤ (m70.1 73)) → ((m70.1 73) + 1 ≤ (m.1 73)) → ((m70.1 10) = 0 ∨ v69 = 0) → ((m70.1 10) = 0 → (XC (m70.2 65) (m70.2 67) (m.2 76) (m.2 78) (m.2 79) (m.2 80) B (m70.1 28) (m70.1 73) (m70.1 74)) ∧ ((m70.1 69) ≤ 64) ∧ ((m.1 28) ≤ (m70.1 28)) ∧ (v69 = 0 → (m70.1 73) = 0) ∧ (agr (m.2 65) (m70.2 65) (m.1 28))) → (m70.1 73) < (n81 : Int) → TT w D pm_264 (33, [(0, .ref 189), (1, .int (i32 v69))], [], (mhp (mO m70 [] []) c, N), 0, 0) (Q_endChoice m c N B) := by
      intro n81
      induction n81 with
      | zero =>
        intro v69 m70 q78 Tm70 Fm70 ic72 ic73 ic74 ic75 ic76 ic77 c80 hmu
        obtain ⟨q78a, q78b⟩ := id q78
        have q79_10 : 0 ≤ m70.1 10 ∧ m70.1 10 ≤ 8 := Tm70.1 10
        have q79_28 : 0 ≤ m70.1 28 ∧ m70.1 28 ≤ 800 := Tm70.1 28
        have q79_69 : 0 ≤ m70.1 69 ∧ m70.1 69 ≤ 1024 := Tm70.1 69
        have q79_70 : 0 ≤ m70.1 70 ∧ m70.1 70 ≤ 4000 := Tm70.1 70
        have q79_71 : 0 ≤ m70.1 71 ∧ m70.1 71 ≤ 1 := Tm70.1 71
        have q79_72 : (-9223372036854775808) ≤ m70.1 72 ∧ m70.1 72 ≤ 9223372036854775807 := Tm70.1 72
        have q79_73 : 0 ≤ m70.1 73 ∧ m70.1 73 ≤ 60 := Tm70.1 73
        have q79_74 : 0 ≤ m70.1 74 ∧ m70.1 74 ≤ 24 := Tm70.1 74
        exfalso
        omega
      | succ n81 ih =>
        intro v69 m70 q78 Tm70 Fm70 ic72 ic73 ic74 ic75 ic76 ic77 c80 hmu
        obtain ⟨q78a, q78b⟩ := id q78
        have q79_10 : 0 ≤ m70.1 10 ∧ m70.1 10 ≤ 8 := Tm70.1 10
        have q79_28 : 0 ≤ m70.1 28 ∧ m70.1 28 ≤ 800 := Tm70.1 28
        have q79_69 : 0 ≤ m70.1 69 ∧ m70.1 69 ≤ 1024 := Tm70.1 69
        have q79_70 : 0 ≤ m70.1 70 ∧ m70.1 70 ≤ 4000 := Tm70.1 70
        have q79_71 : 0 ≤ m70.1 71 ∧ m70.1 71 ≤ 1 := Tm70.1 71
        have q79_72 : (-9223372036854775808) ≤ m70.1 72 ∧ m70.1 72 ≤ 9223372036854775807 := Tm70.1 72
        have q79_73 : 0 ≤ m70.1 73 ∧ m70.1 73 ≤ 60 := Tm70.1 73
        have q79_74 : 0 ≤ m70.1 74 ∧ m70.1 74 ≤ 24 := Tm70.1 74
        have ih82 := ih
        by_cases hf83 : (m70.1 10) = 0
        · skip
          obtain ⟨c84, c85, c86, c87, c88⟩ := c80 hf83
          clear c80
          have hXC := c84
          have hAgC := c88
          refine T_ld 34 (.int (i32 v69)) rfl (fun _ => rfl) ?_
          refine T_if 195 37 rfl rfl rfl (r32 (by omega) (by omega)) (fun (h89 : v69 = 0) => ?_) (fun (h89 : ¬ (v69 = 0)) => ?_)
          · skip
            refine T_gf 199 (.int (i32 (m70.1 73))) rfl rfl rfl rfl rfl rfl ?_
            refine T_if 208 202 rfl rfl rfl (r32 (by omega) (by omega)) (fun (h90 : (m70.1 73) ≠ 0) => ?_) (fun (h90 : ¬ ((m70.1 73) ≠ 0)) => ?_)
            · skip
              obtain ⟨hXB, hh2⟩ := XC_bra hXC (by omega) (by omega) (hT.2.1 76 _) (hT.2.1 79 _).1
              refine T_gf 212 (.ref 239) rfl rfl rfl rfl rfl rfl ?_
              refine T_gf 216 (.int (i32 (m70.1 73))) rfl rfl rfl rfl rfl rfl ?_
              refine T_ld 217 (.int (i32 1)) rfl (fun _ => rfl) ?_
              refine T_isub 218 rfl rfl ?_
              refine T_iald 219 77 (m.2 77) rfl rfl rfl (by omega) (show ((m70.1 73) - 1) < (60 : Int) by omega) (show (m70.2 77) = (m.2 77) from ((fr2 Fm70 77 rfl).trans (fr2 Fm68 77 rfl))) ?_
              have e91 : 0 ≤ m.2 77 ((m70.1 73) - 1) ∧ m.2 77 ((m70.1 73) - 1) ≤ 4000 := hT.2.1 77 ((m70.1 73) - 1)
              refine T_sto 220 [(2, .int (i32 ((m.2 77) ((m70.1 73) - 1)))), (0, .ref 189), (1, .int (i32 v69))] rfl (fun _ => rfl) ?_
              refine T_ld 221 (.ref 189) rfl (fun _ => rfl) ?_
              refine T_ld 223 (.int (i32 41)) rfl (fun _ => rfl) ?_
              refine T_call 226 232 [.ref 189, .int (i32 41)] [] rfl (fun _ => rfl) rfl (d_need w (mO m70 [] []) c N D (by omega) Tm70 41 ⟨by decide, by decide⟩ (show 1 ≤ (41 : Int) by omega) (show LxP (m70.1 7) (m70.1 8) (m70.1 9) (m70.1 6) (m70.1 10) by rewrite [(show (m70.1 7) = (m.1 7) from ((fr1 Fm70 7 rfl).trans (fr1 Fm68 7 rfl))), (show (m70.1 8) = (m.1 8) from ((fr1 Fm70 8 rfl).trans (fr1 Fm68 8 rfl))), (show (m70.1 9) = (m.1 9) from ((fr1 Fm70 9 rfl).trans (fr1 Fm68 9 rfl))), (show (m70.1 6) = (m.1 6) from ((fr1 Fm70 6 rfl).trans (fr1 Fm68 6 rfl)))]; first | exact hLx | (intro h9; exfalso; omega) | (intro h9; have h8 := hLx (by omega); omega))) (fun rr92 k93 => ?_)
              obtain ⟨m94, Tm94, Fm94, h95, h96, h97, h98, rfl⟩ := k93
              refine ⟨_, _, rfl, ?_⟩
              refine T_nb (st' := []) rfl ?_
              have g99 : 0 ≤ m94.1 7 ∧ m94.1 7 ≤ 330 := Tm94.1 7
              have g100 : 0 ≤ m94.1 8 ∧ m94.1 8 ≤ 4000 := Tm94.1 8
              have g101 : 0 ≤ m94.1 9 ∧ m94.1 9 ≤ 4000 := Tm94.1 9
              have g102 : 0 ≤ m94.1 10 ∧ m94.1 10 ≤ 8 := Tm94.1 10
              by_cases hf103 : (m94.1 10) = 0
              · skip
                replace h95 : LxP (m94.1 7) (m94.1 8) (m94.1 9) (m70.1 6) (m94.1 10) := h95
                rewrite [(show (m70.1 6) = (m.1 6) from ((fr1 Fm70 6 rfl).trans (fr1 Fm68 6 rfl)))] at h95
                have hLx := h95
                replace h96 : (m70.1 10) = 0 ∧ (m70.1 7) = (41 : Int) := h96 hf103
                rewrite [(show (m70.1 7) = (m.1 7) from ((fr1 Fm70 7 rfl).trans (fr1 Fm68 7 rfl)))] at h96
                replace h97 : (m70.1 8) ≤ (m94.1 8) := h97
                rewrite [(show (m70.1 8) = (m.1 8) from ((fr1 Fm70 8 rfl).trans (fr1 Fm68 8 rfl)))] at h97
                replace h98 : (m70.1 8) + (m70.1 9) ≤ (m94.1 8) := h98 hf103
                rewrite [(show (m70.1 8) = (m.1 8) from ((fr1 Fm70 8 rfl).trans (fr1 Fm68 8 rfl))), (show (m70.1 9) = (m.1 9) from ((fr1 Fm70 9 rfl).trans (fr1 Fm68 9 rfl)))] at h98
                have hAgC : agr (m.2 65) (m70.2 65) (m.1 28) := by first | exact agr_r _ _ | exact hAgC | exact agr_t hAgC hAg (by omega)
                have u104 : (m.1 28) ≤ (m70.1 28) := by omega
                have u105 : (m70.1 69) ≤ 64 := by omega
                clear q79_10 ic77 h96
                refine T_ld 227 (.ref 189) rfl (fun _ => rfl) ?_
                refine T_ld 228 (.ref 189) rfl (fun _ => rfl) ?_
                refine T_gf1 231 (.int (i32 (m70.1 73))) rfl rfl (mfv_c (F := fun x => .int (i32 x)) rfl (show (m94.1 73) = (m70.1 73) from (fr1 Fm94 73 rfl))) rfl ?_
                refine T_ld 232 (.int (i32 1)) rfl (fun _ => rfl) ?_
                refine T_isub 233 rfl rfl ?_
                refine T_pf (l' := [(73, (m70.1 73) - 1)]) 236 ((m70.1 73) - 1) rfl rfl rfl rfl rfl rfl ?_
                have g106 : 0 ≤ (m70.1 73) - 1 ∧ (m70.1 73) - 1 ≤ 60 := ⟨by omega, by omega⟩
                refine T_ld 237 (.ref 189) rfl (fun _ => rfl) ?_
                refine T_ld 238 (.int (i32 ((m.2 77) ((m70.1 73) - 1)))) rfl (fun _ => rfl) ?_
                refine T_pf (l' := [(70, (m.2 77) ((m70.1 73) - 1)), (73, (m70.1 73) - 1)]) 241 ((m.2 77) ((m70.1 73) - 1)) rfl rfl rfl rfl rfl rfl ?_
                have g107 : 0 ≤ (m.2 77) ((m70.1 73) - 1) ∧ (m.2 77) ((m70.1 73) - 1) ≤ 4000 := ⟨by omega, by omega⟩
                refine T_ld 242 (.ref 189) rfl (fun _ => rfl) ?_
                refine T_ld 243 (.int (i32 1)) rfl (fun _ => rfl) ?_
                refine T_pf (l' := [(70, (m.2 77) ((m70.1 73) - 1)), (73, (m70.1 73) - 1), (75, 1)]) 246 1 rfl rfl rfl rfl rfl rfl ?_
                have hXE : XS (m70.2 65) (m70.2 67) (m.2 76) (m.2 78) (m.2 79) (m.2 80) B (m70.1 28) ((m70.1 73) - 1) (m70.1 74) (um (1 : Int)) := by
                  rw [show um (1 : Int) = 1 from if_neg (by omega)]
                  exact hXB
                refine T_ret rfl (fun _ => rfl) ?_
                exact ⟨(mO m94 [(70, (m.2 77) ((m70.1 73) - 1)), (73, (m70.1 73) - 1), (75, 1)] []), (Ty_mO Tm94 rfl rfl ⟨g107, g106, ⟨(by omega : (0 : Int) ≤ 1), (by omega : (1 : Int) ≤ 3)⟩, trivial⟩ trivial), (fr_m (fr_s Fm94 (fr_m (fr_s Fm70 (fr_m (fr_s Fm68 (fr_m fr_0 rfl rfl) rfl rfl) rfl rfl) rfl rfl) rfl rfl) rfl rfl) rfl rfl), (show (m94.1 10) = 0 → (m.1 10) = 0 by omega), (show LxP (m94.1 7) (m94.1 8) (m94.1 9) (m.1 6) (m94.1 10) by first | (first | exact hLx | exact (fun _ => hLx (by omega)) | (intro h9; exfalso; omega)) | (exfalso; omega)), (fun _ => ⟨(show GPc (m.1 8) (m94.1 8) (1 : Int) ((m70.1 73) - 1) (m.1 73) by first | (first | assumption | (unfold GPc; omega)) | (exfalso; omega)), (show GU (1 : Int) (m94.1 69) by rewrite [(show (m94.1 69) = (m70.1 69) from (fr1 Fm94 69 rfl))]; first | (first | assumption | (unfold GU; omega)) | (exfalso; omega)), (show GH (1 : Int) ((m70.1 73) - 1) by first | (first | assumption | (unfold GH; omega)) | (exfalso; omega)), (show (m.1 28) ≤ (m94.1 28) by rewrite [(show (m94.1 28) = (m70.1 28) from (fr1 Fm94 28 rfl))]; omega), (show XS (m94.2 65) (m94.2 67) (m.2 76) (m.2 78) (m.2 79) (m.2 80) B (m94.1 28) ((m70.1 73) - 1) (m94.1 74) (um (1 : Int)) by rewrite [(show (m94.2 65) = (m70.2 65) from (fr2 Fm94 65 rfl)), (show (m94.2 67) = (m70.2 67) from (fr2 Fm94 67 rfl)), (show (m94.1 28) = (m70.1 28) from (fr1 Fm94 28 rfl)), (show (m94.1 74) = (m70.1 74) from (fr1 Fm94 74 rfl))]; first | (exact hXE) | (exfalso; omega)), (show agr (m.2 65) (m94.2 65) (m.1 28) by rewrite [(show (m94.2 65) = (m70.2 65) from (fr2 Fm94 65 rfl))]; first | (exact hAgC) | (exfalso; omega))⟩), rfl⟩
              · skip
                replace h95 : LxP (m94.1 7) (m94.1 8) (m94.1 9) (m70.1 6) (m94.1 10) := h95
                rewrite [(show (m70.1 6) = (m.1 6) from ((fr1 Fm70 6 rfl).trans (fr1 Fm68 6 rfl)))] at h95
                have hLx := h95
                clear h96
                replace h97 : (m70.1 8) ≤ (m94.1 8) := h97
                rewrite [(show (m70.1 8) = (m.1 8) from ((fr1 Fm70 8 rfl).trans (fr1 Fm68 8 rfl)))] at h97
                clear h98
                have hf108 : 1 ≤ (m94.1 10) := by omega
                clear q79_10 ic77
                refine T_ld 227 (.ref 189) rfl (fun _ => rfl) ?_
                refine T_ld 228 (.ref 189) rfl (fun _ => rfl) ?_
                refine T_gf1 231 (.int (i32 (m70.1 73))) rfl rfl (mfv_c (F := fun x => .int (i32 x)) rfl (show (m94.1 73) = (m70.1 73) from (fr1 Fm94 73 rfl))) rfl ?_
                refine T_ld 232 (.int (i32 1)) rfl (fun _ => rfl) ?_
                refine T_isub 233 rfl rfl ?_
                refine T_pf (l' := [(73, (m70.1 73) - 1)]) 236 ((m70.1 73) - 1) rfl rfl rfl rfl rfl rfl ?_
                have g109 : 0 ≤ (m70.1 73) - 1 ∧ (m70.1 73) - 1 ≤ 60 := ⟨by omega, by omega⟩
                refine T_ld 237 (.ref 189) rfl (fun _ => rfl) ?_
                refine T_ld 238 (.int (i32 ((m.2 77) ((m70.1 73) - 1)))) rfl (fun _ => rfl) ?_
                refine T_pf (l' := [(70, (m.2 77) ((m70.1 73) - 1)), (73, (m70.1 73) - 1)]) 241 ((m.2 77) ((m70.1 73) - 1)) rfl rfl rfl rfl rfl rfl ?_
                have g110 : 0 ≤ (m.2 77) ((m70.1 73) - 1) ∧ (m.2 77) ((m70.1 73) - 1) ≤ 4000 := ⟨by omega, by omega⟩
                refine T_ld 242 (.ref 189) rfl (fun _ => rfl) ?_
                refine T_ld 243 (.int (i32 1)) rfl (fun _ => rfl) ?_
                refine T_pf (l' := [(70, (m.2 77) ((m70.1 73) - 1)), (73, (m70.1 73) - 1), (75, 1)]) 246 1 rfl rfl rfl rfl rfl rfl ?_
                refine T_ret rfl (fun _ => rfl) ?_
                exact ⟨(mO m94 [(70, (m.2 77) ((m70.1 73) - 1)), (73, (m70.1 73) - 1), (75, 1)] []), (Ty_mO Tm94 rfl rfl ⟨g110, g109, ⟨(by omega : (0 : Int) ≤ 1), (by omega : (1 : Int) ≤ 3)⟩, trivial⟩ trivial), (fr_m (fr_s Fm94 (fr_m (fr_s Fm70 (fr_m (fr_s Fm68 (fr_m fr_0 rfl rfl) rfl rfl) rfl rfl) rfl rfl) rfl rfl) rfl rfl) rfl rfl), (show (m94.1 10) = 0 → (m.1 10) = 0 by omega), (show LxP (m94.1 7) (m94.1 8) (m94.1 9) (m.1 6) (m94.1 10) by first | (first | exact hLx | exact (fun _ => hLx (by omega)) | (intro h9; exfalso; omega)) | (exfalso; omega)), (fun (h : (m94.1 10) = 0) => absurd h (by omega)), rfl⟩
            · skip
              refine T_ld 203 (.ref 189) rfl (fun _ => rfl) ?_
              refine T_ld 204 (.int (i32 3)) rfl (fun _ => rfl) ?_
              refine T_pf (l' := [(75, 3)]) 207 3 rfl rfl rfl rfl rfl rfl ?_
              have hXE : XS (m70.2 65) (m70.2 67) (m.2 76) (m.2 78) (m.2 79) (m.2 80) B (m70.1 28) (m70.1 73) (m70.1 74) (um (3 : Int)) := by
                rw [show um (3 : Int) = 1 from if_neg (by omega)]
                have e : (m70.1 73) = 0 := by omega
                have H := hXC
                rw [e] at H ⊢
                exact XC_end H
              refine T_ret rfl (fun _ => rfl) ?_
              exact ⟨(mO m70 [(75, 3)] []), (Ty_mO Tm70 rfl rfl ⟨⟨(by omega : (0 : Int) ≤ 3), (by omega : (3 : Int) ≤ 3)⟩, trivial⟩ trivial), (fr_m (fr_s Fm70 (fr_m (fr_s Fm68 (fr_m fr_0 rfl rfl) rfl rfl) rfl rfl) rfl rfl) rfl rfl), (show (m70.1 10) = 0 → (m.1 10) = 0 by omega), (show LxP (m70.1 7) (m70.1 8) (m70.1 9) (m.1 6) (m70.1 10) by rewrite [(show (m70.1 7) = (m.1 7) from ((fr1 Fm70 7 rfl).trans (fr1 Fm68 7 rfl))), (show (m70.1 8) = (m.1 8) from ((fr1 Fm70 8 rfl).trans (fr1 Fm68 8 rfl))), (show (m70.1 9) = (m.1 9) from ((fr1 Fm70 9 rfl).trans (fr1 Fm68 9 rfl)))]; first | (first | exact hLx | exact (fun _ => hLx (by omega)) | (intro h9; exfalso; omega)) | (exfalso; omega)), (fun _ => ⟨(show GPc (m.1 8) (m70.1 8) (3 : Int) (m70.1 73) (m.1 73) by rewrite [(show (m70.1 8) = (m.1 8) from ((fr1 Fm70 8 rfl).trans (fr1 Fm68 8 rfl)))]; first | (first | assumption | (unfold GPc; omega)) | (exfalso; omega)), (show GU (3 : Int) (m70.1 69) by first | (first | assumption | (unfold GU; omega)) | (exfalso; omega)), (show GH (3 : Int) (m70.1 73) by first | (first | assumption | (unfold GH; omega)) | (exfalso; omega)), (show (m.1 28) ≤ (m70.1 28) by omega), (show XS (m70.2 65) (m70.2 67) (m.2 76) (m.2 78) (m.2 79) (m.2 80) B (m70.1 28) (m70.1 73) (m70.1 74) (um (3 : Int)) by first | (exact hXE) | (exfalso; omega)), (show agr (m.2 65) (m70.2 65) (m.1 28) by first | (exact hAgC) | (exfalso; omega))⟩), rfl⟩
          · skip
            refine T_gf 41 (.ref 238) rfl rfl rfl rfl rfl rfl ?_
            refine T_gf 45 (.int (i32 (m70.1 73))) rfl rfl rfl rfl rfl rfl ?_
            refine T_ld 46 (.int (i32 1)) rfl (fun _ => rfl) ?_
            refine T_isub 47 rfl rfl ?_
            refine T_iald 48 76 (m.2 76) rfl rfl rfl (by omega) (show ((m70.1 73) - 1) < (60 : Int) by omega) (show (m70.2 76) = (m.2 76) from ((fr2 Fm70 76 rfl).trans (fr2 Fm68 76 rfl))) ?_
            have e111 : 0 ≤ m.2 76 ((m70.1 73) - 1) ∧ m.2 76 ((m70.1 73) - 1) ≤ 2 := hT.2.1 76 ((m70.1 73) - 1)
            refine T_if 195 51 rfl rfl rfl (r32 (by omega) (by omega)) (fun (h112 : (m.2 76) ((m70.1 73) - 1) ≠ 0) => ?_) (fun (h112 : ¬ ((m.2 76) ((m70.1 73) - 1) ≠ 0)) => ?_)
            · skip
              refine T_gf 199 (.int (i32 (m70.1 73))) rfl rfl rfl rfl rfl rfl ?_
              refine T_if 208 202 rfl rfl rfl (r32 (by omega) (by omega)) (fun (h113 : (m70.1 73) ≠ 0) => ?_) (fun (h113 : ¬ ((m70.1 73) ≠ 0)) => ?_)
              · skip
                obtain ⟨hXB, hh2⟩ := XC_bra hXC (by omega) (by omega) (hT.2.1 76 _) (hT.2.1 79 _).1
                refine T_gf 212 (.ref 239) rfl rfl rfl rfl rfl rfl ?_
                refine T_gf 216 (.int (i32 (m70.1 73))) rfl rfl rfl rfl rfl rfl ?_
                refine T_ld 217 (.int (i32 1)) rfl (fun _ => rfl) ?_
                refine T_isub 218 rfl rfl ?_
                refine T_iald 219 77 (m.2 77) rfl rfl rfl (by omega) (show ((m70.1 73) - 1) < (60 : Int) by omega) (show (m70.2 77) = (m.2 77) from ((fr2 Fm70 77 rfl).trans (fr2 Fm68 77 rfl))) ?_
                have e114 : 0 ≤ m.2 77 ((m70.1 73) - 1) ∧ m.2 77 ((m70.1 73) - 1) ≤ 4000 := hT.2.1 77 ((m70.1 73) - 1)
                refine T_sto 220 [(2, .int (i32 ((m.2 77) ((m70.1 73) - 1)))), (0, .ref 189), (1, .int (i32 v69))] rfl (fun _ => rfl) ?_
                refine T_ld 221 (.ref 189) rfl (fun _ => rfl) ?_
                refine T_ld 223 (.int (i32 41)) rfl (fun _ => rfl) ?_
                refine T_call 226 232 [.ref 189, .int (i32 41)] [] rfl (fun _ => rfl) rfl (d_need w (mO m70 [] []) c N D (by omega) Tm70 41 ⟨by decide, by decide⟩ (show 1 ≤ (41 : Int) by omega) (show LxP (m70.1 7) (m70.1 8) (m70.1 9) (m70.1 6) (m70.1 10) by rewrite [(show (m70.1 7) = (m.1 7) from ((fr1 Fm70 7 rfl).trans (fr1 Fm68 7 rfl))), (show (m70.1 8) = (m.1 8) from ((fr1 Fm70 8 rfl).trans (fr1 Fm68 8 rfl))), (show (m70.1 9) = (m.1 9) from ((fr1 Fm70 9 rfl).trans (fr1 Fm68 9 rfl))), (show (m70.1 6) = (m.1 6) from ((fr1 Fm70 6 rfl).trans (fr1 Fm68 6 rfl)))]; first | exact hLx | (intro h9; exfalso; omega) | (intro h9; have h8 := hLx (by omega); omega))) (fun rr115 k116 => ?_)
                obtain ⟨m117, Tm117, Fm117, h118, h119, h120, h121, rfl⟩ := k116
                refine ⟨_, _, rfl, ?_⟩
                refine T_nb (st' := []) rfl ?_
                have g122 : 0 ≤ m117.1 7 ∧ m117.1 7 ≤ 330 := Tm117.1 7
                have g123 : 0 ≤ m117.1 8 ∧ m117.1 8 ≤ 4000 := Tm117.1 8
                have g124 : 0 ≤ m117.1 9 ∧ m117.1 9 ≤ 4000 := Tm117.1 9
                have g125 : 0 ≤ m117.1 10 ∧ m117.1 10 ≤ 8 := Tm117.1 10
                by_cases hf126 : (m117.1 10) = 0
                · skip
                  replace h118 : LxP (m117.1 7) (m117.1 8) (m117.1 9) (m70.1 6) (m117.1 10) := h118
                  rewrite [(show (m70.1 6) = (m.1 6) from ((fr1 Fm70 6 rfl).trans (fr1 Fm68 6 rfl)))] at h118
                  have hLx := h118
                  replace h119 : (m70.1 10) = 0 ∧ (m70.1 7) = (41 : Int) := h119 hf126
                  rewrite [(show (m70.1 7) = (m.1 7) from ((fr1 Fm70 7 rfl).trans (fr1 Fm68 7 rfl)))] at h119
                  replace h120 : (m70.1 8) ≤ (m117.1 8) := h120
                  rewrite [(show (m70.1 8) = (m.1 8) from ((fr1 Fm70 8 rfl).trans (fr1 Fm68 8 rfl)))] at h120
                  replace h121 : (m70.1 8) + (m70.1 9) ≤ (m117.1 8) := h121 hf126
                  rewrite [(show (m70.1 8) = (m.1 8) from ((fr1 Fm70 8 rfl).trans (fr1 Fm68 8 rfl))), (show (m70.1 9) = (m.1 9) from ((fr1 Fm70 9 rfl).trans (fr1 Fm68 9 rfl)))] at h121
                  have hAgC : agr (m.2 65) (m70.2 65) (m.1 28) := by first | exact agr_r _ _ | exact hAgC | exact agr_t hAgC hAg (by omega)
                  have u127 : (m.1 28) ≤ (m70.1 28) := by omega
                  have u128 : (m70.1 69) ≤ 64 := by omega
                  clear q79_10 ic77 h119
                  refine T_ld 227 (.ref 189) rfl (fun _ => rfl) ?_
                  refine T_ld 228 (.ref 189) rfl (fun _ => rfl) ?_
                  refine T_gf1 231 (.int (i32 (m70.1 73))) rfl rfl (mfv_c (F := fun x => .int (i32 x)) rfl (show (m117.1 73) = (m70.1 73) from (fr1 Fm117 73 rfl))) rfl ?_
                  refine T_ld 232 (.int (i32 1)) rfl (fun _ => rfl) ?_
                  refine T_isub 233 rfl rfl ?_
                  refine T_pf (l' := [(73, (m70.1 73) - 1)]) 236 ((m70.1 73) - 1) rfl rfl rfl rfl rfl rfl ?_
                  have g129 : 0 ≤ (m70.1 73) - 1 ∧ (m70.1 73) - 1 ≤ 60 := ⟨by omega, by omega⟩
                  refine T_ld 237 (.ref 189) rfl (fun _ => rfl) ?_
                  refine T_ld 238 (.int (i32 ((m.2 77) ((m70.1 73) - 1)))) rfl (fun _ => rfl) ?_
                  refine T_pf (l' := [(70, (m.2 77) ((m70.1 73) - 1)), (73, (m70.1 73) - 1)]) 241 ((m.2 77) ((m70.1 73) - 1)) rfl rfl rfl rfl rfl rfl ?_
                  have g130 : 0 ≤ (m.2 77) ((m70.1 73) - 1) ∧ (m.2 77) ((m70.1 73) - 1) ≤ 4000 := ⟨by omega, by omega⟩
                  refine T_ld 242 (.ref 189) rfl (fun _ => rfl) ?_
                  refine T_ld 243 (.int (i32 1)) rfl (fun _ => rfl) ?_
                  refine T_pf (l' := [(70, (m.2 77) ((m70.1 73) - 1)), (73, (m70.1 73) - 1), (75, 1)]) 246 1 rfl rfl rfl rfl rfl rfl ?_
                  have hXE : XS (m70.2 65) (m70.2 67) (m.2 76) (m.2 78) (m.2 79) (m.2 80) B (m70.1 28) ((m70.1 73) - 1) (m70.1 74) (um (1 : Int)) := by
                    rw [show um (1 : Int) = 1 from if_neg (by omega)]
                    exact hXB
                  refine T_ret rfl (fun _ => rfl) ?_
                  exact ⟨(mO m117 [(70, (m.2 77) ((m70.1 73) - 1)), (73, (m70.1 73) - 1), (75, 1)] []), (Ty_mO Tm117 rfl rfl ⟨g130, g129, ⟨(by omega : (0 : Int) ≤ 1), (by omega : (1 : Int) ≤ 3)⟩, trivial⟩ trivial), (fr_m (fr_s Fm117 (fr_m (fr_s Fm70 (fr_m (fr_s Fm68 (fr_m fr_0 rfl rfl) rfl rfl) rfl rfl) rfl rfl) rfl rfl) rfl rfl) rfl rfl), (show (m117.1 10) = 0 → (m.1 10) = 0 by omega), (show LxP (m117.1 7) (m117.1 8) (m117.1 9) (m.1 6) (m117.1 10) by first | (first | exact hLx | exact (fun _ => hLx (by omega)) | (intro h9; exfalso; omega)) | (exfalso; omega)), (fun _ => ⟨(show GPc (m.1 8) (m117.1 8) (1 : Int) ((m70.1 73) - 1) (m.1 73) by first | (first | assumption | (unfold GPc; omega)) | (exfalso; omega)), (show GU (1 : Int) (m117.1 69) by rewrite [(show (m117.1 69) = (m70.1 69) from (fr1 Fm117 69 rfl))]; first | (first | assumption | (unfold GU; omega)) | (exfalso; omega)), (show GH (1 : Int) ((m70.1 73) - 1) by first | (first | assumption | (unfold GH; omega)) | (exfalso; omega)), (show (m.1 28) ≤ (m117.1 28) by rewrite [(show (m117.1 28) = (m70.1 28) from (fr1 Fm117 28 rfl))]; omega), (show XS (m117.2 65) (m117.2 67) (m.2 76) (m.2 78) (m.2 79) (m.2 80) B (m117.1 28) ((m70.1 73) - 1) (m117.1 74) (um (1 : Int)) by rewrite [(show (m117.2 65) = (m70.2 65) from (fr2 Fm117 65 rfl)), (show (m117.2 67) = (m70.2 67) from (fr2 Fm117 67 rfl)), (show (m117.1 28) = (m70.1 28) from (fr1 Fm117 28 rfl)), (show (m117.1 74) = (m70.1 74) from (fr1 Fm117 74 rfl))]; first | (exact hXE) | (exfalso; omega)), (show agr (m.2 65) (m117.2 65) (m.1 28) by rewrite [(show (m117.2 65) = (m70.2 65) from (fr2 Fm117 65 rfl))]; first | (exact hAgC) | (exfalso; omega))⟩), rfl⟩
                · skip
                  replace h118 : LxP (m117.1 7) (m117.1 8) (m117.1 9) (m70.1 6) (m117.1 10) := h118
                  rewrite [(show (m70.1 6) = (m.1 6) from ((fr1 Fm70 6 rfl).trans (fr1 Fm68 6 rfl)))] at h118
                  have hLx := h118
                  clear h119
                  replace h120 : (m70.1 8) ≤ (m117.1 8) := h120
                  rewrite [(show (m70.1 8) = (m.1 8) from ((fr1 Fm70 8 rfl).trans (fr1 Fm68 8 rfl)))] at h120
                  clear h121
                  have hf131 : 1 ≤ (m117.1 10) := by omega
                  clear q79_10 ic77
                  refine T_ld 227 (.ref 189) rfl (fun _ => rfl) ?_
                  refine T_ld 228 (.ref 189) rfl (fun _ => rfl) ?_
                  refine T_gf1 231 (.int (i32 (m70.1 73))) rfl rfl (mfv_c (F := fun x => .int (i32 x)) rfl (show (m117.1 73) = (m70.1 73) from (fr1 Fm117 73 rfl))) rfl ?_
                  refine T_ld 232 (.int (i32 1)) rfl (fun _ => rfl) ?_
                  refine T_isub 233 rfl rfl ?_
                  refine T_pf (l' := [(73, (m70.1 73) - 1)]) 236 ((m70.1 73) - 1) rfl rfl rfl rfl rfl rfl ?_
                  have g132 : 0 ≤ (m70.1 73) - 1 ∧ (m70.1 73) - 1 ≤ 60 := ⟨by omega, by omega⟩
                  refine T_ld 237 (.ref 189) rfl (fun _ => rfl) ?_
                  refine T_ld 238 (.int (i32 ((m.2 77) ((m70.1 73) - 1)))) rfl (fun _ => rfl) ?_
                  refine T_pf (l' := [(70, (m.2 77) ((m70.1 73) - 1)), (73, (m70.1 73) - 1)]) 241 ((m.2 77) ((m70.1 73) - 1)) rfl rfl rfl rfl rfl rfl ?_
                  have g133 : 0 ≤ (m.2 77) ((m70.1 73) - 1) ∧ (m.2 77) ((m70.1 73) - 1) ≤ 4000 := ⟨by omega, by omega⟩
                  refine T_ld 242 (.ref 189) rfl (fun _ => rfl) ?_
                  refine T_ld 243 (.int (i32 1)) rfl (fun _ => rfl) ?_
                  refine T_pf (l' := [(70, (m.2 77) ((m70.1 73) - 1)), (73, (m70.1 73) - 1), (75, 1)]) 246 1 rfl rfl rfl rfl rfl rfl ?_
                  refine T_ret rfl (fun _ => rfl) ?_
                  exact ⟨(mO m117 [(70, (m.2 77) ((m70.1 73) - 1)), (73, (m70.1 73) - 1), (75, 1)] []), (Ty_mO Tm117 rfl rfl ⟨g133, g132, ⟨(by omega : (0 : Int) ≤ 1), (by omega : (1 : Int) ≤ 3)⟩, trivial⟩ trivial), (fr_m (fr_s Fm117 (fr_m (fr_s Fm70 (fr_m (fr_s Fm68 (fr_m fr_0 rfl rfl) rfl rfl) rfl rfl) rfl rfl) rfl rfl) rfl rfl) rfl rfl), (show (m117.1 10) = 0 → (m.1 10) = 0 by omega), (show LxP (m117.1 7) (m117.1 8) (m117.1 9) (m.1 6) (m117.1 10) by first | (first | exact hLx | exact (fun _ => hLx (by omega)) | (intro h9; exfalso; omega)) | (exfalso; omega)), (fun (h : (m117.1 10) = 0) => absurd h (by omega)), rfl⟩
              · skip
                refine T_ld 203 (.ref 189) rfl (fun _ => rfl) ?_
                refine T_ld 204 (.int (i32 3)) rfl (fun _ => rfl) ?_
                refine T_pf (l' := [(75, 3)]) 207 3 rfl rfl rfl rfl rfl rfl ?_
                have hXE : XS (m70.2 65) (m70.2 67) (m.2 76) (m.2 78) (m.2 79) (m.2 80) B (m70.1 28) (m70.1 73) (m70.1 74) (um (3 : Int)) := by
                  rw [show um (3 : Int) = 1 from if_neg (by omega)]
                  have e : (m70.1 73) = 0 := by omega
                  have H := hXC
                  rw [e] at H ⊢
                  exact XC_end H
                refine T_ret rfl (fun _ => rfl) ?_
                exact ⟨(mO m70 [(75, 3)] []), (Ty_mO Tm70 rfl rfl ⟨⟨(by omega : (0 : Int) ≤ 3), (by omega : (3 : Int) ≤ 3)⟩, trivial⟩ trivial), (fr_m (fr_s Fm70 (fr_m (fr_s Fm68 (fr_m fr_0 rfl rfl) rfl rfl) rfl rfl) rfl rfl) rfl rfl), (show (m70.1 10) = 0 → (m.1 10) = 0 by omega), (show LxP (m70.1 7) (m70.1 8) (m70.1 9) (m.1 6) (m70.1 10) by rewrite [(show (m70.1 7) = (m.1 7) from ((fr1 Fm70 7 rfl).trans (fr1 Fm68 7 rfl))), (show (m70.1 8) = (m.1 8) from ((fr1 Fm70 8 rfl).trans (fr1 Fm68 8 rfl))), (show (m70.1 9) = (m.1 9) from ((fr1 Fm70 9 rfl).trans (fr1 Fm68 9 rfl)))]; first | (first | exact hLx | exact (fun _ => hLx (by omega)) | (intro h9; exfalso; omega)) | (exfalso; omega)), (fun _ => ⟨(show GPc (m.1 8) (m70.1 8) (3 : Int) (m70.1 73) (m.1 73) by rewrite [(show (m70.1 8) = (m.1 8) from ((fr1 Fm70 8 rfl).trans (fr1 Fm68 8 rfl)))]; first | (first | assumption | (unfold GPc; omega)) | (exfalso; omega)), (show GU (3 : Int) (m70.1 69) by first | (first | assumption | (unfold GU; omega)) | (exfalso; omega)), (show GH (3 : Int) (m70.1 73) by first | (first | assumption | (unfold GH; omega)) | (exfalso; omega)), (show (m.1 28) ≤ (m70.1 28) by omega), (show XS (m70.2 65) (m70.2 67) (m.2 76) (m.2 78) (m.2 79) (m.2 80) B (m70.1 28) (m70.1 73) (m70.1 74) (um (3 : Int)) by first | (exact hXE) | (exfalso; omega)), (show agr (m.2 65) (m70.2 65) (m.1 28) by first | (exact hAgC) | (exfalso; omega))⟩), rfl⟩
            · skip
              have hd1 := XC_de hXC (by omega)
              have hh3 := XC_h hXC (by omega) (by omega)
              have hl0 : 0 ≤ lh (m.2 79) (m.2 80) ((m70.1 73) - 1) := lh_0 (hT.2.1 79) _ _
              refine T_gf 55 (.int (i32 (m70.1 73))) rfl rfl rfl rfl rfl rfl ?_
              refine T_ld 56 (.int (i32 1)) rfl (fun _ => rfl) ?_
              refine T_isub 57 rfl rfl ?_
              refine T_sto 58 [(2, .int (i32 ((m70.1 73) - 1))), (0, .ref 189), (1, .int (i32 v69))] rfl (fun _ => rfl) ?_
              refine T_ld 59 (.ref 189) rfl (fun _ => rfl) ?_
              refine T_gf 63 (.ref 247) rfl rfl rfl rfl rfl rfl ?_
              refine T_ld 64 (.int (i32 ((m70.1 73) - 1))) rfl (fun _ => rfl) ?_
              refine T_iald 65 85 (m.2 85) rfl rfl rfl (by omega) (show ((m70.1 73) - 1) < (60 : Int) by omega) (show (m70.2 85) = (m.2 85) from ((fr2 Fm70 85 rfl).trans (fr2 Fm68 85 rfl))) ?_
              have e134 : 0 ≤ m.2 85 ((m70.1 73) - 1) ∧ m.2 85 ((m70.1 73) - 1) ≤ 64 := hT.2.1 85 ((m70.1 73) - 1)
              refine T_gf 69 (.ref 251) rfl rfl rfl rfl rfl rfl ?_
              refine T_ld 70 (.int (i32 ((m70.1 73) - 1))) rfl (fun _ => rfl) ?_
              refine T_bald 71 89 (m.2 89) rfl rfl rfl (by omega) (show ((m70.1 73) - 1) < (60 : Int) by omega) (show (m70.2 89) = (m.2 89) from ((fr2 Fm70 89 rfl).trans (fr2 Fm68 89 rfl))) ?_
              have e135 : 0 ≤ m.2 89 ((m70.1 73) - 1) ∧ m.2 89 ((m70.1 73) - 1) ≤ 1 := hT.2.1 89 ((m70.1 73) - 1)
              refine T_gf 75 (.ref 253) rfl rfl rfl rfl rfl rfl ?_
              refine T_ld 76 (.int (i32 ((m70.1 73) - 1))) rfl (fun _ => rfl) ?_
              refine T_lald 77 91 (m.2 91) rfl rfl rfl (by omega) (show ((m70.1 73) - 1) < (60 : Int) by omega) (show (m70.2 91) = (m.2 91) from ((fr2 Fm70 91 rfl).trans (fr2 Fm68 91 rfl))) ?_
              have e136 : (-9223372036854775808) ≤ m.2 91 ((m70.1 73) - 1) ∧ m.2 91 ((m70.1 73) - 1) ≤ 9223372036854775807 := hT.2.1 91 ((m70.1 73) - 1)
              refine T_gf 81 (.ref 248) rfl rfl rfl rfl rfl rfl ?_
              refine T_ld 82 (.int (i32 ((m70.1 73) - 1))) rfl (fun _ => rfl) ?_
              refine T_iald 83 86 (m.2 86) rfl rfl rfl (by omega) (show ((m70.1 73) - 1) < (60 : Int) by omega) (show (m70.2 86) = (m.2 86) from ((fr2 Fm70 86 rfl).trans (fr2 Fm68 86 rfl))) ?_
              have e137 : 0 ≤ m.2 86 ((m70.1 73) - 1) ∧ m.2 86 ((m70.1 73) - 1) ≤ 4000 := hT.2.1 86 ((m70.1 73) - 1)
              refine T_call 86 258 [.ref 189, .int (i32 ((m.2 85) ((m70.1 73) - 1))), .int (i32 ((m.2 89) ((m70.1 73) - 1))), .long (i64 ((m.2 91) ((m70.1 73) - 1))), .int (i32 ((m.2 86) ((m70.1 73) - 1)))] [] rfl (fun _ => rfl) rfl (c_wantBit w (mO m70 [] []) c N D (by omega) Tm70 ((m.2 85) ((m70.1 73) - 1)) ((m.2 89) ((m70.1 73) - 1)) ((m.2 91) ((m70.1 73) - 1)) ((m.2 86) ((m70.1 73) - 1)) (r32 (by omega) (by omega)) (r32 (by omega) (by omega)) (r64 (by omega) (by omega)) (r32 (by omega) (by omega)) (show 0 ≤ ((m.2 86) ((m70.1 73) - 1)) ∧ ((m.2 86) ((m70.1 73) - 1)) ≤ 4000 by omega) (fun _ => trivial)) (fun rr138 k139 => ?_)
              obtain ⟨m140, Tm140, Fm140, h141, c142, rfl⟩ := k139
              refine ⟨_, _, rfl, ?_⟩
              refine T_nb (st' := []) rfl ?_
              have g143 : 0 ≤ m140.1 10 ∧ m140.1 10 ≤ 8 := Tm140.1 10
              by_cases hf144 : (m140.1 10) = 0
              · skip
                replace h141 : (m70.1 10) = 0 := h141 hf144
                clear c142
                have hAgC : agr (m.2 65) (m70.2 65) (m.1 28) := by first | exact agr_r _ _ | exact hAgC | exact agr_t hAgC hAg (by omega)
                have u145 : (m.1 28) ≤ (m70.1 28) := by omega
                have u146 : (m70.1 69) ≤ 64 := by omega
                clear q79_10 ic77 h141
                refine T_ld 87 (.ref 189) rfl (fun _ => rfl) ?_
                refine T_gf 91 (.ref 249) rfl rfl rfl rfl rfl rfl ?_
                refine T_ld 92 (.int (i32 ((m70.1 73) - 1))) rfl (fun _ => rfl) ?_
                refine T_iald 93 87 (m.2 87) rfl rfl rfl (by omega) (show ((m70.1 73) - 1) < (60 : Int) by omega) (show (m140.2 87) = (m.2 87) from ((fr2 Fm140 87 rfl).trans ((fr2 Fm70 87 rfl).trans (fr2 Fm68 87 rfl)))) ?_
                have e147 : 0 ≤ m.2 87 ((m70.1 73) - 1) ∧ m.2 87 ((m70.1 73) - 1) ≤ 64 := hT.2.1 87 ((m70.1 73) - 1)
                refine T_gf 97 (.ref 252) rfl rfl rfl rfl rfl rfl ?_
                refine T_ld 98 (.int (i32 ((m70.1 73) - 1))) rfl (fun _ => rfl) ?_
                refine T_bald 99 90 (m.2 90) rfl rfl rfl (by omega) (show ((m70.1 73) - 1) < (60 : Int) by omega) (show (m140.2 90) = (m.2 90) from ((fr2 Fm140 90 rfl).trans ((fr2 Fm70 90 rfl).trans (fr2 Fm68 90 rfl)))) ?_
                have e148 : 0 ≤ m.2 90 ((m70.1 73) - 1) ∧ m.2 90 ((m70.1 73) - 1) ≤ 1 := hT.2.1 90 ((m70.1 73) - 1)
                refine T_gf 103 (.ref 254) rfl rfl rfl rfl rfl rfl ?_
                refine T_ld 104 (.int (i32 ((m70.1 73) - 1))) rfl (fun _ => rfl) ?_
                refine T_lald 105 92 (m.2 92) rfl rfl rfl (by omega) (show ((m70.1 73) - 1) < (60 : Int) by omega) (show (m140.2 92) = (m.2 92) from ((fr2 Fm140 92 rfl).trans ((fr2 Fm70 92 rfl).trans (fr2 Fm68 92 rfl)))) ?_
                have e149 : (-9223372036854775808) ≤ m.2 92 ((m70.1 73) - 1) ∧ m.2 92 ((m70.1 73) - 1) ≤ 9223372036854775807 := hT.2.1 92 ((m70.1 73) - 1)
                refine T_gf 109 (.ref 250) rfl rfl rfl rfl rfl rfl ?_
                refine T_ld 110 (.int (i32 ((m70.1 73) - 1))) rfl (fun _ => rfl) ?_
                refine T_iald 111 88 (m.2 88) rfl rfl rfl (by omega) (show ((m70.1 73) - 1) < (60 : Int) by omega) (show (m140.2 88) = (m.2 88) from ((fr2 Fm140 88 rfl).trans ((fr2 Fm70 88 rfl).trans (fr2 Fm68 88 rfl)))) ?_
                have e150 : 0 ≤ m.2 88 ((m70.1 73) - 1) ∧ m.2 88 ((m70.1 73) - 1) ≤ 4000 := hT.2.1 88 ((m70.1 73) - 1)
                refine T_gf 115 (.int (i32 (m70.1 69))) rfl rfl rfl rfl (mfv_c (F := fun x => .int (i32 x)) rfl (show (m140.1 69) = (m70.1 69) from (fr1 Fm140 69 rfl))) rfl ?_
                refine T_gf 119 (.int (i32 (m70.1 71))) rfl rfl rfl rfl (mfv_c (F := fun x => .int (i32 x)) rfl (show (m140.1 71) = (m70.1 71) from (fr1 Fm140 71 rfl))) rfl ?_
                refine T_gf 123 (.long (i64 (m70.1 72))) rfl rfl rfl rfl (mfv_c (F := fun x => .long (i64 x)) rfl (show (m140.1 72) = (m70.1 72) from (fr1 Fm140 72 rfl))) rfl ?_
                refine T_gf 127 (.int (i32 (m70.1 70))) rfl rfl rfl rfl (mfv_c (F := fun x => .int (i32 x)) rfl (show (m140.1 70) = (m70.1 70) from (fr1 Fm140 70 rfl))) rfl ?_
                refine T_call 130 261 [.ref 189, .int (i32 ((m.2 87) ((m70.1 73) - 1))), .int (i32 ((m.2 90) ((m70.1 73) - 1))), .long (i64 ((m.2 92) ((m70.1 73) - 1))), .int (i32 ((m.2 88) ((m70.1 73) - 1))), .int (i32 (m70.1 69)), .int (i32 (m70.1 71)), .long (i64 (m70.1 72)), .int (i32 (m70.1 70))] [] rfl (fun _ => rfl) rfl (c_common w (mO m140 [] []) c N D (by omega) Tm140 ((m.2 87) ((m70.1 73) - 1)) ((m.2 90) ((m70.1 73) - 1)) ((m.2 92) ((m70.1 73) - 1)) ((m.2 88) ((m70.1 73) - 1)) (m70.1 69) (m70.1 71) (m70.1 72) (m70.1 70) (r32 (by omega) (by omega)) (r32 (by omega) (by omega)) (r64 (by omega) (by omega)) (r32 (by omega) (by omega)) (r32 (by omega) (by omega)) (r32 (by omega) (by omega)) (r64 (by omega) (by omega)) (r32 (by omega) (by omega)) (show 0 ≤ ((m.2 88) ((m70.1 73) - 1)) ∧ ((m.2 88) ((m70.1 73) - 1)) ≤ 4000 by omega) (show 0 ≤ (m70.1 70) ∧ (m70.1 70) ≤ 4000 by omega) (show 0 ≤ ((m.2 87) ((m70.1 73) - 1)) ∧ ((m.2 87) ((m70.1 73) - 1)) ≤ 1024 by omega) (show 0 ≤ (m70.1 69) ∧ (m70.1 69) ≤ 1024 by omega) (fun _ => trivial)) (fun rr151 k152 => ?_)
                obtain ⟨m153, x154, Tm153, Fm153, g155, h156, h157, c158, rfl⟩ := k152
                refine ⟨_, _, rfl, ?_⟩
                refine T_nb (st' := [.int (i32 x154)]) rfl ?_
                obtain ⟨g155a, g155b⟩ := g155
                have g159 : 0 ≤ m153.1 10 ∧ m153.1 10 ≤ 8 := Tm153.1 10
                by_cases hf160 : (m153.1 10) = 0
                · skip
                  replace h156 : (m140.1 10) = 0 := h156 hf160
                  replace h157 : x154 = 64 ∨ x154 = ((m.2 87) ((m70.1 73) - 1)) ∨ x154 = (m70.1 69) := h157
                  clear c158
                  have hAgC : agr (m.2 65) (m70.2 65) (m.1 28) := by first | exact agr_r _ _ | exact hAgC | exact agr_t hAgC hAg (by omega)
                  have u161 : (m.1 28) ≤ (m70.1 28) := by omega
                  have u162 : (m70.1 69) ≤ 64 := by omega
                  clear g143 h156
                  refine T_sto 131 [(3, .int (i32 x154)), (2, .int (i32 ((m70.1 73) - 1))), (0, .ref 189), (1, .int (i32 v69))] rfl (fun _ => rfl) ?_
                  have hAr : ar 407 ≤ 1 + lh (m.2 79) (m.2 80) (m70.1 73) := by rw [show ar 407 = 3 from rfl]; omega
                  have hCk : CNk 407 0 := by refine ⟨?_, ?_, ?_, ?_⟩ <;> omega
                  have hEX := hXC.1
                  refine T_ld 132 (.ref 189) rfl (fun _ => rfl) ?_
                  refine T_ld 135 (.int (i32 407)) rfl (fun _ => rfl) ?_
                  refine T_ld 136 (.int (i32 x154)) rfl (fun _ => rfl) ?_
                  refine T_ld 137 (.int (i32 0)) rfl (fun _ => rfl) ?_
                  refine T_ld 138 (.long (i64 0)) rfl (fun _ => rfl) ?_
                  refine T_call 141 248 [.ref 189, .int (i32 407), .int (i32 x154), .int (i32 0), .long (i64 0)] [] rfl (fun _ => rfl) rfl (c_node w (mO m153 [] []) c N D (by omega) Tm153 407 x154 0 0 B (1 + lh (m.2 79) (m.2 80) (m70.1 73)) ⟨by decide, by decide⟩ (r32 (by omega) (by omega)) ⟨by decide, by decide⟩ ⟨by decide, by decide⟩ (fun _ => ⟨(show 0 ≤ (407 : Int) ∧ (407 : Int) ≤ 408 by first | omega | decide), (show 0 ≤ x154 ∧ x154 ≤ 64 by first | omega | decide), (show 0 ≤ (0 : Int) ∧ (0 : Int) ≤ 191 by first | omega | decide), (show CNk (407 : Int) (0 : Int) by first | exact hCk | (refine ⟨?_, ?_, ?_, ?_⟩ <;> omega)), (show ar (407 : Int) ≤ (1 + lh (m.2 79) (m.2 80) (m70.1 73)) by first | exact hAr | omega), (show EX (m153.2 65) (m153.2 67) B (m153.1 28) (1 + lh (m.2 79) (m.2 80) (m70.1 73)) by rewrite [(show (m153.2 65) = (m70.2 65) from ((fr2 Fm153 65 rfl).trans (fr2 Fm140 65 rfl))), (show (m153.2 67) = (m70.2 67) from ((fr2 Fm153 67 rfl).trans (fr2 Fm140 67 rfl))), (show (m153.1 28) = (m70.1 28) from ((fr1 Fm153 28 rfl).trans (fr1 Fm140 28 rfl)))]; first | exact hEX | assumption)⟩)) (fun rr163 k164 => ?_)
                  obtain ⟨m165, Tm165, Fm165, h166, c167, rfl⟩ := k164
                  refine ⟨_, _, rfl, ?_⟩
                  refine T_nb (st' := []) rfl ?_
                  have g168 : 0 ≤ m165.1 10 ∧ m165.1 10 ≤ 8 := Tm165.1 10
                  have g169 : 0 ≤ m165.1 28 ∧ m165.1 28 ≤ 800 := Tm165.1 28
                  by_cases hf170 : (m165.1 10) = 0
                  · skip
                    replace h166 : (m153.1 10) = 0 := h166 hf170
                    obtain ⟨c171, c172, c173⟩ := c167 hf170
                    replace c171 : (m165.1 28) = (m153.1 28) + 1 := c171
                    rewrite [(show (m153.1 28) = (m70.1 28) from ((fr1 Fm153 28 rfl).trans (fr1 Fm140 28 rfl)))] at c171
                    replace c172 : EX (m165.2 65) (m165.2 67) B (m165.1 28) ((1 + lh (m.2 79) (m.2 80) (m70.1 73)) + 1 - ar (407 : Int)) := c172
                    have hEX := c172
                    replace c173 : agr (m153.2 65) (m165.2 65) (m153.1 28) := c173
                    rewrite [(show (m153.2 65) = (m70.2 65) from ((fr2 Fm153 65 rfl).trans (fr2 Fm140 65 rfl))), (show (m153.1 28) = (m70.1 28) from ((fr1 Fm153 28 rfl).trans (fr1 Fm140 28 rfl)))] at c173
                    have hAg := c173
                    clear c167
                    have hAgC : agr (m.2 65) (m165.2 65) (m.1 28) := by first | exact agr_r _ _ | exact hAgC | exact agr_t hAgC hAg (by omega)
                    have u174 : (m.1 28) ≤ (m165.1 28) := by omega
                    have u175 : (m70.1 69) ≤ 64 := by omega
                    clear q79_28 c84 c86 c88 u145 g159 u161 h166 c171 c173
                    have hXC1 := XC_1 hXC (by omega) (by omega) hEX (by rw [show ar 407 = 3 from rfl]; omega)
                    refine T_ld 142 (.ref 189) rfl (fun _ => rfl) ?_
                    refine T_ld 143 (.int (i32 x154)) rfl (fun _ => rfl) ?_
                    refine T_gf 147 (.ref 248) rfl rfl rfl rfl rfl rfl ?_
                    refine T_ld 148 (.int (i32 ((m70.1 73) - 1))) rfl (fun _ => rfl) ?_
                    refine T_iald 149 86 (m.2 86) rfl rfl rfl (by omega) (show ((m70.1 73) - 1) < (60 : Int) by omega) (show (m165.2 86) = (m.2 86) from ((fr2 Fm165 86 rfl).trans ((fr2 Fm153 86 rfl).trans ((fr2 Fm140 86 rfl).trans ((fr2 Fm70 86 rfl).trans (fr2 Fm68 86 rfl)))))) ?_
                    have e176 : 0 ≤ m.2 86 ((m70.1 73) - 1) ∧ m.2 86 ((m70.1 73) - 1) ≤ 4000 := hT.2.1 86 ((m70.1 73) - 1)
                    refine T_call 152 250 [.ref 189, .int (i32 x154), .int (i32 ((m.2 86) ((m70.1 73) - 1)))] [] rfl (fun _ => rfl) rfl (c_unit w (mO m165 [] []) c N D (by omega) Tm165 x154 ((m.2 86) ((m70.1 73) - 1)) (r32 (by omega) (by omega)) (r32 (by omega) (by omega)) (show 0 ≤ x154 ∧ x154 ≤ 1024 by omega) (show 0 ≤ ((m.2 86) ((m70.1 73) - 1)) ∧ ((m.2 86) ((m70.1 73) - 1)) ≤ 4000 by omega)) (fun rr177 k178 => ?_)
                    obtain ⟨m179, Tm179, Fm179, h180, rfl⟩ := k178
                    refine ⟨_, _, rfl, ?_⟩
                    refine T_nb (st' := []) rfl ?_
                    have g181 : 0 ≤ m179.1 69 ∧ m179.1 69 ≤ 1024 := Tm179.1 69
                    have g182 : 0 ≤ m179.1 70 ∧ m179.1 70 ≤ 4000 := Tm179.1 70
                    have g183 : 0 ≤ m179.1 71 ∧ m179.1 71 ≤ 1 := Tm179.1 71
                    have g184 : (-9223372036854775808) ≤ m179.1 72 ∧ m179.1 72 ≤ 9223372036854775807 := Tm179.1 72
                    replace h180 : (m179.1 69) = x154 := h180
                    have hAgC : agr (m.2 65) (m165.2 65) (m.1 28) := by first | exact agr_r _ _ | exact hAgC | exact agr_t hAgC hAg (by omega)
                    have u185 : (m.1 28) ≤ (m165.1 28) := by omega
                    have u186 : (m179.1 69) ≤ 64 := by omega
                    clear q79_69 q79_70 q79_71 q79_72 c85 u146 h157 u162 u175
                    refine T_ld 153 (.ref 189) rfl (fun _ => rfl) ?_
                    refine T_ld 154 (.ref 189) rfl (fun _ => rfl) ?_
                    refine T_gf1 157 (.int (i32 (m70.1 73))) rfl rfl (mfv_c (F := fun x => .int (i32 x)) rfl (show (m179.1 73) = (m70.1 73) from ((fr1 Fm179 73 rfl).trans ((fr1 Fm165 73 rfl).trans ((fr1 Fm153 73 rfl).trans (fr1 Fm140 73 rfl)))))) rfl ?_
                    refine T_ld 158 (.int (i32 1)) rfl (fun _ => rfl) ?_
                    refine T_isub 159 rfl rfl ?_
                    refine T_pf (l' := [(73, (m70.1 73) - 1)]) 162 ((m70.1 73) - 1) rfl rfl rfl rfl rfl rfl ?_
                    have g187 : 0 ≤ (m70.1 73) - 1 ∧ (m70.1 73) - 1 ≤ 60 := ⟨by omega, by omega⟩
                    refine T_ld 163 (.ref 189) rfl (fun _ => rfl) ?_
                    refine T_ld 164 (.ref 189) rfl (fun _ => rfl) ?_
                    refine T_gf1 167 (.int (i32 (m70.1 74))) rfl rfl (mfv_c (F := fun x => .int (i32 x)) rfl (show (m179.1 74) = (m70.1 74) from ((fr1 Fm179 74 rfl).trans ((fr1 Fm165 74 rfl).trans ((fr1 Fm153 74 rfl).trans (fr1 Fm140 74 rfl)))))) rfl ?_
                    refine T_ld 168 (.int (i32 1)) rfl (fun _ => rfl) ?_
                    refine T_isub 169 rfl rfl ?_
                    refine T_pf (l' := [(73, (m70.1 73) - 1), (74, (m70.1 74) - 1)]) 172 ((m70.1 74) - 1) rfl rfl rfl rfl rfl rfl ?_
                    have g188 : 0 ≤ (m70.1 74) - 1 ∧ (m70.1 74) - 1 ≤ 24 := ⟨by omega, by omega⟩
                    have hXC := hXC1
                    refine T_gf 176 (.int (i32 ((m70.1 73) - 1))) rfl rfl rfl rfl rfl rfl ?_
                    refine T_if 190 179 rfl rfl rfl (r32 (by omega) (by omega)) (fun (h189 : (m70.1 73) - 1 ≤ 0) => ?_) (fun (h189 : ¬ ((m70.1 73) - 1 ≤ 0)) => ?_)
                    · skip
                      refine T_ld 191 (.int (i32 0)) rfl (fun _ => rfl) ?_
                      refine T_sto 192 [(1, .int (i32 0)), (3, .int (i32 x154)), (2, .int (i32 ((m70.1 73) - 1))), (0, .ref 189)] rfl (fun _ => rfl) ?_
                      refine T_goto 33 rfl (fun _ => rfl) ?_
                      refine Tm_lv (a := [(0, .ref 189), (1, .int (i32 0))]) rfl rfl ⟨rfl, rfl, trivial⟩ ?_
                      exact ih82 0 (mO m179 [(73, (m70.1 73) - 1), (74, (m70.1 74) - 1)] []) ⟨by decide, by decide⟩ (Ty_mO Tm179 rfl rfl ⟨g187, g188, trivial⟩ trivial) (fr_m (fr_s Fm179 (fr_m (fr_s Fm165 (fr_m (fr_s Fm153 (fr_m (fr_s Fm140 (fr_m (fr_s Fm70 (fr_m fr_0 rfl rfl) rfl rfl) rfl rfl) rfl rfl) rfl rfl) rfl rfl) rfl rfl) rfl rfl) rfl rfl) rfl rfl) rfl rfl) (show 0 ≤ (0 : Int) by omega) (show (0 : Int) ≤ 1 by omega) (show (0 : Int) = 0 ∨ (0 : Int) = 1 by omega) (show (0 : Int) = 1 → 1 ≤ ((m70.1 73) - 1) by omega) (show ((m70.1 73) - 1) + 1 ≤ (m.1 73) by omega) (show (m179.1 10) = 0 ∨ (0 : Int) = 0 by rewrite [(show (m179.1 10) = (m165.1 10) from (fr1 Fm179 10 rfl))]; omega) (fun _ => ⟨(show XC (m179.2 65) (m179.2 67) (m.2 76) (m.2 78) (m.2 79) (m.2 80) B (m179.1 28) ((m70.1 73) - 1) ((m70.1 74) - 1) by rewrite [(show (m179.2 65) = (m165.2 65) from (fr2 Fm179 65 rfl)), (show (m179.2 67) = (m165.2 67) from (fr2 Fm179 67 rfl)), (show (m179.1 28) = (m165.1 28) from (fr1 Fm179 28 rfl))]; exact hXC), (show (m179.1 69) ≤ 64 by omega), (show (m.1 28) ≤ (m179.1 28) by rewrite [(show (m179.1 28) = (m165.1 28) from (fr1 Fm179 28 rfl))]; omega), (show (0 : Int) = 0 → ((m70.1 73) - 1) = 0 by omega), (show agr (m.2 65) (m179.2 65) (m.1 28) by rewrite [(show (m179.2 65) = (m165.2 65) from (fr2 Fm179 65 rfl))]; exact hAgC)⟩) (show ((m70.1 73) - 1) < (n81 : Int) by omega)
                    · skip
                      refine T_gf 183 (.int (i32 (m165.1 10))) rfl rfl rfl rfl (mfv_c (F := fun x => .int (i32 x)) rfl (show (m179.1 10) = (m165.1 10) from (fr1 Fm179 10 rfl))) rfl ?_
                      refine T_if 190 186 rfl rfl rfl (r32 (by omega) (by omega)) (fun (h190 : (m165.1 10) ≠ 0) => by exfalso; omega) (fun (h190 : ¬ ((m165.1 10) ≠ 0)) => ?_)
                      refine T_ld 187 (.int (i32 1)) rfl (fun _ => rfl) ?_
                      refine T_goto 191 rfl (fun _ => rfl) ?_
                      refine T_sto 192 [(1, .int (i32 1)), (3, .int (i32 x154)), (2, .int (i32 ((m70.1 73) - 1))), (0, .ref 189)] rfl (fun _ => rfl) ?_
                      refine T_goto 33 rfl (fun _ => rfl) ?_
                      refine Tm_lv (a := [(0, .ref 189), (1, .int (i32 1))]) rfl rfl ⟨rfl, rfl, trivial⟩ ?_
                      exact ih82 1 (mO m179 [(73, (m70.1 73) - 1), (74, (m70.1 74) - 1)] []) ⟨by decide, by decide⟩ (Ty_mO Tm179 rfl rfl ⟨g187, g188, trivial⟩ trivial) (fr_m (fr_s Fm179 (fr_m (fr_s Fm165 (fr_m (fr_s Fm153 (fr_m (fr_s Fm140 (fr_m (fr_s Fm70 (fr_m fr_0 rfl rfl) rfl rfl) rfl rfl) rfl rfl) rfl rfl) rfl rfl) rfl rfl) rfl rfl) rfl rfl) rfl rfl) rfl rfl) (show 0 ≤ (1 : Int) by omega) (show (1 : Int) ≤ 1 by omega) (show (1 : Int) = 0 ∨ (1 : Int) = 1 by omega) (show (1 : Int) = 1 → 1 ≤ ((m70.1 73) - 1) by omega) (show ((m70.1 73) - 1) + 1 ≤ (m.1 73) by omega) (show (m179.1 10) = 0 ∨ (1 : Int) = 0 by rewrite [(show (m179.1 10) = (m165.1 10) from (fr1 Fm179 10 rfl))]; omega) (fun _ => ⟨(show XC (m179.2 65) (m179.2 67) (m.2 76) (m.2 78) (m.2 79) (m.2 80) B (m179.1 28) ((m70.1 73) - 1) ((m70.1 74) - 1) by rewrite [(show (m179.2 65) = (m165.2 65) from (fr2 Fm179 65 rfl)), (show (m179.2 67) = (m165.2 67) from (fr2 Fm179 67 rfl)), (show (m179.1 28) = (m165.1 28) from (fr1 Fm179 28 rfl))]; exact hXC), (show (m179.1 69) ≤ 64 by omega), (show (m.1 28) ≤ (m179.1 28) by rewrite [(show (m179.1 28) = (m165.1 28) from (fr1 Fm179 28 rfl))]; omega), (show (1 : Int) = 0 → ((m70.1 73) - 1) = 0 by omega), (show agr (m.2 65) (m179.2 65) (m.1 28) by rewrite [(show (m179.2 65) = (m165.2 65) from (fr2 Fm179 65 rfl))]; exact hAgC)⟩) (show ((m70.1 73) - 1) < (n81 : Int) by omega)
                  · skip
                    clear c167
                    clear h166
                    have hf191 : 1 ≤ (m165.1 10) := by omega
                    clear q79_28 c84 c86 c88 u145 g159 u161
                    refine T_ld 142 (.ref 189) rfl (fun _ => rfl) ?_
                    refine T_ld 143 (.int (i32 x154)) rfl (fun _ => rfl) ?_
                    refine T_gf 147 (.ref 248) rfl rfl rfl rfl rfl rfl ?_
                    refine T_ld 148 (.int (i32 ((m70.1 73) - 1))) rfl (fun _ => rfl) ?_
                    refine T_iald 149 86 (m.2 86) rfl rfl rfl (by omega) (show ((m70.1 73) - 1) < (60 : Int) by omega) (show (m165.2 86) = (m.2 86) from ((fr2 Fm165 86 rfl).trans ((fr2 Fm153 86 rfl).trans ((fr2 Fm140 86 rfl).trans ((fr2 Fm70 86 rfl).trans (fr2 Fm68 86 rfl)))))) ?_
                    have e192 : 0 ≤ m.2 86 ((m70.1 73) - 1) ∧ m.2 86 ((m70.1 73) - 1) ≤ 4000 := hT.2.1 86 ((m70.1 73) - 1)
                    refine T_call 152 250 [.ref 189, .int (i32 x154), .int (i32 ((m.2 86) ((m70.1 73) - 1)))] [] rfl (fun _ => rfl) rfl (c_unit w (mO m165 [] []) c N D (by omega) Tm165 x154 ((m.2 86) ((m70.1 73) - 1)) (r32 (by omega) (by omega)) (r32 (by omega) (by omega)) (show 0 ≤ x154 ∧ x154 ≤ 1024 by omega) (show 0 ≤ ((m.2 86) ((m70.1 73) - 1)) ∧ ((m.2 86) ((m70.1 73) - 1)) ≤ 4000 by omega)) (fun rr193 k194 => ?_)
                    obtain ⟨m195, Tm195, Fm195, h196, rfl⟩ := k194
                    refine ⟨_, _, rfl, ?_⟩
                    refine T_nb (st' := []) rfl ?_
                    have g197 : 0 ≤ m195.1 69 ∧ m195.1 69 ≤ 1024 := Tm195.1 69
                    have g198 : 0 ≤ m195.1 70 ∧ m195.1 70 ≤ 4000 := Tm195.1 70
                    have g199 : 0 ≤ m195.1 71 ∧ m195.1 71 ≤ 1 := Tm195.1 71
                    have g200 : (-9223372036854775808) ≤ m195.1 72 ∧ m195.1 72 ≤ 9223372036854775807 := Tm195.1 72
                    replace h196 : (m195.1 69) = x154 := h196
                    clear q79_69 q79_70 q79_71 q79_72 c85 u146 h157 u162
                    refine T_ld 153 (.ref 189) rfl (fun _ => rfl) ?_
                    refine T_ld 154 (.ref 189) rfl (fun _ => rfl) ?_
                    refine T_gf1 157 (.int (i32 (m70.1 73))) rfl rfl (mfv_c (F := fun x => .int (i32 x)) rfl (show (m195.1 73) = (m70.1 73) from ((fr1 Fm195 73 rfl).trans ((fr1 Fm165 73 rfl).trans ((fr1 Fm153 73 rfl).trans (fr1 Fm140 73 rfl)))))) rfl ?_
                    refine T_ld 158 (.int (i32 1)) rfl (fun _ => rfl) ?_
                    refine T_isub 159 rfl rfl ?_
                    refine T_pf (l' := [(73, (m70.1 73) - 1)]) 162 ((m70.1 73) - 1) rfl rfl rfl rfl rfl rfl ?_
                    have g201 : 0 ≤ (m70.1 73) - 1 ∧ (m70.1 73) - 1 ≤ 60 := ⟨by omega, by omega⟩
                    refine T_ld 163 (.ref 189) rfl (fun _ => rfl) ?_
                    refine T_ld 164 (.ref 189) rfl (fun _ => rfl) ?_
                    refine T_gf1 167 (.int (i32 (m70.1 74))) rfl rfl (mfv_c (F := fun x => .int (i32 x)) rfl (show (m195.1 74) = (m70.1 74) from ((fr1 Fm195 74 rfl).trans ((fr1 Fm165 74 rfl).trans ((fr1 Fm153 74 rfl).trans (fr1 Fm140 74 rfl)))))) rfl ?_
                    refine T_ld 168 (.int (i32 1)) rfl (fun _ => rfl) ?_
                    refine T_isub 169 rfl rfl ?_
                    refine T_pf (l' := [(73, (m70.1 73) - 1), (74, (m70.1 74) - 1)]) 172 ((m70.1 74) - 1) rfl rfl rfl rfl rfl rfl ?_
                    have g202 : 0 ≤ (m70.1 74) - 1 ∧ (m70.1 74) - 1 ≤ 24 := ⟨by omega, by omega⟩
                    refine T_gf 176 (.int (i32 ((m70.1 73) - 1))) rfl rfl rfl rfl rfl rfl ?_
                    refine T_if 190 179 rfl rfl rfl (r32 (by omega) (by omega)) (fun (h203 : (m70.1 73) - 1 ≤ 0) => ?_) (fun (h203 : ¬ ((m70.1 73) - 1 ≤ 0)) => ?_)
                    · skip
                      refine T_ld 191 (.int (i32 0)) rfl (fun _ => rfl) ?_
                      refine T_sto 192 [(1, .int (i32 0)), (3, .int (i32 x154)), (2, .int (i32 ((m70.1 73) - 1))), (0, .ref 189)] rfl (fun _ => rfl) ?_
                      refine T_goto 33 rfl (fun _ => rfl) ?_
                      refine Tm_lv (a := [(0, .ref 189), (1, .int (i32 0))]) rfl rfl ⟨rfl, rfl, trivial⟩ ?_
                      exact ih82 0 (mO m195 [(73, (m70.1 73) - 1), (74, (m70.1 74) - 1)] []) ⟨by decide, by decide⟩ (Ty_mO Tm195 rfl rfl ⟨g201, g202, trivial⟩ trivial) (fr_m (fr_s Fm195 (fr_m (fr_s Fm165 (fr_m (fr_s Fm153 (fr_m (fr_s Fm140 (fr_m (fr_s Fm70 (fr_m fr_0 rfl rfl) rfl rfl) rfl rfl) rfl rfl) rfl rfl) rfl rfl) rfl rfl) rfl rfl) rfl rfl) rfl rfl) rfl rfl) (show 0 ≤ (0 : Int) by omega) (show (0 : Int) ≤ 1 by omega) (show (0 : Int) = 0 ∨ (0 : Int) = 1 by omega) (show (0 : Int) = 1 → 1 ≤ ((m70.1 73) - 1) by omega) (show ((m70.1 73) - 1) + 1 ≤ (m.1 73) by omega) (show (m195.1 10) = 0 ∨ (0 : Int) = 0 by rewrite [(show (m195.1 10) = (m165.1 10) from (fr1 Fm195 10 rfl))]; omega) (fun (h : (m195.1 10) = 0) => absurd ((show (m195.1 10) = (m165.1 10) from (fr1 Fm195 10 rfl)).symm.trans h) (by omega)) (show ((m70.1 73) - 1) < (n81 : Int) by omega)
                    · skip
                      refine T_gf 183 (.int (i32 (m165.1 10))) rfl rfl rfl rfl (mfv_c (F := fun x => .int (i32 x)) rfl (show (m195.1 10) = (m165.1 10) from (fr1 Fm195 10 rfl))) rfl ?_
                      refine T_if 190 186 rfl rfl rfl (r32 (by omega) (by omega)) (fun (h204 : (m165.1 10) ≠ 0) => ?_) (fun (h204 : ¬ ((m165.1 10) ≠ 0)) => by exfalso; omega)
                      refine T_ld 191 (.int (i32 0)) rfl (fun _ => rfl) ?_
                      refine T_sto 192 [(1, .int (i32 0)), (3, .int (i32 x154)), (2, .int (i32 ((m70.1 73) - 1))), (0, .ref 189)] rfl (fun _ => rfl) ?_
                      refine T_goto 33 rfl (fun _ => rfl) ?_
                      refine Tm_lv (a := [(0, .ref 189), (1, .int (i32 0))]) rfl rfl ⟨rfl, rfl, trivial⟩ ?_
                      exact ih82 0 (mO m195 [(73, (m70.1 73) - 1), (74, (m70.1 74) - 1)] []) ⟨by decide, by decide⟩ (Ty_mO Tm195 rfl rfl ⟨g201, g202, trivial⟩ trivial) (fr_m (fr_s Fm195 (fr_m (fr_s Fm165 (fr_m (fr_s Fm153 (fr_m (fr_s Fm140 (fr_m (fr_s Fm70 (fr_m fr_0 rfl rfl) rfl rfl) rfl rfl) rfl rfl) rfl rfl) rfl rfl) rfl rfl) rfl rfl) rfl rfl) rfl rfl) rfl rfl) (show 0 ≤ (0 : Int) by omega) (show (0 : Int) ≤ 1 by omega) (show (0 : Int) = 0 ∨ (0 : Int) = 1 by omega) (show (0 : Int) = 1 → 1 ≤ ((m70.1 73) - 1) by omega) (show ((m70.1 73) - 1) + 1 ≤ (m.1 73) by omega) (show (m195.1 10) = 0 ∨ (0 : Int) = 0 by rewrite [(show (m195.1 10) = (m165.1 10) from (fr1 Fm195 10 rfl))]; omega) (fun (h : (m195.1 10) = 0) => absurd ((show (m195.1 10) = (m165.1 10) from (fr1 Fm195 10 rfl)).symm.trans h) (by omega)) (show ((m70.1 73) - 1) < (n81 : Int) by omega)
                · skip
                  clear c158
                  clear h156
                  replace h157 : x154 = 64 ∨ x154 = ((m.2 87) ((m70.1 73) - 1)) ∨ x154 = (m70.1 69) := h157
                  have hf205 : 1 ≤ (m153.1 10) := by omega
                  clear g143
                  refine T_sto 131 [(3, .int (i32 x154)), (2, .int (i32 ((m70.1 73) - 1))), (0, .ref 189), (1, .int (i32 v69))] rfl (fun _ => rfl) ?_
                  refine T_ld 132 (.ref 189) rfl (fun _ => rfl) ?_
                  refine T_ld 135 (.int (i32 407)) rfl (fun _ => rfl) ?_
                  refine T_ld 136 (.int (i32 x154)) rfl (fun _ => rfl) ?_
                  refine T_ld 137 (.int (i32 0)) rfl (fun _ => rfl) ?_
                  refine T_ld 138 (.long (i64 0)) rfl (fun _ => rfl) ?_
                  refine T_call 141 248 [.ref 189, .int (i32 407), .int (i32 x154), .int (i32 0), .long (i64 0)] [] rfl (fun _ => rfl) rfl (c_node w (mO m153 [] []) c N D (by omega) Tm153 407 x154 0 0 B (1 + lh (m.2 79) (m.2 80) (m70.1 73)) ⟨by decide, by decide⟩ (r32 (by omega) (by omega)) ⟨by decide, by decide⟩ ⟨by decide, by decide⟩ (fun (h : (m153.1 10) = 0) => absurd h (by omega))) (fun rr206 k207 => ?_)
                  obtain ⟨m208, Tm208, Fm208, h209, c210, rfl⟩ := k207
                  refine ⟨_, _, rfl, ?_⟩
                  refine T_nb (st' := []) rfl ?_
                  have g211 : 0 ≤ m208.1 10 ∧ m208.1 10 ≤ 8 := Tm208.1 10
                  have g212 : 0 ≤ m208.1 28 ∧ m208.1 28 ≤ 800 := Tm208.1 28
                  replace h209 : (m208.1 10) = 0 → (m153.1 10) = 0 := h209
                  have hf213 : 1 ≤ (m208.1 10) := by omega
                  clear c210
                  clear h209
                  clear q79_28 c84 c86 c88 u145 g159 hf205
                  refine T_ld 142 (.ref 189) rfl (fun _ => rfl) ?_
                  refine T_ld 143 (.int (i32 x154)) rfl (fun _ => rfl) ?_
                  refine T_gf 147 (.ref 248) rfl rfl rfl rfl rfl rfl ?_
                  refine T_ld 148 (.int (i32 ((m70.1 73) - 1))) rfl (fun _ => rfl) ?_
                  refine T_iald 149 86 (m.2 86) rfl rfl rfl (by omega) (show ((m70.1 73) - 1) < (60 : Int) by omega) (show (m208.2 86) = (m.2 86) from ((fr2 Fm208 86 rfl).trans ((fr2 Fm153 86 rfl).trans ((fr2 Fm140 86 rfl).trans ((fr2 Fm70 86 rfl).trans (fr2 Fm68 86 rfl)))))) ?_
                  have e214 : 0 ≤ m.2 86 ((m70.1 73) - 1) ∧ m.2 86 ((m70.1 73) - 1) ≤ 4000 := hT.2.1 86 ((m70.1 73) - 1)
                  refine T_call 152 250 [.ref 189, .int (i32 x154), .int (i32 ((m.2 86) ((m70.1 73) - 1)))] [] rfl (fun _ => rfl) rfl (c_unit w (mO m208 [] []) c N D (by omega) Tm208 x154 ((m.2 86) ((m70.1 73) - 1)) (r32 (by omega) (by omega)) (r32 (by omega) (by omega)) (show 0 ≤ x154 ∧ x154 ≤ 1024 by omega) (show 0 ≤ ((m.2 86) ((m70.1 73) - 1)) ∧ ((m.2 86) ((m70.1 73) - 1)) ≤ 4000 by omega)) (fun rr215 k216 => ?_)
                  obtain ⟨m217, Tm217, Fm217, h218, rfl⟩ := k216
                  refine ⟨_, _, rfl, ?_⟩
                  refine T_nb (st' := []) rfl ?_
                  have g219 : 0 ≤ m217.1 69 ∧ m217.1 69 ≤ 1024 := Tm217.1 69
                  have g220 : 0 ≤ m217.1 70 ∧ m217.1 70 ≤ 4000 := Tm217.1 70
                  have g221 : 0 ≤ m217.1 71 ∧ m217.1 71 ≤ 1 := Tm217.1 71
                  have g222 : (-9223372036854775808) ≤ m217.1 72 ∧ m217.1 72 ≤ 9223372036854775807 := Tm217.1 72
                  replace h218 : (m217.1 69) = x154 := h218
                  clear q79_69 q79_70 q79_71 q79_72 c85 u146 h157
                  refine T_ld 153 (.ref 189) rfl (fun _ => rfl) ?_
                  refine T_ld 154 (.ref 189) rfl (fun _ => rfl) ?_
                  refine T_gf1 157 (.int (i32 (m70.1 73))) rfl rfl (mfv_c (F := fun x => .int (i32 x)) rfl (show (m217.1 73) = (m70.1 73) from ((fr1 Fm217 73 rfl).trans ((fr1 Fm208 73 rfl).trans ((fr1 Fm153 73 rfl).trans (fr1 Fm140 73 rfl)))))) rfl ?_
                  refine T_ld 158 (.int (i32 1)) rfl (fun _ => rfl) ?_
                  refine T_isub 159 rfl rfl ?_
                  refine T_pf (l' := [(73, (m70.1 73) - 1)]) 162 ((m70.1 73) - 1) rfl rfl rfl rfl rfl rfl ?_
                  have g223 : 0 ≤ (m70.1 73) - 1 ∧ (m70.1 73) - 1 ≤ 60 := ⟨by omega, by omega⟩
                  refine T_ld 163 (.ref 189) rfl (fun _ => rfl) ?_
                  refine T_ld 164 (.ref 189) rfl (fun _ => rfl) ?_
                  refine T_gf1 167 (.int (i32 (m70.1 74))) rfl rfl (mfv_c (F := fun x => .int (i32 x)) rfl (show (m217.1 74) = (m70.1 74) from ((fr1 Fm217 74 rfl).trans ((fr1 Fm208 74 rfl).trans ((fr1 Fm153 74 rfl).trans (fr1 Fm140 74 rfl)))))) rfl ?_
                  refine T_ld 168 (.int (i32 1)) rfl (fun _ => rfl) ?_
                  refine T_isub 169 rfl rfl ?_
                  refine T_pf (l' := [(73, (m70.1 73) - 1), (74, (m70.1 74) - 1)]) 172 ((m70.1 74) - 1) rfl rfl rfl rfl rfl rfl ?_
                  have g224 : 0 ≤ (m70.1 74) - 1 ∧ (m70.1 74) - 1 ≤ 24 := ⟨by omega, by omega⟩
                  refine T_gf 176 (.int (i32 ((m70.1 73) - 1))) rfl rfl rfl rfl rfl rfl ?_
                  refine T_if 190 179 rfl rfl rfl (r32 (by omega) (by omega)) (fun (h225 : (m70.1 73) - 1 ≤ 0) => ?_) (fun (h225 : ¬ ((m70.1 73) - 1 ≤ 0)) => ?_)
                  · skip
                    refine T_ld 191 (.int (i32 0)) rfl (fun _ => rfl) ?_
                    refine T_sto 192 [(1, .int (i32 0)), (3, .int (i32 x154)), (2, .int (i32 ((m70.1 73) - 1))), (0, .ref 189)] rfl (fun _ => rfl) ?_
                    refine T_goto 33 rfl (fun _ => rfl) ?_
                    refine Tm_lv (a := [(0, .ref 189), (1, .int (i32 0))]) rfl rfl ⟨rfl, rfl, trivial⟩ ?_
                    exact ih82 0 (mO m217 [(73, (m70.1 73) - 1), (74, (m70.1 74) - 1)] []) ⟨by decide, by decide⟩ (Ty_mO Tm217 rfl rfl ⟨g223, g224, trivial⟩ trivial) (fr_m (fr_s Fm217 (fr_m (fr_s Fm208 (fr_m (fr_s Fm153 (fr_m (fr_s Fm140 (fr_m (fr_s Fm70 (fr_m fr_0 rfl rfl) rfl rfl) rfl rfl) rfl rfl) rfl rfl) rfl rfl) rfl rfl) rfl rfl) rfl rfl) rfl rfl) rfl rfl) (show 0 ≤ (0 : Int) by omega) (show (0 : Int) ≤ 1 by omega) (show (0 : Int) = 0 ∨ (0 : Int) = 1 by omega) (show (0 : Int) = 1 → 1 ≤ ((m70.1 73) - 1) by omega) (show ((m70.1 73) - 1) + 1 ≤ (m.1 73) by omega) (show (m217.1 10) = 0 ∨ (0 : Int) = 0 by rewrite [(show (m217.1 10) = (m208.1 10) from (fr1 Fm217 10 rfl))]; omega) (fun (h : (m217.1 10) = 0) => absurd ((show (m217.1 10) = (m208.1 10) from (fr1 Fm217 10 rfl)).symm.trans h) (by omega)) (show ((m70.1 73) - 1) < (n81 : Int) by omega)
                  · skip
                    refine T_gf 183 (.int (i32 (m208.1 10))) rfl rfl rfl rfl (mfv_c (F := fun x => .int (i32 x)) rfl (show (m217.1 10) = (m208.1 10) from (fr1 Fm217 10 rfl))) rfl ?_
                    refine T_if 190 186 rfl rfl rfl (r32 (by omega) (by omega)) (fun (h226 : (m208.1 10) ≠ 0) => ?_) (fun (h226 : ¬ ((m208.1 10) ≠ 0)) => by exfalso; omega)
                    refine T_ld 191 (.int (i32 0)) rfl (fun _ => rfl) ?_
                    refine T_sto 192 [(1, .int (i32 0)), (3, .int (i32 x154)), (2, .int (i32 ((m70.1 73) - 1))), (0, .ref 189)] rfl (fun _ => rfl) ?_
                    refine T_goto 33 rfl (fun _ => rfl) ?_
                    refine Tm_lv (a := [(0, .ref 189), (1, .int (i32 0))]) rfl rfl ⟨rfl, rfl, trivial⟩ ?_
                    exact ih82 0 (mO m217 [(73, (m70.1 73) - 1), (74, (m70.1 74) - 1)] []) ⟨by decide, by decide⟩ (Ty_mO Tm217 rfl rfl ⟨g223, g224, trivial⟩ trivial) (fr_m (fr_s Fm217 (fr_m (fr_s Fm208 (fr_m (fr_s Fm153 (fr_m (fr_s Fm140 (fr_m (fr_s Fm70 (fr_m fr_0 rfl rfl) rfl rfl) rfl rfl) rfl rfl) rfl rfl) rfl rfl) rfl rfl) rfl rfl) rfl rfl) rfl rfl) rfl rfl) (show 0 ≤ (0 : Int) by omega) (show (0 : Int) ≤ 1 by omega) (show (0 : Int) = 0 ∨ (0 : Int) = 1 by omega) (show (0 : Int) = 1 → 1 ≤ ((m70.1 73) - 1) by omega) (show ((m70.1 73) - 1) + 1 ≤ (m.1 73) by omega) (show (m217.1 10) = 0 ∨ (0 : Int) = 0 by rewrite [(show (m217.1 10) = (m208.1 10) from (fr1 Fm217 10 rfl))]; omega) (fun (h : (m217.1 10) = 0) => absurd ((show (m217.1 10) = (m208.1 10) from (fr1 Fm217 10 rfl)).symm.trans h) (by omega)) (show ((m70.1 73) - 1) < (n81 : Int) by omega)
              · skip
                clear c142
                clear h141
                have hf227 : 1 ≤ (m140.1 10) := by omega
                clear q79_10 ic77
                refine T_ld 87 (.ref 189) rfl (fun _ => rfl) ?_
                refine T_gf 91 (.ref 249) rfl rfl rfl rfl rfl rfl ?_
                refine T_ld 92 (.int (i32 ((m70.1 73) - 1))) rfl (fun _ => rfl) ?_
                refine T_iald 93 87 (m.2 87) rfl rfl rfl (by omega) (show ((m70.1 73) - 1) < (60 : Int) by omega) (show (m140.2 87) = (m.2 87) from ((fr2 Fm140 87 rfl).trans ((fr2 Fm70 87 rfl).trans (fr2 Fm68 87 rfl)))) ?_
                have e228 : 0 ≤ m.2 87 ((m70.1 73) - 1) ∧ m.2 87 ((m70.1 73) - 1) ≤ 64 := hT.2.1 87 ((m70.1 73) - 1)
                refine T_gf 97 (.ref 252) rfl rfl rfl rfl rfl rfl ?_
                refine T_ld 98 (.int (i32 ((m70.1 73) - 1))) rfl (fun _ => rfl) ?_
                refine T_bald 99 90 (m.2 90) rfl rfl rfl (by omega) (show ((m70.1 73) - 1) < (60 : Int) by omega) (show (m140.2 90) = (m.2 90) from ((fr2 Fm140 90 rfl).trans ((fr2 Fm70 90 rfl).trans (fr2 Fm68 90 rfl)))) ?_
                have e229 : 0 ≤ m.2 90 ((m70.1 73) - 1) ∧ m.2 90 ((m70.1 73) - 1) ≤ 1 := hT.2.1 90 ((m70.1 73) - 1)
                refine T_gf 103 (.ref 254) rfl rfl rfl rfl rfl rfl ?_
                refine T_ld 104 (.int (i32 ((m70.1 73) - 1))) rfl (fun _ => rfl) ?_
                refine T_lald 105 92 (m.2 92) rfl rfl rfl (by omega) (show ((m70.1 73) - 1) < (60 : Int) by omega) (show (m140.2 92) = (m.2 92) from ((fr2 Fm140 92 rfl).trans ((fr2 Fm70 92 rfl).trans (fr2 Fm68 92 rfl)))) ?_
                have e230 : (-9223372036854775808) ≤ m.2 92 ((m70.1 73) - 1) ∧ m.2 92 ((m70.1 73) - 1) ≤ 9223372036854775807 := hT.2.1 92 ((m70.1 73) - 1)
                refine T_gf 109 (.ref 250) rfl rfl rfl rfl rfl rfl ?_
                refine T_ld 110 (.int (i32 ((m70.1 73) - 1))) rfl (fun _ => rfl) ?_
                refine T_iald 111 88 (m.2 88) rfl rfl rfl (by omega) (show ((m70.1 73) - 1) < (60 : Int) by omega) (show (m140.2 88) = (m.2 88) from ((fr2 Fm140 88 rfl).trans ((fr2 Fm70 88 rfl).trans (fr2 Fm68 88 rfl)))) ?_
                have e231 : 0 ≤ m.2 88 ((m70.1 73) - 1) ∧ m.2 88 ((m70.1 73) - 1) ≤ 4000 := hT.2.1 88 ((m70.1 73) - 1)
                refine T_gf 115 (.int (i32 (m70.1 69))) rfl rfl rfl rfl (mfv_c (F := fun x => .int (i32 x)) rfl (show (m140.1 69) = (m70.1 69) from (fr1 Fm140 69 rfl))) rfl ?_
                refine T_gf 119 (.int (i32 (m70.1 71))) rfl rfl rfl rfl (mfv_c (F := fun x => .int (i32 x)) rfl (show (m140.1 71) = (m70.1 71) from (fr1 Fm140 71 rfl))) rfl ?_
                refine T_gf 123 (.long (i64 (m70.1 72))) rfl rfl rfl rfl (mfv_c (F := fun x => .long (i64 x)) rfl (show (m140.1 72) = (m70.1 72) from (fr1 Fm140 72 rfl))) rfl ?_
                refine T_gf 127 (.int (i32 (m70.1 70))) rfl rfl rfl rfl (mfv_c (F := fun x => .int (i32 x)) rfl (show (m140.1 70) = (m70.1 70) from (fr1 Fm140 70 rfl))) rfl ?_
                refine T_call 130 261 [.ref 189, .int (i32 ((m.2 87) ((m70.1 73) - 1))), .int (i32 ((m.2 90) ((m70.1 73) - 1))), .long (i64 ((m.2 92) ((m70.1 73) - 1))), .int (i32 ((m.2 88) ((m70.1 73) - 1))), .int (i32 (m70.1 69)), .int (i32 (m70.1 71)), .long (i64 (m70.1 72)), .int (i32 (m70.1 70))] [] rfl (fun _ => rfl) rfl (c_common w (mO m140 [] []) c N D (by omega) Tm140 ((m.2 87) ((m70.1 73) - 1)) ((m.2 90) ((m70.1 73) - 1)) ((m.2 92) ((m70.1 73) - 1)) ((m.2 88) ((m70.1 73) - 1)) (m70.1 69) (m70.1 71) (m70.1 72) (m70.1 70) (r32 (by omega) (by omega)) (r32 (by omega) (by omega)) (r64 (by omega) (by omega)) (r32 (by omega) (by omega)) (r32 (by omega) (by omega)) (r32 (by omega) (by omega)) (r64 (by omega) (by omega)) (r32 (by omega) (by omega)) (show 0 ≤ ((m.2 88) ((m70.1 73) - 1)) ∧ ((m.2 88) ((m70.1 73) - 1)) ≤ 4000 by omega) (show 0 ≤ (m70.1 70) ∧ (m70.1 70) ≤ 4000 by omega) (show 0 ≤ ((m.2 87) ((m70.1 73) - 1)) ∧ ((m.2 87) ((m70.1 73) - 1)) ≤ 1024 by omega) (show 0 ≤ (m70.1 69) ∧ (m70.1 69) ≤ 1024 by omega) (fun (h : (m140.1 10) = 0) => absurd h (by omega))) (fun rr232 k233 => ?_)
                obtain ⟨m234, x235, Tm234, Fm234, g236, h237, h238, c239, rfl⟩ := k233
                refine ⟨_, _, rfl, ?_⟩
                refine T_nb (st' := [.int (i32 x235)]) rfl ?_
                obtain ⟨g236a, g236b⟩ := g236
                have g240 : 0 ≤ m234.1 10 ∧ m234.1 10 ≤ 8 := Tm234.1 10
                replace h237 : (m234.1 10) = 0 → (m140.1 10) = 0 := h237
                replace h238 : x235 = 64 ∨ x235 = ((m.2 87) ((m70.1 73) - 1)) ∨ x235 = (m70.1 69) := h238
                have hf241 : 1 ≤ (m234.1 10) := by omega
                clear c239
                clear h237
                clear g143 hf227
                refine T_sto 131 [(3, .int (i32 x235)), (2, .int (i32 ((m70.1 73) - 1))), (0, .ref 189), (1, .int (i32 v69))] rfl (fun _ => rfl) ?_
                refine T_ld 132 (.ref 189) rfl (fun _ => rfl) ?_
                refine T_ld 135 (.int (i32 407)) rfl (fun _ => rfl) ?_
                refine T_ld 136 (.int (i32 x235)) rfl (fun _ => rfl) ?_
                refine T_ld 137 (.int (i32 0)) rfl (fun _ => rfl) ?_
                refine T_ld 138 (.long (i64 0)) rfl (fun _ => rfl) ?_
                refine T_call 141 248 [.ref 189, .int (i32 407), .int (i32 x235), .int (i32 0), .long (i64 0)] [] rfl (fun _ => rfl) rfl (c_node w (mO m234 [] []) c N D (by omega) Tm234 407 x235 0 0 B (1 + lh (m.2 79) (m.2 80) (m70.1 73)) ⟨by decide, by decide⟩ (r32 (by omega) (by omega)) ⟨by decide, by decide⟩ ⟨by decide, by decide⟩ (fun (h : (m234.1 10) = 0) => absurd h (by omega))) (fun rr242 k243 => ?_)
                obtain ⟨m244, Tm244, Fm244, h245, c246, rfl⟩ := k243
                refine ⟨_, _, rfl, ?_⟩
                refine T_nb (st' := []) rfl ?_
                have g247 : 0 ≤ m244.1 10 ∧ m244.1 10 ≤ 8 := Tm244.1 10
                have g248 : 0 ≤ m244.1 28 ∧ m244.1 28 ≤ 800 := Tm244.1 28
                replace h245 : (m244.1 10) = 0 → (m234.1 10) = 0 := h245
                have hf249 : 1 ≤ (m244.1 10) := by omega
                clear c246
                clear h245
                clear q79_28 c84 c86 c88 g240 hf241
                refine T_ld 142 (.ref 189) rfl (fun _ => rfl) ?_
                refine T_ld 143 (.int (i32 x235)) rfl (fun _ => rfl) ?_
                refine T_gf 147 (.ref 248) rfl rfl rfl rfl rfl rfl ?_
                refine T_ld 148 (.int (i32 ((m70.1 73) - 1))) rfl (fun _ => rfl) ?_
                refine T_iald 149 86 (m.2 86) rfl rfl rfl (by omega) (show ((m70.1 73) - 1) < (60 : Int) by omega) (show (m244.2 86) = (m.2 86) from ((fr2 Fm244 86 rfl).trans ((fr2 Fm234 86 rfl).trans ((fr2 Fm140 86 rfl).trans ((fr2 Fm70 86 rfl).trans (fr2 Fm68 86 rfl)))))) ?_
                have e250 : 0 ≤ m.2 86 ((m70.1 73) - 1) ∧ m.2 86 ((m70.1 73) - 1) ≤ 4000 := hT.2.1 86 ((m70.1 73) - 1)
                refine T_call 152 250 [.ref 189, .int (i32 x235), .int (i32 ((m.2 86) ((m70.1 73) - 1)))] [] rfl (fun _ => rfl) rfl (c_unit w (mO m244 [] []) c N D (by omega) Tm244 x235 ((m.2 86) ((m70.1 73) - 1)) (r32 (by omega) (by omega)) (r32 (by omega) (by omega)) (show 0 ≤ x235 ∧ x235 ≤ 1024 by omega) (show 0 ≤ ((m.2 86) ((m70.1 73) - 1)) ∧ ((m.2 86) ((m70.1 73) - 1)) ≤ 4000 by omega)) (fun rr251 k252 => ?_)
                obtain ⟨m253, Tm253, Fm253, h254, rfl⟩ := k252
                refine ⟨_, _, rfl, ?_⟩
                refine T_nb (st' := []) rfl ?_
                have g255 : 0 ≤ m253.1 69 ∧ m253.1 69 ≤ 1024 := Tm253.1 69
                have g256 : 0 ≤ m253.1 70 ∧ m253.1 70 ≤ 4000 := Tm253.1 70
                have g257 : 0 ≤ m253.1 71 ∧ m253.1 71 ≤ 1 := Tm253.1 71
                have g258 : (-9223372036854775808) ≤ m253.1 72 ∧ m253.1 72 ≤ 9223372036854775807 := Tm253.1 72
                replace h254 : (m253.1 69) = x235 := h254
                clear q79_69 q79_70 q79_71 q79_72 c85 h238
                refine T_ld 153 (.ref 189) rfl (fun _ => rfl) ?_
                refine T_ld 154 (.ref 189) rfl (fun _ => rfl) ?_
                refine T_gf1 157 (.int (i32 (m70.1 73))) rfl rfl (mfv_c (F := fun x => .int (i32 x)) rfl (show (m253.1 73) = (m70.1 73) from ((fr1 Fm253 73 rfl).trans ((fr1 Fm244 73 rfl).trans ((fr1 Fm234 73 rfl).trans (fr1 Fm140 73 rfl)))))) rfl ?_
                refine T_ld 158 (.int (i32 1)) rfl (fun _ => rfl) ?_
                refine T_isub 159 rfl rfl ?_
                refine T_pf (l' := [(73, (m70.1 73) - 1)]) 162 ((m70.1 73) - 1) rfl rfl rfl rfl rfl rfl ?_
                have g259 : 0 ≤ (m70.1 73) - 1 ∧ (m70.1 73) - 1 ≤ 60 := ⟨by omega, by omega⟩
                refine T_ld 163 (.ref 189) rfl (fun _ => rfl) ?_
                refine T_ld 164 (.ref 189) rfl (fun _ => rfl) ?_
                refine T_gf1 167 (.int (i32 (m70.1 74))) rfl rfl (mfv_c (F := fun x => .int (i32 x)) rfl (show (m253.1 74) = (m70.1 74) from ((fr1 Fm253 74 rfl).trans ((fr1 Fm244 74 rfl).trans ((fr1 Fm234 74 rfl).trans (fr1 Fm140 74 rfl)))))) rfl ?_
                refine T_ld 168 (.int (i32 1)) rfl (fun _ => rfl) ?_
                refine T_isub 169 rfl rfl ?_
                refine T_pf (l' := [(73, (m70.1 73) - 1), (74, (m70.1 74) - 1)]) 172 ((m70.1 74) - 1) rfl rfl rfl rfl rfl rfl ?_
                have g260 : 0 ≤ (m70.1 74) - 1 ∧ (m70.1 74) - 1 ≤ 24 := ⟨by omega, by omega⟩
                refine T_gf 176 (.int (i32 ((m70.1 73) - 1))) rfl rfl rfl rfl rfl rfl ?_
                refine T_if 190 179 rfl rfl rfl (r32 (by omega) (by omega)) (fun (h261 : (m70.1 73) - 1 ≤ 0) => ?_) (fun (h261 : ¬ ((m70.1 73) - 1 ≤ 0)) => ?_)
                · skip
                  refine T_ld 191 (.int (i32 0)) rfl (fun _ => rfl) ?_
                  refine T_sto 192 [(1, .int (i32 0)), (3, .int (i32 x235)), (2, .int (i32 ((m70.1 73) - 1))), (0, .ref 189)] rfl (fun _ => rfl) ?_
                  refine T_goto 33 rfl (fun _ => rfl) ?_
                  refine Tm_lv (a := [(0, .ref 189), (1, .int (i32 0))]) rfl rfl ⟨rfl, rfl, trivial⟩ ?_
                  exact ih82 0 (mO m253 [(73, (m70.1 73) - 1), (74, (m70.1 74) - 1)] []) ⟨by decide, by decide⟩ (Ty_mO Tm253 rfl rfl ⟨g259, g260, trivial⟩ trivial) (fr_m (fr_s Fm253 (fr_m (fr_s Fm244 (fr_m (fr_s Fm234 (fr_m (fr_s Fm140 (fr_m (fr_s Fm70 (fr_m fr_0 rfl rfl) rfl rfl) rfl rfl) rfl rfl) rfl rfl) rfl rfl) rfl rfl) rfl rfl) rfl rfl) rfl rfl) rfl rfl) (show 0 ≤ (0 : Int) by omega) (show (0 : Int) ≤ 1 by omega) (show (0 : Int) = 0 ∨ (0 : Int) = 1 by omega) (show (0 : Int) = 1 → 1 ≤ ((m70.1 73) - 1) by omega) (show ((m70.1 73) - 1) + 1 ≤ (m.1 73) by omega) (show (m253.1 10) = 0 ∨ (0 : Int) = 0 by rewrite [(show (m253.1 10) = (m244.1 10) from (fr1 Fm253 10 rfl))]; omega) (fun (h : (m253.1 10) = 0) => absurd ((show (m253.1 10) = (m244.1 10) from (fr1 Fm253 10 rfl)).symm.trans h) (by omega)) (show ((m70.1 73) - 1) < (n81 : Int) by omega)
                · skip
                  refine T_gf 183 (.int (i32 (m244.1 10))) rfl rfl rfl rfl (mfv_c (F := fun x => .int (i32 x)) rfl (show (m253.1 10) = (m244.1 10) from (fr1 Fm253 10 rfl))) rfl ?_
                  refine T_if 190 186 rfl rfl rfl (r32 (by omega) (by omega)) (fun (h262 : (m244.1 10) ≠ 0) => ?_) (fun (h262 : ¬ ((m244.1 10) ≠ 0)) => by exfalso; omega)
                  refine T_ld 191 (.int (i32 0)) rfl (fun _ => rfl) ?_
                  refine T_sto 192 [(1, .int (i32 0)), (3, .int (i32 x235)), (2, .int (i32 ((m70.1 73) - 1))), (0, .ref 189)] rfl (fun _ => rfl) ?_
                  refine T_goto 33 rfl (fun _ => rfl) ?_
                  refine Tm_lv (a := [(0, .ref 189), (1, .int (i32 0))]) rfl rfl ⟨rfl, rfl, trivial⟩ ?_
                  exact ih82 0 (mO m253 [(73, (m70.1 73) - 1), (74, (m70.1 74) - 1)] []) ⟨by decide, by decide⟩ (Ty_mO Tm253 rfl rfl ⟨g259, g260, trivial⟩ trivial) (fr_m (fr_s Fm253 (fr_m (fr_s Fm244 (fr_m (fr_s Fm234 (fr_m (fr_s Fm140 (fr_m (fr_s Fm70 (fr_m fr_0 rfl rfl) rfl rfl) rfl rfl) rfl rfl) rfl rfl) rfl rfl) rfl rfl) rfl rfl) rfl rfl) rfl rfl) rfl rfl) (show 0 ≤ (0 : Int) by omega) (show (0 : Int) ≤ 1 by omega) (show (0 : Int) = 0 ∨ (0 : Int) = 1 by omega) (show (0 : Int) = 1 → 1 ≤ ((m70.1 73) - 1) by omega) (show ((m70.1 73) - 1) + 1 ≤ (m.1 73) by omega) (show (m253.1 10) = 0 ∨ (0 : Int) = 0 by rewrite [(show (m253.1 10) = (m244.1 10) from (fr1 Fm253 10 rfl))]; omega) (fun (h : (m253.1 10) = 0) => absurd ((show (m253.1 10) = (m244.1 10) from (fr1 Fm253 10 rfl)).symm.trans h) (by omega)) (show ((m70.1 73) - 1) < (n81 : Int) by omega)
        · skip
          clear c80
          have hf263 : 1 ≤ (m70.1 10) := by omega
          refine T_ld 34 (.int (i32 v69)) rfl (fun _ => rfl) ?_
          refine T_if 195 37 rfl rfl rfl (r32 (by omega) (by omega)) (fun (h264 : v69 = 0) => ?_) (fun (h264 : ¬ (v69 = 0)) => by exfalso; omega)
          refine T_gf 199 (.int (i32 (m70.1 73))) rfl rfl rfl rfl rfl rfl ?_
          refine T_if 208 202 rfl rfl rfl (r32 (by omega) (by omega)) (fun (h265 : (m70.1 73) ≠ 0) => ?_) (fun (h265 : ¬ ((m70.1 73) ≠ 0)) => ?_)
          · skip
            refine T_gf 212 (.ref 239) rfl rfl rfl rfl rfl rfl ?_
            refine T_gf 216 (.int (i32 (m70.1 73))) rfl rfl rfl rfl rfl rfl ?_
            refine T_ld 217 (.int (i32 1)) rfl (fun _ => rfl) ?_
            refine T_isub 218 rfl rfl ?_
            refine T_iald 219 77 (m.2 77) rfl rfl rfl (by omega) (show ((m70.1 73) - 1) < (60 : Int) by omega) (show (m70.2 77) = (m.2 77) from ((fr2 Fm70 77 rfl).trans (fr2 Fm68 77 rfl))) ?_
            have e266 : 0 ≤ m.2 77 ((m70.1 73) - 1) ∧ m.2 77 ((m70.1 73) - 1) ≤ 4000 := hT.2.1 77 ((m70.1 73) - 1)
            refine T_sto 220 [(2, .int (i32 ((m.2 77) ((m70.1 73) - 1)))), (0, .ref 189), (1, .int (i32 v69))] rfl (fun _ => rfl) ?_
            refine T_ld 221 (.ref 189) rfl (fun _ => rfl) ?_
            refine T_ld 223 (.int (i32 41)) rfl (fun _ => rfl) ?_
            refine T_call 226 232 [.ref 189, .int (i32 41)] [] rfl (fun _ => rfl) rfl (d_need w (mO m70 [] []) c N D (by omega) Tm70 41 ⟨by decide, by decide⟩ (show 1 ≤ (41 : Int) by omega) (show LxP (m70.1 7) (m70.1 8) (m70.1 9) (m70.1 6) (m70.1 10) by rewrite [(show (m70.1 7) = (m.1 7) from ((fr1 Fm70 7 rfl).trans (fr1 Fm68 7 rfl))), (show (m70.1 8) = (m.1 8) from ((fr1 Fm70 8 rfl).trans (fr1 Fm68 8 rfl))), (show (m70.1 9) = (m.1 9) from ((fr1 Fm70 9 rfl).trans (fr1 Fm68 9 rfl))), (show (m70.1 6) = (m.1 6) from ((fr1 Fm70 6 rfl).trans (fr1 Fm68 6 rfl)))]; first | exact hLx | (intro h9; exfalso; omega) | (intro h9; have h8 := hLx (by omega); omega))) (fun rr267 k268 => ?_)
            obtain ⟨m269, Tm269, Fm269, h270, h271, h272, h273, rfl⟩ := k268
            refine ⟨_, _, rfl, ?_⟩
            refine T_nb (st' := []) rfl ?_
            have g274 : 0 ≤ m269.1 7 ∧ m269.1 7 ≤ 330 := Tm269.1 7
            have g275 : 0 ≤ m269.1 8 ∧ m269.1 8 ≤ 4000 := Tm269.1 8
            have g276 : 0 ≤ m269.1 9 ∧ m269.1 9 ≤ 4000 := Tm269.1 9
            have g277 : 0 ≤ m269.1 10 ∧ m269.1 10 ≤ 8 := Tm269.1 10
            replace h270 : LxP (m269.1 7) (m269.1 8) (m269.1 9) (m70.1 6) (m269.1 10) := h270
            rewrite [(show (m70.1 6) = (m.1 6) from ((fr1 Fm70 6 rfl).trans (fr1 Fm68 6 rfl)))] at h270
            replace h271 : (m269.1 10) = 0 → (m70.1 10) = 0 ∧ (m70.1 7) = (41 : Int) := h271
            rewrite [(show (m70.1 7) = (m.1 7) from ((fr1 Fm70 7 rfl).trans (fr1 Fm68 7 rfl)))] at h271
            replace h272 : (m70.1 8) ≤ (m269.1 8) := h272
            rewrite [(show (m70.1 8) = (m.1 8) from ((fr1 Fm70 8 rfl).trans (fr1 Fm68 8 rfl)))] at h272
            replace h273 : (m269.1 10) = 0 → (m70.1 8) + (m70.1 9) ≤ (m269.1 8) := h273
            rewrite [(show (m70.1 8) = (m.1 8) from ((fr1 Fm70 8 rfl).trans (fr1 Fm68 8 rfl))), (show (m70.1 9) = (m.1 9) from ((fr1 Fm70 9 rfl).trans (fr1 Fm68 9 rfl)))] at h273
            have hf278 : 1 ≤ (m269.1 10) := by omega
            clear h271
            clear h273
            have hLx := h270
            clear q79_10 ic77 hf263
            refine T_ld 227 (.ref 189) rfl (fun _ => rfl) ?_
            refine T_ld 228 (.ref 189) rfl (fun _ => rfl) ?_
            refine T_gf1 231 (.int (i32 (m70.1 73))) rfl rfl (mfv_c (F := fun x => .int (i32 x)) rfl (show (m269.1 73) = (m70.1 73) from (fr1 Fm269 73 rfl))) rfl ?_
            refine T_ld 232 (.int (i32 1)) rfl (fun _ => rfl) ?_
            refine T_isub 233 rfl rfl ?_
            refine T_pf (l' := [(73, (m70.1 73) - 1)]) 236 ((m70.1 73) - 1) rfl rfl rfl rfl rfl rfl ?_
            have g279 : 0 ≤ (m70.1 73) - 1 ∧ (m70.1 73) - 1 ≤ 60 := ⟨by omega, by omega⟩
            refine T_ld 237 (.ref 189) rfl (fun _ => rfl) ?_
            refine T_ld 238 (.int (i32 ((m.2 77) ((m70.1 73) - 1)))) rfl (fun _ => rfl) ?_
            refine T_pf (l' := [(70, (m.2 77) ((m70.1 73) - 1)), (73, (m70.1 73) - 1)]) 241 ((m.2 77) ((m70.1 73) - 1)) rfl rfl rfl rfl rfl rfl ?_
            have g280 : 0 ≤ (m.2 77) ((m70.1 73) - 1) ∧ (m.2 77) ((m70.1 73) - 1) ≤ 4000 := ⟨by omega, by omega⟩
            refine T_ld 242 (.ref 189) rfl (fun _ => rfl) ?_
            refine T_ld 243 (.int (i32 1)) rfl (fun _ => rfl) ?_
            refine T_pf (l' := [(70, (m.2 77) ((m70.1 73) - 1)), (73, (m70.1 73) - 1), (75, 1)]) 246 1 rfl rfl rfl rfl rfl rfl ?_
            refine T_ret rfl (fun _ => rfl) ?_
            exact ⟨(mO m269 [(70, (m.2 77) ((m70.1 73) - 1)), (73, (m70.1 73) - 1), (75, 1)] []), (Ty_mO Tm269 rfl rfl ⟨g280, g279, ⟨(by omega : (0 : Int) ≤ 1), (by omega : (1 : Int) ≤ 3)⟩, trivial⟩ trivial), (fr_m (fr_s Fm269 (fr_m (fr_s Fm70 (fr_m (fr_s Fm68 (fr_m fr_0 rfl rfl) rfl rfl) rfl rfl) rfl rfl) rfl rfl) rfl rfl) rfl rfl), (show (m269.1 10) = 0 → (m.1 10) = 0 by omega), (show LxP (m269.1 7) (m269.1 8) (m269.1 9) (m.1 6) (m269.1 10) by first | (first | exact hLx | exact (fun _ => hLx (by omega)) | (intro h9; exfalso; omega)) | (exfalso; omega)), (fun (h : (m269.1 10) = 0) => absurd h (by omega)), rfl⟩
          · skip
            refine T_ld 203 (.ref 189) rfl (fun _ => rfl) ?_
            refine T_ld 204 (.int (i32 3)) rfl (fun _ => rfl) ?_
            refine T_pf (l' := [(75, 3)]) 207 3 rfl rfl rfl rfl rfl rfl ?_
            refine T_ret rfl (fun _ => rfl) ?_
            exact ⟨(mO m70 [(75, 3)] []), (Ty_mO Tm70 rfl rfl ⟨⟨(by omega : (0 : Int) ≤ 3), (by omega : (3 : Int) ≤ 3)⟩, trivial⟩ trivial), (fr_m (fr_s Fm70 (fr_m (fr_s Fm68 (fr_m fr_0 rfl rfl) rfl rfl) rfl rfl) rfl rfl) rfl rfl), (show (m70.1 10) = 0 → (m.1 10) = 0 by omega), (show LxP (m70.1 7) (m70.1 8) (m70.1 9) (m.1 6) (m70.1 10) by rewrite [(show (m70.1 7) = (m.1 7) from ((fr1 Fm70 7 rfl).trans (fr1 Fm68 7 rfl))), (show (m70.1 8) = (m.1 8) from ((fr1 Fm70 8 rfl).trans (fr1 Fm68 8 rfl))), (show (m70.1 9) = (m.1 9) from ((fr1 Fm70 9 rfl).trans (fr1 Fm68 9 rfl)))]; first | (first | exact hLx | exact (fun _ => hLx (by omega)) | (intro h9; exfalso; omega)) | (exfalso; omega)), (fun (h : (m70.1 10) = 0) => absurd h (by omega)), rfl⟩
    refine Tm_lv (a := [(0, .ref 189), (1, .int (i32 1))]) rfl rfl ⟨rfl, rfl, trivial⟩ ?_
    exact L33_71 ((((m.1 73) - 1) : Int) + 1).toNat 1 (mO m68 [] []) ⟨by decide, by decide⟩ Tm68 (fr_m fr_0 rfl rfl) (show 0 ≤ (1 : Int) by omega) (show (1 : Int) ≤ 1 by omega) (show (1 : Int) = 0 ∨ (1 : Int) = 1 by omega) (show (1 : Int) = 1 → 1 ≤ (m68.1 73) by rewrite [(show (m68.1 73) = ((m.1 73) - 1) from (fr1 Fm68 73 rfl))]; omega) (show (m68.1 73) + 1 ≤ (m.1 73) by rewrite [(show (m68.1 73) = ((m.1 73) - 1) from (fr1 Fm68 73 rfl))]; omega) (show (m68.1 10) = 0 ∨ (1 : Int) = 0 by rewrite [(show (m68.1 10) = (m.1 10) from (fr1 Fm68 10 rfl))]; omega) (fun _ => ⟨(show XC (m68.2 65) (m68.2 67) (m.2 76) (m.2 78) (m.2 79) (m.2 80) B (m68.1 28) (m68.1 73) (m68.1 74) by rewrite [(show (m68.2 65) = (m.2 65) from (fr2 Fm68 65 rfl)), (show (m68.2 67) = (m.2 67) from (fr2 Fm68 67 rfl)), (show (m68.1 28) = (m.1 28) from (fr1 Fm68 28 rfl)), (show (m68.1 73) = ((m.1 73) - 1) from (fr1 Fm68 73 rfl)), (show (m68.1 74) = ((m.1 74) - 1) from (fr1 Fm68 74 rfl))]; exact hXC), (show (m68.1 69) ≤ 64 by rewrite [(show (m68.1 69) = (m.1 69) from (fr1 Fm68 69 rfl))]; omega), (show (m.1 28) ≤ (m68.1 28) by rewrite [(show (m68.1 28) = (m.1 28) from (fr1 Fm68 28 rfl))]; omega), (show (1 : Int) = 0 → (m68.1 73) = 0 by rewrite [(show (m68.1 73) = ((m.1 73) - 1) from (fr1 Fm68 73 rfl))]; omega), (show agr (m.2 65) (m68.2 65) (m.1 28) by rewrite [(show (m68.2 65) = (m.2 65) from (fr2 Fm68 65 rfl))]; exact hAgC)⟩) (show (m68.1 73) < ((((((m.1 73) - 1) : Int) + 1).toNat : Nat) : Int) by rewrite [(show (m68.1 73) = ((m.1 73) - 1) from (fr1 Fm68 73 rfl))]; omega)
