def fF_endChoice : List Nat := [7, 8, 9, 10, 11, 12, 28, 69, 70, 71, 72, 73, 74, 75]
def fA_endChoice : List Nat := [65, 66, 67, 68]
def Q_endChoice (m : mR) (c : Nat → Option am_C) (N : Nat) (B : Int) : ag_Re af_T → Prop := fun R => ∃ (M : mR), Ty M ∧ fr fF_endChoice fA_endChoice m M ∧ ((M.1 10) = 0 → (m.1 10) = 0) ∧ (LxP (M.1 7) (M.1 8) (M.1 9) (m.1 6) (M.1 10)) ∧ (M.1 10 = 0 → (GP (m.1 8) (M.1 8) (M.1 75) (M.1 73) (m.1 73)) ∧ (GU (M.1 75) (M.1 69)) ∧ (GH (M.1 75) (M.1 73)) ∧ ((m.1 28) ≤ (M.1 28)) ∧ (XS (M.2 65) (M.2 67) (m.2 76) (m.2 78) (m.2 79) (m.2 80) B (M.1 28) (M.1 73) (M.1 74) (um (M.1 75))) ∧ (agr (m.2 65) (M.2 65) (m.1 28))) ∧ R = (.inl (none), (mhp M c, N), 0, 0)
set_option maxHeartbeats 3000000 in
theorem c_endChoice (w : wX) (m : mR) (c : Nat → Option am_C) (N D : Nat) (hD : 7 ≤ D) (hT : Ty m) (B : Int) (hLx0 : LxP (m.1 7) (m.1 8) (m.1 9) (m.1 6) (m.1 10)) (hf0 : m.1 10 = 0) (hC : (XS (m.2 65) (m.2 67) (m.2 76) (m.2 78) (m.2 79) (m.2 80) B (m.1 28) (m.1 73) (m.1 74) 1) ∧ (1 ≤ (m.1 73)) ∧ ((m.2 76) ((m.1 73) - 1) = 0) ∧ ((m.1 69) ≤ 64)) : TC w D 264 [.ref 189] (mhp m c, N) (Q_endChoice m c N B) := by
  obtain ⟨D, rfl⟩ : ∃ k, D = k + 1 := ⟨D - 1, by omega⟩
  have hLx := hLx0
  have f7 : 0 ≤ m.1 7 ∧ m.1 7 ≤ 330 := hT.1 7
  have f8 : 0 ≤ m.1 8 ∧ m.1 8 ≤ 4000 := hT.1 8
  have f9 : 0 ≤ m.1 9 ∧ m.1 9 ≤ 4000 := hT.1 9
  have f10 : 0 ≤ m.1 10 ∧ m.1 10 ≤ 8 := hT.1 10
  have f28 : 0 ≤ m.1 28 ∧ m.1 28 ≤ 800 := hT.1 28
  have f69 : 0 ≤ m.1 69 ∧ m.1 69 ≤ 1024 := hT.1 69
  have f70 : 0 ≤ m.1 70 ∧ m.1 70 ≤ 4000 := hT.1 70
  have f71 : 0 ≤ m.1 71 ∧ m.1 71 ≤ 1 := hT.1 71
  have f72 : (-9223372036854775808) ≤ m.1 72 ∧ m.1 72 ≤ 9223372036854775807 := hT.1 72
  have f73 : 0 ≤ m.1 73 ∧ m.1 73 ≤ 60 := hT.1 73
  have f74 : 0 ≤ m.1 74 ∧ m.1 74 ≤ 24 := hT.1 74
  have f75 : 0 ≤ m.1 75 ∧ m.1 75 ≤ 3 := hT.1 75
  have f6 : 0 ≤ m.1 6 ∧ m.1 6 ≤ 4000 := hT.1 6
  refine Tc_of rfl ?_
  show TT w D pm_264 (0, [(0, .ref 189)], [], (mhp (mO m [] []) c, N), 0, 0) (Q_endChoice m c N B)
  obtain ⟨hXS, c1, c2, c3⟩ := hC
  have hb := OS_hi hXS.1.2
  have hXC := XC_0 hXS (by omega) (by omega) (hT.2.1 79 _).1
  have hAgC := agr_r (m.2 65) (m.1 28)
  have h7 := hLx (by omega)
  refine T_ld 1 (.ref 189) rfl (fun _ => rfl) ?_
  refine T_ld 2 (.ref 189) rfl (fun _ => rfl) ?_
  refine T_gf1 5 (.int (i32 (m.1 73))) rfl rfl rfl rfl ?_
  refine T_ld 6 (.int (i32 1)) rfl (fun _ => rfl) ?_
  refine T_isub 7 rfl rfl ?_
  refine T_pf (l' := [(73, (m.1 73) - 1)]) 10 ((m.1 73) - 1) rfl rfl rfl rfl rfl rfl ?_
  have g4 : 0 ≤ (m.1 73) - 1 ∧ (m.1 73) - 1 ≤ 60 := ⟨by omega, by omega⟩
  refine T_ld 11 (.ref 189) rfl (fun _ => rfl) ?_
  refine T_ld 12 (.ref 189) rfl (fun _ => rfl) ?_
  refine T_gf1 15 (.int (i32 (m.1 74))) rfl rfl rfl rfl ?_
  refine T_ld 16 (.int (i32 1)) rfl (fun _ => rfl) ?_
  refine T_isub 17 rfl rfl ?_
  refine T_pf (l' := [(73, (m.1 73) - 1), (74, (m.1 74) - 1)]) 20 ((m.1 74) - 1) rfl rfl rfl rfl rfl rfl ?_
  have g5 : 0 ≤ (m.1 74) - 1 ∧ (m.1 74) - 1 ≤ 24 := ⟨by omega, by omega⟩
  refine T_gf 24 (.int (i32 ((m.1 73) - 1))) rfl rfl rfl rfl rfl rfl ?_
  refine T_if 31 27 rfl rfl rfl (r32 (by omega) (by omega)) (fun (h6 : (m.1 73) - 1 ≤ 0) => ?_) (fun (h6 : ¬ ((m.1 73) - 1 ≤ 0)) => ?_)
  · skip
    refine T_ld 32 (.int (i32 0)) rfl (fun _ => rfl) ?_
    refine T_sto 33 [(1, .int (i32 0)), (0, .ref 189)] rfl (fun _ => rfl) ?_
    refine T_fl (Ty_mO hT rfl rfl ⟨g4, g5, trivial⟩ trivial) (fun m7 Tm7 Fm7 => ?_)
    have L33_10 : ∀ (n : Nat) (v8 : Int) (m9 : mR), (R32 v8) → Ty m9 → fr [10, 11, 28, 69, 70, 71, 72, 73, 74] [65, 66, 67, 68] (mO m7 [] []) m9 → (0 ≤ v8) → (v8 ≤ 0) → (v8 = 0 ∨ v8 = 1) → (v8 = 1 → 1 ≤ (m9.1 73)) → ((m9.1 73) + 1 ≤ (m.1 73)) → ((m9.1 10) = 0 ∨ v8 = 0) → ((m9.1 10) = 0 → (XC (m9.2 65) (m9.2 67) (m.2 76) (m.2 78) (m.2 79) (m.2 80) B (m9.1 28) (m9.1 73) (m9.1 74)) ∧ ((m9.1 69) ≤ 64) ∧ ((m.1 28) ≤ (m9.1 28)) ∧ (v8 = 0 → (m9.1 73) = 0) ∧ (agr (m.2 65) (m9.2 65) (m.1 28))) → (m9.1 73) < (n : Int) → TT w D pm_264 (33, [(0, .ref 189), (1, .int (i32 v8))], [], (mhp (mO m9 [] []) c, N), 0, 0) (Q_endChoice m c N B) := by
      intro n
      induction n with
      | zero =>
        intro v8 m9 q17 Tm9 Fm9 ic11 ic12 ic13 ic14 ic15 ic16 c19 hmu
        obtain ⟨q17a, q17b⟩ := id q17
        have q18_10 : 0 ≤ m9.1 10 ∧ m9.1 10 ≤ 8 := Tm9.1 10
        have q18_28 : 0 ≤ m9.1 28 ∧ m9.1 28 ≤ 800 := Tm9.1 28
        have q18_69 : 0 ≤ m9.1 69 ∧ m9.1 69 ≤ 1024 := Tm9.1 69
        have q18_70 : 0 ≤ m9.1 70 ∧ m9.1 70 ≤ 4000 := Tm9.1 70
        have q18_71 : 0 ≤ m9.1 71 ∧ m9.1 71 ≤ 1 := Tm9.1 71
        have q18_72 : (-9223372036854775808) ≤ m9.1 72 ∧ m9.1 72 ≤ 9223372036854775807 := Tm9.1 72
        have q18_73 : 0 ≤ m9.1 73 ∧ m9.1 73 ≤ 60 := Tm9.1 73
        have q18_74 : 0 ≤ m9.1 74 ∧ m9.1 74 ≤ 24 := Tm9.1 74
        exfalso
        omega
      | succ n ih =>
        intro v8 m9 q17 Tm9 Fm9 ic11 ic12 ic13 ic14 ic15 ic16 c19 hmu
        obtain ⟨q17a, q17b⟩ := id q17
        have q18_10 : 0 ≤ m9.1 10 ∧ m9.1 10 ≤ 8 := Tm9.1 10
        have q18_28 : 0 ≤ m9.1 28 ∧ m9.1 28 ≤ 800 := Tm9.1 28
        have q18_69 : 0 ≤ m9.1 69 ∧ m9.1 69 ≤ 1024 := Tm9.1 69
        have q18_70 : 0 ≤ m9.1 70 ∧ m9.1 70 ≤ 4000 := Tm9.1 70
        have q18_71 : 0 ≤ m9.1 71 ∧ m9.1 71 ≤ 1 := Tm9.1 71
        have q18_72 : (-9223372036854775808) ≤ m9.1 72 ∧ m9.1 72 ≤ 9223372036854775807 := Tm9.1 72
        have q18_73 : 0 ≤ m9.1 73 ∧ m9.1 73 ≤ 60 := Tm9.1 73
        have q18_74 : 0 ≤ m9.1 74 ∧ m9.1 74 ≤ 24 := Tm9.1 74
        have ih20 := ih
        by_cases hf21 : (m9.1 10) = 0
        · skip
          obtain ⟨c22, c23, c24, c25, c26⟩ := c19 hf21
          clear c19
          have hXC := c22
          have hAgC := c26
          refine T_ld 34 (.int (i32 v8)) rfl (fun _ => rfl) ?_
          refine T_if 195 37 rfl rfl rfl (r32 (by omega) (by omega)) (fun (h27 : v8 = 0) => ?_) (fun (h27 : ¬ (v8 = 0)) => by exfalso; omega)
          refine T_gf 199 (.int (i32 (m9.1 73))) rfl rfl rfl rfl rfl rfl ?_
          refine T_if 208 202 rfl rfl rfl (r32 (by omega) (by omega)) (fun (h28 : (m9.1 73) ≠ 0) => ?_) (fun (h28 : ¬ ((m9.1 73) ≠ 0)) => ?_)
          · skip
            obtain ⟨hXB, hh2⟩ := XC_bra hXC (by omega) (by omega) (hT.2.1 76 _) (hT.2.1 79 _).1
            refine T_gf 212 (.ref 239) rfl rfl rfl rfl rfl rfl ?_
            refine T_gf 216 (.int (i32 (m9.1 73))) rfl rfl rfl rfl rfl rfl ?_
            refine T_ld 217 (.int (i32 1)) rfl (fun _ => rfl) ?_
            refine T_isub 218 rfl rfl ?_
            refine T_iald 219 77 (m.2 77) rfl rfl rfl (by omega) (show ((m9.1 73) - 1) < (60 : Int) by omega) (show (m9.2 77) = (m.2 77) from ((fr2 Fm9 77 rfl).trans (fr2 Fm7 77 rfl))) ?_
            have e29 : 0 ≤ m.2 77 ((m9.1 73) - 1) ∧ m.2 77 ((m9.1 73) - 1) ≤ 4000 := hT.2.1 77 ((m9.1 73) - 1)
            refine T_sto 220 [(2, .int (i32 ((m.2 77) ((m9.1 73) - 1)))), (0, .ref 189), (1, .int (i32 v8))] rfl (fun _ => rfl) ?_
            refine T_ld 221 (.ref 189) rfl (fun _ => rfl) ?_
            refine T_ld 223 (.int (i32 41)) rfl (fun _ => rfl) ?_
            refine T_call 226 232 [.ref 189, .int (i32 41)] [] rfl (fun _ => rfl) rfl (d_need w (mO m9 [] []) c N D (by omega) Tm9 41 ⟨by decide, by decide⟩ (show 1 ≤ (41 : Int) by omega) (show LxP (m9.1 7) (m9.1 8) (m9.1 9) (m9.1 6) (m9.1 10) by rewrite [(show (m9.1 7) = (m.1 7) from ((fr1 Fm9 7 rfl).trans (fr1 Fm7 7 rfl))), (show (m9.1 8) = (m.1 8) from ((fr1 Fm9 8 rfl).trans (fr1 Fm7 8 rfl))), (show (m9.1 9) = (m.1 9) from ((fr1 Fm9 9 rfl).trans (fr1 Fm7 9 rfl))), (show (m9.1 6) = (m.1 6) from ((fr1 Fm9 6 rfl).trans (fr1 Fm7 6 rfl)))]; first | exact hLx | (intro h9; exfalso; omega) | (intro h9; have h8 := hLx (by omega); omega))) (fun rr30 k31 => ?_)
            obtain ⟨m32, Tm32, Fm32, h33, h34, h35, h36, rfl⟩ := k31
            refine ⟨_, _, rfl, ?_⟩
            refine T_nb (st' := []) rfl ?_
            have g37 : 0 ≤ m32.1 7 ∧ m32.1 7 ≤ 330 := Tm32.1 7
            have g38 : 0 ≤ m32.1 8 ∧ m32.1 8 ≤ 4000 := Tm32.1 8
            have g39 : 0 ≤ m32.1 9 ∧ m32.1 9 ≤ 4000 := Tm32.1 9
            have g40 : 0 ≤ m32.1 10 ∧ m32.1 10 ≤ 8 := Tm32.1 10
            by_cases hf41 : (m32.1 10) = 0
            · skip
              replace h33 : LxP (m32.1 7) (m32.1 8) (m32.1 9) (m9.1 6) (m32.1 10) := h33
              rewrite [(show (m9.1 6) = (m.1 6) from ((fr1 Fm9 6 rfl).trans (fr1 Fm7 6 rfl)))] at h33
              have hLx := h33
              replace h34 : (m9.1 10) = 0 ∧ (m9.1 7) = (41 : Int) := h34 hf41
              rewrite [(show (m9.1 7) = (m.1 7) from ((fr1 Fm9 7 rfl).trans (fr1 Fm7 7 rfl)))] at h34
              replace h35 : (m9.1 8) ≤ (m32.1 8) := h35
              rewrite [(show (m9.1 8) = (m.1 8) from ((fr1 Fm9 8 rfl).trans (fr1 Fm7 8 rfl)))] at h35
              replace h36 : (m9.1 8) + (m9.1 9) ≤ (m32.1 8) := h36 hf41
              rewrite [(show (m9.1 8) = (m.1 8) from ((fr1 Fm9 8 rfl).trans (fr1 Fm7 8 rfl))), (show (m9.1 9) = (m.1 9) from ((fr1 Fm9 9 rfl).trans (fr1 Fm7 9 rfl)))] at h36
              have hAgC : agr (m.2 65) (m9.2 65) (m.1 28) := by first | exact agr_r _ _ | exact hAgC | exact agr_t hAgC hAg (by omega)
              have u42 : (m.1 28) ≤ (m9.1 28) := by omega
              have u43 : (m9.1 69) ≤ 64 := by omega
              clear q18_10 ic16 h34
              refine T_ld 227 (.ref 189) rfl (fun _ => rfl) ?_
              refine T_ld 228 (.ref 189) rfl (fun _ => rfl) ?_
              refine T_gf1 231 (.int (i32 (m9.1 73))) rfl rfl (mfv_c (F := fun x => .int (i32 x)) rfl (show (m32.1 73) = (m9.1 73) from (fr1 Fm32 73 rfl))) rfl ?_
              refine T_ld 232 (.int (i32 1)) rfl (fun _ => rfl) ?_
              refine T_isub 233 rfl rfl ?_
              refine T_pf (l' := [(73, (m9.1 73) - 1)]) 236 ((m9.1 73) - 1) rfl rfl rfl rfl rfl rfl ?_
              have g44 : 0 ≤ (m9.1 73) - 1 ∧ (m9.1 73) - 1 ≤ 60 := ⟨by omega, by omega⟩
              refine T_ld 237 (.ref 189) rfl (fun _ => rfl) ?_
              refine T_ld 238 (.int (i32 ((m.2 77) ((m9.1 73) - 1)))) rfl (fun _ => rfl) ?_
              refine T_pf (l' := [(70, (m.2 77) ((m9.1 73) - 1)), (73, (m9.1 73) - 1)]) 241 ((m.2 77) ((m9.1 73) - 1)) rfl rfl rfl rfl rfl rfl ?_
              have g45 : 0 ≤ (m.2 77) ((m9.1 73) - 1) ∧ (m.2 77) ((m9.1 73) - 1) ≤ 4000 := ⟨by omega, by omega⟩
              refine T_ld 242 (.ref 189) rfl (fun _ => rfl) ?_
              refine T_ld 243 (.int (i32 1)) rfl (fun _ => rfl) ?_
              refine T_pf (l' := [(70, (m.2 77) ((m9.1 73) - 1)), (73, (m9.1 73) - 1), (75, 1)]) 246 1 rfl rfl rfl rfl rfl rfl ?_
              have hXE : XS (m9.2 65) (m9.2 67) (m.2 76) (m.2 78) (m.2 79) (m.2 80) B (m9.1 28) ((m9.1 73) - 1) (m9.1 74) (um (1 : Int)) := by
                rw [show um (1 : Int) = 1 from if_neg (by omega)]
                exact hXB
              refine T_ret rfl (fun _ => rfl) ?_
              exact ⟨(mO m32 [(70, (m.2 77) ((m9.1 73) - 1)), (73, (m9.1 73) - 1), (75, 1)] []), (Ty_mO Tm32 rfl rfl ⟨g45, g44, ⟨(by omega : (0 : Int) ≤ 1), (by omega : (1 : Int) ≤ 3)⟩, trivial⟩ trivial), (fr_m (fr_s Fm32 (fr_m (fr_s Fm9 (fr_m (fr_s Fm7 (fr_m fr_0 rfl rfl) rfl rfl) rfl rfl) rfl rfl) rfl rfl) rfl rfl) rfl rfl), (show (m32.1 10) = 0 → (m.1 10) = 0 by omega), (show LxP (m32.1 7) (m32.1 8) (m32.1 9) (m.1 6) (m32.1 10) by first | (first | exact hLx | exact (fun _ => hLx (by omega)) | (intro h9; exfalso; omega)) | (exfalso; omega)), (fun _ => ⟨(show GP (m.1 8) (m32.1 8) (1 : Int) ((m9.1 73) - 1) (m.1 73) by first | (first | assumption | (unfold GP; omega)) | (exfalso; omega)), (show GU (1 : Int) (m32.1 69) by rewrite [(show (m32.1 69) = (m9.1 69) from (fr1 Fm32 69 rfl))]; first | (first | assumption | (unfold GU; omega)) | (exfalso; omega)), (show GH (1 : Int) ((m9.1 73) - 1) by first | (first | assumption | (unfold GH; omega)) | (exfalso; omega)), (show (m.1 28) ≤ (m32.1 28) by rewrite [(show (m32.1 28) = (m9.1 28) from (fr1 Fm32 28 rfl))]; omega), (show XS (m32.2 65) (m32.2 67) (m.2 76) (m.2 78) (m.2 79) (m.2 80) B (m32.1 28) ((m9.1 73) - 1) (m32.1 74) (um (1 : Int)) by rewrite [(show (m32.2 65) = (m9.2 65) from (fr2 Fm32 65 rfl)), (show (m32.2 67) = (m9.2 67) from (fr2 Fm32 67 rfl)), (show (m32.1 28) = (m9.1 28) from (fr1 Fm32 28 rfl)), (show (m32.1 74) = (m9.1 74) from (fr1 Fm32 74 rfl))]; first | (exact hXE) | (exfalso; omega)), (show agr (m.2 65) (m32.2 65) (m.1 28) by rewrite [(show (m32.2 65) = (m9.2 65) from (fr2 Fm32 65 rfl))]; first | (exact hAgC) | (exfalso; omega))⟩), rfl⟩
            · skip
              replace h33 : LxP (m32.1 7) (m32.1 8) (m32.1 9) (m9.1 6) (m32.1 10) := h33
              rewrite [(show (m9.1 6) = (m.1 6) from ((fr1 Fm9 6 rfl).trans (fr1 Fm7 6 rfl)))] at h33
              have hLx := h33
              clear h34
              replace h35 : (m9.1 8) ≤ (m32.1 8) := h35
              rewrite [(show (m9.1 8) = (m.1 8) from ((fr1 Fm9 8 rfl).trans (fr1 Fm7 8 rfl)))] at h35
              clear h36
              have hf46 : 1 ≤ (m32.1 10) := by omega
              clear q18_10 ic16
              refine T_ld 227 (.ref 189) rfl (fun _ => rfl) ?_
              refine T_ld 228 (.ref 189) rfl (fun _ => rfl) ?_
              refine T_gf1 231 (.int (i32 (m9.1 73))) rfl rfl (mfv_c (F := fun x => .int (i32 x)) rfl (show (m32.1 73) = (m9.1 73) from (fr1 Fm32 73 rfl))) rfl ?_
              refine T_ld 232 (.int (i32 1)) rfl (fun _ => rfl) ?_
              refine T_isub 233 rfl rfl ?_
              refine T_pf (l' := [(73, (m9.1 73) - 1)]) 236 ((m9.1 73) - 1) rfl rfl rfl rfl rfl rfl ?_
              have g47 : 0 ≤ (m9.1 73) - 1 ∧ (m9.1 73) - 1 ≤ 60 := ⟨by omega, by omega⟩
              refine T_ld 237 (.ref 189) rfl (fun _ => rfl) ?_
              refine T_ld 238 (.int (i32 ((m.2 77) ((m9.1 73) - 1)))) rfl (fun _ => rfl) ?_
              refine T_pf (l' := [(70, (m.2 77) ((m9.1 73) - 1)), (73, (m9.1 73) - 1)]) 241 ((m.2 77) ((m9.1 73) - 1)) rfl rfl rfl rfl rfl rfl ?_
              have g48 : 0 ≤ (m.2 77) ((m9.1 73) - 1) ∧ (m.2 77) ((m9.1 73) - 1) ≤ 4000 := ⟨by omega, by omega⟩
              refine T_ld 242 (.ref 189) rfl (fun _ => rfl) ?_
              refine T_ld 243 (.int (i32 1)) rfl (fun _ => rfl) ?_
              refine T_pf (l' := [(70, (m.2 77) ((m9.1 73) - 1)), (73, (m9.1 73) - 1), (75, 1)]) 246 1 rfl rfl rfl rfl rfl rfl ?_
              refine T_ret rfl (fun _ => rfl) ?_
              exact ⟨(mO m32 [(70, (m.2 77) ((m9.1 73) - 1)), (73, (m9.1 73) - 1), (75, 1)] []), (Ty_mO Tm32 rfl rfl ⟨g48, g47, ⟨(by omega : (0 : Int) ≤ 1), (by omega : (1 : Int) ≤ 3)⟩, trivial⟩ trivial), (fr_m (fr_s Fm32 (fr_m (fr_s Fm9 (fr_m (fr_s Fm7 (fr_m fr_0 rfl rfl) rfl rfl) rfl rfl) rfl rfl) rfl rfl) rfl rfl) rfl rfl), (show (m32.1 10) = 0 → (m.1 10) = 0 by omega), (show LxP (m32.1 7) (m32.1 8) (m32.1 9) (m.1 6) (m32.1 10) by first | (first | exact hLx | exact (fun _ => hLx (by omega)) | (intro h9; exfalso; omega)) | (exfalso; omega)), (fun (h : (m32.1 10) = 0) => absurd h (by omega)), rfl⟩
          · skip
            refine T_ld 203 (.ref 189) rfl (fun _ => rfl) ?_
            refine T_ld 204 (.int (i32 3)) rfl (fun _ => rfl) ?_
            refine T_pf (l' := [(75, 3)]) 207 3 rfl rfl rfl rfl rfl rfl ?_
            have hXE : XS (m9.2 65) (m9.2 67) (m.2 76) (m.2 78) (m.2 79) (m.2 80) B (m9.1 28) (m9.1 73) (m9.1 74) (um (3 : Int)) := by
              rw [show um (3 : Int) = 1 from if_neg (by omega)]
              have e : (m9.1 73) = 0 := by omega
              have H := hXC
              rw [e] at H ⊢
              exact XC_end H
            refine T_ret rfl (fun _ => rfl) ?_
            exact ⟨(mO m9 [(75, 3)] []), (Ty_mO Tm9 rfl rfl ⟨⟨(by omega : (0 : Int) ≤ 3), (by omega : (3 : Int) ≤ 3)⟩, trivial⟩ trivial), (fr_m (fr_s Fm9 (fr_m (fr_s Fm7 (fr_m fr_0 rfl rfl) rfl rfl) rfl rfl) rfl rfl) rfl rfl), (show (m9.1 10) = 0 → (m.1 10) = 0 by omega), (show LxP (m9.1 7) (m9.1 8) (m9.1 9) (m.1 6) (m9.1 10) by rewrite [(show (m9.1 7) = (m.1 7) from ((fr1 Fm9 7 rfl).trans (fr1 Fm7 7 rfl))), (show (m9.1 8) = (m.1 8) from ((fr1 Fm9 8 rfl).trans (fr1 Fm7 8 rfl))), (show (m9.1 9) = (m.1 9) from ((fr1 Fm9 9 rfl).trans (fr1 Fm7 9 rfl)))]; first | (first | exact hLx | exact (fun _ => hLx (by omega)) | (intro h9; exfalso; omega)) | (exfalso; omega)), (fun _ => ⟨(show GP (m.1 8) (m9.1 8) (3 : Int) (m9.1 73) (m.1 73) by rewrite [(show (m9.1 8) = (m.1 8) from ((fr1 Fm9 8 rfl).trans (fr1 Fm7 8 rfl)))]; first | (first | assumption | (unfold GP; omega)) | (exfalso; omega)), (show GU (3 : Int) (m9.1 69) by first | (first | assumption | (unfold GU; omega)) | (exfalso; omega)), (show GH (3 : Int) (m9.1 73) by first | (first | assumption | (unfold GH; omega)) | (exfalso; omega)), (show (m.1 28) ≤ (m9.1 28) by omega), (show XS (m9.2 65) (m9.2 67) (m.2 76) (m.2 78) (m.2 79) (m.2 80) B (m9.1 28) (m9.1 73) (m9.1 74) (um (3 : Int)) by first | (exact hXE) | (exfalso; omega)), (show agr (m.2 65) (m9.2 65) (m.1 28) by first | (exact hAgC) | (exfalso; omega))⟩), rfl⟩
        · skip
          clear c19
          have hf49 : 1 ≤ (m9.1 10) := by omega
          refine T_ld 34 (.int (i32 v8)) rfl (fun _ => rfl) ?_
          refine T_if 195 37 rfl rfl rfl (r32 (by omega) (by omega)) (fun (h50 : v8 = 0) => ?_) (fun (h50 : ¬ (v8 = 0)) => by exfalso; omega)
          refine T_gf 199 (.int (i32 (m9.1 73))) rfl rfl rfl rfl rfl rfl ?_
          refine T_if 208 202 rfl rfl rfl (r32 (by omega) (by omega)) (fun (h51 : (m9.1 73) ≠ 0) => ?_) (fun (h51 : ¬ ((m9.1 73) ≠ 0)) => ?_)
          · skip
            refine T_gf 212 (.ref 239) rfl rfl rfl rfl rfl rfl ?_
            refine T_gf 216 (.int (i32 (m9.1 73))) rfl rfl rfl rfl rfl rfl ?_
            refine T_ld 217 (.int (i32 1)) rfl (fun _ => rfl) ?_
            refine T_isub 218 rfl rfl ?_
            refine T_iald 219 77 (m.2 77) rfl rfl rfl (by omega) (show ((m9.1 73) - 1) < (60 : Int) by omega) (show (m9.2 77) = (m.2 77) from ((fr2 Fm9 77 rfl).trans (fr2 Fm7 77 rfl))) ?_
            have e52 : 0 ≤ m.2 77 ((m9.1 73) - 1) ∧ m.2 77 ((m9.1 73) - 1) ≤ 4000 := hT.2.1 77 ((m9.1 73) - 1)
            refine T_sto 220 [(2, .int (i32 ((m.2 77) ((m9.1 73) - 1)))), (0, .ref 189), (1, .int (i32 v8))] rfl (fun _ => rfl) ?_
            refine T_ld 221 (.ref 189) rfl (fun _ => rfl) ?_
            refine T_ld 223 (.int (i32 41)) rfl (fun _ => rfl) ?_
            refine T_call 226 232 [.ref 189, .int (i32 41)] [] rfl (fun _ => rfl) rfl (d_need w (mO m9 [] []) c N D (by omega) Tm9 41 ⟨by decide, by decide⟩ (show 1 ≤ (41 : Int) by omega) (show LxP (m9.1 7) (m9.1 8) (m9.1 9) (m9.1 6) (m9.1 10) by rewrite [(show (m9.1 7) = (m.1 7) from ((fr1 Fm9 7 rfl).trans (fr1 Fm7 7 rfl))), (show (m9.1 8) = (m.1 8) from ((fr1 Fm9 8 rfl).trans (fr1 Fm7 8 rfl))), (show (m9.1 9) = (m.1 9) from ((fr1 Fm9 9 rfl).trans (fr1 Fm7 9 rfl))), (show (m9.1 6) = (m.1 6) from ((fr1 Fm9 6 rfl).trans (fr1 Fm7 6 rfl)))]; first | exact hLx | (intro h9; exfalso; omega) | (intro h9; have h8 := hLx (by omega); omega))) (fun rr53 k54 => ?_)
            obtain ⟨m55, Tm55, Fm55, h56, h57, h58, h59, rfl⟩ := k54
            refine ⟨_, _, rfl, ?_⟩
            refine T_nb (st' := []) rfl ?_
            have g60 : 0 ≤ m55.1 7 ∧ m55.1 7 ≤ 330 := Tm55.1 7
            have g61 : 0 ≤ m55.1 8 ∧ m55.1 8 ≤ 4000 := Tm55.1 8
            have g62 : 0 ≤ m55.1 9 ∧ m55.1 9 ≤ 4000 := Tm55.1 9
            have g63 : 0 ≤ m55.1 10 ∧ m55.1 10 ≤ 8 := Tm55.1 10
            replace h56 : LxP (m55.1 7) (m55.1 8) (m55.1 9) (m9.1 6) (m55.1 10) := h56
            rewrite [(show (m9.1 6) = (m.1 6) from ((fr1 Fm9 6 rfl).trans (fr1 Fm7 6 rfl)))] at h56
            replace h57 : (m55.1 10) = 0 → (m9.1 10) = 0 ∧ (m9.1 7) = (41 : Int) := h57
            rewrite [(show (m9.1 7) = (m.1 7) from ((fr1 Fm9 7 rfl).trans (fr1 Fm7 7 rfl)))] at h57
            replace h58 : (m9.1 8) ≤ (m55.1 8) := h58
            rewrite [(show (m9.1 8) = (m.1 8) from ((fr1 Fm9 8 rfl).trans (fr1 Fm7 8 rfl)))] at h58
            replace h59 : (m55.1 10) = 0 → (m9.1 8) + (m9.1 9) ≤ (m55.1 8) := h59
            rewrite [(show (m9.1 8) = (m.1 8) from ((fr1 Fm9 8 rfl).trans (fr1 Fm7 8 rfl))), (show (m9.1 9) = (m.1 9) from ((fr1 Fm9 9 rfl).trans (fr1 Fm7 9 rfl)))] at h59
            have hf64 : 1 ≤ (m55.1 10) := by omega
            clear h57
            clear h59
            have hLx := h56
            clear q18_10 ic16 hf49
            refine T_ld 227 (.ref 189) rfl (fun _ => rfl) ?_
            refine T_ld 228 (.ref 189) rfl (fun _ => rfl) ?_
            refine T_gf1 231 (.int (i32 (m9.1 73))) rfl rfl (mfv_c (F := fun x => .int (i32 x)) rfl (show (m55.1 73) = (m9.1 73) from (fr1 Fm55 73 rfl))) rfl ?_
            refine T_ld 232 (.int (i32 1)) rfl (fun _ => rfl) ?_
            refine T_isub 233 rfl rfl ?_
            refine T_pf (l' := [(73, (m9.1 73) - 1)]) 236 ((m9.1 73) - 1) rfl rfl rfl rfl rfl rfl ?_
            have g65 : 0 ≤ (m9.1 73) - 1 ∧ (m9.1 73) - 1 ≤ 60 := ⟨by omega, by omega⟩
            refine T_ld 237 (.ref 189) rfl (fun _ => rfl) ?_
            refine T_ld 238 (.int (i32 ((m.2 77) ((m9.1 73) - 1)))) rfl (fun _ => rfl) ?_
            refine T_pf (l' := [(70, (m.2 77) ((m9.1 73) - 1)), (73, (m9.1 73) - 1)]) 241 ((m.2 77) ((m9.1 73) - 1)) rfl rfl rfl rfl rfl rfl ?_
            have g66 : 0 ≤ (m.2 77) ((m9.1 73) - 1) ∧ (m.2 77) ((m9.1 73) - 1) ≤ 4000 := ⟨by omega, by omega⟩
            refine T_ld 242 (.ref 189) rfl (fun _ => rfl) ?_
            refine T_ld 243 (.int (i32 1)) rfl (fun _ => rfl) ?_
            refine T_pf (l' := [(70, (m.2 77) ((m9.1 73) - 1)), (73, (m9.1 73) - 1), (75, 1)]) 246 1 rfl rfl rfl rfl rfl rfl ?_
            refine T_ret rfl (fun _ => rfl) ?_
            exact ⟨(mO m55 [(70, (m.2 77) ((m9.1 73) - 1)), (73, (m9.1 73) - 1), (75, 1)] []), (Ty_mO Tm55 rfl rfl ⟨g66, g65, ⟨(by omega : (0 : Int) ≤ 1), (by omega : (1 : Int) ≤ 3)⟩, trivial⟩ trivial), (fr_m (fr_s Fm55 (fr_m (fr_s Fm9 (fr_m (fr_s Fm7 (fr_m fr_0 rfl rfl) rfl rfl) rfl rfl) rfl rfl) rfl rfl) rfl rfl) rfl rfl), (show (m55.1 10) = 0 → (m.1 10) = 0 by omega), (show LxP (m55.1 7) (m55.1 8) (m55.1 9) (m.1 6) (m55.1 10) by first | (first | exact hLx | exact (fun _ => hLx (by omega)) | (intro h9; exfalso; omega)) | (exfalso; omega)), (fun (h : (m55.1 10) = 0) => absurd h (by omega)), rfl⟩
          · skip
            refine T_ld 203 (.ref 189) rfl (fun _ => rfl) ?_
            refine T_ld 204 (.int (i32 3)) rfl (fun _ => rfl) ?_
            refine T_pf (l' := [(75, 3)]) 207 3 rfl rfl rfl rfl rfl rfl ?_
            refine T_ret rfl (fun _ => rfl) ?_
            exact ⟨(mO m9 [(75, 3)] []), (Ty_mO Tm9 rfl rfl ⟨⟨(by omega : (0 : Int) ≤ 3), (by omega : (3 : Int) ≤ 3)⟩, trivial⟩ trivial), (fr_m (fr_s Fm9 (fr_m (fr_s Fm7 (fr_m fr_0 rfl rfl) rfl rfl) rfl rfl) rfl rfl) rfl rfl), (show (m9.1 10) = 0 → (m.1 10) = 0 by omega), (show LxP (m9.1 7) (m9.1 8) (m9.1 9) (m.1 6) (m9.1 10) by rewrite [(show (m9.1 7) = (m.1 7) from ((fr1 Fm9 7 rfl).trans (fr1 Fm7 7 rfl))), (show (m9.1 8) = (m.1 8) from ((fr1 Fm9 8 rfl).trans (fr1 Fm7 8 rfl))), (show (m9.1 9) = (m.1 9) from ((fr1 Fm9 9 rfl).trans (fr1 Fm7 9 rfl)))]; first | (first | exact hLx | exact (fun _ => hLx (by omega)) | (intro h9; exfalso; omega)) | (exfalso; omega)), (fun (h : (m9.1 10) = 0) => absurd h (by omega)), rfl⟩
    refine Tm_lv (a := [(0, .ref 189), (1, .int (i32 0))]) rfl rfl ⟨rfl, rfl, trivial⟩ ?_
    exact L33_10 ((((m.1 73) - 1) : Int) + 1).toNat 0 (mO m7 [] []) ⟨by decide, by decide⟩ Tm7 (fr_m fr_0 rfl rfl) (show 0 ≤ (0 : Int) by omega) (show (0 : Int) ≤ 0 by omega) (show (0 : Int) = 0 ∨ (0 : Int) = 1 by omega) (show (0 : Int) = 1 → 1 ≤ (m7.1 73) by rewrite [(show (m7.1 73) = ((m.1 73) - 1) from (fr1 Fm7 73 rfl))]; omega) (show (m7.1 73) + 1 ≤ (m.1 73) by rewrite [(show (m7.1 73) = ((m.1 73) - 1) from (fr1 Fm7 73 rfl))]; omega) (show (m7.1 10) = 0 ∨ (0 : Int) = 0 by rewrite [(show (m7.1 10) = (m.1 10) from (fr1 Fm7 10 rfl))]; omega) (fun _ => ⟨(show XC (m7.2 65) (m7.2 67) (m.2 76) (m.2 78) (m.2 79) (m.2 80) B (m7.1 28) (m7.1 73) (m7.1 74) by rewrite [(show (m7.2 65) = (m.2 65) from (fr2 Fm7 65 rfl)), (show (m7.2 67) = (m.2 67) from (fr2 Fm7 67 rfl)), (show (m7.1 28) = (m.1 28) from (fr1 Fm7 28 rfl)), (show (m7.1 73) = ((m.1 73) - 1) from (fr1 Fm7 73 rfl)), (show (m7.1 74) = ((m.1 74) - 1) from (fr1 Fm7 74 rfl))]; exact hXC), (show (m7.1 69) ≤ 64 by rewrite [(show (m7.1 69) = (m.1 69) from (fr1 Fm7 69 rfl))]; omega), (show (m.1 28) ≤ (m7.1 28) by rewrite [(show (m7.1 28) = (m.1 28) from (fr1 Fm7 28 rfl))]; omega), (show (0 : Int) = 0 → (m7.1 73) = 0 by rewrite [(show (m7.1 73) = ((m.1 73) - 1) from (fr1 Fm7 73 rfl))]; omega), (show agr (m.2 65) (m7.2 65) (m.1 28) by rewrite [(show (m7.2 65) = (m.2 65) from (fr2 Fm7 65 rfl))]; exact hAgC)⟩) (show (m7.1 73) < ((((((m.1 73) - 1) : Int) + 1).toNat : Nat) : Int) by rewrite [(show (m7.1 73) = ((m.1 73) - 1) from (fr1 Fm7 73 rfl))]; omega)
  · skip
    refine T_ld 28 (.int (i32 1)) rfl (fun _ => rfl) ?_
    refine T_goto 32 rfl (fun _ => rfl) ?_
    refine T_sto 33 [(1, .int (i32 1)), (0, .ref 189)] rfl (fun _ => rfl) ?_
    refine T_fl (Ty_mO hT rfl rfl ⟨g4, g5, trivial⟩ trivial) (fun m67 Tm67 Fm67 => ?_)
    have L33_70 : ∀ (n : Nat) (v68 : Int) (m69 : mR), (R32 v68) → Ty m69 → fr [10, 11, 28, 69, 70, 71, 72, 73, 74] [65, 66, 67, 68] (mO m67 [] []) m69 → (0 ≤ v68) → (v68 ≤ 1) → (v68 = 0 ∨ v68 = 1) → (v68 = 1 → 1 ≤ (m69.1 73)) → ((m69.1 73) + 1 ≤ (m.1 73)) → ((m69.1 10) = 0 ∨ v68 = 0) → ((m69.1 10) = 0 → (XC (m69.2 65) (m69.2 67) (m.2 76) (m.2 78) (m.2 79) (m.2 80) B (m69.1 28) (m69.1 73) (m69.1 74)) ∧ ((m69.1 69) ≤ 64) ∧ ((m.1 28) ≤ (m69.1 28)) ∧ (v68 = 0 → (m69.1 73) = 0) ∧ (agr (m.2 65) (m69.2 65) (m.1 28))) → (m69.1 73) < (n : Int) → TT w D pm_264 (33, [(0, .ref 189), (1, .int (i32 v68))], [], (mhp (mO m69 [] []) c, N), 0, 0) (Q_endChoice m c N B) := by
      intro n
      induction n with
      | zero =>
        intro v68 m69 q77 Tm69 Fm69 ic71 ic72 ic73 ic74 ic75 ic76 c79 hmu
        obtain ⟨q77a, q77b⟩ := id q77
        have q78_10 : 0 ≤ m69.1 10 ∧ m69.1 10 ≤ 8 := Tm69.1 10
        have q78_28 : 0 ≤ m69.1 28 ∧ m69.1 28 ≤ 800 := Tm69.1 28
        have q78_69 : 0 ≤ m69.1 69 ∧ m69.1 69 ≤ 1024 := Tm69.1 69
        have q78_70 : 0 ≤ m69.1 70 ∧ m69.1 70 ≤ 4000 := Tm69.1 70
        have q78_71 : 0 ≤ m69.1 71 ∧ m69.1 71 ≤ 1 := Tm69.1 71
        have q78_72 : (-9223372036854775808) ≤ m69.1 72 ∧ m69.1 72 ≤ 9223372036854775807 := Tm69.1 72
        have q78_73 : 0 ≤ m69.1 73 ∧ m69.1 73 ≤ 60 := Tm69.1 73
        have q78_74 : 0 ≤ m69.1 74 ∧ m69.1 74 ≤ 24 := Tm69.1 74
        exfalso
        omega
      | succ n ih =>
        intro v68 m69 q77 Tm69 Fm69 ic71 ic72 ic73 ic74 ic75 ic76 c79 hmu
        obtain ⟨q77a, q77b⟩ := id q77
        have q78_10 : 0 ≤ m69.1 10 ∧ m69.1 10 ≤ 8 := Tm69.1 10
        have q78_28 : 0 ≤ m69.1 28 ∧ m69.1 28 ≤ 800 := Tm69.1 28
        have q78_69 : 0 ≤ m69.1 69 ∧ m69.1 69 ≤ 1024 := Tm69.1 69
        have q78_70 : 0 ≤ m69.1 70 ∧ m69.1 70 ≤ 4000 := Tm69.1 70
        have q78_71 : 0 ≤ m69.1 71 ∧ m69.1 71 ≤ 1 := Tm69.1 71
        have q78_72 : (-9223372036854775808) ≤ m69.1 72 ∧ m69.1 72 ≤ 9223372036854775807 := Tm69.1 72
        have q78_73 : 0 ≤ m69.1 73 ∧ m69.1 73 ≤ 60 := Tm69.1 73
        have q78_74 : 0 ≤ m69.1 74 ∧ m69.1 74 ≤ 24 := Tm69.1 74
        have ih80 := ih
        by_cases hf81 : (m69.1 10) = 0
        · skip
          obtain ⟨c82, c83, c84, c85, c86⟩ := c79 hf81
          clear c79
          have hXC := c82
          have hAgC := c86
          refine T_ld 34 (.int (i32 v68)) rfl (fun _ => rfl) ?_
          refine T_if 195 37 rfl rfl rfl (r32 (by omega) (by omega)) (fun (h87 : v68 = 0) => ?_) (fun (h87 : ¬ (v68 = 0)) => ?_)
          · skip
            refine T_gf 199 (.int (i32 (m69.1 73))) rfl rfl rfl rfl rfl rfl ?_
            refine T_if 208 202 rfl rfl rfl (r32 (by omega) (by omega)) (fun (h88 : (m69.1 73) ≠ 0) => ?_) (fun (h88 : ¬ ((m69.1 73) ≠ 0)) => ?_)
            · skip
              obtain ⟨hXB, hh2⟩ := XC_bra hXC (by omega) (by omega) (hT.2.1 76 _) (hT.2.1 79 _).1
              refine T_gf 212 (.ref 239) rfl rfl rfl rfl rfl rfl ?_
              refine T_gf 216 (.int (i32 (m69.1 73))) rfl rfl rfl rfl rfl rfl ?_
              refine T_ld 217 (.int (i32 1)) rfl (fun _ => rfl) ?_
              refine T_isub 218 rfl rfl ?_
              refine T_iald 219 77 (m.2 77) rfl rfl rfl (by omega) (show ((m69.1 73) - 1) < (60 : Int) by omega) (show (m69.2 77) = (m.2 77) from ((fr2 Fm69 77 rfl).trans (fr2 Fm67 77 rfl))) ?_
              have e89 : 0 ≤ m.2 77 ((m69.1 73) - 1) ∧ m.2 77 ((m69.1 73) - 1) ≤ 4000 := hT.2.1 77 ((m69.1 73) - 1)
              refine T_sto 220 [(2, .int (i32 ((m.2 77) ((m69.1 73) - 1)))), (0, .ref 189), (1, .int (i32 v68))] rfl (fun _ => rfl) ?_
              refine T_ld 221 (.ref 189) rfl (fun _ => rfl) ?_
              refine T_ld 223 (.int (i32 41)) rfl (fun _ => rfl) ?_
              refine T_call 226 232 [.ref 189, .int (i32 41)] [] rfl (fun _ => rfl) rfl (d_need w (mO m69 [] []) c N D (by omega) Tm69 41 ⟨by decide, by decide⟩ (show 1 ≤ (41 : Int) by omega) (show LxP (m69.1 7) (m69.1 8) (m69.1 9) (m69.1 6) (m69.1 10) by rewrite [(show (m69.1 7) = (m.1 7) from ((fr1 Fm69 7 rfl).trans (fr1 Fm67 7 rfl))), (show (m69.1 8) = (m.1 8) from ((fr1 Fm69 8 rfl).trans (fr1 Fm67 8 rfl))), (show (m69.1 9) = (m.1 9) from ((fr1 Fm69 9 rfl).trans (fr1 Fm67 9 rfl))), (show (m69.1 6) = (m.1 6) from ((fr1 Fm69 6 rfl).trans (fr1 Fm67 6 rfl)))]; first | exact hLx | (intro h9; exfalso; omega) | (intro h9; have h8 := hLx (by omega); omega))) (fun rr90 k91 => ?_)
              obtain ⟨m92, Tm92, Fm92, h93, h94, h95, h96, rfl⟩ := k91
              refine ⟨_, _, rfl, ?_⟩
              refine T_nb (st' := []) rfl ?_
              have g97 : 0 ≤ m92.1 7 ∧ m92.1 7 ≤ 330 := Tm92.1 7
              have g98 : 0 ≤ m92.1 8 ∧ m92.1 8 ≤ 4000 := Tm92.1 8
              have g99 : 0 ≤ m92.1 9 ∧ m92.1 9 ≤ 4000 := Tm92.1 9
              have g100 : 0 ≤ m92.1 10 ∧ m92.1 10 ≤ 8 := Tm92.1 10
              by_cases hf101 : (m92.1 10) = 0
              · skip
                replace h93 : LxP (m92.1 7) (m92.1 8) (m92.1 9) (m69.1 6) (m92.1 10) := h93
                rewrite [(show (m69.1 6) = (m.1 6) from ((fr1 Fm69 6 rfl).trans (fr1 Fm67 6 rfl)))] at h93
                have hLx := h93
                replace h94 : (m69.1 10) = 0 ∧ (m69.1 7) = (41 : Int) := h94 hf101
                rewrite [(show (m69.1 7) = (m.1 7) from ((fr1 Fm69 7 rfl).trans (fr1 Fm67 7 rfl)))] at h94
                replace h95 : (m69.1 8) ≤ (m92.1 8) := h95
                rewrite [(show (m69.1 8) = (m.1 8) from ((fr1 Fm69 8 rfl).trans (fr1 Fm67 8 rfl)))] at h95
                replace h96 : (m69.1 8) + (m69.1 9) ≤ (m92.1 8) := h96 hf101
                rewrite [(show (m69.1 8) = (m.1 8) from ((fr1 Fm69 8 rfl).trans (fr1 Fm67 8 rfl))), (show (m69.1 9) = (m.1 9) from ((fr1 Fm69 9 rfl).trans (fr1 Fm67 9 rfl)))] at h96
                have hAgC : agr (m.2 65) (m69.2 65) (m.1 28) := by first | exact agr_r _ _ | exact hAgC | exact agr_t hAgC hAg (by omega)
                have u102 : (m.1 28) ≤ (m69.1 28) := by omega
                have u103 : (m69.1 69) ≤ 64 := by omega
                clear q78_10 ic76 h94
                refine T_ld 227 (.ref 189) rfl (fun _ => rfl) ?_
                refine T_ld 228 (.ref 189) rfl (fun _ => rfl) ?_
                refine T_gf1 231 (.int (i32 (m69.1 73))) rfl rfl (mfv_c (F := fun x => .int (i32 x)) rfl (show (m92.1 73) = (m69.1 73) from (fr1 Fm92 73 rfl))) rfl ?_
                refine T_ld 232 (.int (i32 1)) rfl (fun _ => rfl) ?_
                refine T_isub 233 rfl rfl ?_
                refine T_pf (l' := [(73, (m69.1 73) - 1)]) 236 ((m69.1 73) - 1) rfl rfl rfl rfl rfl rfl ?_
                have g104 : 0 ≤ (m69.1 73) - 1 ∧ (m69.1 73) - 1 ≤ 60 := ⟨by omega, by omega⟩
                refine T_ld 237 (.ref 189) rfl (fun _ => rfl) ?_
                refine T_ld 238 (.int (i32 ((m.2 77) ((m69.1 73) - 1)))) rfl (fun _ => rfl) ?_
                refine T_pf (l' := [(70, (m.2 77) ((m69.1 73) - 1)), (73, (m69.1 73) - 1)]) 241 ((m.2 77) ((m69.1 73) - 1)) rfl rfl rfl rfl rfl rfl ?_
                have g105 : 0 ≤ (m.2 77) ((m69.1 73) - 1) ∧ (m.2 77) ((m69.1 73) - 1) ≤ 4000 := ⟨by omega, by omega⟩
                refine T_ld 242 (.ref 189) rfl (fun _ => rfl) ?_
                refine T_ld 243 (.int (i32 1)) rfl (fun _ => rfl) ?_
                refine T_pf (l' := [(70, (m.2 77) ((m69.1 73) - 1)), (73, (m69.1 73) - 1), (75, 1)]) 246 1 rfl rfl rfl rfl rfl rfl ?_
                have hXE : XS (m69.2 65) (m69.2 67) (m.2 76) (m.2 78) (m.2 79) (m.2 80) B (m69.1 28) ((m69.1 73) - 1) (m69.1 74) (um (1 : Int)) := by
                  rw [show um (1 : Int) = 1 from if_neg (by omega)]
                  exact hXB
                refine T_ret rfl (fun _ => rfl) ?_
                exact ⟨(mO m92 [(70, (m.2 77) ((m69.1 73) - 1)), (73, (m69.1 73) - 1), (75, 1)] []), (Ty_mO Tm92 rfl rfl ⟨g105, g104, ⟨(by omega : (0 : Int) ≤ 1), (by omega : (1 : Int) ≤ 3)⟩, trivial⟩ trivial), (fr_m (fr_s Fm92 (fr_m (fr_s Fm69 (fr_m (fr_s Fm67 (fr_m fr_0 rfl rfl) rfl rfl) rfl rfl) rfl rfl) rfl rfl) rfl rfl) rfl rfl), (show (m92.1 10) = 0 → (m.1 10) = 0 by omega), (show LxP (m92.1 7) (m92.1 8) (m92.1 9) (m.1 6) (m92.1 10) by first | (first | exact hLx | exact (fun _ => hLx (by omega)) | (intro h9; exfalso; omega)) | (exfalso; omega)), (fun _ => ⟨(show GP (m.1 8) (m92.1 8) (1 : Int) ((m69.1 73) - 1) (m.1 73) by first | (first | assumption | (unfold GP; omega)) | (exfalso; omega)), (show GU (1 : Int) (m92.1 69) by rewrite [(show (m92.1 69) = (m69.1 69) from (fr1 Fm92 69 rfl))]; first | (first | assumption | (unfold GU; omega)) | (exfalso; omega)), (show GH (1 : Int) ((m69.1 73) - 1) by first | (first | assumption | (unfold GH; omega)) | (exfalso; omega)), (show (m.1 28) ≤ (m92.1 28) by rewrite [(show (m92.1 28) = (m69.1 28) from (fr1 Fm92 28 rfl))]; omega), (show XS (m92.2 65) (m92.2 67) (m.2 76) (m.2 78) (m.2 79) (m.2 80) B (m92.1 28) ((m69.1 73) - 1) (m92.1 74) (um (1 : Int)) by rewrite [(show (m92.2 65) = (m69.2 65) from (fr2 Fm92 65 rfl)), (show (m92.2 67) = (m69.2 67) from (fr2 Fm92 67 rfl)), (show (m92.1 28) = (m69.1 28) from (fr1 Fm92 28 rfl)), (show (m92.1 74) = (m69.1 74) from (fr1 Fm92 74 rfl))]; first | (exact hXE) | (exfalso; omega)), (show agr (m.2 65) (m92.2 65) (m.1 28) by rewrite [(show (m92.2 65) = (m69.2 65) from (fr2 Fm92 65 rfl))]; first | (exact hAgC) | (exfalso; omega))⟩), rfl⟩
              · skip
                replace h93 : LxP (m92.1 7) (m92.1 8) (m92.1 9) (m69.1 6) (m92.1 10) := h93
                rewrite [(show (m69.1 6) = (m.1 6) from ((fr1 Fm69 6 rfl).trans (fr1 Fm67 6 rfl)))] at h93
                have hLx := h93
                clear h94
                replace h95 : (m69.1 8) ≤ (m92.1 8) := h95
                rewrite [(show (m69.1 8) = (m.1 8) from ((fr1 Fm69 8 rfl).trans (fr1 Fm67 8 rfl)))] at h95
                clear h96
                have hf106 : 1 ≤ (m92.1 10) := by omega
                clear q78_10 ic76
                refine T_ld 227 (.ref 189) rfl (fun _ => rfl) ?_
                refine T_ld 228 (.ref 189) rfl (fun _ => rfl) ?_
                refine T_gf1 231 (.int (i32 (m69.1 73))) rfl rfl (mfv_c (F := fun x => .int (i32 x)) rfl (show (m92.1 73) = (m69.1 73) from (fr1 Fm92 73 rfl))) rfl ?_
                refine T_ld 232 (.int (i32 1)) rfl (fun _ => rfl) ?_
                refine T_isub 233 rfl rfl ?_
                refine T_pf (l' := [(73, (m69.1 73) - 1)]) 236 ((m69.1 73) - 1) rfl rfl rfl rfl rfl rfl ?_
                have g107 : 0 ≤ (m69.1 73) - 1 ∧ (m69.1 73) - 1 ≤ 60 := ⟨by omega, by omega⟩
                refine T_ld 237 (.ref 189) rfl (fun _ => rfl) ?_
                refine T_ld 238 (.int (i32 ((m.2 77) ((m69.1 73) - 1)))) rfl (fun _ => rfl) ?_
                refine T_pf (l' := [(70, (m.2 77) ((m69.1 73) - 1)), (73, (m69.1 73) - 1)]) 241 ((m.2 77) ((m69.1 73) - 1)) rfl rfl rfl rfl rfl rfl ?_
                have g108 : 0 ≤ (m.2 77) ((m69.1 73) - 1) ∧ (m.2 77) ((m69.1 73) - 1) ≤ 4000 := ⟨by omega, by omega⟩
                refine T_ld 242 (.ref 189) rfl (fun _ => rfl) ?_
                refine T_ld 243 (.int (i32 1)) rfl (fun _ => rfl) ?_
                refine T_pf (l' := [(70, (m.2 77) ((m69.1 73) - 1)), (73, (m69.1 73) - 1), (75, 1)]) 246 1 rfl rfl rfl rfl rfl rfl ?_
                refine T_ret rfl (fun _ => rfl) ?_
                exact ⟨(mO m92 [(70, (m.2 77) ((m69.1 73) - 1)), (73, (m69.1 73) - 1), (75, 1)] []), (Ty_mO Tm92 rfl rfl ⟨g108, g107, ⟨(by omega : (0 : Int) ≤ 1), (by omega : (1 : Int) ≤ 3)⟩, trivial⟩ trivial), (fr_m (fr_s Fm92 (fr_m (fr_s Fm69 (fr_m (fr_s Fm67 (fr_m fr_0 rfl rfl) rfl rfl) rfl rfl) rfl rfl) rfl rfl) rfl rfl) rfl rfl), (show (m92.1 10) = 0 → (m.1 10) = 0 by omega), (show LxP (m92.1 7) (m92.1 8) (m92.1 9) (m.1 6) (m92.1 10) by first | (first | exact hLx | exact (fun _ => hLx (by omega)) | (intro h9; exfalso; omega)) | (exfalso; omega)), (fun (h : (m92.1 10) = 0) => absurd h (by omega)), rfl⟩
            · skip
              refine T_ld 203 (.ref 189) rfl (fun _ => rfl) ?_
              refine T_ld 204 (.int (i32 3)) rfl (fun _ => rfl) ?_
              refine T_pf (l' := [(75, 3)]) 207 3 rfl rfl rfl rfl rfl rfl ?_
              have hXE : XS (m69.2 65) (m69.2 67) (m.2 76) (m.2 78) (m.2 79) (m.2 80) B (m69.1 28) (m69.1 73) (m69.1 74) (um (3 : Int)) := by
                rw [show um (3 : Int) = 1 from if_neg (by omega)]
                have e : (m69.1 73) = 0 := by omega
                have H := hXC
                rw [e] at H ⊢
                exact XC_end H
              refine T_ret rfl (fun _ => rfl) ?_
              exact ⟨(mO m69 [(75, 3)] []), (Ty_mO Tm69 rfl rfl ⟨⟨(by omega : (0 : Int) ≤ 3), (by omega : (3 : Int) ≤ 3)⟩, trivial⟩ trivial), (fr_m (fr_s Fm69 (fr_m (fr_s Fm67 (fr_m fr_0 rfl rfl) rfl rfl) rfl rfl) rfl rfl) rfl rfl), (show (m69.1 10) = 0 → (m.1 10) = 0 by omega), (show LxP (m69.1 7) (m69.1 8) (m69.1 9) (m.1 6) (m69.1 10) by rewrite [(show (m69.1 7) = (m.1 7) from ((fr1 Fm69 7 rfl).trans (fr1 Fm67 7 rfl))), (show (m69.1 8) = (m.1 8) from ((fr1 Fm69 8 rfl).trans (fr1 Fm67 8 rfl))), (show (m69.1 9) = (m.1 9) from ((fr1 Fm69 9 rfl).trans (fr1 Fm67 9 rfl)))]; first | (first | exact hLx | exact (fun _ => hLx (by omega)) | (intro h9; exfalso; omega)) | (exfalso; omega)), (fun _ => ⟨(show GP (m.1 8) (m69.1 8) (3 : Int) (m69.1 73) (m.1 73) by rewrite [(show (m69.1 8) = (m.1 8) from ((fr1 Fm69 8 rfl).trans (fr1 Fm67 8 rfl)))]; first | (first | assumption | (unfold GP; omega)) | (exfalso; omega)), (show GU (3 : Int) (m69.1 69) by first | (first | assumption | (unfold GU; omega)) | (exfalso; omega)), (show GH (3 : Int) (m69.1 73) by first | (first | assumption | (unfold GH; omega)) | (exfalso; omega)), (show (m.1 28) ≤ (m69.1 28) by omega), (show XS (m69.2 65) (m69.2 67) (m.2 76) (m.2 78) (m.2 79) (m.2 80) B (m69.1 28) (m69.1 73) (m69.1 74) (um (3 : Int)) by first | (exact hXE) | (exfalso; omega)), (show agr (m.2 65) (m69.2 65) (m.1 28) by first | (exact hAgC) | (exfalso; omega))⟩), rfl⟩
          · skip
            refine T_gf 41 (.ref 238) rfl rfl rfl rfl rfl rfl ?_
            refine T_gf 45 (.int (i32 (m69.1 73))) rfl rfl rfl rfl rfl rfl ?_
            refine T_ld 46 (.int (i32 1)) rfl (fun _ => rfl) ?_
            refine T_isub 47 rfl rfl ?_
            refine T_iald 48 76 (m.2 76) rfl rfl rfl (by omega) (show ((m69.1 73) - 1) < (60 : Int) by omega) (show (m69.2 76) = (m.2 76) from ((fr2 Fm69 76 rfl).trans (fr2 Fm67 76 rfl))) ?_
            have e109 : 0 ≤ m.2 76 ((m69.1 73) - 1) ∧ m.2 76 ((m69.1 73) - 1) ≤ 2 := hT.2.1 76 ((m69.1 73) - 1)
            refine T_if 195 51 rfl rfl rfl (r32 (by omega) (by omega)) (fun (h110 : (m.2 76) ((m69.1 73) - 1) ≠ 0) => ?_) (fun (h110 : ¬ ((m.2 76) ((m69.1 73) - 1) ≠ 0)) => ?_)
            · skip
              refine T_gf 199 (.int (i32 (m69.1 73))) rfl rfl rfl rfl rfl rfl ?_
              refine T_if 208 202 rfl rfl rfl (r32 (by omega) (by omega)) (fun (h111 : (m69.1 73) ≠ 0) => ?_) (fun (h111 : ¬ ((m69.1 73) ≠ 0)) => ?_)
              · skip
                obtain ⟨hXB, hh2⟩ := XC_bra hXC (by omega) (by omega) (hT.2.1 76 _) (hT.2.1 79 _).1
                refine T_gf 212 (.ref 239) rfl rfl rfl rfl rfl rfl ?_
                refine T_gf 216 (.int (i32 (m69.1 73))) rfl rfl rfl rfl rfl rfl ?_
                refine T_ld 217 (.int (i32 1)) rfl (fun _ => rfl) ?_
                refine T_isub 218 rfl rfl ?_
                refine T_iald 219 77 (m.2 77) rfl rfl rfl (by omega) (show ((m69.1 73) - 1) < (60 : Int) by omega) (show (m69.2 77) = (m.2 77) from ((fr2 Fm69 77 rfl).trans (fr2 Fm67 77 rfl))) ?_
                have e112 : 0 ≤ m.2 77 ((m69.1 73) - 1) ∧ m.2 77 ((m69.1 73) - 1) ≤ 4000 := hT.2.1 77 ((m69.1 73) - 1)
                refine T_sto 220 [(2, .int (i32 ((m.2 77) ((m69.1 73) - 1)))), (0, .ref 189), (1, .int (i32 v68))] rfl (fun _ => rfl) ?_
                refine T_ld 221 (.ref 189) rfl (fun _ => rfl) ?_
                refine T_ld 223 (.int (i32 41)) rfl (fun _ => rfl) ?_
                refine T_call 226 232 [.ref 189, .int (i32 41)] [] rfl (fun _ => rfl) rfl (d_need w (mO m69 [] []) c N D (by omega) Tm69 41 ⟨by decide, by decide⟩ (show 1 ≤ (41 : Int) by omega) (show LxP (m69.1 7) (m69.1 8) (m69.1 9) (m69.1 6) (m69.1 10) by rewrite [(show (m69.1 7) = (m.1 7) from ((fr1 Fm69 7 rfl).trans (fr1 Fm67 7 rfl))), (show (m69.1 8) = (m.1 8) from ((fr1 Fm69 8 rfl).trans (fr1 Fm67 8 rfl))), (show (m69.1 9) = (m.1 9) from ((fr1 Fm69 9 rfl).trans (fr1 Fm67 9 rfl))), (show (m69.1 6) = (m.1 6) from ((fr1 Fm69 6 rfl).trans (fr1 Fm67 6 rfl)))]; first | exact hLx | (intro h9; exfalso; omega) | (intro h9; have h8 := hLx (by omega); omega))) (fun rr113 k114 => ?_)
                obtain ⟨m115, Tm115, Fm115, h116, h117, h118, h119, rfl⟩ := k114
                refine ⟨_, _, rfl, ?_⟩
                refine T_nb (st' := []) rfl ?_
                have g120 : 0 ≤ m115.1 7 ∧ m115.1 7 ≤ 330 := Tm115.1 7
                have g121 : 0 ≤ m115.1 8 ∧ m115.1 8 ≤ 4000 := Tm115.1 8
                have g122 : 0 ≤ m115.1 9 ∧ m115.1 9 ≤ 4000 := Tm115.1 9
                have g123 : 0 ≤ m115.1 10 ∧ m115.1 10 ≤ 8 := Tm115.1 10
                by_cases hf124 : (m115.1 10) = 0
                · skip
                  replace h116 : LxP (m115.1 7) (m115.1 8) (m115.1 9) (m69.1 6) (m115.1 10) := h116
                  rewrite [(show (m69.1 6) = (m.1 6) from ((fr1 Fm69 6 rfl).trans (fr1 Fm67 6 rfl)))] at h116
                  have hLx := h116
                  replace h117 : (m69.1 10) = 0 ∧ (m69.1 7) = (41 : Int) := h117 hf124
                  rewrite [(show (m69.1 7) = (m.1 7) from ((fr1 Fm69 7 rfl).trans (fr1 Fm67 7 rfl)))] at h117
                  replace h118 : (m69.1 8) ≤ (m115.1 8) := h118
                  rewrite [(show (m69.1 8) = (m.1 8) from ((fr1 Fm69 8 rfl).trans (fr1 Fm67 8 rfl)))] at h118
                  replace h119 : (m69.1 8) + (m69.1 9) ≤ (m115.1 8) := h119 hf124
                  rewrite [(show (m69.1 8) = (m.1 8) from ((fr1 Fm69 8 rfl).trans (fr1 Fm67 8 rfl))), (show (m69.1 9) = (m.1 9) from ((fr1 Fm69 9 rfl).trans (fr1 Fm67 9 rfl)))] at h119
                  have hAgC : agr (m.2 65) (m69.2 65) (m.1 28) := by first | exact agr_r _ _ | exact hAgC | exact agr_t hAgC hAg (by omega)
                  have u125 : (m.1 28) ≤ (m69.1 28) := by omega
                  have u126 : (m69.1 69) ≤ 64 := by omega
                  clear q78_10 ic76 h117
                  refine T_ld 227 (.ref 189) rfl (fun _ => rfl) ?_
                  refine T_ld 228 (.ref 189) rfl (fun _ => rfl) ?_
                  refine T_gf1 231 (.int (i32 (m69.1 73))) rfl rfl (mfv_c (F := fun x => .int (i32 x)) rfl (show (m115.1 73) = (m69.1 73) from (fr1 Fm115 73 rfl))) rfl ?_
                  refine T_ld 232 (.int (i32 1)) rfl (fun _ => rfl) ?_
                  refine T_isub 233 rfl rfl ?_
                  refine T_pf (l' := [(73, (m69.1 73) - 1)]) 236 ((m69.1 73) - 1) rfl rfl rfl rfl rfl rfl ?_
                  have g127 : 0 ≤ (m69.1 73) - 1 ∧ (m69.1 73) - 1 ≤ 60 := ⟨by omega, by omega⟩
                  refine T_ld 237 (.ref 189) rfl (fun _ => rfl) ?_
                  refine T_ld 238 (.int (i32 ((m.2 77) ((m69.1 73) - 1)))) rfl (fun _ => rfl) ?_
                  refine T_pf (l' := [(70, (m.2 77) ((m69.1 73) - 1)), (73, (m69.1 73) - 1)]) 241 ((m.2 77) ((m69.1 73) - 1)) rfl rfl rfl rfl rfl rfl ?_
                  have g128 : 0 ≤ (m.2 77) ((m69.1 73) - 1) ∧ (m.2 77) ((m69.1 73) - 1) ≤ 4000 := ⟨by omega, by omega⟩
                  refine T_ld 242 (.ref 189) rfl (fun _ => rfl) ?_
                  refine T_ld 243 (.int (i32 1)) rfl (fun _ => rfl) ?_
                  refine T_pf (l' := [(70, (m.2 77) ((m69.1 73) - 1)), (73, (m69.1 73) - 1), (75, 1)]) 246 1 rfl rfl rfl rfl rfl rfl ?_
                  have hXE : XS (m69.2 65) (m69.2 67) (m.2 76) (m.2 78) (m.2 79) (m.2 80) B (m69.1 28) ((m69.1 73) - 1) (m69.1 74) (um (1 : Int)) := by
                    rw [show um (1 : Int) = 1 from if_neg (by omega)]
                    exact hXB
                  refine T_ret rfl (fun _ => rfl) ?_
                  exact ⟨(mO m115 [(70, (m.2 77) ((m69.1 73) - 1)), (73, (m69.1 73) - 1), (75, 1)] []), (Ty_mO Tm115 rfl rfl ⟨g128, g127, ⟨(by omega : (0 : Int) ≤ 1), (by omega : (1 : Int) ≤ 3)⟩, trivial⟩ trivial), (fr_m (fr_s Fm115 (fr_m (fr_s Fm69 (fr_m (fr_s Fm67 (fr_m fr_0 rfl rfl) rfl rfl) rfl rfl) rfl rfl) rfl rfl) rfl rfl) rfl rfl), (show (m115.1 10) = 0 → (m.1 10) = 0 by omega), (show LxP (m115.1 7) (m115.1 8) (m115.1 9) (m.1 6) (m115.1 10) by first | (first | exact hLx | exact (fun _ => hLx (by omega)) | (intro h9; exfalso; omega)) | (exfalso; omega)), (fun _ => ⟨(show GP (m.1 8) (m115.1 8) (1 : Int) ((m69.1 73) - 1) (m.1 73) by first | (first | assumption | (unfold GP; omega)) | (exfalso; omega)), (show GU (1 : Int) (m115.1 69) by rewrite [(show (m115.1 69) = (m69.1 69) from (fr1 Fm115 69 rfl))]; first | (first | assumption | (unfold GU; omega)) | (exfalso; omega)), (show GH (1 : Int) ((m69.1 73) - 1) by first | (first | assumption | (unfold GH; omega)) | (exfalso; omega)), (show (m.1 28) ≤ (m115.1 28) by rewrite [(show (m115.1 28) = (m69.1 28) from (fr1 Fm115 28 rfl))]; omega), (show XS (m115.2 65) (m115.2 67) (m.2 76) (m.2 78) (m.2 79) (m.2 80) B (m115.1 28) ((m69.1 73) - 1) (m115.1 74) (um (1 : Int)) by rewrite [(show (m115.2 65) = (m69.2 65) from (fr2 Fm115 65 rfl)), (show (m115.2 67) = (m69.2 67) from (fr2 Fm115 67 rfl)), (show (m115.1 28) = (m69.1 28) from (fr1 Fm115 28 rfl)), (show (m115.1 74) = (m69.1 74) from (fr1 Fm115 74 rfl))]; first | (exact hXE) | (exfalso; omega)), (show agr (m.2 65) (m115.2 65) (m.1 28) by rewrite [(show (m115.2 65) = (m69.2 65) from (fr2 Fm115 65 rfl))]; first | (exact hAgC) | (exfalso; omega))⟩), rfl⟩
                · skip
                  replace h116 : LxP (m115.1 7) (m115.1 8) (m115.1 9) (m69.1 6) (m115.1 10) := h116
                  rewrite [(show (m69.1 6) = (m.1 6) from ((fr1 Fm69 6 rfl).trans (fr1 Fm67 6 rfl)))] at h116
                  have hLx := h116
                  clear h117
                  replace h118 : (m69.1 8) ≤ (m115.1 8) := h118
                  rewrite [(show (m69.1 8) = (m.1 8) from ((fr1 Fm69 8 rfl).trans (fr1 Fm67 8 rfl)))] at h118
                  clear h119
                  have hf129 : 1 ≤ (m115.1 10) := by omega
                  clear q78_10 ic76
                  refine T_ld 227 (.ref 189) rfl (fun _ => rfl) ?_
                  refine T_ld 228 (.ref 189) rfl (fun _ => rfl) ?_
                  refine T_gf1 231 (.int (i32 (m69.1 73))) rfl rfl (mfv_c (F := fun x => .int (i32 x)) rfl (show (m115.1 73) = (m69.1 73) from (fr1 Fm115 73 rfl))) rfl ?_
                  refine T_ld 232 (.int (i32 1)) rfl (fun _ => rfl) ?_
                  refine T_isub 233 rfl rfl ?_
                  refine T_pf (l' := [(73, (m69.1 73) - 1)]) 236 ((m69.1 73) - 1) rfl rfl rfl rfl rfl rfl ?_
                  have g130 : 0 ≤ (m69.1 73) - 1 ∧ (m69.1 73) - 1 ≤ 60 := ⟨by omega, by omega⟩
                  refine T_ld 237 (.ref 189) rfl (fun _ => rfl) ?_
                  refine T_ld 238 (.int (i32 ((m.2 77) ((m69.1 73) - 1)))) rfl (fun _ => rfl) ?_
                  refine T_pf (l' := [(70, (m.2 77) ((m69.1 73) - 1)), (73, (m69.1 73) - 1)]) 241 ((m.2 77) ((m69.1 73) - 1)) rfl rfl rfl rfl rfl rfl ?_
                  have g131 : 0 ≤ (m.2 77) ((m69.1 73) - 1) ∧ (m.2 77) ((m69.1 73) - 1) ≤ 4000 := ⟨by omega, by omega⟩
                  refine T_ld 242 (.ref 189) rfl (fun _ => rfl) ?_
                  refine T_ld 243 (.int (i32 1)) rfl (fun _ => rfl) ?_
                  refine T_pf (l' := [(70, (m.2 77) ((m69.1 73) - 1)), (73, (m69.1 73) - 1), (75, 1)]) 246 1 rfl rfl rfl rfl rfl rfl ?_
                  refine T_ret rfl (fun _ => rfl) ?_
                  exact ⟨(mO m115 [(70, (m.2 77) ((m69.1 73) - 1)), (73, (m69.1 73) - 1), (75, 1)] []), (Ty_mO Tm115 rfl rfl ⟨g131, g130, ⟨(by omega : (0 : Int) ≤ 1), (by omega : (1 : Int) ≤ 3)⟩, trivial⟩ trivial), (fr_m (fr_s Fm115 (fr_m (fr_s Fm69 (fr_m (fr_s Fm67 (fr_m fr_0 rfl rfl) rfl rfl) rfl rfl) rfl rfl) rfl rfl) rfl rfl) rfl rfl), (show (m115.1 10) = 0 → (m.1 10) = 0 by omega), (show LxP (m115.1 7) (m115.1 8) (m115.1 9) (m.1 6) (m115.1 10) by first | (first | exact hLx | exact (fun _ => hLx (by omega)) | (intro h9; exfalso; omega)) | (exfalso; omega)), (fun (h : (m115.1 10) = 0) => absurd h (by omega)), rfl⟩
              · skip
                refine T_ld 203 (.ref 189) rfl (fun _ => rfl) ?_
                refine T_ld 204 (.int (i32 3)) rfl (fun _ => rfl) ?_
                refine T_pf (l' := [(75, 3)]) 207 3 rfl rfl rfl rfl rfl rfl ?_
                have hXE : XS (m69.2 65) (m69.2 67) (m.2 76) (m.2 78) (m.2 79) (m.2 80) B (m69.1 28) (m69.1 73) (m69.1 74) (um (3 : Int)) := by
                  rw [show um (3 : Int) = 1 from if_neg (by omega)]
                  have e : (m69.1 73) = 0 := by omega
                  have H := hXC
                  rw [e] at H ⊢
                  exact XC_end H
                refine T_ret rfl (fun _ => rfl) ?_
                exact ⟨(mO m69 [(75, 3)] []), (Ty_mO Tm69 rfl rfl ⟨⟨(by omega : (0 : Int) ≤ 3), (by omega : (3 : Int) ≤ 3)⟩, trivial⟩ trivial), (fr_m (fr_s Fm69 (fr_m (fr_s Fm67 (fr_m fr_0 rfl rfl) rfl rfl) rfl rfl) rfl rfl) rfl rfl), (show (m69.1 10) = 0 → (m.1 10) = 0 by omega), (show LxP (m69.1 7) (m69.1 8) (m69.1 9) (m.1 6) (m69.1 10) by rewrite [(show (m69.1 7) = (m.1 7) from ((fr1 Fm69 7 rfl).trans (fr1 Fm67 7 rfl))), (show (m69.1 8) = (m.1 8) from ((fr1 Fm69 8 rfl).trans (fr1 Fm67 8 rfl))), (show (m69.1 9) = (m.1 9) from ((fr1 Fm69 9 rfl).trans (fr1 Fm67 9 rfl)))]; first | (first | exact hLx | exact (fun _ => hLx (by omega)) | (intro h9; exfalso; omega)) | (exfalso; omega)), (fun _ => ⟨(show GP (m.1 8) (m69.1 8) (3 : Int) (m69.1 73) (m.1 73) by rewrite [(show (m69.1 8) = (m.1 8) from ((fr1 Fm69 8 rfl).trans (fr1 Fm67 8 rfl)))]; first | (first | assumption | (unfold GP; omega)) | (exfalso; omega)), (show GU (3 : Int) (m69.1 69) by first | (first | assumption | (unfold GU; omega)) | (exfalso; omega)), (show GH (3 : Int) (m69.1 73) by first | (first | assumption | (unfold GH; omega)) | (exfalso; omega)), (show (m.1 28) ≤ (m69.1 28) by omega), (show XS (m69.2 65) (m69.2 67) (m.2 76) (m.2 78) (m.2 79) (m.2 80) B (m69.1 28) (m69.1 73) (m69.1 74) (um (3 : Int)) by first | (exact hXE) | (exfalso; omega)), (show agr (m.2 65) (m69.2 65) (m.1 28) by first | (exact hAgC) | (exfalso; omega))⟩), rfl⟩
            · skip
              have hd1 := XC_de hXC (by omega)
              have hh3 := XC_h hXC (by omega) (by omega)
              have hl0 : 0 ≤ lh (m.2 79) (m.2 80) ((m69.1 73) - 1) := lh_0 (hT.2.1 79) _ _
              refine T_gf 55 (.int (i32 (m69.1 73))) rfl rfl rfl rfl rfl rfl ?_
              refine T_ld 56 (.int (i32 1)) rfl (fun _ => rfl) ?_
              refine T_isub 57 rfl rfl ?_
              refine T_sto 58 [(2, .int (i32 ((m69.1 73) - 1))), (0, .ref 189), (1, .int (i32 v68))] rfl (fun _ => rfl) ?_
              refine T_ld 59 (.ref 189) rfl (fun _ => rfl) ?_
              refine T_gf 63 (.ref 247) rfl rfl rfl rfl rfl rfl ?_
              refine T_ld 64 (.int (i32 ((m69.1 73) - 1))) rfl (fun _ => rfl) ?_
              refine T_iald 65 85 (m.2 85) rfl rfl rfl (by omega) (show ((m69.1 73) - 1) < (60 : Int) by omega) (show (m69.2 85) = (m.2 85) from ((fr2 Fm69 85 rfl).trans (fr2 Fm67 85 rfl))) ?_
              have e132 : 0 ≤ m.2 85 ((m69.1 73) - 1) ∧ m.2 85 ((m69.1 73) - 1) ≤ 64 := hT.2.1 85 ((m69.1 73) - 1)
              refine T_gf 69 (.ref 251) rfl rfl rfl rfl rfl rfl ?_
              refine T_ld 70 (.int (i32 ((m69.1 73) - 1))) rfl (fun _ => rfl) ?_
              refine T_bald 71 89 (m.2 89) rfl rfl rfl (by omega) (show ((m69.1 73) - 1) < (60 : Int) by omega) (show (m69.2 89) = (m.2 89) from ((fr2 Fm69 89 rfl).trans (fr2 Fm67 89 rfl))) ?_
              have e133 : 0 ≤ m.2 89 ((m69.1 73) - 1) ∧ m.2 89 ((m69.1 73) - 1) ≤ 1 := hT.2.1 89 ((m69.1 73) - 1)
              refine T_gf 75 (.ref 253) rfl rfl rfl rfl rfl rfl ?_
              refine T_ld 76 (.int (i32 ((m69.1 73) - 1))) rfl (fun _ => rfl) ?_
              refine T_lald 77 91 (m.2 91) rfl rfl rfl (by omega) (show ((m69.1 73) - 1) < (60 : Int) by omega) (show (m69.2 91) = (m.2 91) from ((fr2 Fm69 91 rfl).trans (fr2 Fm67 91 rfl))) ?_
              have e134 : (-9223372036854775808) ≤ m.2 91 ((m69.1 73) - 1) ∧ m.2 91 ((m69.1 73) - 1) ≤ 9223372036854775807 := hT.2.1 91 ((m69.1 73) - 1)
              refine T_gf 81 (.ref 248) rfl rfl rfl rfl rfl rfl ?_
              refine T_ld 82 (.int (i32 ((m69.1 73) - 1))) rfl (fun _ => rfl) ?_
              refine T_iald 83 86 (m.2 86) rfl rfl rfl (by omega) (show ((m69.1 73) - 1) < (60 : Int) by omega) (show (m69.2 86) = (m.2 86) from ((fr2 Fm69 86 rfl).trans (fr2 Fm67 86 rfl))) ?_
              have e135 : 0 ≤ m.2 86 ((m69.1 73) - 1) ∧ m.2 86 ((m69.1 73) - 1) ≤ 4000 := hT.2.1 86 ((m69.1 73) - 1)
              refine T_call 86 258 [.ref 189, .int (i32 ((m.2 85) ((m69.1 73) - 1))), .int (i32 ((m.2 89) ((m69.1 73) - 1))), .long (i64 ((m.2 91) ((m69.1 73) - 1))), .int (i32 ((m.2 86) ((m69.1 73) - 1)))] [] rfl (fun _ => rfl) rfl (c_wantBit w (mO m69 [] []) c N D (by omega) Tm69 ((m.2 85) ((m69.1 73) - 1)) ((m.2 89) ((m69.1 73) - 1)) ((m.2 91) ((m69.1 73) - 1)) ((m.2 86) ((m69.1 73) - 1)) (r32 (by omega) (by omega)) (r32 (by omega) (by omega)) (r64 (by omega) (by omega)) (r32 (by omega) (by omega)) (show 0 ≤ ((m.2 86) ((m69.1 73) - 1)) ∧ ((m.2 86) ((m69.1 73) - 1)) ≤ 4000 by omega) (fun _ => trivial)) (fun rr136 k137 => ?_)
              obtain ⟨m138, Tm138, Fm138, h139, c140, rfl⟩ := k137
              refine ⟨_, _, rfl, ?_⟩
              refine T_nb (st' := []) rfl ?_
              have g141 : 0 ≤ m138.1 10 ∧ m138.1 10 ≤ 8 := Tm138.1 10
              by_cases hf142 : (m138.1 10) = 0
              · skip
                replace h139 : (m69.1 10) = 0 := h139 hf142
                clear c140
                have hAgC : agr (m.2 65) (m69.2 65) (m.1 28) := by first | exact agr_r _ _ | exact hAgC | exact agr_t hAgC hAg (by omega)
                have u143 : (m.1 28) ≤ (m69.1 28) := by omega
                have u144 : (m69.1 69) ≤ 64 := by omega
                clear q78_10 ic76 h139
                refine T_ld 87 (.ref 189) rfl (fun _ => rfl) ?_
                refine T_gf 91 (.ref 249) rfl rfl rfl rfl rfl rfl ?_
                refine T_ld 92 (.int (i32 ((m69.1 73) - 1))) rfl (fun _ => rfl) ?_
                refine T_iald 93 87 (m.2 87) rfl rfl rfl (by omega) (show ((m69.1 73) - 1) < (60 : Int) by omega) (show (m138.2 87) = (m.2 87) from ((fr2 Fm138 87 rfl).trans ((fr2 Fm69 87 rfl).trans (fr2 Fm67 87 rfl)))) ?_
                have e145 : 0 ≤ m.2 87 ((m69.1 73) - 1) ∧ m.2 87 ((m69.1 73) - 1) ≤ 64 := hT.2.1 87 ((m69.1 73) - 1)
                refine T_gf 97 (.ref 252) rfl rfl rfl rfl rfl rfl ?_
                refine T_ld 98 (.int (i32 ((m69.1 73) - 1))) rfl (fun _ => rfl) ?_
                refine T_bald 99 90 (m.2 90) rfl rfl rfl (by omega) (show ((m69.1 73) - 1) < (60 : Int) by omega) (show (m138.2 90) = (m.2 90) from ((fr2 Fm138 90 rfl).trans ((fr2 Fm69 90 rfl).trans (fr2 Fm67 90 rfl)))) ?_
                have e146 : 0 ≤ m.2 90 ((m69.1 73) - 1) ∧ m.2 90 ((m69.1 73) - 1) ≤ 1 := hT.2.1 90 ((m69.1 73) - 1)
                refine T_gf 103 (.ref 254) rfl rfl rfl rfl rfl rfl ?_
                refine T_ld 104 (.int (i32 ((m69.1 73) - 1))) rfl (fun _ => rfl) ?_
                refine T_lald 105 92 (m.2 92) rfl rfl rfl (by omega) (show ((m69.1 73) - 1) < (60 : Int) by omega) (show (m138.2 92) = (m.2 92) from ((fr2 Fm138 92 rfl).trans ((fr2 Fm69 92 rfl).trans (fr2 Fm67 92 rfl)))) ?_
                have e147 : (-9223372036854775808) ≤ m.2 92 ((m69.1 73) - 1) ∧ m.2 92 ((m69.1 73) - 1) ≤ 9223372036854775807 := hT.2.1 92 ((m69.1 73) - 1)
                refine T_gf 109 (.ref 250) rfl rfl rfl rfl rfl rfl ?_
                refine T_ld 110 (.int (i32 ((m69.1 73) - 1))) rfl (fun _ => rfl) ?_
                refine T_iald 111 88 (m.2 88) rfl rfl rfl (by omega) (show ((m69.1 73) - 1) < (60 : Int) by omega) (show (m138.2 88) = (m.2 88) from ((fr2 Fm138 88 rfl).trans ((fr2 Fm69 88 rfl).trans (fr2 Fm67 88 rfl)))) ?_
                have e148 : 0 ≤ m.2 88 ((m69.1 73) - 1) ∧ m.2 88 ((m69.1 73) - 1) ≤ 4000 := hT.2.1 88 ((m69.1 73) - 1)
                refine T_gf 115 (.int (i32 (m69.1 69))) rfl rfl rfl rfl (mfv_c (F := fun x => .int (i32 x)) rfl (show (m138.1 69) = (m69.1 69) from (fr1 Fm138 69 rfl))) rfl ?_
                refine T_gf 119 (.int (i32 (m69.1 71))) rfl rfl rfl rfl (mfv_c (F := fun x => .int (i32 x)) rfl (show (m138.1 71) = (m69.1 71) from (fr1 Fm138 71 rfl))) rfl ?_
                refine T_gf 123 (.long (i64 (m69.1 72))) rfl rfl rfl rfl (mfv_c (F := fun x => .long (i64 x)) rfl (show (m138.1 72) = (m69.1 72) from (fr1 Fm138 72 rfl))) rfl ?_
                refine T_gf 127 (.int (i32 (m69.1 70))) rfl rfl rfl rfl (mfv_c (F := fun x => .int (i32 x)) rfl (show (m138.1 70) = (m69.1 70) from (fr1 Fm138 70 rfl))) rfl ?_
                refine T_call 130 261 [.ref 189, .int (i32 ((m.2 87) ((m69.1 73) - 1))), .int (i32 ((m.2 90) ((m69.1 73) - 1))), .long (i64 ((m.2 92) ((m69.1 73) - 1))), .int (i32 ((m.2 88) ((m69.1 73) - 1))), .int (i32 (m69.1 69)), .int (i32 (m69.1 71)), .long (i64 (m69.1 72)), .int (i32 (m69.1 70))] [] rfl (fun _ => rfl) rfl (c_common w (mO m138 [] []) c N D (by omega) Tm138 ((m.2 87) ((m69.1 73) - 1)) ((m.2 90) ((m69.1 73) - 1)) ((m.2 92) ((m69.1 73) - 1)) ((m.2 88) ((m69.1 73) - 1)) (m69.1 69) (m69.1 71) (m69.1 72) (m69.1 70) (r32 (by omega) (by omega)) (r32 (by omega) (by omega)) (r64 (by omega) (by omega)) (r32 (by omega) (by omega)) (r32 (by omega) (by omega)) (r32 (by omega) (by omega)) (r64 (by omega) (by omega)) (r32 (by omega) (by omega)) (show 0 ≤ ((m.2 88) ((m69.1 73) - 1)) ∧ ((m.2 88) ((m69.1 73) - 1)) ≤ 4000 by omega) (show 0 ≤ (m69.1 70) ∧ (m69.1 70) ≤ 4000 by omega) (show 0 ≤ ((m.2 87) ((m69.1 73) - 1)) ∧ ((m.2 87) ((m69.1 73) - 1)) ≤ 1024 by omega) (show 0 ≤ (m69.1 69) ∧ (m69.1 69) ≤ 1024 by omega) (fun _ => trivial)) (fun rr149 k150 => ?_)
                obtain ⟨m151, x152, Tm151, Fm151, g153, h154, h155, c156, rfl⟩ := k150
                refine ⟨_, _, rfl, ?_⟩
                refine T_nb (st' := [.int (i32 x152)]) rfl ?_
                obtain ⟨g153a, g153b⟩ := g153
                have g157 : 0 ≤ m151.1 10 ∧ m151.1 10 ≤ 8 := Tm151.1 10
                by_cases hf158 : (m151.1 10) = 0
                · skip
                  replace h154 : (m138.1 10) = 0 := h154 hf158
                  replace h155 : x152 = 64 ∨ x152 = ((m.2 87) ((m69.1 73) - 1)) ∨ x152 = (m69.1 69) := h155
                  clear c156
                  have hAgC : agr (m.2 65) (m69.2 65) (m.1 28) := by first | exact agr_r _ _ | exact hAgC | exact agr_t hAgC hAg (by omega)
                  have u159 : (m.1 28) ≤ (m69.1 28) := by omega
                  have u160 : (m69.1 69) ≤ 64 := by omega
                  clear g141 h154
                  refine T_sto 131 [(3, .int (i32 x152)), (2, .int (i32 ((m69.1 73) - 1))), (0, .ref 189), (1, .int (i32 v68))] rfl (fun _ => rfl) ?_
                  have hAr : ar 407 ≤ 1 + lh (m.2 79) (m.2 80) (m69.1 73) := by rw [show ar 407 = 3 from rfl]; omega
                  have hCk : CNk 407 0 := by refine ⟨?_, ?_, ?_, ?_⟩ <;> omega
                  have hEX := hXC.1
                  refine T_ld 132 (.ref 189) rfl (fun _ => rfl) ?_
                  refine T_ld 135 (.int (i32 407)) rfl (fun _ => rfl) ?_
                  refine T_ld 136 (.int (i32 x152)) rfl (fun _ => rfl) ?_
                  refine T_ld 137 (.int (i32 0)) rfl (fun _ => rfl) ?_
                  refine T_ld 138 (.long (i64 0)) rfl (fun _ => rfl) ?_
                  refine T_call 141 248 [.ref 189, .int (i32 407), .int (i32 x152), .int (i32 0), .long (i64 0)] [] rfl (fun _ => rfl) rfl (c_node w (mO m151 [] []) c N D (by omega) Tm151 407 x152 0 0 B (1 + lh (m.2 79) (m.2 80) (m69.1 73)) ⟨by decide, by decide⟩ (r32 (by omega) (by omega)) ⟨by decide, by decide⟩ ⟨by decide, by decide⟩ (fun _ => ⟨(show 0 ≤ (407 : Int) ∧ (407 : Int) ≤ 408 by first | omega | decide), (show 0 ≤ x152 ∧ x152 ≤ 64 by first | omega | decide), (show 0 ≤ (0 : Int) ∧ (0 : Int) ≤ 191 by first | omega | decide), (show CNk (407 : Int) (0 : Int) by first | exact hCk | (refine ⟨?_, ?_, ?_, ?_⟩ <;> omega)), (show ar (407 : Int) ≤ (1 + lh (m.2 79) (m.2 80) (m69.1 73)) by first | exact hAr | omega), (show EX (m151.2 65) (m151.2 67) B (m151.1 28) (1 + lh (m.2 79) (m.2 80) (m69.1 73)) by rewrite [(show (m151.2 65) = (m69.2 65) from ((fr2 Fm151 65 rfl).trans (fr2 Fm138 65 rfl))), (show (m151.2 67) = (m69.2 67) from ((fr2 Fm151 67 rfl).trans (fr2 Fm138 67 rfl))), (show (m151.1 28) = (m69.1 28) from ((fr1 Fm151 28 rfl).trans (fr1 Fm138 28 rfl)))]; first | exact hEX | assumption)⟩)) (fun rr161 k162 => ?_)
                  obtain ⟨m163, Tm163, Fm163, h164, c165, rfl⟩ := k162
                  refine ⟨_, _, rfl, ?_⟩
                  refine T_nb (st' := []) rfl ?_
                  have g166 : 0 ≤ m163.1 10 ∧ m163.1 10 ≤ 8 := Tm163.1 10
                  have g167 : 0 ≤ m163.1 28 ∧ m163.1 28 ≤ 800 := Tm163.1 28
                  by_cases hf168 : (m163.1 10) = 0
                  · skip
                    replace h164 : (m151.1 10) = 0 := h164 hf168
                    obtain ⟨c169, c170, c171⟩ := c165 hf168
                    replace c169 : (m163.1 28) = (m151.1 28) + 1 := c169
                    rewrite [(show (m151.1 28) = (m69.1 28) from ((fr1 Fm151 28 rfl).trans (fr1 Fm138 28 rfl)))] at c169
                    replace c170 : EX (m163.2 65) (m163.2 67) B (m163.1 28) ((1 + lh (m.2 79) (m.2 80) (m69.1 73)) + 1 - ar (407 : Int)) := c170
                    have hEX := c170
                    replace c171 : agr (m151.2 65) (m163.2 65) (m151.1 28) := c171
                    rewrite [(show (m151.2 65) = (m69.2 65) from ((fr2 Fm151 65 rfl).trans (fr2 Fm138 65 rfl))), (show (m151.1 28) = (m69.1 28) from ((fr1 Fm151 28 rfl).trans (fr1 Fm138 28 rfl)))] at c171
                    have hAg := c171
                    clear c165
                    have hAgC : agr (m.2 65) (m163.2 65) (m.1 28) := by first | exact agr_r _ _ | exact hAgC | exact agr_t hAgC hAg (by omega)
                    have u172 : (m.1 28) ≤ (m163.1 28) := by omega
                    have u173 : (m69.1 69) ≤ 64 := by omega
                    clear q78_28 c82 c84 c86 u143 g157 u159 h164 c169 c171
                    have hXC1 := XC_1 hXC (by omega) (by omega) hEX (by rw [show ar 407 = 3 from rfl]; omega)
                    refine T_ld 142 (.ref 189) rfl (fun _ => rfl) ?_
                    refine T_ld 143 (.int (i32 x152)) rfl (fun _ => rfl) ?_
                    refine T_gf 147 (.ref 248) rfl rfl rfl rfl rfl rfl ?_
                    refine T_ld 148 (.int (i32 ((m69.1 73) - 1))) rfl (fun _ => rfl) ?_
                    refine T_iald 149 86 (m.2 86) rfl rfl rfl (by omega) (show ((m69.1 73) - 1) < (60 : Int) by omega) (show (m163.2 86) = (m.2 86) from ((fr2 Fm163 86 rfl).trans ((fr2 Fm151 86 rfl).trans ((fr2 Fm138 86 rfl).trans ((fr2 Fm69 86 rfl).trans (fr2 Fm67 86 rfl)))))) ?_
                    have e174 : 0 ≤ m.2 86 ((m69.1 73) - 1) ∧ m.2 86 ((m69.1 73) - 1) ≤ 4000 := hT.2.1 86 ((m69.1 73) - 1)
                    refine T_call 152 250 [.ref 189, .int (i32 x152), .int (i32 ((m.2 86) ((m69.1 73) - 1)))] [] rfl (fun _ => rfl) rfl (c_unit w (mO m163 [] []) c N D (by omega) Tm163 x152 ((m.2 86) ((m69.1 73) - 1)) (r32 (by omega) (by omega)) (r32 (by omega) (by omega)) (show 0 ≤ x152 ∧ x152 ≤ 1024 by omega) (show 0 ≤ ((m.2 86) ((m69.1 73) - 1)) ∧ ((m.2 86) ((m69.1 73) - 1)) ≤ 4000 by omega)) (fun rr175 k176 => ?_)
                    obtain ⟨m177, Tm177, Fm177, h178, rfl⟩ := k176
                    refine ⟨_, _, rfl, ?_⟩
                    refine T_nb (st' := []) rfl ?_
                    have g179 : 0 ≤ m177.1 69 ∧ m177.1 69 ≤ 1024 := Tm177.1 69
                    have g180 : 0 ≤ m177.1 70 ∧ m177.1 70 ≤ 4000 := Tm177.1 70
                    have g181 : 0 ≤ m177.1 71 ∧ m177.1 71 ≤ 1 := Tm177.1 71
                    have g182 : (-9223372036854775808) ≤ m177.1 72 ∧ m177.1 72 ≤ 9223372036854775807 := Tm177.1 72
                    replace h178 : (m177.1 69) = x152 := h178
                    have hAgC : agr (m.2 65) (m163.2 65) (m.1 28) := by first | exact agr_r _ _ | exact hAgC | exact agr_t hAgC hAg (by omega)
                    have u183 : (m.1 28) ≤ (m163.1 28) := by omega
                    have u184 : (m177.1 69) ≤ 64 := by omega
                    clear q78_69 q78_70 q78_71 q78_72 c83 u144 h155 u160 u173
                    refine T_ld 153 (.ref 189) rfl (fun _ => rfl) ?_
                    refine T_ld 154 (.ref 189) rfl (fun _ => rfl) ?_
                    refine T_gf1 157 (.int (i32 (m69.1 73))) rfl rfl (mfv_c (F := fun x => .int (i32 x)) rfl (show (m177.1 73) = (m69.1 73) from ((fr1 Fm177 73 rfl).trans ((fr1 Fm163 73 rfl).trans ((fr1 Fm151 73 rfl).trans (fr1 Fm138 73 rfl)))))) rfl ?_
                    refine T_ld 158 (.int (i32 1)) rfl (fun _ => rfl) ?_
                    refine T_isub 159 rfl rfl ?_
                    refine T_pf (l' := [(73, (m69.1 73) - 1)]) 162 ((m69.1 73) - 1) rfl rfl rfl rfl rfl rfl ?_
                    have g185 : 0 ≤ (m69.1 73) - 1 ∧ (m69.1 73) - 1 ≤ 60 := ⟨by omega, by omega⟩
                    refine T_ld 163 (.ref 189) rfl (fun _ => rfl) ?_
                    refine T_ld 164 (.ref 189) rfl (fun _ => rfl) ?_
                    refine T_gf1 167 (.int (i32 (m69.1 74))) rfl rfl (mfv_c (F := fun x => .int (i32 x)) rfl (show (m177.1 74) = (m69.1 74) from ((fr1 Fm177 74 rfl).trans ((fr1 Fm163 74 rfl).trans ((fr1 Fm151 74 rfl).trans (fr1 Fm138 74 rfl)))))) rfl ?_
                    refine T_ld 168 (.int (i32 1)) rfl (fun _ => rfl) ?_
                    refine T_isub 169 rfl rfl ?_
                    refine T_pf (l' := [(73, (m69.1 73) - 1), (74, (m69.1 74) - 1)]) 172 ((m69.1 74) - 1) rfl rfl rfl rfl rfl rfl ?_
                    have g186 : 0 ≤ (m69.1 74) - 1 ∧ (m69.1 74) - 1 ≤ 24 := ⟨by omega, by omega⟩
                    have hXC := hXC1
                    refine T_gf 176 (.int (i32 ((m69.1 73) - 1))) rfl rfl rfl rfl rfl rfl ?_
                    refine T_if 190 179 rfl rfl rfl (r32 (by omega) (by omega)) (fun (h187 : (m69.1 73) - 1 ≤ 0) => ?_) (fun (h187 : ¬ ((m69.1 73) - 1 ≤ 0)) => ?_)
                    · skip
                      refine T_ld 191 (.int (i32 0)) rfl (fun _ => rfl) ?_
                      refine T_sto 192 [(1, .int (i32 0)), (3, .int (i32 x152)), (2, .int (i32 ((m69.1 73) - 1))), (0, .ref 189)] rfl (fun _ => rfl) ?_
                      refine T_goto 33 rfl (fun _ => rfl) ?_
                      refine Tm_lv (a := [(0, .ref 189), (1, .int (i32 0))]) rfl rfl ⟨rfl, rfl, trivial⟩ ?_
                      exact ih80 0 (mO m177 [(73, (m69.1 73) - 1), (74, (m69.1 74) - 1)] []) ⟨by decide, by decide⟩ (Ty_mO Tm177 rfl rfl ⟨g185, g186, trivial⟩ trivial) (fr_m (fr_s Fm177 (fr_m (fr_s Fm163 (fr_m (fr_s Fm151 (fr_m (fr_s Fm138 (fr_m (fr_s Fm69 (fr_m fr_0 rfl rfl) rfl rfl) rfl rfl) rfl rfl) rfl rfl) rfl rfl) rfl rfl) rfl rfl) rfl rfl) rfl rfl) rfl rfl) (show 0 ≤ (0 : Int) by omega) (show (0 : Int) ≤ 1 by omega) (show (0 : Int) = 0 ∨ (0 : Int) = 1 by omega) (show (0 : Int) = 1 → 1 ≤ ((m69.1 73) - 1) by omega) (show ((m69.1 73) - 1) + 1 ≤ (m.1 73) by omega) (show (m177.1 10) = 0 ∨ (0 : Int) = 0 by rewrite [(show (m177.1 10) = (m163.1 10) from (fr1 Fm177 10 rfl))]; omega) (fun _ => ⟨(show XC (m177.2 65) (m177.2 67) (m.2 76) (m.2 78) (m.2 79) (m.2 80) B (m177.1 28) ((m69.1 73) - 1) ((m69.1 74) - 1) by rewrite [(show (m177.2 65) = (m163.2 65) from (fr2 Fm177 65 rfl)), (show (m177.2 67) = (m163.2 67) from (fr2 Fm177 67 rfl)), (show (m177.1 28) = (m163.1 28) from (fr1 Fm177 28 rfl))]; exact hXC), (show (m177.1 69) ≤ 64 by omega), (show (m.1 28) ≤ (m177.1 28) by rewrite [(show (m177.1 28) = (m163.1 28) from (fr1 Fm177 28 rfl))]; omega), (show (0 : Int) = 0 → ((m69.1 73) - 1) = 0 by omega), (show agr (m.2 65) (m177.2 65) (m.1 28) by rewrite [(show (m177.2 65) = (m163.2 65) from (fr2 Fm177 65 rfl))]; exact hAgC)⟩) (show ((m69.1 73) - 1) < (n : Int) by omega)
                    · skip
                      refine T_gf 183 (.int (i32 (m163.1 10))) rfl rfl rfl rfl (mfv_c (F := fun x => .int (i32 x)) rfl (show (m177.1 10) = (m163.1 10) from (fr1 Fm177 10 rfl))) rfl ?_
                      refine T_if 190 186 rfl rfl rfl (r32 (by omega) (by omega)) (fun (h188 : (m163.1 10) ≠ 0) => by exfalso; omega) (fun (h188 : ¬ ((m163.1 10) ≠ 0)) => ?_)
                      refine T_ld 187 (.int (i32 1)) rfl (fun _ => rfl) ?_
                      refine T_goto 191 rfl (fun _ => rfl) ?_
                      refine T_sto 192 [(1, .int (i32 1)), (3, .int (i32 x152)), (2, .int (i32 ((m69.1 73) - 1))), (0, .ref 189)] rfl (fun _ => rfl) ?_
                      refine T_goto 33 rfl (fun _ => rfl) ?_
                      refine Tm_lv (a := [(0, .ref 189), (1, .int (i32 1))]) rfl rfl ⟨rfl, rfl, trivial⟩ ?_
                      exact ih80 1 (mO m177 [(73, (m69.1 73) - 1), (74, (m69.1 74) - 1)] []) ⟨by decide, by decide⟩ (Ty_mO Tm177 rfl rfl ⟨g185, g186, trivial⟩ trivial) (fr_m (fr_s Fm177 (fr_m (fr_s Fm163 (fr_m (fr_s Fm151 (fr_m (fr_s Fm138 (fr_m (fr_s Fm69 (fr_m fr_0 rfl rfl) rfl rfl) rfl rfl) rfl rfl) rfl rfl) rfl rfl) rfl rfl) rfl rfl) rfl rfl) rfl rfl) rfl rfl) (show 0 ≤ (1 : Int) by omega) (show (1 : Int) ≤ 1 by omega) (show (1 : Int) = 0 ∨ (1 : Int) = 1 by omega) (show (1 : Int) = 1 → 1 ≤ ((m69.1 73) - 1) by omega) (show ((m69.1 73) - 1) + 1 ≤ (m.1 73) by omega) (show (m177.1 10) = 0 ∨ (1 : Int) = 0 by rewrite [(show (m177.1 10) = (m163.1 10) from (fr1 Fm177 10 rfl))]; omega) (fun _ => ⟨(show XC (m177.2 65) (m177.2 67) (m.2 76) (m.2 78) (m.2 79) (m.2 80) B (m177.1 28) ((m69.1 73) - 1) ((m69.1 74) - 1) by rewrite [(show (m177.2 65) = (m163.2 65) from (fr2 Fm177 65 rfl)), (show (m177.2 67) = (m163.2 67) from (fr2 Fm177 67 rfl)), (show (m177.1 28) = (m163.1 28) from (fr1 Fm177 28 rfl))]; exact hXC), (show (m177.1 69) ≤ 64 by omega), (show (m.1 28) ≤ (m177.1 28) by rewrite [(show (m177.1 28) = (m163.1 28) from (fr1 Fm177 28 rfl))]; omega), (show (1 : Int) = 0 → ((m69.1 73) - 1) = 0 by omega), (show agr (m.2 65) (m177.2 65) (m.1 28) by rewrite [(show (m177.2 65) = (m163.2 65) from (fr2 Fm177 65 rfl))]; exact hAgC)⟩) (show ((m69.1 73) - 1) < (n : Int) by omega)
                  · skip
                    clear c165
                    clear h164
                    have hf189 : 1 ≤ (m163.1 10) := by omega
                    clear q78_28 c82 c84 c86 u143 g157 u159
                    refine T_ld 142 (.ref 189) rfl (fun _ => rfl) ?_
                    refine T_ld 143 (.int (i32 x152)) rfl (fun _ => rfl) ?_
                    refine T_gf 147 (.ref 248) rfl rfl rfl rfl rfl rfl ?_
                    refine T_ld 148 (.int (i32 ((m69.1 73) - 1))) rfl (fun _ => rfl) ?_
                    refine T_iald 149 86 (m.2 86) rfl rfl rfl (by omega) (show ((m69.1 73) - 1) < (60 : Int) by omega) (show (m163.2 86) = (m.2 86) from ((fr2 Fm163 86 rfl).trans ((fr2 Fm151 86 rfl).trans ((fr2 Fm138 86 rfl).trans ((fr2 Fm69 86 rfl).trans (fr2 Fm67 86 rfl)))))) ?_
                    have e190 : 0 ≤ m.2 86 ((m69.1 73) - 1) ∧ m.2 86 ((m69.1 73) - 1) ≤ 4000 := hT.2.1 86 ((m69.1 73) - 1)
                    refine T_call 152 250 [.ref 189, .int (i32 x152), .int (i32 ((m.2 86) ((m69.1 73) - 1)))] [] rfl (fun _ => rfl) rfl (c_unit w (mO m163 [] []) c N D (by omega) Tm163 x152 ((m.2 86) ((m69.1 73) - 1)) (r32 (by omega) (by omega)) (r32 (by omega) (by omega)) (show 0 ≤ x152 ∧ x152 ≤ 1024 by omega) (show 0 ≤ ((m.2 86) ((m69.1 73) - 1)) ∧ ((m.2 86) ((m69.1 73) - 1)) ≤ 4000 by omega)) (fun rr191 k192 => ?_)
                    obtain ⟨m193, Tm193, Fm193, h194, rfl⟩ := k192
                    refine ⟨_, _, rfl, ?_⟩
                    refine T_nb (st' := []) rfl ?_
                    have g195 : 0 ≤ m193.1 69 ∧ m193.1 69 ≤ 1024 := Tm193.1 69
                    have g196 : 0 ≤ m193.1 70 ∧ m193.1 70 ≤ 4000 := Tm193.1 70
                    have g197 : 0 ≤ m193.1 71 ∧ m193.1 71 ≤ 1 := Tm193.1 71
                    have g198 : (-9223372036854775808) ≤ m193.1 72 ∧ m193.1 72 ≤ 9223372036854775807 := Tm193.1 72
                    replace h194 : (m193.1 69) = x152 := h194
                    clear q78_69 q78_70 q78_71 q78_72 c83 u144 h155 u160
                    refine T_ld 153 (.ref 189) rfl (fun _ => rfl) ?_
                    refine T_ld 154 (.ref 189) rfl (fun _ => rfl) ?_
                    refine T_gf1 157 (.int (i32 (m69.1 73))) rfl rfl (mfv_c (F := fun x => .int (i32 x)) rfl (show (m193.1 73) = (m69.1 73) from ((fr1 Fm193 73 rfl).trans ((fr1 Fm163 73 rfl).trans ((fr1 Fm151 73 rfl).trans (fr1 Fm138 73 rfl)))))) rfl ?_
                    refine T_ld 158 (.int (i32 1)) rfl (fun _ => rfl) ?_
                    refine T_isub 159 rfl rfl ?_
                    refine T_pf (l' := [(73, (m69.1 73) - 1)]) 162 ((m69.1 73) - 1) rfl rfl rfl rfl rfl rfl ?_
                    have g199 : 0 ≤ (m69.1 73) - 1 ∧ (m69.1 73) - 1 ≤ 60 := ⟨by omega, by omega⟩
                    refine T_ld 163 (.ref 189) rfl (fun _ => rfl) ?_
                    refine T_ld 164 (.ref 189) rfl (fun _ => rfl) ?_
                    refine T_gf1 167 (.int (i32 (m69.1 74))) rfl rfl (mfv_c (F := fun x => .int (i32 x)) rfl (show (m193.1 74) = (m69.1 74) from ((fr1 Fm193 74 rfl).trans ((fr1 Fm163 74 rfl).trans ((fr1 Fm151 74 rfl).trans (fr1 Fm138 74 rfl)))))) rfl ?_
                    refine T_ld 168 (.int (i32 1)) rfl (fun _ => rfl) ?_
                    refine T_isub 169 rfl rfl ?_
                    refine T_pf (l' := [(73, (m69.1 73) - 1), (74, (m69.1 74) - 1)]) 172 ((m69.1 74) - 1) rfl rfl rfl rfl rfl rfl ?_
                    have g200 : 0 ≤ (m69.1 74) - 1 ∧ (m69.1 74) - 1 ≤ 24 := ⟨by omega, by omega⟩
                    refine T_gf 176 (.int (i32 ((m69.1 73) - 1))) rfl rfl rfl rfl rfl rfl ?_
                    refine T_if 190 179 rfl rfl rfl (r32 (by omega) (by omega)) (fun (h201 : (m69.1 73) - 1 ≤ 0) => ?_) (fun (h201 : ¬ ((m69.1 73) - 1 ≤ 0)) => ?_)
                    · skip
                      refine T_ld 191 (.int (i32 0)) rfl (fun _ => rfl) ?_
                      refine T_sto 192 [(1, .int (i32 0)), (3, .int (i32 x152)), (2, .int (i32 ((m69.1 73) - 1))), (0, .ref 189)] rfl (fun _ => rfl) ?_
                      refine T_goto 33 rfl (fun _ => rfl) ?_
                      refine Tm_lv (a := [(0, .ref 189), (1, .int (i32 0))]) rfl rfl ⟨rfl, rfl, trivial⟩ ?_
                      exact ih80 0 (mO m193 [(73, (m69.1 73) - 1), (74, (m69.1 74) - 1)] []) ⟨by decide, by decide⟩ (Ty_mO Tm193 rfl rfl ⟨g199, g200, trivial⟩ trivial) (fr_m (fr_s Fm193 (fr_m (fr_s Fm163 (fr_m (fr_s Fm151 (fr_m (fr_s Fm138 (fr_m (fr_s Fm69 (fr_m fr_0 rfl rfl) rfl rfl) rfl rfl) rfl rfl) rfl rfl) rfl rfl) rfl rfl) rfl rfl) rfl rfl) rfl rfl) rfl rfl) (show 0 ≤ (0 : Int) by omega) (show (0 : Int) ≤ 1 by omega) (show (0 : Int) = 0 ∨ (0 : Int) = 1 by omega) (show (0 : Int) = 1 → 1 ≤ ((m69.1 73) - 1) by omega) (show ((m69.1 73) - 1) + 1 ≤ (m.1 73) by omega) (show (m193.1 10) = 0 ∨ (0 : Int) = 0 by rewrite [(show (m193.1 10) = (m163.1 10) from (fr1 Fm193 10 rfl))]; omega) (fun (h : (m193.1 10) = 0) => absurd ((show (m193.1 10) = (m163.1 10) from (fr1 Fm193 10 rfl)).symm.trans h) (by omega)) (show ((m69.1 73) - 1) < (n : Int) by omega)
                    · skip
                      refine T_gf 183 (.int (i32 (m163.1 10))) rfl rfl rfl rfl (mfv_c (F := fun x => .int (i32 x)) rfl (show (m193.1 10) = (m163.1 10) from (fr1 Fm193 10 rfl))) rfl ?_
                      refine T_if 190 186 rfl rfl rfl (r32 (by omega) (by omega)) (fun (h202 : (m163.1 10) ≠ 0) => ?_) (fun (h202 : ¬ ((m163.1 10) ≠ 0)) => by exfalso; omega)
                      refine T_ld 191 (.int (i32 0)) rfl (fun _ => rfl) ?_
                      refine T_sto 192 [(1, .int (i32 0)), (3, .int (i32 x152)), (2, .int (i32 ((m69.1 73) - 1))), (0, .ref 189)] rfl (fun _ => rfl) ?_
                      refine T_goto 33 rfl (fun _ => rfl) ?_
                      refine Tm_lv (a := [(0, .ref 189), (1, .int (i32 0))]) rfl rfl ⟨rfl, rfl, trivial⟩ ?_
                      exact ih80 0 (mO m193 [(73, (m69.1 73) - 1), (74, (m69.1 74) - 1)] []) ⟨by decide, by decide⟩ (Ty_mO Tm193 rfl rfl ⟨g199, g200, trivial⟩ trivial) (fr_m (fr_s Fm193 (fr_m (fr_s Fm163 (fr_m (fr_s Fm151 (fr_m (fr_s Fm138 (fr_m (fr_s Fm69 (fr_m fr_0 rfl rfl) rfl rfl) rfl rfl) rfl rfl) rfl rfl) rfl rfl) rfl rfl) rfl rfl) rfl rfl) rfl rfl) rfl rfl) (show 0 ≤ (0 : Int) by omega) (show (0 : Int) ≤ 1 by omega) (show (0 : Int) = 0 ∨ (0 : Int) = 1 by omega) (show (0 : Int) = 1 → 1 ≤ ((m69.1 73) - 1) by omega) (show ((m69.1 73) - 1) + 1 ≤ (m.1 73) by omega) (show (m193.1 10) = 0 ∨ (0 : Int) = 0 by rewrite [(show (m193.1 10) = (m163.1 10) from (fr1 Fm193 10 rfl))]; omega) (fun (h : (m193.1 10) = 0) => absurd ((show (m193.1 10) = (m163.1 10) from (fr1 Fm193 10 rfl)).symm.trans h) (by omega)) (show ((m69.1 73) - 1) < (n : Int) by omega)
                · skip
                  clear c156
                  clear h154
                  replace h155 : x152 = 64 ∨ x152 = ((m.2 87) ((m69.1 73) - 1)) ∨ x152 = (m69.1 69) := h155
                  have hf203 : 1 ≤ (m151.1 10) := by omega
                  clear g141
                  refine T_sto 131 [(3, .int (i32 x152)), (2, .int (i32 ((m69.1 73) - 1))), (0, .ref 189), (1, .int (i32 v68))] rfl (fun _ => rfl) ?_
                  refine T_ld 132 (.ref 189) rfl (fun _ => rfl) ?_
                  refine T_ld 135 (.int (i32 407)) rfl (fun _ => rfl) ?_
                  refine T_ld 136 (.int (i32 x152)) rfl (fun _ => rfl) ?_
                  refine T_ld 137 (.int (i32 0)) rfl (fun _ => rfl) ?_
                  refine T_ld 138 (.long (i64 0)) rfl (fun _ => rfl) ?_
                  refine T_call 141 248 [.ref 189, .int (i32 407), .int (i32 x152), .int (i32 0), .long (i64 0)] [] rfl (fun _ => rfl) rfl (c_node w (mO m151 [] []) c N D (by omega) Tm151 407 x152 0 0 B (1 + lh (m.2 79) (m.2 80) (m69.1 73)) ⟨by decide, by decide⟩ (r32 (by omega) (by omega)) ⟨by decide, by decide⟩ ⟨by decide, by decide⟩ (fun (h : (m151.1 10) = 0) => absurd h (by omega))) (fun rr204 k205 => ?_)
                  obtain ⟨m206, Tm206, Fm206, h207, c208, rfl⟩ := k205
                  refine ⟨_, _, rfl, ?_⟩
                  refine T_nb (st' := []) rfl ?_
                  have g209 : 0 ≤ m206.1 10 ∧ m206.1 10 ≤ 8 := Tm206.1 10
                  have g210 : 0 ≤ m206.1 28 ∧ m206.1 28 ≤ 800 := Tm206.1 28
                  replace h207 : (m206.1 10) = 0 → (m151.1 10) = 0 := h207
                  have hf211 : 1 ≤ (m206.1 10) := by omega
                  clear c208
                  clear h207
                  clear q78_28 c82 c84 c86 u143 g157 hf203
                  refine T_ld 142 (.ref 189) rfl (fun _ => rfl) ?_
                  refine T_ld 143 (.int (i32 x152)) rfl (fun _ => rfl) ?_
                  refine T_gf 147 (.ref 248) rfl rfl rfl rfl rfl rfl ?_
                  refine T_ld 148 (.int (i32 ((m69.1 73) - 1))) rfl (fun _ => rfl) ?_
                  refine T_iald 149 86 (m.2 86) rfl rfl rfl (by omega) (show ((m69.1 73) - 1) < (60 : Int) by omega) (show (m206.2 86) = (m.2 86) from ((fr2 Fm206 86 rfl).trans ((fr2 Fm151 86 rfl).trans ((fr2 Fm138 86 rfl).trans ((fr2 Fm69 86 rfl).trans (fr2 Fm67 86 rfl)))))) ?_
                  have e212 : 0 ≤ m.2 86 ((m69.1 73) - 1) ∧ m.2 86 ((m69.1 73) - 1) ≤ 4000 := hT.2.1 86 ((m69.1 73) - 1)
                  refine T_call 152 250 [.ref 189, .int (i32 x152), .int (i32 ((m.2 86) ((m69.1 73) - 1)))] [] rfl (fun _ => rfl) rfl (c_unit w (mO m206 [] []) c N D (by omega) Tm206 x152 ((m.2 86) ((m69.1 73) - 1)) (r32 (by omega) (by omega)) (r32 (by omega) (by omega)) (show 0 ≤ x152 ∧ x152 ≤ 1024 by omega) (show 0 ≤ ((m.2 86) ((m69.1 73) - 1)) ∧ ((m.2 86) ((m69.1 73) - 1)) ≤ 4000 by omega)) (fun rr213 k214 => ?_)
                  obtain ⟨m215, Tm215, Fm215, h216, rfl⟩ := k214
                  refine ⟨_, _, rfl, ?_⟩
                  refine T_nb (st' := []) rfl ?_
                  have g217 : 0 ≤ m215.1 69 ∧ m215.1 69 ≤ 1024 := Tm215.1 69
                  have g218 : 0 ≤ m215.1 70 ∧ m215.1 70 ≤ 4000 := Tm215.1 70
                  have g219 : 0 ≤ m215.1 71 ∧ m215.1 71 ≤ 1 := Tm215.1 71
                  have g220 : (-9223372036854775808) ≤ m215.1 72 ∧ m215.1 72 ≤ 9223372036854775807 := Tm215.1 72
                  replace h216 : (m215.1 69) = x152 := h216
                  clear q78_69 q78_70 q78_71 q78_72 c83 u144 h155
                  refine T_ld 153 (.ref 189) rfl (fun _ => rfl) ?_
                  refine T_ld 154 (.ref 189) rfl (fun _ => rfl) ?_
                  refine T_gf1 157 (.int (i32 (m69.1 73))) rfl rfl (mfv_c (F := fun x => .int (i32 x)) rfl (show (m215.1 73) = (m69.1 73) from ((fr1 Fm215 73 rfl).trans ((fr1 Fm206 73 rfl).trans ((fr1 Fm151 73 rfl).trans (fr1 Fm138 73 rfl)))))) rfl ?_
                  refine T_ld 158 (.int (i32 1)) rfl (fun _ => rfl) ?_
                  refine T_isub 159 rfl rfl ?_
                  refine T_pf (l' := [(73, (m69.1 73) - 1)]) 162 ((m69.1 73) - 1) rfl rfl rfl rfl rfl rfl ?_
                  have g221 : 0 ≤ (m69.1 73) - 1 ∧ (m69.1 73) - 1 ≤ 60 := ⟨by omega, by omega⟩
                  refine T_ld 163 (.ref 189) rfl (fun _ => rfl) ?_
                  refine T_ld 164 (.ref 189) rfl (fun _ => rfl) ?_
                  refine T_gf1 167 (.int (i32 (m69.1 74))) rfl rfl (mfv_c (F := fun x => .int (i32 x)) rfl (show (m215.1 74) = (m69.1 74) from ((fr1 Fm215 74 rfl).trans ((fr1 Fm206 74 rfl).trans ((fr1 Fm151 74 rfl).trans (fr1 Fm138 74 rfl)))))) rfl ?_
                  refine T_ld 168 (.int (i32 1)) rfl (fun _ => rfl) ?_
                  refine T_isub 169 rfl rfl ?_
                  refine T_pf (l' := [(73, (m69.1 73) - 1), (74, (m69.1 74) - 1)]) 172 ((m69.1 74) - 1) rfl rfl rfl rfl rfl rfl ?_
                  have g222 : 0 ≤ (m69.1 74) - 1 ∧ (m69.1 74) - 1 ≤ 24 := ⟨by omega, by omega⟩
                  refine T_gf 176 (.int (i32 ((m69.1 73) - 1))) rfl rfl rfl rfl rfl rfl ?_
                  refine T_if 190 179 rfl rfl rfl (r32 (by omega) (by omega)) (fun (h223 : (m69.1 73) - 1 ≤ 0) => ?_) (fun (h223 : ¬ ((m69.1 73) - 1 ≤ 0)) => ?_)
                  · skip
                    refine T_ld 191 (.int (i32 0)) rfl (fun _ => rfl) ?_
                    refine T_sto 192 [(1, .int (i32 0)), (3, .int (i32 x152)), (2, .int (i32 ((m69.1 73) - 1))), (0, .ref 189)] rfl (fun _ => rfl) ?_
                    refine T_goto 33 rfl (fun _ => rfl) ?_
                    refine Tm_lv (a := [(0, .ref 189), (1, .int (i32 0))]) rfl rfl ⟨rfl, rfl, trivial⟩ ?_
                    exact ih80 0 (mO m215 [(73, (m69.1 73) - 1), (74, (m69.1 74) - 1)] []) ⟨by decide, by decide⟩ (Ty_mO Tm215 rfl rfl ⟨g221, g222, trivial⟩ trivial) (fr_m (fr_s Fm215 (fr_m (fr_s Fm206 (fr_m (fr_s Fm151 (fr_m (fr_s Fm138 (fr_m (fr_s Fm69 (fr_m fr_0 rfl rfl) rfl rfl) rfl rfl) rfl rfl) rfl rfl) rfl rfl) rfl rfl) rfl rfl) rfl rfl) rfl rfl) rfl rfl) (show 0 ≤ (0 : Int) by omega) (show (0 : Int) ≤ 1 by omega) (show (0 : Int) = 0 ∨ (0 : Int) = 1 by omega) (show (0 : Int) = 1 → 1 ≤ ((m69.1 73) - 1) by omega) (show ((m69.1 73) - 1) + 1 ≤ (m.1 73) by omega) (show (m215.1 10) = 0 ∨ (0 : Int) = 0 by rewrite [(show (m215.1 10) = (m206.1 10) from (fr1 Fm215 10 rfl))]; omega) (fun (h : (m215.1 10) = 0) => absurd ((show (m215.1 10) = (m206.1 10) from (fr1 Fm215 10 rfl)).symm.trans h) (by omega)) (show ((m69.1 73) - 1) < (n : Int) by omega)
                  · skip
                    refine T_gf 183 (.int (i32 (m206.1 10))) rfl rfl rfl rfl (mfv_c (F := fun x => .int (i32 x)) rfl (show (m215.1 10) = (m206.1 10) from (fr1 Fm215 10 rfl))) rfl ?_
                    refine T_if 190 186 rfl rfl rfl (r32 (by omega) (by omega)) (fun (h224 : (m206.1 10) ≠ 0) => ?_) (fun (h224 : ¬ ((m206.1 10) ≠ 0)) => by exfalso; omega)
                    refine T_ld 191 (.int (i32 0)) rfl (fun _ => rfl) ?_
                    refine T_sto 192 [(1, .int (i32 0)), (3, .int (i32 x152)), (2, .int (i32 ((m69.1 73) - 1))), (0, .ref 189)] rfl (fun _ => rfl) ?_
                    refine T_goto 33 rfl (fun _ => rfl) ?_
                    refine Tm_lv (a := [(0, .ref 189), (1, .int (i32 0))]) rfl rfl ⟨rfl, rfl, trivial⟩ ?_
                    exact ih80 0 (mO m215 [(73, (m69.1 73) - 1), (74, (m69.1 74) - 1)] []) ⟨by decide, by decide⟩ (Ty_mO Tm215 rfl rfl ⟨g221, g222, trivial⟩ trivial) (fr_m (fr_s Fm215 (fr_m (fr_s Fm206 (fr_m (fr_s Fm151 (fr_m (fr_s Fm138 (fr_m (fr_s Fm69 (fr_m fr_0 rfl rfl) rfl rfl) rfl rfl) rfl rfl) rfl rfl) rfl rfl) rfl rfl) rfl rfl) rfl rfl) rfl rfl) rfl rfl) (show 0 ≤ (0 : Int) by omega) (show (0 : Int) ≤ 1 by omega) (show (0 : Int) = 0 ∨ (0 : Int) = 1 by omega) (show (0 : Int) = 1 → 1 ≤ ((m69.1 73) - 1) by omega) (show ((m69.1 73) - 1) + 1 ≤ (m.1 73) by omega) (show (m215.1 10) = 0 ∨ (0 : Int) = 0 by rewrite [(show (m215.1 10) = (m206.1 10) from (fr1 Fm215 10 rfl))]; omega) (fun (h : (m215.1 10) = 0) => absurd ((show (m215.1 10) = (m206.1 10) from (fr1 Fm215 10 rfl)).symm.trans h) (by omega)) (show ((m69.1 73) - 1) < (n : Int) by omega)
              · skip
                clear c140
                clear h139
                have hf225 : 1 ≤ (m138.1 10) := by omega
                clear q78_10 ic76
                refine T_ld 87 (.ref 189) rfl (fun _ => rfl) ?_
                refine T_gf 91 (.ref 249) rfl rfl rfl rfl rfl rfl ?_
                refine T_ld 92 (.int (i32 ((m69.1 73) - 1))) rfl (fun _ => rfl) ?_
                refine T_iald 93 87 (m.2 87) rfl rfl rfl (by omega) (show ((m69.1 73) - 1) < (60 : Int) by omega) (show (m138.2 87) = (m.2 87) from ((fr2 Fm138 87 rfl).trans ((fr2 Fm69 87 rfl).trans (fr2 Fm67 87 rfl)))) ?_
                have e226 : 0 ≤ m.2 87 ((m69.1 73) - 1) ∧ m.2 87 ((m69.1 73) - 1) ≤ 64 := hT.2.1 87 ((m69.1 73) - 1)
                refine T_gf 97 (.ref 252) rfl rfl rfl rfl rfl rfl ?_
                refine T_ld 98 (.int (i32 ((m69.1 73) - 1))) rfl (fun _ => rfl) ?_
                refine T_bald 99 90 (m.2 90) rfl rfl rfl (by omega) (show ((m69.1 73) - 1) < (60 : Int) by omega) (show (m138.2 90) = (m.2 90) from ((fr2 Fm138 90 rfl).trans ((fr2 Fm69 90 rfl).trans (fr2 Fm67 90 rfl)))) ?_
                have e227 : 0 ≤ m.2 90 ((m69.1 73) - 1) ∧ m.2 90 ((m69.1 73) - 1) ≤ 1 := hT.2.1 90 ((m69.1 73) - 1)
                refine T_gf 103 (.ref 254) rfl rfl rfl rfl rfl rfl ?_
                refine T_ld 104 (.int (i32 ((m69.1 73) - 1))) rfl (fun _ => rfl) ?_
                refine T_lald 105 92 (m.2 92) rfl rfl rfl (by omega) (show ((m69.1 73) - 1) < (60 : Int) by omega) (show (m138.2 92) = (m.2 92) from ((fr2 Fm138 92 rfl).trans ((fr2 Fm69 92 rfl).trans (fr2 Fm67 92 rfl)))) ?_
                have e228 : (-9223372036854775808) ≤ m.2 92 ((m69.1 73) - 1) ∧ m.2 92 ((m69.1 73) - 1) ≤ 9223372036854775807 := hT.2.1 92 ((m69.1 73) - 1)
                refine T_gf 109 (.ref 250) rfl rfl rfl rfl rfl rfl ?_
                refine T_ld 110 (.int (i32 ((m69.1 73) - 1))) rfl (fun _ => rfl) ?_
                refine T_iald 111 88 (m.2 88) rfl rfl rfl (by omega) (show ((m69.1 73) - 1) < (60 : Int) by omega) (show (m138.2 88) = (m.2 88) from ((fr2 Fm138 88 rfl).trans ((fr2 Fm69 88 rfl).trans (fr2 Fm67 88 rfl)))) ?_
                have e229 : 0 ≤ m.2 88 ((m69.1 73) - 1) ∧ m.2 88 ((m69.1 73) - 1) ≤ 4000 := hT.2.1 88 ((m69.1 73) - 1)
                refine T_gf 115 (.int (i32 (m69.1 69))) rfl rfl rfl rfl (mfv_c (F := fun x => .int (i32 x)) rfl (show (m138.1 69) = (m69.1 69) from (fr1 Fm138 69 rfl))) rfl ?_
                refine T_gf 119 (.int (i32 (m69.1 71))) rfl rfl rfl rfl (mfv_c (F := fun x => .int (i32 x)) rfl (show (m138.1 71) = (m69.1 71) from (fr1 Fm138 71 rfl))) rfl ?_
                refine T_gf 123 (.long (i64 (m69.1 72))) rfl rfl rfl rfl (mfv_c (F := fun x => .long (i64 x)) rfl (show (m138.1 72) = (m69.1 72) from (fr1 Fm138 72 rfl))) rfl ?_
                refine T_gf 127 (.int (i32 (m69.1 70))) rfl rfl rfl rfl (mfv_c (F := fun x => .int (i32 x)) rfl (show (m138.1 70) = (m69.1 70) from (fr1 Fm138 70 rfl))) rfl ?_
                refine T_call 130 261 [.ref 189, .int (i32 ((m.2 87) ((m69.1 73) - 1))), .int (i32 ((m.2 90) ((m69.1 73) - 1))), .long (i64 ((m.2 92) ((m69.1 73) - 1))), .int (i32 ((m.2 88) ((m69.1 73) - 1))), .int (i32 (m69.1 69)), .int (i32 (m69.1 71)), .long (i64 (m69.1 72)), .int (i32 (m69.1 70))] [] rfl (fun _ => rfl) rfl (c_common w (mO m138 [] []) c N D (by omega) Tm138 ((m.2 87) ((m69.1 73) - 1)) ((m.2 90) ((m69.1 73) - 1)) ((m.2 92) ((m69.1 73) - 1)) ((m.2 88) ((m69.1 73) - 1)) (m69.1 69) (m69.1 71) (m69.1 72) (m69.1 70) (r32 (by omega) (by omega)) (r32 (by omega) (by omega)) (r64 (by omega) (by omega)) (r32 (by omega) (by omega)) (r32 (by omega) (by omega)) (r32 (by omega) (by omega)) (r64 (by omega) (by omega)) (r32 (by omega) (by omega)) (show 0 ≤ ((m.2 88) ((m69.1 73) - 1)) ∧ ((m.2 88) ((m69.1 73) - 1)) ≤ 4000 by omega) (show 0 ≤ (m69.1 70) ∧ (m69.1 70) ≤ 4000 by omega) (show 0 ≤ ((m.2 87) ((m69.1 73) - 1)) ∧ ((m.2 87) ((m69.1 73) - 1)) ≤ 1024 by omega) (show 0 ≤ (m69.1 69) ∧ (m69.1 69) ≤ 1024 by omega) (fun (h : (m138.1 10) = 0) => absurd h (by omega))) (fun rr230 k231 => ?_)
                obtain ⟨m232, x233, Tm232, Fm232, g234, h235, h236, c237, rfl⟩ := k231
                refine ⟨_, _, rfl, ?_⟩
                refine T_nb (st' := [.int (i32 x233)]) rfl ?_
                obtain ⟨g234a, g234b⟩ := g234
                have g238 : 0 ≤ m232.1 10 ∧ m232.1 10 ≤ 8 := Tm232.1 10
                replace h235 : (m232.1 10) = 0 → (m138.1 10) = 0 := h235
                replace h236 : x233 = 64 ∨ x233 = ((m.2 87) ((m69.1 73) - 1)) ∨ x233 = (m69.1 69) := h236
                have hf239 : 1 ≤ (m232.1 10) := by omega
                clear c237
                clear h235
                clear g141 hf225
                refine T_sto 131 [(3, .int (i32 x233)), (2, .int (i32 ((m69.1 73) - 1))), (0, .ref 189), (1, .int (i32 v68))] rfl (fun _ => rfl) ?_
                refine T_ld 132 (.ref 189) rfl (fun _ => rfl) ?_
                refine T_ld 135 (.int (i32 407)) rfl (fun _ => rfl) ?_
                refine T_ld 136 (.int (i32 x233)) rfl (fun _ => rfl) ?_
                refine T_ld 137 (.int (i32 0)) rfl (fun _ => rfl) ?_
                refine T_ld 138 (.long (i64 0)) rfl (fun _ => rfl) ?_
                refine T_call 141 248 [.ref 189, .int (i32 407), .int (i32 x233), .int (i32 0), .long (i64 0)] [] rfl (fun _ => rfl) rfl (c_node w (mO m232 [] []) c N D (by omega) Tm232 407 x233 0 0 B (1 + lh (m.2 79) (m.2 80) (m69.1 73)) ⟨by decide, by decide⟩ (r32 (by omega) (by omega)) ⟨by decide, by decide⟩ ⟨by decide, by decide⟩ (fun (h : (m232.1 10) = 0) => absurd h (by omega))) (fun rr240 k241 => ?_)
                obtain ⟨m242, Tm242, Fm242, h243, c244, rfl⟩ := k241
                refine ⟨_, _, rfl, ?_⟩
                refine T_nb (st' := []) rfl ?_
                have g245 : 0 ≤ m242.1 10 ∧ m242.1 10 ≤ 8 := Tm242.1 10
                have g246 : 0 ≤ m242.1 28 ∧ m242.1 28 ≤ 800 := Tm242.1 28
                replace h243 : (m242.1 10) = 0 → (m232.1 10) = 0 := h243
                have hf247 : 1 ≤ (m242.1 10) := by omega
                clear c244
                clear h243
                clear q78_28 c82 c84 c86 g238 hf239
                refine T_ld 142 (.ref 189) rfl (fun _ => rfl) ?_
                refine T_ld 143 (.int (i32 x233)) rfl (fun _ => rfl) ?_
                refine T_gf 147 (.ref 248) rfl rfl rfl rfl rfl rfl ?_
                refine T_ld 148 (.int (i32 ((m69.1 73) - 1))) rfl (fun _ => rfl) ?_
                refine T_iald 149 86 (m.2 86) rfl rfl rfl (by omega) (show ((m69.1 73) - 1) < (60 : Int) by omega) (show (m242.2 86) = (m.2 86) from ((fr2 Fm242 86 rfl).trans ((fr2 Fm232 86 rfl).trans ((fr2 Fm138 86 rfl).trans ((fr2 Fm69 86 rfl).trans (fr2 Fm67 86 rfl)))))) ?_
                have e248 : 0 ≤ m.2 86 ((m69.1 73) - 1) ∧ m.2 86 ((m69.1 73) - 1) ≤ 4000 := hT.2.1 86 ((m69.1 73) - 1)
                refine T_call 152 250 [.ref 189, .int (i32 x233), .int (i32 ((m.2 86) ((m69.1 73) - 1)))] [] rfl (fun _ => rfl) rfl (c_unit w (mO m242 [] []) c N D (by omega) Tm242 x233 ((m.2 86) ((m69.1 73) - 1)) (r32 (by omega) (by omega)) (r32 (by omega) (by omega)) (show 0 ≤ x233 ∧ x233 ≤ 1024 by omega) (show 0 ≤ ((m.2 86) ((m69.1 73) - 1)) ∧ ((m.2 86) ((m69.1 73) - 1)) ≤ 4000 by omega)) (fun rr249 k250 => ?_)
                obtain ⟨m251, Tm251, Fm251, h252, rfl⟩ := k250
                refine ⟨_, _, rfl, ?_⟩
                refine T_nb (st' := []) rfl ?_
                have g253 : 0 ≤ m251.1 69 ∧ m251.1 69 ≤ 1024 := Tm251.1 69
                have g254 : 0 ≤ m251.1 70 ∧ m251.1 70 ≤ 4000 := Tm251.1 70
                have g255 : 0 ≤ m251.1 71 ∧ m251.1 71 ≤ 1 := Tm251.1 71
                have g256 : (-9223372036854775808) ≤ m251.1 72 ∧ m251.1 72 ≤ 9223372036854775807 := Tm251.1 72
                replace h252 : (m251.1 69) = x233 := h252
                clear q78_69 q78_70 q78_71 q78_72 c83 h236
                refine T_ld 153 (.ref 189) rfl (fun _ => rfl) ?_
                refine T_ld 154 (.ref 189) rfl (fun _ => rfl) ?_
                refine T_gf1 157 (.int (i32 (m69.1 73))) rfl rfl (mfv_c (F := fun x => .int (i32 x)) rfl (show (m251.1 73) = (m69.1 73) from ((fr1 Fm251 73 rfl).trans ((fr1 Fm242 73 rfl).trans ((fr1 Fm232 73 rfl).trans (fr1 Fm138 73 rfl)))))) rfl ?_
                refine T_ld 158 (.int (i32 1)) rfl (fun _ => rfl) ?_
                refine T_isub 159 rfl rfl ?_
                refine T_pf (l' := [(73, (m69.1 73) - 1)]) 162 ((m69.1 73) - 1) rfl rfl rfl rfl rfl rfl ?_
                have g257 : 0 ≤ (m69.1 73) - 1 ∧ (m69.1 73) - 1 ≤ 60 := ⟨by omega, by omega⟩
                refine T_ld 163 (.ref 189) rfl (fun _ => rfl) ?_
                refine T_ld 164 (.ref 189) rfl (fun _ => rfl) ?_
                refine T_gf1 167 (.int (i32 (m69.1 74))) rfl rfl (mfv_c (F := fun x => .int (i32 x)) rfl (show (m251.1 74) = (m69.1 74) from ((fr1 Fm251 74 rfl).trans ((fr1 Fm242 74 rfl).trans ((fr1 Fm232 74 rfl).trans (fr1 Fm138 74 rfl)))))) rfl ?_
                refine T_ld 168 (.int (i32 1)) rfl (fun _ => rfl) ?_
                refine T_isub 169 rfl rfl ?_
                refine T_pf (l' := [(73, (m69.1 73) - 1), (74, (m69.1 74) - 1)]) 172 ((m69.1 74) - 1) rfl rfl rfl rfl rfl rfl ?_
                have g258 : 0 ≤ (m69.1 74) - 1 ∧ (m69.1 74) - 1 ≤ 24 := ⟨by omega, by omega⟩
                refine T_gf 176 (.int (i32 ((m69.1 73) - 1))) rfl rfl rfl rfl rfl rfl ?_
                refine T_if 190 179 rfl rfl rfl (r32 (by omega) (by omega)) (fun (h259 : (m69.1 73) - 1 ≤ 0) => ?_) (fun (h259 : ¬ ((m69.1 73) - 1 ≤ 0)) => ?_)
                · skip
                  refine T_ld 191 (.int (i32 0)) rfl (fun _ => rfl) ?_
                  refine T_sto 192 [(1, .int (i32 0)), (3, .int (i32 x233)), (2, .int (i32 ((m69.1 73) - 1))), (0, .ref 189)] rfl (fun _ => rfl) ?_
                  refine T_goto 33 rfl (fun _ => rfl) ?_
                  refine Tm_lv (a := [(0, .ref 189), (1, .int (i32 0))]) rfl rfl ⟨rfl, rfl, trivial⟩ ?_
                  exact ih80 0 (mO m251 [(73, (m69.1 73) - 1), (74, (m69.1 74) - 1)] []) ⟨by decide, by decide⟩ (Ty_mO Tm251 rfl rfl ⟨g257, g258, trivial⟩ trivial) (fr_m (fr_s Fm251 (fr_m (fr_s Fm242 (fr_m (fr_s Fm232 (fr_m (fr_s Fm138 (fr_m (fr_s Fm69 (fr_m fr_0 rfl rfl) rfl rfl) rfl rfl) rfl rfl) rfl rfl) rfl rfl) rfl rfl) rfl rfl) rfl rfl) rfl rfl) rfl rfl) (show 0 ≤ (0 : Int) by omega) (show (0 : Int) ≤ 1 by omega) (show (0 : Int) = 0 ∨ (0 : Int) = 1 by omega) (show (0 : Int) = 1 → 1 ≤ ((m69.1 73) - 1) by omega) (show ((m69.1 73) - 1) + 1 ≤ (m.1 73) by omega) (show (m251.1 10) = 0 ∨ (0 : Int) = 0 by rewrite [(show (m251.1 10) = (m242.1 10) from (fr1 Fm251 10 rfl))]; omega) (fun (h : (m251.1 10) = 0) => absurd ((show (m251.1 10) = (m242.1 10) from (fr1 Fm251 10 rfl)).symm.trans h) (by omega)) (show ((m69.1 73) - 1) < (n : Int) by omega)
                · skip
                  refine T_gf 183 (.int (i32 (m242.1 10))) rfl rfl rfl rfl (mfv_c (F := fun x => .int (i32 x)) rfl (show (m251.1 10) = (m242.1 10) from (fr1 Fm251 10 rfl))) rfl ?_
                  refine T_if 190 186 rfl rfl rfl (r32 (by omega) (by omega)) (fun (h260 : (m242.1 10) ≠ 0) => ?_) (fun (h260 : ¬ ((m242.1 10) ≠ 0)) => by exfalso; omega)
                  refine T_ld 191 (.int (i32 0)) rfl (fun _ => rfl) ?_
                  refine T_sto 192 [(1, .int (i32 0)), (3, .int (i32 x233)), (2, .int (i32 ((m69.1 73) - 1))), (0, .ref 189)] rfl (fun _ => rfl) ?_
                  refine T_goto 33 rfl (fun _ => rfl) ?_
                  refine Tm_lv (a := [(0, .ref 189), (1, .int (i32 0))]) rfl rfl ⟨rfl, rfl, trivial⟩ ?_
                  exact ih80 0 (mO m251 [(73, (m69.1 73) - 1), (74, (m69.1 74) - 1)] []) ⟨by decide, by decide⟩ (Ty_mO Tm251 rfl rfl ⟨g257, g258, trivial⟩ trivial) (fr_m (fr_s Fm251 (fr_m (fr_s Fm242 (fr_m (fr_s Fm232 (fr_m (fr_s Fm138 (fr_m (fr_s Fm69 (fr_m fr_0 rfl rfl) rfl rfl) rfl rfl) rfl rfl) rfl rfl) rfl rfl) rfl rfl) rfl rfl) rfl rfl) rfl rfl) rfl rfl) (show 0 ≤ (0 : Int) by omega) (show (0 : Int) ≤ 1 by omega) (show (0 : Int) = 0 ∨ (0 : Int) = 1 by omega) (show (0 : Int) = 1 → 1 ≤ ((m69.1 73) - 1) by omega) (show ((m69.1 73) - 1) + 1 ≤ (m.1 73) by omega) (show (m251.1 10) = 0 ∨ (0 : Int) = 0 by rewrite [(show (m251.1 10) = (m242.1 10) from (fr1 Fm251 10 rfl))]; omega) (fun (h : (m251.1 10) = 0) => absurd ((show (m251.1 10) = (m242.1 10) from (fr1 Fm251 10 rfl)).symm.trans h) (by omega)) (show ((m69.1 73) - 1) < (n : Int) by omega)
        · skip
          clear c79
          have hf261 : 1 ≤ (m69.1 10) := by omega
          refine T_ld 34 (.int (i32 v68)) rfl (fun _ => rfl) ?_
          refine T_if 195 37 rfl rfl rfl (r32 (by omega) (by omega)) (fun (h262 : v68 = 0) => ?_) (fun (h262 : ¬ (v68 = 0)) => by exfalso; omega)
          refine T_gf 199 (.int (i32 (m69.1 73))) rfl rfl rfl rfl rfl rfl ?_
          refine T_if 208 202 rfl rfl rfl (r32 (by omega) (by omega)) (fun (h263 : (m69.1 73) ≠ 0) => ?_) (fun (h263 : ¬ ((m69.1 73) ≠ 0)) => ?_)
          · skip
            refine T_gf 212 (.ref 239) rfl rfl rfl rfl rfl rfl ?_
            refine T_gf 216 (.int (i32 (m69.1 73))) rfl rfl rfl rfl rfl rfl ?_
            refine T_ld 217 (.int (i32 1)) rfl (fun _ => rfl) ?_
            refine T_isub 218 rfl rfl ?_
            refine T_iald 219 77 (m.2 77) rfl rfl rfl (by omega) (show ((m69.1 73) - 1) < (60 : Int) by omega) (show (m69.2 77) = (m.2 77) from ((fr2 Fm69 77 rfl).trans (fr2 Fm67 77 rfl))) ?_
            have e264 : 0 ≤ m.2 77 ((m69.1 73) - 1) ∧ m.2 77 ((m69.1 73) - 1) ≤ 4000 := hT.2.1 77 ((m69.1 73) - 1)
            refine T_sto 220 [(2, .int (i32 ((m.2 77) ((m69.1 73) - 1)))), (0, .ref 189), (1, .int (i32 v68))] rfl (fun _ => rfl) ?_
            refine T_ld 221 (.ref 189) rfl (fun _ => rfl) ?_
            refine T_ld 223 (.int (i32 41)) rfl (fun _ => rfl) ?_
            refine T_call 226 232 [.ref 189, .int (i32 41)] [] rfl (fun _ => rfl) rfl (d_need w (mO m69 [] []) c N D (by omega) Tm69 41 ⟨by decide, by decide⟩ (show 1 ≤ (41 : Int) by omega) (show LxP (m69.1 7) (m69.1 8) (m69.1 9) (m69.1 6) (m69.1 10) by rewrite [(show (m69.1 7) = (m.1 7) from ((fr1 Fm69 7 rfl).trans (fr1 Fm67 7 rfl))), (show (m69.1 8) = (m.1 8) from ((fr1 Fm69 8 rfl).trans (fr1 Fm67 8 rfl))), (show (m69.1 9) = (m.1 9) from ((fr1 Fm69 9 rfl).trans (fr1 Fm67 9 rfl))), (show (m69.1 6) = (m.1 6) from ((fr1 Fm69 6 rfl).trans (fr1 Fm67 6 rfl)))]; first | exact hLx | (intro h9; exfalso; omega) | (intro h9; have h8 := hLx (by omega); omega))) (fun rr265 k266 => ?_)
            obtain ⟨m267, Tm267, Fm267, h268, h269, h270, h271, rfl⟩ := k266
            refine ⟨_, _, rfl, ?_⟩
            refine T_nb (st' := []) rfl ?_
            have g272 : 0 ≤ m267.1 7 ∧ m267.1 7 ≤ 330 := Tm267.1 7
            have g273 : 0 ≤ m267.1 8 ∧ m267.1 8 ≤ 4000 := Tm267.1 8
            have g274 : 0 ≤ m267.1 9 ∧ m267.1 9 ≤ 4000 := Tm267.1 9
            have g275 : 0 ≤ m267.1 10 ∧ m267.1 10 ≤ 8 := Tm267.1 10
            replace h268 : LxP (m267.1 7) (m267.1 8) (m267.1 9) (m69.1 6) (m267.1 10) := h268
            rewrite [(show (m69.1 6) = (m.1 6) from ((fr1 Fm69 6 rfl).trans (fr1 Fm67 6 rfl)))] at h268
            replace h269 : (m267.1 10) = 0 → (m69.1 10) = 0 ∧ (m69.1 7) = (41 : Int) := h269
            rewrite [(show (m69.1 7) = (m.1 7) from ((fr1 Fm69 7 rfl).trans (fr1 Fm67 7 rfl)))] at h269
            replace h270 : (m69.1 8) ≤ (m267.1 8) := h270
            rewrite [(show (m69.1 8) = (m.1 8) from ((fr1 Fm69 8 rfl).trans (fr1 Fm67 8 rfl)))] at h270
            replace h271 : (m267.1 10) = 0 → (m69.1 8) + (m69.1 9) ≤ (m267.1 8) := h271
            rewrite [(show (m69.1 8) = (m.1 8) from ((fr1 Fm69 8 rfl).trans (fr1 Fm67 8 rfl))), (show (m69.1 9) = (m.1 9) from ((fr1 Fm69 9 rfl).trans (fr1 Fm67 9 rfl)))] at h271
            have hf276 : 1 ≤ (m267.1 10) := by omega
            clear h269
            clear h271
            have hLx := h268
            clear q78_10 ic76 hf261
            refine T_ld 227 (.ref 189) rfl (fun _ => rfl) ?_
            refine T_ld 228 (.ref 189) rfl (fun _ => rfl) ?_
            refine T_gf1 231 (.int (i32 (m69.1 73))) rfl rfl (mfv_c (F := fun x => .int (i32 x)) rfl (show (m267.1 73) = (m69.1 73) from (fr1 Fm267 73 rfl))) rfl ?_
            refine T_ld 232 (.int (i32 1)) rfl (fun _ => rfl) ?_
            refine T_isub 233 rfl rfl ?_
            refine T_pf (l' := [(73, (m69.1 73) - 1)]) 236 ((m69.1 73) - 1) rfl rfl rfl rfl rfl rfl ?_
            have g277 : 0 ≤ (m69.1 73) - 1 ∧ (m69.1 73) - 1 ≤ 60 := ⟨by omega, by omega⟩
            refine T_ld 237 (.ref 189) rfl (fun _ => rfl) ?_
            refine T_ld 238 (.int (i32 ((m.2 77) ((m69.1 73) - 1)))) rfl (fun _ => rfl) ?_
            refine T_pf (l' := [(70, (m.2 77) ((m69.1 73) - 1)), (73, (m69.1 73) - 1)]) 241 ((m.2 77) ((m69.1 73) - 1)) rfl rfl rfl rfl rfl rfl ?_
            have g278 : 0 ≤ (m.2 77) ((m69.1 73) - 1) ∧ (m.2 77) ((m69.1 73) - 1) ≤ 4000 := ⟨by omega, by omega⟩
            refine T_ld 242 (.ref 189) rfl (fun _ => rfl) ?_
            refine T_ld 243 (.int (i32 1)) rfl (fun _ => rfl) ?_
            refine T_pf (l' := [(70, (m.2 77) ((m69.1 73) - 1)), (73, (m69.1 73) - 1), (75, 1)]) 246 1 rfl rfl rfl rfl rfl rfl ?_
            refine T_ret rfl (fun _ => rfl) ?_
            exact ⟨(mO m267 [(70, (m.2 77) ((m69.1 73) - 1)), (73, (m69.1 73) - 1), (75, 1)] []), (Ty_mO Tm267 rfl rfl ⟨g278, g277, ⟨(by omega : (0 : Int) ≤ 1), (by omega : (1 : Int) ≤ 3)⟩, trivial⟩ trivial), (fr_m (fr_s Fm267 (fr_m (fr_s Fm69 (fr_m (fr_s Fm67 (fr_m fr_0 rfl rfl) rfl rfl) rfl rfl) rfl rfl) rfl rfl) rfl rfl) rfl rfl), (show (m267.1 10) = 0 → (m.1 10) = 0 by omega), (show LxP (m267.1 7) (m267.1 8) (m267.1 9) (m.1 6) (m267.1 10) by first | (first | exact hLx | exact (fun _ => hLx (by omega)) | (intro h9; exfalso; omega)) | (exfalso; omega)), (fun (h : (m267.1 10) = 0) => absurd h (by omega)), rfl⟩
          · skip
            refine T_ld 203 (.ref 189) rfl (fun _ => rfl) ?_
            refine T_ld 204 (.int (i32 3)) rfl (fun _ => rfl) ?_
            refine T_pf (l' := [(75, 3)]) 207 3 rfl rfl rfl rfl rfl rfl ?_
            refine T_ret rfl (fun _ => rfl) ?_
            exact ⟨(mO m69 [(75, 3)] []), (Ty_mO Tm69 rfl rfl ⟨⟨(by omega : (0 : Int) ≤ 3), (by omega : (3 : Int) ≤ 3)⟩, trivial⟩ trivial), (fr_m (fr_s Fm69 (fr_m (fr_s Fm67 (fr_m fr_0 rfl rfl) rfl rfl) rfl rfl) rfl rfl) rfl rfl), (show (m69.1 10) = 0 → (m.1 10) = 0 by omega), (show LxP (m69.1 7) (m69.1 8) (m69.1 9) (m.1 6) (m69.1 10) by rewrite [(show (m69.1 7) = (m.1 7) from ((fr1 Fm69 7 rfl).trans (fr1 Fm67 7 rfl))), (show (m69.1 8) = (m.1 8) from ((fr1 Fm69 8 rfl).trans (fr1 Fm67 8 rfl))), (show (m69.1 9) = (m.1 9) from ((fr1 Fm69 9 rfl).trans (fr1 Fm67 9 rfl)))]; first | (first | exact hLx | exact (fun _ => hLx (by omega)) | (intro h9; exfalso; omega)) | (exfalso; omega)), (fun (h : (m69.1 10) = 0) => absurd h (by omega)), rfl⟩
    refine Tm_lv (a := [(0, .ref 189), (1, .int (i32 1))]) rfl rfl ⟨rfl, rfl, trivial⟩ ?_
    exact L33_70 ((((m.1 73) - 1) : Int) + 1).toNat 1 (mO m67 [] []) ⟨by decide, by decide⟩ Tm67 (fr_m fr_0 rfl rfl) (show 0 ≤ (1 : Int) by omega) (show (1 : Int) ≤ 1 by omega) (show (1 : Int) = 0 ∨ (1 : Int) = 1 by omega) (show (1 : Int) = 1 → 1 ≤ (m67.1 73) by rewrite [(show (m67.1 73) = ((m.1 73) - 1) from (fr1 Fm67 73 rfl))]; omega) (show (m67.1 73) + 1 ≤ (m.1 73) by rewrite [(show (m67.1 73) = ((m.1 73) - 1) from (fr1 Fm67 73 rfl))]; omega) (show (m67.1 10) = 0 ∨ (1 : Int) = 0 by rewrite [(show (m67.1 10) = (m.1 10) from (fr1 Fm67 10 rfl))]; omega) (fun _ => ⟨(show XC (m67.2 65) (m67.2 67) (m.2 76) (m.2 78) (m.2 79) (m.2 80) B (m67.1 28) (m67.1 73) (m67.1 74) by rewrite [(show (m67.2 65) = (m.2 65) from (fr2 Fm67 65 rfl)), (show (m67.2 67) = (m.2 67) from (fr2 Fm67 67 rfl)), (show (m67.1 28) = (m.1 28) from (fr1 Fm67 28 rfl)), (show (m67.1 73) = ((m.1 73) - 1) from (fr1 Fm67 73 rfl)), (show (m67.1 74) = ((m.1 74) - 1) from (fr1 Fm67 74 rfl))]; exact hXC), (show (m67.1 69) ≤ 64 by rewrite [(show (m67.1 69) = (m.1 69) from (fr1 Fm67 69 rfl))]; omega), (show (m.1 28) ≤ (m67.1 28) by rewrite [(show (m67.1 28) = (m.1 28) from (fr1 Fm67 28 rfl))]; omega), (show (1 : Int) = 0 → (m67.1 73) = 0 by rewrite [(show (m67.1 73) = ((m.1 73) - 1) from (fr1 Fm67 73 rfl))]; omega), (show agr (m.2 65) (m67.2 65) (m.1 28) by rewrite [(show (m67.2 65) = (m.2 65) from (fr2 Fm67 65 rfl))]; exact hAgC)⟩) (show (m67.1 73) < ((((((m.1 73) - 1) : Int) + 1).toNat : Nat) : Int) by rewrite [(show (m67.1 73) = ((m.1 73) - 1) from (fr1 Fm67 73 rfl))]; omega)
