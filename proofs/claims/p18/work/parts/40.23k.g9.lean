def fF_takePlace : List Nat := [7, 8, 9, 10, 11, 12, 100]
def fA_takePlace : List Nat := []
def Q_takePlace (m : mR) (c : Nat → Option am_C) (N : Nat) : ag_Re af_T → Prop := fun R => ∃ (M : mR) (r : Int), Ty M ∧ fr fF_takePlace fA_takePlace m M ∧ (0 ≤ r ∧ r ≤ 207) ∧ ((M.1 10) = 0 → (m.1 10) = 0) ∧ (LxP (M.1 7) (M.1 8) (M.1 9) (m.1 6) (M.1 10)) ∧ (M.1 10 = 0 → ((m.1 8) + 1 ≤ (M.1 8))) ∧ R = (.inl (some (.int (i32 r))), (mhp M c, N), 0, 0)
set_option maxHeartbeats 3000000 in
theorem c_takePlace (w : wX) (m : mR) (c : Nat → Option am_C) (N D : Nat) (hD : 7 ≤ D) (hT : Ty m) (hLx0 : LxP (m.1 7) (m.1 8) (m.1 9) (m.1 6) (m.1 10)) (hNM0 : ∀ k, (m.2 14) k + (m.2 15) k ≤ 4000) (hFA0 : ∀ k, (m.2 31) k + (m.2 32) k ≤ 4000) (hC : m.1 10 = 0 → (PN (m.1 13) (m.1 19) (m.1 20) (m.1 21) (m.1 22) (m.1 23) (m.1 25) (m.1 26) (m.2 16) (m.2 17))) : TC w D 271 [.ref 189] (mhp m c, N) (Q_takePlace m c N) := by
  obtain ⟨D, rfl⟩ : ∃ k, D = k + 1 := ⟨D - 1, by omega⟩
  have hLx := hLx0
  have hNM := hNM0
  have hFA := hFA0
  have f7 : 0 ≤ m.1 7 ∧ m.1 7 ≤ 330 := hT.1 7
  have f8 : 0 ≤ m.1 8 ∧ m.1 8 ≤ 4000 := hT.1 8
  have f9 : 0 ≤ m.1 9 ∧ m.1 9 ≤ 4000 := hT.1 9
  have f10 : 0 ≤ m.1 10 ∧ m.1 10 ≤ 8 := hT.1 10
  have f11 : (-1) ≤ m.1 11 ∧ m.1 11 ≤ 4000 := hT.1 11
  have f25 : 0 ≤ m.1 25 ∧ m.1 25 ≤ 16 := hT.1 25
  have f22 : 0 ≤ m.1 22 ∧ m.1 22 ≤ 8 := hT.1 22
  have f19 : 0 ≤ m.1 19 ∧ m.1 19 ≤ 12 := hT.1 19
  have f20 : 0 ≤ m.1 20 ∧ m.1 20 ≤ 12 := hT.1 20
  have f21 : 0 ≤ m.1 21 ∧ m.1 21 ≤ 16 := hT.1 21
  have f13 : 0 ≤ m.1 13 ∧ m.1 13 ≤ 120 := hT.1 13
  have f6 : 0 ≤ m.1 6 ∧ m.1 6 ≤ 4000 := hT.1 6
  have f23 : 0 ≤ m.1 23 ∧ m.1 23 ≤ 16 := hT.1 23
  have f26 : 0 ≤ m.1 26 ∧ m.1 26 ≤ 8 := hT.1 26
  refine Tc_of rfl ?_
  show TT w D pm_271 (0, [(0, .ref 189)], [], (mhp (mO m [] []) c, N), 0, 0) (Q_takePlace m c N)
  by_cases hf0 : m.1 10 = 0
  · skip
    have pPN := hC hf0
    have h7 := hLx (by omega)
    have hNM := hNM0
    have pmt := pPN.2.1
    have J123_14 : ∀ (s12 : Int) (m13 : mR), (R32 s12) → Ty m13 → fr [7, 8, 9, 10, 11, 12, 100] [] (mO m [] []) m13 → (0 ≤ s12) → (s12 ≤ 191) → (1 ≤ (m13.1 10)) → TT w D pm_271 (123, [(0, .ref 189)], [.int (i32 s12)], (mhp (mO m13 [] []) c, N), 0, 0) (Q_takePlace m c N) := by
      intro s12 m13 q18 Tm13 Fm13 ic15 ic16 ic17
      obtain ⟨q18a, q18b⟩ := id q18
      have q19_7 : 0 ≤ m13.1 7 ∧ m13.1 7 ≤ 330 := Tm13.1 7
      have q19_8 : 0 ≤ m13.1 8 ∧ m13.1 8 ≤ 4000 := Tm13.1 8
      have q19_9 : 0 ≤ m13.1 9 ∧ m13.1 9 ≤ 4000 := Tm13.1 9
      have q19_10 : 0 ≤ m13.1 10 ∧ m13.1 10 ≤ 8 := Tm13.1 10
      have q19_11 : (-1) ≤ m13.1 11 ∧ m13.1 11 ≤ 4000 := Tm13.1 11
      refine T_sto 124 [(3, .int (i32 s12)), (0, .ref 189)] rfl (fun _ => rfl) ?_
      refine T_gf 128 (.int (i32 (m13.1 10))) rfl rfl rfl rfl rfl rfl ?_
      refine T_if 133 131 rfl rfl rfl (r32 (by omega) (by omega)) (fun (h22 : (m13.1 10) ≤ 0) => by exfalso; omega) (fun (h22 : ¬ ((m13.1 10) ≤ 0)) => ?_)
      refine T_ld 132 (.int (i32 0)) rfl (fun _ => rfl) ?_
      refine T_ret rfl (fun _ => rfl) ?_
      exact ⟨(mO m13 [] []), 0, Tm13, (fr_m (fr_s Fm13 (fr_m fr_0 rfl rfl) rfl rfl) rfl rfl), ⟨by omega, by omega⟩, (show (m13.1 10) = 0 → (m.1 10) = 0 by omega), (show LxP (m13.1 7) (m13.1 8) (m13.1 9) (m.1 6) (m13.1 10) by first | (first | exact hLx | exact (fun _ => hLx (by omega)) | (intro h9; exfalso; omega)) | (exfalso; omega)), (fun (h : (m13.1 10) = 0) => absurd h (by omega)), rfl⟩
    have J118_25 : ∀ (v23 : Int) (m24 : mR), (R32 v23) → Ty m24 → fr [7, 8, 9, 10, 11, 12, 100] [] (mO m [] []) m24 → (0 ≤ v23 ∧ v23 ≤ 11) → (1 ≤ (m24.1 10)) → TT w D pm_271 (118, [(0, .ref 189), (2, .int (i32 v23))], [], (mhp (mO m24 [] []) c, N), 0, 0) (Q_takePlace m c N) := by
      intro v23 m24 q28 Tm24 Fm24 ic26 ic27
      obtain ⟨q28a, q28b⟩ := id q28
      have q29_7 : 0 ≤ m24.1 7 ∧ m24.1 7 ≤ 330 := Tm24.1 7
      have q29_8 : 0 ≤ m24.1 8 ∧ m24.1 8 ≤ 4000 := Tm24.1 8
      have q29_9 : 0 ≤ m24.1 9 ∧ m24.1 9 ≤ 4000 := Tm24.1 9
      have q29_10 : 0 ≤ m24.1 10 ∧ m24.1 10 ≤ 8 := Tm24.1 10
      have q29_11 : (-1) ≤ m24.1 11 ∧ m24.1 11 ≤ 4000 := Tm24.1 11
      refine T_ld 119 (.ref 189) rfl (fun _ => rfl) ?_
      refine T_ld 120 (.int (i32 v23)) rfl (fun _ => rfl) ?_
      refine T_call 123 253 [.ref 189, .int (i32 v23)] [] rfl (fun _ => rfl) rfl (c_takeField w (mO m24 [] []) c N D (by omega) Tm24 v23 (r32 (by omega) (by omega)) (show LxP (m24.1 7) (m24.1 8) (m24.1 9) (m24.1 6) (m24.1 10) by rewrite [(show (m24.1 6) = (m.1 6) from (fr1 Fm24 6 rfl))]; first | exact hLx | exact (fun _ => hLx (by omega)) | (intro h9; exfalso; omega)) (show ∀ k, (m24.2 31) k + (m24.2 32) k ≤ 4000 by rewrite [(show (m24.2 31) = (m.2 31) from (fr2 Fm24 31 rfl)), (show (m24.2 32) = (m.2 32) from (fr2 Fm24 32 rfl))]; assumption) (show 0 ≤ v23 ∧ v23 ≤ 11 by omega) (fun (h : (m24.1 10) = 0) => absurd h (by omega))) (fun rr32 k33 => ?_)
      obtain ⟨m34, tf, Tm34, Fm34, g35, h36, h37, c38, rfl⟩ := k33
      refine ⟨_, _, rfl, ?_⟩
      refine T_nb (st' := [.int (i32 tf)]) rfl ?_
      obtain ⟨g35a, g35b⟩ := g35
      have g39 : 0 ≤ m34.1 7 ∧ m34.1 7 ≤ 330 := Tm34.1 7
      have g40 : 0 ≤ m34.1 8 ∧ m34.1 8 ≤ 4000 := Tm34.1 8
      have g41 : 0 ≤ m34.1 9 ∧ m34.1 9 ≤ 4000 := Tm34.1 9
      have g42 : 0 ≤ m34.1 10 ∧ m34.1 10 ≤ 8 := Tm34.1 10
      have g43 : (-1) ≤ m34.1 11 ∧ m34.1 11 ≤ 4000 := Tm34.1 11
      replace h36 : (m34.1 10) = 0 → (m24.1 10) = 0 := h36
      replace h37 : LxP (m34.1 7) (m34.1 8) (m34.1 9) (m24.1 6) (m34.1 10) := h37
      rewrite [(show (m24.1 6) = (m.1 6) from (fr1 Fm24 6 rfl))] at h37
      have hf44 : 1 ≤ (m34.1 10) := by omega
      clear c38
      clear h36
      have hLx := h37
      clear q29_7 q29_8 q29_9 q29_10 q29_11 ic27
      refine Tm_lv (a := [(0, .ref 189)]) rfl rfl ⟨rfl, trivial⟩ ?_
      exact J123_14 tf (mO m34 [] []) (r32 (by omega) (by omega)) Tm34 (fr_m (fr_s Fm34 (fr_m (fr_s Fm24 (fr_m fr_0 rfl rfl) rfl rfl) rfl rfl) rfl rfl) rfl rfl) (show 0 ≤ tf by omega) (show tf ≤ 191 by omega) (show 1 ≤ (m34.1 10) by omega)
    have J86_48 : ∀ (v45 : Int) (v46 : Int) (m47 : mR), (R32 v45) → (R32 v46) → Ty m47 → fr [7, 8, 9, 10, 11, 12, 100] [] (mO m [] []) m47 → ((-2147483648) ≤ v45) → (v45 ≤ 2147483647) → (1 ≤ (m47.1 10)) → TT w D pm_271 (86, [(0, .ref 189), (1, .int (i32 v45)), (2, .int (i32 v46))], [], (mhp (mO m47 [] []) c, N), 0, 0) (Q_takePlace m c N) := by
      intro v45 v46 m47 q52 q53 Tm47 Fm47 ic49 ic50 ic51
      obtain ⟨q52a, q52b⟩ := id q52
      obtain ⟨q53a, q53b⟩ := id q53
      have q54_7 : 0 ≤ m47.1 7 ∧ m47.1 7 ≤ 330 := Tm47.1 7
      have q54_8 : 0 ≤ m47.1 8 ∧ m47.1 8 ≤ 4000 := Tm47.1 8
      have q54_9 : 0 ≤ m47.1 9 ∧ m47.1 9 ≤ 4000 := Tm47.1 9
      have q54_10 : 0 ≤ m47.1 10 ∧ m47.1 10 ≤ 8 := Tm47.1 10
      have q54_11 : (-1) ≤ m47.1 11 ∧ m47.1 11 ≤ 4000 := Tm47.1 11
      refine T_gf 90 (.int (i32 (m47.1 10))) rfl rfl rfl rfl rfl rfl ?_
      refine T_if 95 93 rfl rfl rfl (r32 (by omega) (by omega)) (fun (h57 : (m47.1 10) ≤ 0) => by exfalso; omega) (fun (h57 : ¬ ((m47.1 10) ≤ 0)) => ?_)
      refine T_ld 94 (.int (i32 0)) rfl (fun _ => rfl) ?_
      refine T_ret rfl (fun _ => rfl) ?_
      exact ⟨(mO m47 [] []), 0, Tm47, (fr_m (fr_s Fm47 (fr_m fr_0 rfl rfl) rfl rfl) rfl rfl), ⟨by omega, by omega⟩, (show (m47.1 10) = 0 → (m.1 10) = 0 by omega), (show LxP (m47.1 7) (m47.1 8) (m47.1 9) (m.1 6) (m47.1 10) by first | (first | exact hLx | exact (fun _ => hLx (by omega)) | (intro h9; exfalso; omega)) | (exfalso; omega)), (fun (h : (m47.1 10) = 0) => absurd h (by omega)), rfl⟩
    have J82_61 : ∀ (v58 : Int) (v59 : Int) (m60 : mR), (R32 v58) → (R32 v59) → Ty m60 → fr [10, 11, 100] [] (mO m [] []) m60 → ((-2147483648) ≤ v58) → (v58 ≤ 2147483647) → ((-2147483648) ≤ v59) → (v59 ≤ 1) → (1 ≤ (m60.1 10)) → TT w D pm_271 (82, [(0, .ref 189), (1, .int (i32 v58)), (2, .int (i32 v59))], [], (mhp (mO m60 [] []) c, N), 0, 0) (Q_takePlace m c N) := by
      intro v58 v59 m60 q67 q68 Tm60 Fm60 ic62 ic63 ic64 ic65 ic66
      obtain ⟨q67a, q67b⟩ := id q67
      obtain ⟨q68a, q68b⟩ := id q68
      have q69_10 : 0 ≤ m60.1 10 ∧ m60.1 10 ≤ 8 := Tm60.1 10
      have q69_11 : (-1) ≤ m60.1 11 ∧ m60.1 11 ≤ 4000 := Tm60.1 11
      refine T_ld 83 (.ref 189) rfl (fun _ => rfl) ?_
      refine T_call 86 212 [.ref 189] [] rfl (fun _ => rfl) rfl (d_next w (mO m60 [] []) c N D (by omega) Tm60 (show (m60.1 10) = 0 → (m60.1 8) + (m60.1 9) ≤ (m60.1 6) by rewrite [(show (m60.1 8) = (m.1 8) from (fr1 Fm60 8 rfl)), (show (m60.1 9) = (m.1 9) from (fr1 Fm60 9 rfl)), (show (m60.1 6) = (m.1 6) from (fr1 Fm60 6 rfl))]; first | omega | (intro h9; have h8 := hLx h9; omega))) (fun rr72 k73 => ?_)
      obtain ⟨m74, Tm74, Fm74, h75, h76, h77, h78, rfl⟩ := k73
      refine ⟨_, _, rfl, ?_⟩
      refine T_nb (st' := []) rfl ?_
      have g79 : 0 ≤ m74.1 7 ∧ m74.1 7 ≤ 330 := Tm74.1 7
      have g80 : 0 ≤ m74.1 8 ∧ m74.1 8 ≤ 4000 := Tm74.1 8
      have g81 : 0 ≤ m74.1 9 ∧ m74.1 9 ≤ 4000 := Tm74.1 9
      have g82 : 0 ≤ m74.1 10 ∧ m74.1 10 ≤ 8 := Tm74.1 10
      have g83 : (-1) ≤ m74.1 11 ∧ m74.1 11 ≤ 4000 := Tm74.1 11
      replace h75 : LxP (m74.1 7) (m74.1 8) (m74.1 9) (m60.1 6) (m74.1 10) := h75
      rewrite [(show (m60.1 6) = (m.1 6) from (fr1 Fm60 6 rfl))] at h75
      replace h76 : (m74.1 10) = 0 → (m60.1 10) = 0 := h76
      replace h77 : (m60.1 8) ≤ (m74.1 8) := h77
      rewrite [(show (m60.1 8) = (m.1 8) from (fr1 Fm60 8 rfl))] at h77
      replace h78 : (m74.1 10) = 0 → (m60.1 8) + (m60.1 9) ≤ (m74.1 8) := h78
      rewrite [(show (m60.1 8) = (m.1 8) from (fr1 Fm60 8 rfl)), (show (m60.1 9) = (m.1 9) from (fr1 Fm60 9 rfl))] at h78
      have hf84 : 1 ≤ (m74.1 10) := by omega
      clear h76
      clear h78
      have hLx := h75
      clear q69_10 q69_11 ic66
      exact J86_48 v58 v59 (mO m74 [] []) (r32 (by omega) (by omega)) (r32 (by omega) (by omega)) Tm74 (fr_m (fr_s Fm74 (fr_m (fr_s Fm60 (fr_m fr_0 rfl rfl) rfl rfl) rfl rfl) rfl rfl) rfl rfl) (show (-2147483648) ≤ v58 by omega) (show v58 ≤ 2147483647 by omega) (show 1 ≤ (m74.1 10) by omega)
    refine T_ld 1 (.ref 189) rfl (fun _ => rfl) ?_
    refine T_ld 2 (.int (i32 1)) rfl (fun _ => rfl) ?_
    refine T_pf (l' := [(100, 1)]) 5 1 rfl rfl rfl rfl rfl rfl ?_
    refine T_gf 9 (.int (i32 (m.1 10))) rfl rfl rfl rfl rfl rfl ?_
    refine T_if 14 12 rfl rfl rfl (r32 (by omega) (by omega)) (fun (h85 : (m.1 10) ≤ 0) => ?_) (fun (h85 : ¬ ((m.1 10) ≤ 0)) => by exfalso; omega)
    refine T_gf 18 (.int (i32 (m.1 7))) rfl rfl rfl rfl rfl rfl ?_
    refine T_ld 19 (.int (i32 1)) rfl (fun _ => rfl) ?_
    refine T_icmp 28 22 rfl rfl rfl (r32 (by omega) (by omega)) ⟨by decide, by decide⟩ (fun (h86 : (m.1 7) = 1) => ?_) (fun (h86 : ¬ ((m.1 7) = 1)) => ?_)
    · skip
      refine T_ld 29 (.ref 189) rfl (fun _ => rfl) ?_
      refine T_call 32 227 [.ref 189] [] rfl (fun _ => rfl) rfl (d_sortHere w (mO m [(100, 1)] []) c N D (by omega) (Ty_mO hT rfl rfl ⟨⟨(by omega : (0 : Int) ≤ 1), (by omega : (1 : Int) ≤ 64)⟩, trivial⟩ trivial) (show 1 ≤ (m.1 9) ∧ (m.1 8) + (m.1 9) ≤ (m.1 6) by first | omega | (have h8 := hLx (by omega); omega)) (show ∀ k, (m.2 14) k + (m.2 15) k ≤ 4000 by first | exact hNM | exact p1)) (fun rr87 k88 => ?_)
      obtain ⟨so, g89, h90, h91, rfl⟩ := k88
      refine ⟨_, _, rfl, ?_⟩
      refine T_ns (st' := [.int (i32 so)]) rfl ?_
      obtain ⟨g89a, g89b⟩ := g89
      replace h90 : ∃ g k, isGH (m.2 4) (m.1 8) (m.1 9) g ∧ (g < 0 → isFH (m.2 4) (m.2 14) (m.2 15) (m.1 8) (m.1 9) (m.1 13) k) ∧ so = sortV (m.2 16) g k := h90
      have hSo := h90
      replace h91 : -1 ≤ so ∧ so ≤ 7 := h91
      have u92 : (m.1 8) ≤ (m.1 8) := by omega
      refine T_sto 33 [(1, .int (i32 so)), (0, .ref 189)] rfl (fun _ => rfl) ?_
      refine T_ld 34 (.int (i32 so)) rfl (fun _ => rfl) ?_
      refine T_ld 35 (.int (i32 3)) rfl (fun _ => rfl) ?_
      refine T_icmp 43 38 rfl rfl rfl (r32 (by omega) (by omega)) ⟨by decide, by decide⟩ (fun (h93 : so = 3) => ?_) (fun (h93 : ¬ (so = 3)) => ?_)
      · skip
        refine T_ld 44 (.ref 189) rfl (fun _ => rfl) ?_
        refine T_call 47 237 [.ref 189] [] rfl (fun _ => rfl) rfl (d_whichHere w (mO m [(100, 1)] []) c N D (by omega) (Ty_mO hT rfl rfl ⟨⟨(by omega : (0 : Int) ≤ 1), (by omega : (1 : Int) ≤ 64)⟩, trivial⟩ trivial) (show 1 ≤ (m.1 9) ∧ (m.1 8) + (m.1 9) ≤ (m.1 6) by first | omega | (have h8 := hLx (by omega); omega)) (show ∀ k, (m.2 14) k + (m.2 15) k ≤ 4000 by first | exact hNM | exact p1) (show ∀ g k, isGH (m.2 4) (m.1 8) (m.1 9) g → g < 0 → isFH (m.2 4) (m.2 14) (m.2 15) (m.1 8) (m.1 9) (m.1 13) k → 0 ≤ k by exact old_ok hSo (by omega))) (fun rr94 k95 => ?_)
        obtain ⟨wi, g96, h97, rfl⟩ := k95
        refine ⟨_, _, rfl, ?_⟩
        refine T_ns (st' := [.int (i32 wi)]) rfl ?_
        obtain ⟨g96a, g96b⟩ := g96
        replace h97 : ∃ g k, isGH (m.2 4) (m.1 8) (m.1 9) g ∧ (g < 0 → isFH (m.2 4) (m.2 14) (m.2 15) (m.1 8) (m.1 9) (m.1 13) k) ∧ wi = whichV (m.2 17) g k := h97
        have hWi := h97
        have u98 : (m.1 8) ≤ (m.1 8) := by omega
        have hw3 : so = 3 → 0 ≤ wi ∧ wi < (m.1 21) := fun h => old_rg hSo hWi h (by omega) (by omega) (PNl_3 pPN) (fun _ => pPN.2.1)
        have hw2 : so = 2 → 0 ≤ wi ∧ wi < (m.1 20) := fun h => old_rg hSo hWi h (by omega) (by omega) (PNl_2 pPN) (fun h => by omega)
        refine T_goto 51 rfl (fun _ => rfl) ?_
        refine T_sto 52 [(2, .int (i32 wi)), (1, .int (i32 so)), (0, .ref 189)] rfl (fun _ => rfl) ?_
        refine T_ld 53 (.int (i32 so)) rfl (fun _ => rfl) ?_
        refine T_ld 54 (.int (i32 3)) rfl (fun _ => rfl) ?_
        refine T_icmp 62 57 rfl rfl rfl (r32 (by omega) (by omega)) ⟨by decide, by decide⟩ (fun (h99 : so = 3) => ?_) (fun (h99 : ¬ (so = 3)) => by exfalso; omega)
        refine T_ld 63 (.int (i32 so)) rfl (fun _ => rfl) ?_
        refine T_ld 64 (.int (i32 3)) rfl (fun _ => rfl) ?_
        refine T_icmp 82 67 rfl rfl rfl (r32 (by omega) (by omega)) ⟨by decide, by decide⟩ (fun (h100 : so ≠ 3) => by exfalso; omega) (fun (h100 : ¬ (so ≠ 3)) => ?_)
        refine T_ld 68 (.int (i32 wi)) rfl (fun _ => rfl) ?_
        refine T_ld 69 (.int (i32 2)) rfl (fun _ => rfl) ?_
        refine T_icmp 82 72 rfl rfl rfl (r32 (by omega) (by omega)) ⟨by decide, by decide⟩ (fun (h101 : (2 : Int) ≤ wi) => ?_) (fun (h101 : ¬ ((2 : Int) ≤ wi)) => ?_)
        · skip
          refine T_ld 83 (.ref 189) rfl (fun _ => rfl) ?_
          refine T_call 86 212 [.ref 189] [] rfl (fun _ => rfl) rfl (d_next w (mO m [(100, 1)] []) c N D (by omega) (Ty_mO hT rfl rfl ⟨⟨(by omega : (0 : Int) ≤ 1), (by omega : (1 : Int) ≤ 64)⟩, trivial⟩ trivial) (show (m.1 10) = 0 → (m.1 8) + (m.1 9) ≤ (m.1 6) by first | omega | (intro h9; have h8 := hLx h9; omega))) (fun rr102 k103 => ?_)
          obtain ⟨m104, Tm104, Fm104, h105, h106, h107, h108, rfl⟩ := k103
          refine ⟨_, _, rfl, ?_⟩
          refine T_nb (st' := []) rfl ?_
          have g109 : 0 ≤ m104.1 7 ∧ m104.1 7 ≤ 330 := Tm104.1 7
          have g110 : 0 ≤ m104.1 8 ∧ m104.1 8 ≤ 4000 := Tm104.1 8
          have g111 : 0 ≤ m104.1 9 ∧ m104.1 9 ≤ 4000 := Tm104.1 9
          have g112 : 0 ≤ m104.1 10 ∧ m104.1 10 ≤ 8 := Tm104.1 10
          have g113 : (-1) ≤ m104.1 11 ∧ m104.1 11 ≤ 4000 := Tm104.1 11
          by_cases hf114 : (m104.1 10) = 0
          · skip
            replace h105 : LxP (m104.1 7) (m104.1 8) (m104.1 9) (m.1 6) (m104.1 10) := h105
            have hLx := h105
            replace h106 : (m.1 10) = 0 := h106 hf114
            replace h107 : (m.1 8) ≤ (m104.1 8) := h107
            replace h108 : (m.1 8) + (m.1 9) ≤ (m104.1 8) := h108 hf114
            have u115 : (m.1 8) + 1 ≤ (m104.1 8) := by omega
            refine T_gf 90 (.int (i32 (m104.1 10))) rfl rfl rfl rfl rfl rfl ?_
            refine T_if 95 93 rfl rfl rfl (r32 (by omega) (by omega)) (fun (h116 : (m104.1 10) ≤ 0) => ?_) (fun (h116 : ¬ ((m104.1 10) ≤ 0)) => by exfalso; omega)
            refine T_ld 96 (.int (i32 so)) rfl (fun _ => rfl) ?_
            refine T_ld 97 (.int (i32 3)) rfl (fun _ => rfl) ?_
            refine T_icmp 112 100 rfl rfl rfl (r32 (by omega) (by omega)) ⟨by decide, by decide⟩ (fun (h117 : so ≠ 3) => by exfalso; omega) (fun (h117 : ¬ (so ≠ 3)) => ?_)
            refine T_ld 101 (.ref 189) rfl (fun _ => rfl) ?_
            refine T_gf 105 (.ref 205) rfl rfl rfl rfl rfl rfl ?_
            refine T_ld 106 (.int (i32 wi)) rfl (fun _ => rfl) ?_
            refine T_iald 107 35 (m.2 35) rfl rfl rfl (by omega) (show wi < (16 : Int) by omega) (show (m104.2 35) = (m.2 35) from (fr2 Fm104 35 rfl)) ?_
            have e118 : 0 ≤ m.2 35 wi ∧ m.2 35 wi ≤ 64 := hT.2.1 35 wi
            refine T_pf (l' := [(100, (m.2 35) wi)]) 110 ((m.2 35) wi) rfl rfl rfl rfl rfl rfl ?_
            have g119 : 0 ≤ (m.2 35) wi ∧ (m.2 35) wi ≤ 64 := ⟨by omega, by omega⟩
            refine T_ld 111 (.int (i32 wi)) rfl (fun _ => rfl) ?_
            refine T_ret rfl (fun _ => rfl) ?_
            exact ⟨(mO m104 [(100, (m.2 35) wi)] []), wi, (Ty_mO Tm104 rfl rfl ⟨g119, trivial⟩ trivial), (fr_m (fr_s Fm104 (fr_m fr_0 rfl rfl) rfl rfl) rfl rfl), ⟨by omega, by omega⟩, (show (m104.1 10) = 0 → (m.1 10) = 0 by omega), (show LxP (m104.1 7) (m104.1 8) (m104.1 9) (m.1 6) (m104.1 10) by first | (first | exact hLx | exact (fun _ => hLx (by omega)) | (intro h9; exfalso; omega)) | (exfalso; omega)), (fun _ => (show (m.1 8) + 1 ≤ (m104.1 8) by omega)), rfl⟩
          · skip
            replace h105 : LxP (m104.1 7) (m104.1 8) (m104.1 9) (m.1 6) (m104.1 10) := h105
            have hLx := h105
            clear h106
            replace h107 : (m.1 8) ≤ (m104.1 8) := h107
            clear h108
            have hf120 : 1 ≤ (m104.1 10) := by omega
            refine Tm_lv (a := [(0, .ref 189), (1, .int (i32 so)), (2, .int (i32 wi))]) rfl rfl ⟨rfl, rfl, rfl, trivial⟩ ?_
            exact J86_48 so wi (mO m104 [] []) (r32 (by omega) (by omega)) (r32 (by omega) (by omega)) Tm104 (fr_m (fr_s Fm104 (fr_m fr_0 rfl rfl) rfl rfl) rfl rfl) (show (-2147483648) ≤ so by omega) (show so ≤ 2147483647 by omega) (show 1 ≤ (m104.1 10) by omega)
        · skip
          refine T_ld 73 (.ref 189) rfl (fun _ => rfl) ?_
          refine T_ld 75 (.int (i32 6)) rfl (fun _ => rfl) ?_
          refine T_gf 79 (.int (i32 (m.1 8))) rfl rfl rfl rfl rfl rfl ?_
          refine T_call 82 222 [.ref 189, .int (i32 6), .int (i32 (m.1 8))] [] rfl (fun _ => rfl) rfl (d_wrong w (mO m [(100, 1)] []) c N D (by omega) (Ty_mO hT rfl rfl ⟨⟨(by omega : (0 : Int) ≤ 1), (by omega : (1 : Int) ≤ 64)⟩, trivial⟩ trivial) 6 (m.1 8) ⟨by decide, by decide⟩ (r32 (by omega) (by omega)) (show 1 ≤ (6 : Int) ∧ (6 : Int) ≤ 8 by omega) (show 0 ≤ (m.1 8) ∧ (m.1 8) ≤ 4000 by omega)) (fun rr121 k122 => ?_)
          obtain ⟨m123, Tm123, Fm123, h124, rfl⟩ := k122
          refine ⟨_, _, rfl, ?_⟩
          refine T_nb (st' := []) rfl ?_
          have g125 : 0 ≤ m123.1 10 ∧ m123.1 10 ≤ 8 := Tm123.1 10
          have g126 : (-1) ≤ m123.1 11 ∧ m123.1 11 ≤ 4000 := Tm123.1 11
          replace h124 : (0 < (m.1 10) → (m123.1 10) = (m.1 10) ∧ (m123.1 11) = (m.1 11)) ∧ ((m.1 10) ≤ 0 → (m123.1 10) = (6 : Int) ∧ (m123.1 11) = (m.1 8)) := h124
          have hf127 : 1 ≤ (m123.1 10) := by omega
          refine Tm_lv (a := [(0, .ref 189), (1, .int (i32 so)), (2, .int (i32 wi))]) rfl rfl ⟨rfl, rfl, rfl, trivial⟩ ?_
          exact J82_61 so wi (mO m123 [] []) (r32 (by omega) (by omega)) (r32 (by omega) (by omega)) Tm123 (fr_m (fr_s Fm123 (fr_m fr_0 rfl rfl) rfl rfl) rfl rfl) (show (-2147483648) ≤ so by omega) (show so ≤ 2147483647 by omega) (show (-2147483648) ≤ wi by omega) (show wi ≤ 1 by omega) (show 1 ≤ (m123.1 10) by omega)
      · skip
        refine T_ld 39 (.int (i32 so)) rfl (fun _ => rfl) ?_
        refine T_ld 40 (.int (i32 2)) rfl (fun _ => rfl) ?_
        refine T_icmp 50 43 rfl rfl rfl (r32 (by omega) (by omega)) ⟨by decide, by decide⟩ (fun (h128 : so ≠ 2) => ?_) (fun (h128 : ¬ (so ≠ 2)) => ?_)
        · skip
          refine T_ld 51 (.int (i32 0)) rfl (fun _ => rfl) ?_
          refine T_sto 52 [(2, .int (i32 0)), (1, .int (i32 so)), (0, .ref 189)] rfl (fun _ => rfl) ?_
          refine T_ld 53 (.int (i32 so)) rfl (fun _ => rfl) ?_
          refine T_ld 54 (.int (i32 3)) rfl (fun _ => rfl) ?_
          refine T_icmp 62 57 rfl rfl rfl (r32 (by omega) (by omega)) ⟨by decide, by decide⟩ (fun (h129 : so = 3) => ?_) (fun (h129 : ¬ (so = 3)) => ?_)
          · skip
            refine T_ld 63 (.int (i32 so)) rfl (fun _ => rfl) ?_
            refine T_ld 64 (.int (i32 3)) rfl (fun _ => rfl) ?_
            refine T_icmp 82 67 rfl rfl rfl (r32 (by omega) (by omega)) ⟨by decide, by decide⟩ (fun (h130 : so ≠ 3) => by exfalso; omega) (fun (h130 : ¬ (so ≠ 3)) => ?_)
            refine T_ld 68 (.int (i32 0)) rfl (fun _ => rfl) ?_
            refine T_ld 69 (.int (i32 2)) rfl (fun _ => rfl) ?_
            refine T_icmp 82 72 rfl rfl rfl ⟨by decide, by decide⟩ ⟨by decide, by decide⟩ (fun h131 => absurd (show (2 : Int) ≤ 0 from h131) (by decide)) (fun _ => ?_)
            refine T_ld 73 (.ref 189) rfl (fun _ => rfl) ?_
            refine T_ld 75 (.int (i32 6)) rfl (fun _ => rfl) ?_
            refine T_gf 79 (.int (i32 (m.1 8))) rfl rfl rfl rfl rfl rfl ?_
            refine T_call 82 222 [.ref 189, .int (i32 6), .int (i32 (m.1 8))] [] rfl (fun _ => rfl) rfl (d_wrong w (mO m [(100, 1)] []) c N D (by omega) (Ty_mO hT rfl rfl ⟨⟨(by omega : (0 : Int) ≤ 1), (by omega : (1 : Int) ≤ 64)⟩, trivial⟩ trivial) 6 (m.1 8) ⟨by decide, by decide⟩ (r32 (by omega) (by omega)) (show 1 ≤ (6 : Int) ∧ (6 : Int) ≤ 8 by omega) (show 0 ≤ (m.1 8) ∧ (m.1 8) ≤ 4000 by omega)) (fun rr132 k133 => ?_)
            obtain ⟨m134, Tm134, Fm134, h135, rfl⟩ := k133
            refine ⟨_, _, rfl, ?_⟩
            refine T_nb (st' := []) rfl ?_
            have g136 : 0 ≤ m134.1 10 ∧ m134.1 10 ≤ 8 := Tm134.1 10
            have g137 : (-1) ≤ m134.1 11 ∧ m134.1 11 ≤ 4000 := Tm134.1 11
            replace h135 : (0 < (m.1 10) → (m134.1 10) = (m.1 10) ∧ (m134.1 11) = (m.1 11)) ∧ ((m.1 10) ≤ 0 → (m134.1 10) = (6 : Int) ∧ (m134.1 11) = (m.1 8)) := h135
            have hf138 : 1 ≤ (m134.1 10) := by omega
            refine Tm_lv (a := [(0, .ref 189), (1, .int (i32 so)), (2, .int (i32 0))]) rfl rfl ⟨rfl, rfl, rfl, trivial⟩ ?_
            exact J82_61 so 0 (mO m134 [] []) (r32 (by omega) (by omega)) ⟨by decide, by decide⟩ Tm134 (fr_m (fr_s Fm134 (fr_m fr_0 rfl rfl) rfl rfl) rfl rfl) (show (-2147483648) ≤ so by omega) (show so ≤ 2147483647 by omega) (show (-2147483648) ≤ (0 : Int) by omega) (show (0 : Int) ≤ 1 by omega) (show 1 ≤ (m134.1 10) by omega)
          · skip
            refine T_ld 58 (.int (i32 so)) rfl (fun _ => rfl) ?_
            refine T_ld 59 (.int (i32 2)) rfl (fun _ => rfl) ?_
            refine T_icmp 72 62 rfl rfl rfl (r32 (by omega) (by omega)) ⟨by decide, by decide⟩ (fun (h139 : so ≠ 2) => ?_) (fun (h139 : ¬ (so ≠ 2)) => ?_)
            · skip
              refine T_ld 73 (.ref 189) rfl (fun _ => rfl) ?_
              refine T_ld 75 (.int (i32 6)) rfl (fun _ => rfl) ?_
              refine T_gf 79 (.int (i32 (m.1 8))) rfl rfl rfl rfl rfl rfl ?_
              refine T_call 82 222 [.ref 189, .int (i32 6), .int (i32 (m.1 8))] [] rfl (fun _ => rfl) rfl (d_wrong w (mO m [(100, 1)] []) c N D (by omega) (Ty_mO hT rfl rfl ⟨⟨(by omega : (0 : Int) ≤ 1), (by omega : (1 : Int) ≤ 64)⟩, trivial⟩ trivial) 6 (m.1 8) ⟨by decide, by decide⟩ (r32 (by omega) (by omega)) (show 1 ≤ (6 : Int) ∧ (6 : Int) ≤ 8 by omega) (show 0 ≤ (m.1 8) ∧ (m.1 8) ≤ 4000 by omega)) (fun rr140 k141 => ?_)
              obtain ⟨m142, Tm142, Fm142, h143, rfl⟩ := k141
              refine ⟨_, _, rfl, ?_⟩
              refine T_nb (st' := []) rfl ?_
              have g144 : 0 ≤ m142.1 10 ∧ m142.1 10 ≤ 8 := Tm142.1 10
              have g145 : (-1) ≤ m142.1 11 ∧ m142.1 11 ≤ 4000 := Tm142.1 11
              replace h143 : (0 < (m.1 10) → (m142.1 10) = (m.1 10) ∧ (m142.1 11) = (m.1 11)) ∧ ((m.1 10) ≤ 0 → (m142.1 10) = (6 : Int) ∧ (m142.1 11) = (m.1 8)) := h143
              have hf146 : 1 ≤ (m142.1 10) := by omega
              refine Tm_lv (a := [(0, .ref 189), (1, .int (i32 so)), (2, .int (i32 0))]) rfl rfl ⟨rfl, rfl, rfl, trivial⟩ ?_
              exact J82_61 so 0 (mO m142 [] []) (r32 (by omega) (by omega)) ⟨by decide, by decide⟩ Tm142 (fr_m (fr_s Fm142 (fr_m fr_0 rfl rfl) rfl rfl) rfl rfl) (show (-2147483648) ≤ so by omega) (show so ≤ 2147483647 by omega) (show (-2147483648) ≤ (0 : Int) by omega) (show (0 : Int) ≤ 1 by omega) (show 1 ≤ (m142.1 10) by omega)
            · skip
              refine T_ld 63 (.int (i32 so)) rfl (fun _ => rfl) ?_
              refine T_ld 64 (.int (i32 3)) rfl (fun _ => rfl) ?_
              refine T_icmp 82 67 rfl rfl rfl (r32 (by omega) (by omega)) ⟨by decide, by decide⟩ (fun (h147 : so ≠ 3) => ?_) (fun (h147 : ¬ (so ≠ 3)) => by exfalso; omega)
              refine T_ld 83 (.ref 189) rfl (fun _ => rfl) ?_
              refine T_call 86 212 [.ref 189] [] rfl (fun _ => rfl) rfl (d_next w (mO m [(100, 1)] []) c N D (by omega) (Ty_mO hT rfl rfl ⟨⟨(by omega : (0 : Int) ≤ 1), (by omega : (1 : Int) ≤ 64)⟩, trivial⟩ trivial) (show (m.1 10) = 0 → (m.1 8) + (m.1 9) ≤ (m.1 6) by first | omega | (intro h9; have h8 := hLx h9; omega))) (fun rr148 k149 => ?_)
              obtain ⟨m150, Tm150, Fm150, h151, h152, h153, h154, rfl⟩ := k149
              refine ⟨_, _, rfl, ?_⟩
              refine T_nb (st' := []) rfl ?_
              have g155 : 0 ≤ m150.1 7 ∧ m150.1 7 ≤ 330 := Tm150.1 7
              have g156 : 0 ≤ m150.1 8 ∧ m150.1 8 ≤ 4000 := Tm150.1 8
              have g157 : 0 ≤ m150.1 9 ∧ m150.1 9 ≤ 4000 := Tm150.1 9
              have g158 : 0 ≤ m150.1 10 ∧ m150.1 10 ≤ 8 := Tm150.1 10
              have g159 : (-1) ≤ m150.1 11 ∧ m150.1 11 ≤ 4000 := Tm150.1 11
              by_cases hf160 : (m150.1 10) = 0
              · skip
                replace h151 : LxP (m150.1 7) (m150.1 8) (m150.1 9) (m.1 6) (m150.1 10) := h151
                have hLx := h151
                replace h152 : (m.1 10) = 0 := h152 hf160
                replace h153 : (m.1 8) ≤ (m150.1 8) := h153
                replace h154 : (m.1 8) + (m.1 9) ≤ (m150.1 8) := h154 hf160
                have u161 : (m.1 8) + 1 ≤ (m150.1 8) := by omega
                refine T_gf 90 (.int (i32 (m150.1 10))) rfl rfl rfl rfl rfl rfl ?_
                refine T_if 95 93 rfl rfl rfl (r32 (by omega) (by omega)) (fun (h162 : (m150.1 10) ≤ 0) => ?_) (fun (h162 : ¬ ((m150.1 10) ≤ 0)) => by exfalso; omega)
                refine T_ld 96 (.int (i32 so)) rfl (fun _ => rfl) ?_
                refine T_ld 97 (.int (i32 3)) rfl (fun _ => rfl) ?_
                refine T_icmp 112 100 rfl rfl rfl (r32 (by omega) (by omega)) ⟨by decide, by decide⟩ (fun (h163 : so ≠ 3) => ?_) (fun (h163 : ¬ (so ≠ 3)) => by exfalso; omega)
                refine T_ld 113 (.ref 189) rfl (fun _ => rfl) ?_
                refine T_ld 115 (.int (i32 46)) rfl (fun _ => rfl) ?_
                refine T_call 118 232 [.ref 189, .int (i32 46)] [] rfl (fun _ => rfl) rfl (d_need w (mO m150 [] []) c N D (by omega) Tm150 46 ⟨by decide, by decide⟩ (show 1 ≤ (46 : Int) by omega) (show LxP (m150.1 7) (m150.1 8) (m150.1 9) (m150.1 6) (m150.1 10) by rewrite [(show (m150.1 6) = (m.1 6) from (fr1 Fm150 6 rfl))]; first | exact hLx | (intro h9; exfalso; omega) | (intro h9; have h8 := hLx (by omega); omega))) (fun rr164 k165 => ?_)
                obtain ⟨m166, Tm166, Fm166, h167, h168, h169, h170, rfl⟩ := k165
                refine ⟨_, _, rfl, ?_⟩
                refine T_nb (st' := []) rfl ?_
                have g171 : 0 ≤ m166.1 7 ∧ m166.1 7 ≤ 330 := Tm166.1 7
                have g172 : 0 ≤ m166.1 8 ∧ m166.1 8 ≤ 4000 := Tm166.1 8
                have g173 : 0 ≤ m166.1 9 ∧ m166.1 9 ≤ 4000 := Tm166.1 9
                have g174 : 0 ≤ m166.1 10 ∧ m166.1 10 ≤ 8 := Tm166.1 10
                have g175 : (-1) ≤ m166.1 11 ∧ m166.1 11 ≤ 4000 := Tm166.1 11
                by_cases hf176 : (m166.1 10) = 0
                · skip
                  replace h167 : LxP (m166.1 7) (m166.1 8) (m166.1 9) (m150.1 6) (m166.1 10) := h167
                  rewrite [(show (m150.1 6) = (m.1 6) from (fr1 Fm150 6 rfl))] at h167
                  have hLx := h167
                  replace h168 : (m150.1 10) = 0 ∧ (m150.1 7) = (46 : Int) := h168 hf176
                  replace h169 : (m150.1 8) ≤ (m166.1 8) := h169
                  replace h170 : (m150.1 8) + (m150.1 9) ≤ (m166.1 8) := h170 hf176
                  have u177 : (m.1 8) + 1 ≤ (m166.1 8) := by omega
                  clear g155 g156 g157 g158 g159 h151 h153 h154 u161 h162 h168 h169 h170
                  refine T_ld 119 (.ref 189) rfl (fun _ => rfl) ?_
                  refine T_ld 120 (.int (i32 0)) rfl (fun _ => rfl) ?_
                  refine T_call 123 253 [.ref 189, .int (i32 0)] [] rfl (fun _ => rfl) rfl (c_takeField w (mO m166 [] []) c N D (by omega) Tm166 0 ⟨by decide, by decide⟩ (show LxP (m166.1 7) (m166.1 8) (m166.1 9) (m166.1 6) (m166.1 10) by rewrite [(show (m166.1 6) = (m.1 6) from ((fr1 Fm166 6 rfl).trans (fr1 Fm150 6 rfl)))]; first | exact hLx | exact (fun _ => hLx (by omega)) | (intro h9; exfalso; omega)) (show ∀ k, (m166.2 31) k + (m166.2 32) k ≤ 4000 by rewrite [(show (m166.2 31) = (m.2 31) from ((fr2 Fm166 31 rfl).trans (fr2 Fm150 31 rfl))), (show (m166.2 32) = (m.2 32) from ((fr2 Fm166 32 rfl).trans (fr2 Fm150 32 rfl)))]; assumption) (show 0 ≤ (0 : Int) ∧ (0 : Int) ≤ 11 by omega) (fun _ => trivial)) (fun rr178 k179 => ?_)
                  obtain ⟨m180, tf, Tm180, Fm180, g181, h182, h183, c184, rfl⟩ := k179
                  refine ⟨_, _, rfl, ?_⟩
                  refine T_nb (st' := [.int (i32 tf)]) rfl ?_
                  obtain ⟨g181a, g181b⟩ := g181
                  have g185 : 0 ≤ m180.1 7 ∧ m180.1 7 ≤ 330 := Tm180.1 7
                  have g186 : 0 ≤ m180.1 8 ∧ m180.1 8 ≤ 4000 := Tm180.1 8
                  have g187 : 0 ≤ m180.1 9 ∧ m180.1 9 ≤ 4000 := Tm180.1 9
                  have g188 : 0 ≤ m180.1 10 ∧ m180.1 10 ≤ 8 := Tm180.1 10
                  have g189 : (-1) ≤ m180.1 11 ∧ m180.1 11 ≤ 4000 := Tm180.1 11
                  by_cases hf190 : (m180.1 10) = 0
                  · skip
                    replace h182 : (m166.1 10) = 0 := h182 hf190
                    replace h183 : LxP (m180.1 7) (m180.1 8) (m180.1 9) (m166.1 6) (m180.1 10) := h183
                    rewrite [(show (m166.1 6) = (m.1 6) from ((fr1 Fm166 6 rfl).trans (fr1 Fm150 6 rfl)))] at h183
                    have hLx := h183
                    obtain ⟨c191, c192⟩ := c184 hf190
                    replace c191 : (m166.1 8) + 1 ≤ (m180.1 8) := c191
                    replace c192 : (m166.1 7) = 1 := c192
                    clear c184
                    have u193 : (m.1 8) + 1 ≤ (m180.1 8) := by omega
                    clear g171 g172 g173 g174 g175 h167 u177 h182 c191 c192
                    refine T_sto 124 [(3, .int (i32 tf)), (2, .int (i32 0)), (1, .int (i32 so)), (0, .ref 189)] rfl (fun _ => rfl) ?_
                    refine T_gf 128 (.int (i32 (m180.1 10))) rfl rfl rfl rfl rfl rfl ?_
                    refine T_if 133 131 rfl rfl rfl (r32 (by omega) (by omega)) (fun (h194 : (m180.1 10) ≤ 0) => ?_) (fun (h194 : ¬ ((m180.1 10) ≤ 0)) => by exfalso; omega)
                    refine T_ld 134 (.ref 189) rfl (fun _ => rfl) ?_
                    refine T_ld 135 (.ref 189) rfl (fun _ => rfl) ?_
                    refine T_ld 136 (.int (i32 tf)) rfl (fun _ => rfl) ?_
                    refine T_call 139 254 [.ref 189, .int (i32 tf)] [.ref 189] rfl (fun _ => rfl) rfl (c_bitsOfField w (mO m180 [] []) c N D (by omega) Tm180 tf (r32 (by omega) (by omega)) (show 0 ≤ tf ∧ tf ≤ 191 by omega)) (fun rr195 k196 => ?_)
                    obtain ⟨x197, g198, rfl⟩ := k196
                    refine ⟨_, _, rfl, ?_⟩
                    refine T_ns (st' := [.int (i32 x197), .ref 189]) rfl ?_
                    obtain ⟨g198a, g198b⟩ := g198
                    have u199 : (m.1 8) + 1 ≤ (m180.1 8) := by omega
                    refine T_pf (l' := [(100, x197)]) 142 x197 rfl rfl rfl rfl rfl rfl ?_
                    have g200 : 0 ≤ x197 ∧ x197 ≤ 64 := ⟨by omega, by omega⟩
                    refine T_ld 144 (.int (i32 16)) rfl (fun _ => rfl) ?_
                    refine T_ld 145 (.int (i32 tf)) rfl (fun _ => rfl) ?_
                    refine T_iadd 146 rfl rfl ?_
                    refine T_ret rfl (fun _ => rfl) ?_
                    exact ⟨(mO m180 [(100, x197)] []), 16 + tf, (Ty_mO Tm180 rfl rfl ⟨g200, trivial⟩ trivial), (fr_m (fr_s Fm180 (fr_m (fr_s Fm166 (fr_m (fr_s Fm150 (fr_m fr_0 rfl rfl) rfl rfl) rfl rfl) rfl rfl) rfl rfl) rfl rfl) rfl rfl), ⟨by omega, by omega⟩, (show (m180.1 10) = 0 → (m.1 10) = 0 by omega), (show LxP (m180.1 7) (m180.1 8) (m180.1 9) (m.1 6) (m180.1 10) by first | (first | exact hLx | exact (fun _ => hLx (by omega)) | (intro h9; exfalso; omega)) | (exfalso; omega)), (fun _ => (show (m.1 8) + 1 ≤ (m180.1 8) by omega)), rfl⟩
                  · skip
                    clear c184
                    clear h182
                    replace h183 : LxP (m180.1 7) (m180.1 8) (m180.1 9) (m166.1 6) (m180.1 10) := h183
                    rewrite [(show (m166.1 6) = (m.1 6) from ((fr1 Fm166 6 rfl).trans (fr1 Fm150 6 rfl)))] at h183
                    have hLx := h183
                    have hf201 : 1 ≤ (m180.1 10) := by omega
                    clear g171 g172 g173 g174 g175 h167 u177
                    refine Tm_lv (a := [(0, .ref 189)]) rfl rfl ⟨rfl, trivial⟩ ?_
                    exact J123_14 tf (mO m180 [] []) (r32 (by omega) (by omega)) Tm180 (fr_m (fr_s Fm180 (fr_m (fr_s Fm166 (fr_m (fr_s Fm150 (fr_m fr_0 rfl rfl) rfl rfl) rfl rfl) rfl rfl) rfl rfl) rfl rfl) rfl rfl) (show 0 ≤ tf by omega) (show tf ≤ 191 by omega) (show 1 ≤ (m180.1 10) by omega)
                · skip
                  replace h167 : LxP (m166.1 7) (m166.1 8) (m166.1 9) (m150.1 6) (m166.1 10) := h167
                  rewrite [(show (m150.1 6) = (m.1 6) from (fr1 Fm150 6 rfl))] at h167
                  have hLx := h167
                  clear h168
                  replace h169 : (m150.1 8) ≤ (m166.1 8) := h169
                  clear h170
                  have hf202 : 1 ≤ (m166.1 10) := by omega
                  clear g155 g156 g157 g158 g159 h151 h153 h154 u161 h162 h169
                  refine Tm_lv (a := [(0, .ref 189), (2, .int (i32 0))]) rfl rfl ⟨rfl, rfl, trivial⟩ ?_
                  exact J118_25 0 (mO m166 [] []) ⟨by decide, by decide⟩ Tm166 (fr_m (fr_s Fm166 (fr_m (fr_s Fm150 (fr_m fr_0 rfl rfl) rfl rfl) rfl rfl) rfl rfl) rfl rfl) (show 0 ≤ (0 : Int) ∧ (0 : Int) ≤ 11 by omega) (show 1 ≤ (m166.1 10) by omega)
              · skip
                replace h151 : LxP (m150.1 7) (m150.1 8) (m150.1 9) (m.1 6) (m150.1 10) := h151
                have hLx := h151
                clear h152
                replace h153 : (m.1 8) ≤ (m150.1 8) := h153
                clear h154
                have hf203 : 1 ≤ (m150.1 10) := by omega
                refine Tm_lv (a := [(0, .ref 189), (1, .int (i32 so)), (2, .int (i32 0))]) rfl rfl ⟨rfl, rfl, rfl, trivial⟩ ?_
                exact J86_48 so 0 (mO m150 [] []) (r32 (by omega) (by omega)) ⟨by decide, by decide⟩ Tm150 (fr_m (fr_s Fm150 (fr_m fr_0 rfl rfl) rfl rfl) rfl rfl) (show (-2147483648) ≤ so by omega) (show so ≤ 2147483647 by omega) (show 1 ≤ (m150.1 10) by omega)
        · skip
          refine T_ld 44 (.ref 189) rfl (fun _ => rfl) ?_
          refine T_call 47 237 [.ref 189] [] rfl (fun _ => rfl) rfl (d_whichHere w (mO m [(100, 1)] []) c N D (by omega) (Ty_mO hT rfl rfl ⟨⟨(by omega : (0 : Int) ≤ 1), (by omega : (1 : Int) ≤ 64)⟩, trivial⟩ trivial) (show 1 ≤ (m.1 9) ∧ (m.1 8) + (m.1 9) ≤ (m.1 6) by first | omega | (have h8 := hLx (by omega); omega)) (show ∀ k, (m.2 14) k + (m.2 15) k ≤ 4000 by first | exact hNM | exact p1) (show ∀ g k, isGH (m.2 4) (m.1 8) (m.1 9) g → g < 0 → isFH (m.2 4) (m.2 14) (m.2 15) (m.1 8) (m.1 9) (m.1 13) k → 0 ≤ k by exact old_ok hSo (by omega))) (fun rr204 k205 => ?_)
          obtain ⟨wi, g206, h207, rfl⟩ := k205
          refine ⟨_, _, rfl, ?_⟩
          refine T_ns (st' := [.int (i32 wi)]) rfl ?_
          obtain ⟨g206a, g206b⟩ := g206
          replace h207 : ∃ g k, isGH (m.2 4) (m.1 8) (m.1 9) g ∧ (g < 0 → isFH (m.2 4) (m.2 14) (m.2 15) (m.1 8) (m.1 9) (m.1 13) k) ∧ wi = whichV (m.2 17) g k := h207
          have hWi := h207
          have u208 : (m.1 8) ≤ (m.1 8) := by omega
          have hw3 : so = 3 → 0 ≤ wi ∧ wi < (m.1 21) := fun h => old_rg hSo hWi h (by omega) (by omega) (PNl_3 pPN) (fun _ => pPN.2.1)
          have hw2 : so = 2 → 0 ≤ wi ∧ wi < (m.1 20) := fun h => old_rg hSo hWi h (by omega) (by omega) (PNl_2 pPN) (fun h => by omega)
          refine T_goto 51 rfl (fun _ => rfl) ?_
          refine T_sto 52 [(2, .int (i32 wi)), (1, .int (i32 so)), (0, .ref 189)] rfl (fun _ => rfl) ?_
          refine T_ld 53 (.int (i32 so)) rfl (fun _ => rfl) ?_
          refine T_ld 54 (.int (i32 3)) rfl (fun _ => rfl) ?_
          refine T_icmp 62 57 rfl rfl rfl (r32 (by omega) (by omega)) ⟨by decide, by decide⟩ (fun (h209 : so = 3) => by exfalso; omega) (fun (h209 : ¬ (so = 3)) => ?_)
          refine T_ld 58 (.int (i32 so)) rfl (fun _ => rfl) ?_
          refine T_ld 59 (.int (i32 2)) rfl (fun _ => rfl) ?_
          refine T_icmp 72 62 rfl rfl rfl (r32 (by omega) (by omega)) ⟨by decide, by decide⟩ (fun (h210 : so ≠ 2) => by exfalso; omega) (fun (h210 : ¬ (so ≠ 2)) => ?_)
          refine T_ld 63 (.int (i32 so)) rfl (fun _ => rfl) ?_
          refine T_ld 64 (.int (i32 3)) rfl (fun _ => rfl) ?_
          refine T_icmp 82 67 rfl rfl rfl (r32 (by omega) (by omega)) ⟨by decide, by decide⟩ (fun (h211 : so ≠ 3) => ?_) (fun (h211 : ¬ (so ≠ 3)) => by exfalso; omega)
          refine T_ld 83 (.ref 189) rfl (fun _ => rfl) ?_
          refine T_call 86 212 [.ref 189] [] rfl (fun _ => rfl) rfl (d_next w (mO m [(100, 1)] []) c N D (by omega) (Ty_mO hT rfl rfl ⟨⟨(by omega : (0 : Int) ≤ 1), (by omega : (1 : Int) ≤ 64)⟩, trivial⟩ trivial) (show (m.1 10) = 0 → (m.1 8) + (m.1 9) ≤ (m.1 6) by first | omega | (intro h9; have h8 := hLx h9; omega))) (fun rr212 k213 => ?_)
          obtain ⟨m214, Tm214, Fm214, h215, h216, h217, h218, rfl⟩ := k213
          refine ⟨_, _, rfl, ?_⟩
          refine T_nb (st' := []) rfl ?_
          have g219 : 0 ≤ m214.1 7 ∧ m214.1 7 ≤ 330 := Tm214.1 7
          have g220 : 0 ≤ m214.1 8 ∧ m214.1 8 ≤ 4000 := Tm214.1 8
          have g221 : 0 ≤ m214.1 9 ∧ m214.1 9 ≤ 4000 := Tm214.1 9
          have g222 : 0 ≤ m214.1 10 ∧ m214.1 10 ≤ 8 := Tm214.1 10
          have g223 : (-1) ≤ m214.1 11 ∧ m214.1 11 ≤ 4000 := Tm214.1 11
          by_cases hf224 : (m214.1 10) = 0
          · skip
            replace h215 : LxP (m214.1 7) (m214.1 8) (m214.1 9) (m.1 6) (m214.1 10) := h215
            have hLx := h215
            replace h216 : (m.1 10) = 0 := h216 hf224
            replace h217 : (m.1 8) ≤ (m214.1 8) := h217
            replace h218 : (m.1 8) + (m.1 9) ≤ (m214.1 8) := h218 hf224
            have u225 : (m.1 8) + 1 ≤ (m214.1 8) := by omega
            refine T_gf 90 (.int (i32 (m214.1 10))) rfl rfl rfl rfl rfl rfl ?_
            refine T_if 95 93 rfl rfl rfl (r32 (by omega) (by omega)) (fun (h226 : (m214.1 10) ≤ 0) => ?_) (fun (h226 : ¬ ((m214.1 10) ≤ 0)) => by exfalso; omega)
            refine T_ld 96 (.int (i32 so)) rfl (fun _ => rfl) ?_
            refine T_ld 97 (.int (i32 3)) rfl (fun _ => rfl) ?_
            refine T_icmp 112 100 rfl rfl rfl (r32 (by omega) (by omega)) ⟨by decide, by decide⟩ (fun (h227 : so ≠ 3) => ?_) (fun (h227 : ¬ (so ≠ 3)) => by exfalso; omega)
            refine T_ld 113 (.ref 189) rfl (fun _ => rfl) ?_
            refine T_ld 115 (.int (i32 46)) rfl (fun _ => rfl) ?_
            refine T_call 118 232 [.ref 189, .int (i32 46)] [] rfl (fun _ => rfl) rfl (d_need w (mO m214 [] []) c N D (by omega) Tm214 46 ⟨by decide, by decide⟩ (show 1 ≤ (46 : Int) by omega) (show LxP (m214.1 7) (m214.1 8) (m214.1 9) (m214.1 6) (m214.1 10) by rewrite [(show (m214.1 6) = (m.1 6) from (fr1 Fm214 6 rfl))]; first | exact hLx | (intro h9; exfalso; omega) | (intro h9; have h8 := hLx (by omega); omega))) (fun rr228 k229 => ?_)
            obtain ⟨m230, Tm230, Fm230, h231, h232, h233, h234, rfl⟩ := k229
            refine ⟨_, _, rfl, ?_⟩
            refine T_nb (st' := []) rfl ?_
            have g235 : 0 ≤ m230.1 7 ∧ m230.1 7 ≤ 330 := Tm230.1 7
            have g236 : 0 ≤ m230.1 8 ∧ m230.1 8 ≤ 4000 := Tm230.1 8
            have g237 : 0 ≤ m230.1 9 ∧ m230.1 9 ≤ 4000 := Tm230.1 9
            have g238 : 0 ≤ m230.1 10 ∧ m230.1 10 ≤ 8 := Tm230.1 10
            have g239 : (-1) ≤ m230.1 11 ∧ m230.1 11 ≤ 4000 := Tm230.1 11
            by_cases hf240 : (m230.1 10) = 0
            · skip
              replace h231 : LxP (m230.1 7) (m230.1 8) (m230.1 9) (m214.1 6) (m230.1 10) := h231
              rewrite [(show (m214.1 6) = (m.1 6) from (fr1 Fm214 6 rfl))] at h231
              have hLx := h231
              replace h232 : (m214.1 10) = 0 ∧ (m214.1 7) = (46 : Int) := h232 hf240
              replace h233 : (m214.1 8) ≤ (m230.1 8) := h233
              replace h234 : (m214.1 8) + (m214.1 9) ≤ (m230.1 8) := h234 hf240
              have u241 : (m.1 8) + 1 ≤ (m230.1 8) := by omega
              clear g219 g220 g221 g222 g223 h215 h217 h218 u225 h226 h232 h233 h234
              refine T_ld 119 (.ref 189) rfl (fun _ => rfl) ?_
              refine T_ld 120 (.int (i32 wi)) rfl (fun _ => rfl) ?_
              refine T_call 123 253 [.ref 189, .int (i32 wi)] [] rfl (fun _ => rfl) rfl (c_takeField w (mO m230 [] []) c N D (by omega) Tm230 wi (r32 (by omega) (by omega)) (show LxP (m230.1 7) (m230.1 8) (m230.1 9) (m230.1 6) (m230.1 10) by rewrite [(show (m230.1 6) = (m.1 6) from ((fr1 Fm230 6 rfl).trans (fr1 Fm214 6 rfl)))]; first | exact hLx | exact (fun _ => hLx (by omega)) | (intro h9; exfalso; omega)) (show ∀ k, (m230.2 31) k + (m230.2 32) k ≤ 4000 by rewrite [(show (m230.2 31) = (m.2 31) from ((fr2 Fm230 31 rfl).trans (fr2 Fm214 31 rfl))), (show (m230.2 32) = (m.2 32) from ((fr2 Fm230 32 rfl).trans (fr2 Fm214 32 rfl)))]; assumption) (show 0 ≤ wi ∧ wi ≤ 11 by omega) (fun _ => trivial)) (fun rr242 k243 => ?_)
              obtain ⟨m244, tf, Tm244, Fm244, g245, h246, h247, c248, rfl⟩ := k243
              refine ⟨_, _, rfl, ?_⟩
              refine T_nb (st' := [.int (i32 tf)]) rfl ?_
              obtain ⟨g245a, g245b⟩ := g245
              have g249 : 0 ≤ m244.1 7 ∧ m244.1 7 ≤ 330 := Tm244.1 7
              have g250 : 0 ≤ m244.1 8 ∧ m244.1 8 ≤ 4000 := Tm244.1 8
              have g251 : 0 ≤ m244.1 9 ∧ m244.1 9 ≤ 4000 := Tm244.1 9
              have g252 : 0 ≤ m244.1 10 ∧ m244.1 10 ≤ 8 := Tm244.1 10
              have g253 : (-1) ≤ m244.1 11 ∧ m244.1 11 ≤ 4000 := Tm244.1 11
              by_cases hf254 : (m244.1 10) = 0
              · skip
                replace h246 : (m230.1 10) = 0 := h246 hf254
                replace h247 : LxP (m244.1 7) (m244.1 8) (m244.1 9) (m230.1 6) (m244.1 10) := h247
                rewrite [(show (m230.1 6) = (m.1 6) from ((fr1 Fm230 6 rfl).trans (fr1 Fm214 6 rfl)))] at h247
                have hLx := h247
                obtain ⟨c255, c256⟩ := c248 hf254
                replace c255 : (m230.1 8) + 1 ≤ (m244.1 8) := c255
                replace c256 : (m230.1 7) = 1 := c256
                clear c248
                have u257 : (m.1 8) + 1 ≤ (m244.1 8) := by omega
                clear g235 g236 g237 g238 g239 h231 u241 h246 c255 c256
                refine T_sto 124 [(3, .int (i32 tf)), (2, .int (i32 wi)), (1, .int (i32 so)), (0, .ref 189)] rfl (fun _ => rfl) ?_
                refine T_gf 128 (.int (i32 (m244.1 10))) rfl rfl rfl rfl rfl rfl ?_
                refine T_if 133 131 rfl rfl rfl (r32 (by omega) (by omega)) (fun (h258 : (m244.1 10) ≤ 0) => ?_) (fun (h258 : ¬ ((m244.1 10) ≤ 0)) => by exfalso; omega)
                refine T_ld 134 (.ref 189) rfl (fun _ => rfl) ?_
                refine T_ld 135 (.ref 189) rfl (fun _ => rfl) ?_
                refine T_ld 136 (.int (i32 tf)) rfl (fun _ => rfl) ?_
                refine T_call 139 254 [.ref 189, .int (i32 tf)] [.ref 189] rfl (fun _ => rfl) rfl (c_bitsOfField w (mO m244 [] []) c N D (by omega) Tm244 tf (r32 (by omega) (by omega)) (show 0 ≤ tf ∧ tf ≤ 191 by omega)) (fun rr259 k260 => ?_)
                obtain ⟨x261, g262, rfl⟩ := k260
                refine ⟨_, _, rfl, ?_⟩
                refine T_ns (st' := [.int (i32 x261), .ref 189]) rfl ?_
                obtain ⟨g262a, g262b⟩ := g262
                have u263 : (m.1 8) + 1 ≤ (m244.1 8) := by omega
                refine T_pf (l' := [(100, x261)]) 142 x261 rfl rfl rfl rfl rfl rfl ?_
                have g264 : 0 ≤ x261 ∧ x261 ≤ 64 := ⟨by omega, by omega⟩
                refine T_ld 144 (.int (i32 16)) rfl (fun _ => rfl) ?_
                refine T_ld 145 (.int (i32 tf)) rfl (fun _ => rfl) ?_
                refine T_iadd 146 rfl rfl ?_
                refine T_ret rfl (fun _ => rfl) ?_
                exact ⟨(mO m244 [(100, x261)] []), 16 + tf, (Ty_mO Tm244 rfl rfl ⟨g264, trivial⟩ trivial), (fr_m (fr_s Fm244 (fr_m (fr_s Fm230 (fr_m (fr_s Fm214 (fr_m fr_0 rfl rfl) rfl rfl) rfl rfl) rfl rfl) rfl rfl) rfl rfl) rfl rfl), ⟨by omega, by omega⟩, (show (m244.1 10) = 0 → (m.1 10) = 0 by omega), (show LxP (m244.1 7) (m244.1 8) (m244.1 9) (m.1 6) (m244.1 10) by first | (first | exact hLx | exact (fun _ => hLx (by omega)) | (intro h9; exfalso; omega)) | (exfalso; omega)), (fun _ => (show (m.1 8) + 1 ≤ (m244.1 8) by omega)), rfl⟩
              · skip
                clear c248
                clear h246
                replace h247 : LxP (m244.1 7) (m244.1 8) (m244.1 9) (m230.1 6) (m244.1 10) := h247
                rewrite [(show (m230.1 6) = (m.1 6) from ((fr1 Fm230 6 rfl).trans (fr1 Fm214 6 rfl)))] at h247
                have hLx := h247
                have hf265 : 1 ≤ (m244.1 10) := by omega
                clear g235 g236 g237 g238 g239 h231 u241
                refine Tm_lv (a := [(0, .ref 189)]) rfl rfl ⟨rfl, trivial⟩ ?_
                exact J123_14 tf (mO m244 [] []) (r32 (by omega) (by omega)) Tm244 (fr_m (fr_s Fm244 (fr_m (fr_s Fm230 (fr_m (fr_s Fm214 (fr_m fr_0 rfl rfl) rfl rfl) rfl rfl) rfl rfl) rfl rfl) rfl rfl) rfl rfl) (show 0 ≤ tf by omega) (show tf ≤ 191 by omega) (show 1 ≤ (m244.1 10) by omega)
            · skip
              replace h231 : LxP (m230.1 7) (m230.1 8) (m230.1 9) (m214.1 6) (m230.1 10) := h231
              rewrite [(show (m214.1 6) = (m.1 6) from (fr1 Fm214 6 rfl))] at h231
              have hLx := h231
              clear h232
              replace h233 : (m214.1 8) ≤ (m230.1 8) := h233
              clear h234
              have hf266 : 1 ≤ (m230.1 10) := by omega
              clear g219 g220 g221 g222 g223 h215 h217 h218 u225 h226 h233
              refine Tm_lv (a := [(0, .ref 189), (2, .int (i32 wi))]) rfl rfl ⟨rfl, rfl, trivial⟩ ?_
              exact J118_25 wi (mO m230 [] []) (r32 (by omega) (by omega)) Tm230 (fr_m (fr_s Fm230 (fr_m (fr_s Fm214 (fr_m fr_0 rfl rfl) rfl rfl) rfl rfl) rfl rfl) rfl rfl) (show 0 ≤ wi ∧ wi ≤ 11 by omega) (show 1 ≤ (m230.1 10) by omega)
          · skip
            replace h215 : LxP (m214.1 7) (m214.1 8) (m214.1 9) (m.1 6) (m214.1 10) := h215
            have hLx := h215
            clear h216
            replace h217 : (m.1 8) ≤ (m214.1 8) := h217
            clear h218
            have hf267 : 1 ≤ (m214.1 10) := by omega
            refine Tm_lv (a := [(0, .ref 189), (1, .int (i32 so)), (2, .int (i32 wi))]) rfl rfl ⟨rfl, rfl, rfl, trivial⟩ ?_
            exact J86_48 so wi (mO m214 [] []) (r32 (by omega) (by omega)) (r32 (by omega) (by omega)) Tm214 (fr_m (fr_s Fm214 (fr_m fr_0 rfl rfl) rfl rfl) rfl rfl) (show (-2147483648) ≤ so by omega) (show so ≤ 2147483647 by omega) (show 1 ≤ (m214.1 10) by omega)
    · skip
      refine T_ld 23 (.ref 189) rfl (fun _ => rfl) ?_
      refine T_call 26 226 [.ref 189] [] rfl (fun _ => rfl) rfl (d_bad w (mO m [(100, 1)] []) c N D (by omega) (Ty_mO hT rfl rfl ⟨⟨(by omega : (0 : Int) ≤ 1), (by omega : (1 : Int) ≤ 64)⟩, trivial⟩ trivial) ) (fun rr268 k269 => ?_)
      obtain ⟨m270, Tm270, Fm270, h271, rfl⟩ := k269
      refine ⟨_, _, rfl, ?_⟩
      refine T_nb (st' := []) rfl ?_
      have g272 : 0 ≤ m270.1 10 ∧ m270.1 10 ≤ 8 := Tm270.1 10
      have g273 : (-1) ≤ m270.1 11 ∧ m270.1 11 ≤ 4000 := Tm270.1 11
      replace h271 : (0 < (m.1 10) → (m270.1 10) = (m.1 10) ∧ (m270.1 11) = (m.1 11)) ∧ ((m.1 10) ≤ 0 → (m270.1 10) = 1 ∧ (m270.1 11) = (m.1 8)) := h271
      have hf274 : 1 ≤ (m270.1 10) := by omega
      refine T_ld 27 (.int (i32 0)) rfl (fun _ => rfl) ?_
      refine T_ret rfl (fun _ => rfl) ?_
      exact ⟨(mO m270 [] []), 0, Tm270, (fr_m (fr_s Fm270 (fr_m fr_0 rfl rfl) rfl rfl) rfl rfl), ⟨by omega, by omega⟩, (show (m270.1 10) = 0 → (m.1 10) = 0 by omega), (show LxP (m270.1 7) (m270.1 8) (m270.1 9) (m.1 6) (m270.1 10) by rewrite [(show (m270.1 7) = (m.1 7) from (fr1 Fm270 7 rfl)), (show (m270.1 8) = (m.1 8) from (fr1 Fm270 8 rfl)), (show (m270.1 9) = (m.1 9) from (fr1 Fm270 9 rfl))]; first | (first | exact hLx | exact (fun _ => hLx (by omega)) | (intro h9; exfalso; omega)) | (exfalso; omega)), (fun (h : (m270.1 10) = 0) => absurd h (by omega)), rfl⟩
  · skip
    clear hC
    refine T_ld 1 (.ref 189) rfl (fun _ => rfl) ?_
    refine T_ld 2 (.int (i32 1)) rfl (fun _ => rfl) ?_
    refine T_pf (l' := [(100, 1)]) 5 1 rfl rfl rfl rfl rfl rfl ?_
    refine T_gf 9 (.int (i32 (m.1 10))) rfl rfl rfl rfl rfl rfl ?_
    refine T_if 14 12 rfl rfl rfl (r32 (by omega) (by omega)) (fun (h275 : (m.1 10) ≤ 0) => by exfalso; omega) (fun (h275 : ¬ ((m.1 10) ≤ 0)) => ?_)
    refine T_ld 13 (.int (i32 0)) rfl (fun _ => rfl) ?_
    refine T_ret rfl (fun _ => rfl) ?_
    exact ⟨(mO m [(100, 1)] []), 0, (Ty_mO hT rfl rfl ⟨⟨(by omega : (0 : Int) ≤ 1), (by omega : (1 : Int) ≤ 64)⟩, trivial⟩ trivial), (fr_m fr_0 rfl rfl), ⟨by omega, by omega⟩, (show (m.1 10) = 0 → (m.1 10) = 0 by omega), (show LxP (m.1 7) (m.1 8) (m.1 9) (m.1 6) (m.1 10) by first | (first | exact hLx | exact (fun _ => hLx (by omega)) | (intro h9; exfalso; omega)) | (exfalso; omega)), (fun (h : (m.1 10) = 0) => absurd h (by omega)), rfl⟩
def Q_isStatement (m : mR) (c : Nat → Option am_C) (N : Nat) : ag_Re af_T → Prop := fun R => ∃ (r : Int), (0 ≤ r ∧ r ≤ 1) ∧ (r = 1 → (m.1 7) ≠ 0) ∧ R = (.inl (some (.int (i32 r))), (mhp m c, N), 0, 0)
set_option maxHeartbeats 3000000 in
theorem c_isStatement (w : wX) (m : mR) (c : Nat → Option am_C) (N D : Nat) (hD : 1 ≤ D) (hT : Ty m) : TC w D 269 [.ref 189] (mhp m c, N) (Q_isStatement m c N) := by
  obtain ⟨D, rfl⟩ : ∃ k, D = k + 1 := ⟨D - 1, by omega⟩
  have f7 : 0 ≤ m.1 7 ∧ m.1 7 ≤ 330 := hT.1 7
  refine Tc_of rfl ?_
  show TT w D pm_269 (0, [(0, .ref 189)], [], (mhp (mO m [] []) c, N), 0, 0) (Q_isStatement m c N)
  refine T_gf 4 (.int (i32 (m.1 7))) rfl rfl rfl rfl rfl rfl ?_
  refine T_ld 5 (.int (i32 1)) rfl (fun _ => rfl) ?_
  refine T_icmp 58 8 rfl rfl rfl (r32 (by omega) (by omega)) ⟨by decide, by decide⟩ (fun (h1 : (m.1 7) = 1) => ?_) (fun (h1 : ¬ ((m.1 7) = 1)) => ?_)
  · skip
    refine T_ld 59 (.int (i32 1)) rfl (fun _ => rfl) ?_
    refine T_goto 63 rfl (fun _ => rfl) ?_
    refine T_ret rfl (fun _ => rfl) ?_
    exact ⟨1, ⟨by omega, by omega⟩, (show (1 : Int) = 1 → (m.1 7) ≠ 0 by omega), rfl⟩
  · skip
    refine T_gf 12 (.int (i32 (m.1 7))) rfl rfl rfl rfl rfl rfl ?_
    refine T_ld 15 (.int (i32 327)) rfl (fun _ => rfl) ?_
    refine T_icmp 58 18 rfl rfl rfl (r32 (by omega) (by omega)) ⟨by decide, by decide⟩ (fun (h2 : (m.1 7) = 327) => ?_) (fun (h2 : ¬ ((m.1 7) = 327)) => ?_)
    · skip
      refine T_ld 59 (.int (i32 1)) rfl (fun _ => rfl) ?_
      refine T_goto 63 rfl (fun _ => rfl) ?_
      refine T_ret rfl (fun _ => rfl) ?_
      exact ⟨1, ⟨by omega, by omega⟩, (show (1 : Int) = 1 → (m.1 7) ≠ 0 by omega), rfl⟩
    · skip
      refine T_gf 22 (.int (i32 (m.1 7))) rfl rfl rfl rfl rfl rfl ?_
      refine T_ld 25 (.int (i32 328)) rfl (fun _ => rfl) ?_
      refine T_icmp 58 28 rfl rfl rfl (r32 (by omega) (by omega)) ⟨by decide, by decide⟩ (fun (h3 : (m.1 7) = 328) => ?_) (fun (h3 : ¬ ((m.1 7) = 328)) => ?_)
      · skip
        refine T_ld 59 (.int (i32 1)) rfl (fun _ => rfl) ?_
        refine T_goto 63 rfl (fun _ => rfl) ?_
        refine T_ret rfl (fun _ => rfl) ?_
        exact ⟨1, ⟨by omega, by omega⟩, (show (1 : Int) = 1 → (m.1 7) ≠ 0 by omega), rfl⟩
      · skip
        refine T_gf 32 (.int (i32 (m.1 7))) rfl rfl rfl rfl rfl rfl ?_
        refine T_ld 35 (.int (i32 324)) rfl (fun _ => rfl) ?_
        refine T_icmp 58 38 rfl rfl rfl (r32 (by omega) (by omega)) ⟨by decide, by decide⟩ (fun (h4 : (m.1 7) = 324) => ?_) (fun (h4 : ¬ ((m.1 7) = 324)) => ?_)
        · skip
          refine T_ld 59 (.int (i32 1)) rfl (fun _ => rfl) ?_
          refine T_goto 63 rfl (fun _ => rfl) ?_
          refine T_ret rfl (fun _ => rfl) ?_
          exact ⟨1, ⟨by omega, by omega⟩, (show (1 : Int) = 1 → (m.1 7) ≠ 0 by omega), rfl⟩
        · skip
          refine T_gf 42 (.int (i32 (m.1 7))) rfl rfl rfl rfl rfl rfl ?_
          refine T_ld 45 (.int (i32 325)) rfl (fun _ => rfl) ?_
          refine T_icmp 58 48 rfl rfl rfl (r32 (by omega) (by omega)) ⟨by decide, by decide⟩ (fun (h5 : (m.1 7) = 325) => ?_) (fun (h5 : ¬ ((m.1 7) = 325)) => ?_)
          · skip
            refine T_ld 59 (.int (i32 1)) rfl (fun _ => rfl) ?_
            refine T_goto 63 rfl (fun _ => rfl) ?_
            refine T_ret rfl (fun _ => rfl) ?_
            exact ⟨1, ⟨by omega, by omega⟩, (show (1 : Int) = 1 → (m.1 7) ≠ 0 by omega), rfl⟩
          · skip
            refine T_gf 52 (.int (i32 (m.1 7))) rfl rfl rfl rfl rfl rfl ?_
            refine T_ld 55 (.int (i32 326)) rfl (fun _ => rfl) ?_
            refine T_icmp 62 58 rfl rfl rfl (r32 (by omega) (by omega)) ⟨by decide, by decide⟩ (fun (h6 : (m.1 7) ≠ 326) => ?_) (fun (h6 : ¬ ((m.1 7) ≠ 326)) => ?_)
            · skip
              refine T_ld 63 (.int (i32 0)) rfl (fun _ => rfl) ?_
              refine T_ret rfl (fun _ => rfl) ?_
              exact ⟨0, ⟨by omega, by omega⟩, (show (0 : Int) = 1 → (m.1 7) ≠ 0 by omega), rfl⟩
            · skip
              refine T_ld 59 (.int (i32 1)) rfl (fun _ => rfl) ?_
              refine T_goto 63 rfl (fun _ => rfl) ?_
              refine T_ret rfl (fun _ => rfl) ?_
              exact ⟨1, ⟨by omega, by omega⟩, (show (1 : Int) = 1 → (m.1 7) ≠ 0 by omega), rfl⟩
def fF_takeIndex : List Nat := [7, 8, 9, 10, 11, 12, 28, 69, 70, 71, 72, 73, 74, 75]
def fA_takeIndex : List Nat := [65, 66, 67, 68, 76, 77, 78, 79, 80, 81, 82, 83, 84, 85, 86, 87, 88, 89, 90, 91, 92, 105, 106]
def Q_takeIndex (m : mR) (c : Nat → Option am_C) (N : Nat) (s : Int) : ag_Re af_T → Prop := fun R => ∃ (M : mR), Ty M ∧ fr fF_takeIndex fA_takeIndex m M ∧ ((M.1 10) = 0 → (m.1 10) = 0) ∧ (LxP (M.1 7) (M.1 8) (M.1 9) (m.1 6) (M.1 10)) ∧ (M.1 10 = 0 → ((m.1 8) + 1 ≤ (M.1 8)) ∧ (CN (M.2 65) (M.2 67) (M.1 28)) ∧ (agr (m.2 65) (M.2 65) (m.1 28)) ∧ ((m.1 28) ≤ (M.1 28)) ∧ (cdr (M.2 65) (M.1 28) ((M.2 105) s) ((M.2 106) s)) ∧ (agr (m.2 105) (M.2 105) s) ∧ (agr (m.2 106) (M.2 106) s)) ∧ R = (.inl (none), (mhp M c, N), 0, 0)
set_option maxHeartbeats 3000000 in
theorem c_takeIndex (w : wX) (m : mR) (c : Nat → Option am_C) (N D : Nat) (hD : 11 ≤ D) (hT : Ty m) (s : Int) (qs : R32 s) (hLx0 : LxP (m.1 7) (m.1 8) (m.1 9) (m.1 6) (m.1 10)) (hNM0 : ∀ k, (m.2 14) k + (m.2 15) k ≤ 4000) (hFA0 : ∀ k, (m.2 31) k + (m.2 32) k ≤ 4000) (hPA0 : ∀ k, (m.2 47) k + (m.2 48) k ≤ 4000) (p4 : 0 ≤ s ∧ s ≤ 239) (hC : m.1 10 = 0 → (PN (m.1 13) (m.1 19) (m.1 20) (m.1 21) (m.1 22) (m.1 23) (m.1 25) (m.1 26) (m.2 16) (m.2 17)) ∧ (CN (m.2 65) (m.2 67) (m.1 28))) : TC w D 274 [.ref 189, .int (i32 s)] (mhp m c, N) (Q_takeIndex m c N s) := by
  obtain ⟨D, rfl⟩ : ∃ k, D = k + 1 := ⟨D - 1, by omega⟩
  obtain ⟨qsa, qsb⟩ := id qs
  have hLx := hLx0
  have hNM := hNM0
  have hFA := hFA0
  have hPA := hPA0
  have f7 : 0 ≤ m.1 7 ∧ m.1 7 ≤ 330 := hT.1 7
  have f8 : 0 ≤ m.1 8 ∧ m.1 8 ≤ 4000 := hT.1 8
  have f9 : 0 ≤ m.1 9 ∧ m.1 9 ≤ 4000 := hT.1 9
  have f10 : 0 ≤ m.1 10 ∧ m.1 10 ≤ 8 := hT.1 10
  have f28 : 0 ≤ m.1 28 ∧ m.1 28 ≤ 800 := hT.1 28
  have f69 : 0 ≤ m.1 69 ∧ m.1 69 ≤ 1024 := hT.1 69
  have f25 : 0 ≤ m.1 25 ∧ m.1 25 ≤ 16 := hT.1 25
  have f22 : 0 ≤ m.1 22 ∧ m.1 22 ≤ 8 := hT.1 22
  have f19 : 0 ≤ m.1 19 ∧ m.1 19 ≤ 12 := hT.1 19
  have f20 : 0 ≤ m.1 20 ∧ m.1 20 ≤ 12 := hT.1 20
  have f21 : 0 ≤ m.1 21 ∧ m.1 21 ≤ 16 := hT.1 21
  have f13 : 0 ≤ m.1 13 ∧ m.1 13 ≤ 120 := hT.1 13
  have f6 : 0 ≤ m.1 6 ∧ m.1 6 ≤ 4000 := hT.1 6
  have f23 : 0 ≤ m.1 23 ∧ m.1 23 ≤ 16 := hT.1 23
  have f26 : 0 ≤ m.1 26 ∧ m.1 26 ≤ 8 := hT.1 26
  refine Tc_of rfl ?_
  show TT w D pm_274 (0, [(0, .ref 189), (1, .int (i32 s))], [], (mhp (mO m [] []) c, N), 0, 0) (Q_takeIndex m c N s)
  by_cases hf0 : m.1 10 = 0
  · skip
    obtain ⟨pPN, hCN⟩ := hC hf0
    have h7 := hLx (by omega)
    have J43_5 : ∀ (m4 : mR), Ty m4 → fr [7, 8, 9, 10, 11, 12, 28, 69, 70, 71, 72, 73, 74, 75] [65, 66, 67, 68, 76, 77, 78, 79, 80, 81, 82, 83, 84, 85, 86, 87, 88, 89, 90, 91, 92, 105, 106] (mO m [] []) m4 → (1 ≤ (m4.1 10)) → TT w D pm_274 (43, [(0, .ref 189)], [], (mhp (mO m4 [] []) c, N), 0, 0) (Q_takeIndex m c N s) := by
      intro m4 Tm4 Fm4 ic6
      have q7_7 : 0 ≤ m4.1 7 ∧ m4.1 7 ≤ 330 := Tm4.1 7
      have q7_8 : 0 ≤ m4.1 8 ∧ m4.1 8 ≤ 4000 := Tm4.1 8
      have q7_9 : 0 ≤ m4.1 9 ∧ m4.1 9 ≤ 4000 := Tm4.1 9
      have q7_10 : 0 ≤ m4.1 10 ∧ m4.1 10 ≤ 8 := Tm4.1 10
      have q7_28 : 0 ≤ m4.1 28 ∧ m4.1 28 ≤ 800 := Tm4.1 28
      have q7_69 : 0 ≤ m4.1 69 ∧ m4.1 69 ≤ 1024 := Tm4.1 69
      refine T_ret rfl (fun _ => rfl) ?_
      exact ⟨(mO m4 [] []), Tm4, (fr_m (fr_s Fm4 (fr_m fr_0 rfl rfl) rfl rfl) rfl rfl), (show (m4.1 10) = 0 → (m.1 10) = 0 by omega), (show LxP (m4.1 7) (m4.1 8) (m4.1 9) (m.1 6) (m4.1 10) by first | (first | exact hLx | exact (fun _ => hLx (by omega)) | (intro h9; exfalso; omega)) | (exfalso; omega)), (fun (h : (m4.1 10) = 0) => absurd h (by omega)), rfl⟩
    refine T_ld 1 (.ref 189) rfl (fun _ => rfl) ?_
    refine T_ld 3 (.int (i32 91)) rfl (fun _ => rfl) ?_
    refine T_call 6 232 [.ref 189, .int (i32 91)] [] rfl (fun _ => rfl) rfl (d_need w (mO m [] []) c N D (by omega) hT 91 ⟨by decide, by decide⟩ (show 1 ≤ (91 : Int) by omega) (show LxP (m.1 7) (m.1 8) (m.1 9) (m.1 6) (m.1 10) by first | exact hLx | (intro h9; exfalso; omega) | (intro h9; have h8 := hLx (by omega); omega))) (fun rr10 k11 => ?_)
    obtain ⟨m12, Tm12, Fm12, h13, h14, h15, h16, rfl⟩ := k11
    refine ⟨_, _, rfl, ?_⟩
    refine T_nb (st' := []) rfl ?_
    have g17 : 0 ≤ m12.1 7 ∧ m12.1 7 ≤ 330 := Tm12.1 7
    have g18 : 0 ≤ m12.1 8 ∧ m12.1 8 ≤ 4000 := Tm12.1 8
    have g19 : 0 ≤ m12.1 9 ∧ m12.1 9 ≤ 4000 := Tm12.1 9
    have g20 : 0 ≤ m12.1 10 ∧ m12.1 10 ≤ 8 := Tm12.1 10
    by_cases hf21 : (m12.1 10) = 0
    · skip
      replace h13 : LxP (m12.1 7) (m12.1 8) (m12.1 9) (m.1 6) (m12.1 10) := h13
      have hLx := h13
      replace h14 : (m.1 10) = 0 ∧ (m.1 7) = (91 : Int) := h14 hf21
      replace h15 : (m.1 8) ≤ (m12.1 8) := h15
      replace h16 : (m.1 8) + (m.1 9) ≤ (m12.1 8) := h16 hf21
      have u22 : (m.1 8) + 1 ≤ (m12.1 8) := by omega
      refine T_gf 10 (.ref 265) rfl rfl rfl rfl rfl rfl ?_
      refine T_ld 11 (.int (i32 s)) rfl (fun _ => rfl) ?_
      refine T_gf 15 (.int (i32 (m.1 28))) rfl rfl rfl rfl (mfv_c (F := fun x => .int (i32 x)) rfl (show (m12.1 28) = (m.1 28) from (fr1 Fm12 28 rfl))) rfl ?_
      have G23 : ∀ j, 0 ≤ (upI (m.2 105) s (m.1 28)) j ∧ (upI (m.2 105) s (m.1 28)) j ≤ 800 := upI_rg (hT.2.1 105) ⟨by omega, by omega⟩
      refine T_iast (a' := [(105, upI (m.2 105) s (m.1 28))]) 16 105 (m.2 105) rfl rfl rfl (by omega) (show s < (240 : Int) by omega) (show (m12.2 105) = (m.2 105) from (fr2 Fm12 105 rfl)) rfl ?_
      refine T_gf 20 (.int (i32 (m12.1 10))) rfl rfl rfl rfl rfl rfl ?_
      refine T_if 27 23 rfl rfl rfl (r32 (by omega) (by omega)) (fun (h24 : (m12.1 10) ≠ 0) => by exfalso; omega) (fun (h24 : ¬ ((m12.1 10) ≠ 0)) => ?_)
      refine T_ld 24 (.ref 189) rfl (fun _ => rfl) ?_
      refine T_call 27 244 [.ref 189] [] rfl (fun _ => rfl) rfl (c_readExpr w (mO m12 [] [(105, upI (m.2 105) s (m.1 28))]) c N D (by omega) (Ty_mO Tm12 rfl rfl trivial ⟨G23, trivial⟩) (show LxP (m12.1 7) (m12.1 8) (m12.1 9) (m12.1 6) (m12.1 10) by rewrite [(show (m12.1 6) = (m.1 6) from (fr1 Fm12 6 rfl))]; first | exact hLx | exact (fun _ => hLx (by omega)) | (intro h9; exfalso; omega)) (show ∀ k, (m12.2 14) k + (m12.2 15) k ≤ 4000 by rewrite [(show (m12.2 14) = (m.2 14) from (fr2 Fm12 14 rfl)), (show (m12.2 15) = (m.2 15) from (fr2 Fm12 15 rfl))]; assumption) (show ∀ k, (m12.2 31) k + (m12.2 32) k ≤ 4000 by rewrite [(show (m12.2 31) = (m.2 31) from (fr2 Fm12 31 rfl)), (show (m12.2 32) = (m.2 32) from (fr2 Fm12 32 rfl))]; assumption) (show ∀ k, (m12.2 47) k + (m12.2 48) k ≤ 4000 by rewrite [(show (m12.2 47) = (m.2 47) from (fr2 Fm12 47 rfl)), (show (m12.2 48) = (m.2 48) from (fr2 Fm12 48 rfl))]; assumption) (fun _ => ⟨(show PN (m12.1 13) (m12.1 19) (m12.1 20) (m12.1 21) (m12.1 22) (m12.1 23) (m12.1 25) (m12.1 26) (m12.2 16) (m12.2 17) by rewrite [(show (m12.1 13) = (m.1 13) from (fr1 Fm12 13 rfl)), (show (m12.1 19) = (m.1 19) from (fr1 Fm12 19 rfl)), (show (m12.1 20) = (m.1 20) from (fr1 Fm12 20 rfl)), (show (m12.1 21) = (m.1 21) from (fr1 Fm12 21 rfl)), (show (m12.1 22) = (m.1 22) from (fr1 Fm12 22 rfl)), (show (m12.1 23) = (m.1 23) from (fr1 Fm12 23 rfl)), (show (m12.1 25) = (m.1 25) from (fr1 Fm12 25 rfl)), (show (m12.1 26) = (m.1 26) from (fr1 Fm12 26 rfl)), (show (m12.2 16) = (m.2 16) from (fr2 Fm12 16 rfl)), (show (m12.2 17) = (m.2 17) from (fr2 Fm12 17 rfl))]; assumption), (show CN (m12.2 65) (m12.2 67) (m12.1 28) by rewrite [(show (m12.2 65) = (m.2 65) from (fr2 Fm12 65 rfl)), (show (m12.2 67) = (m.2 67) from (fr2 Fm12 67 rfl)), (show (m12.1 28) = (m.1 28) from (fr1 Fm12 28 rfl))]; assumption)⟩)) (fun rr25 k26 => ?_)
      obtain ⟨m27, Tm27, Fm27, h28, h29, c30, rfl⟩ := k26
      refine ⟨_, _, rfl, ?_⟩
      refine T_nb (st' := []) rfl ?_
      have g31 : 0 ≤ m27.1 7 ∧ m27.1 7 ≤ 330 := Tm27.1 7
      have g32 : 0 ≤ m27.1 8 ∧ m27.1 8 ≤ 4000 := Tm27.1 8
      have g33 : 0 ≤ m27.1 9 ∧ m27.1 9 ≤ 4000 := Tm27.1 9
      have g34 : 0 ≤ m27.1 10 ∧ m27.1 10 ≤ 8 := Tm27.1 10
      have g35 : 0 ≤ m27.1 28 ∧ m27.1 28 ≤ 800 := Tm27.1 28
      have g36 : 0 ≤ m27.1 69 ∧ m27.1 69 ≤ 1024 := Tm27.1 69
      by_cases hf37 : (m27.1 10) = 0
      · skip
        replace h28 : (m12.1 10) = 0 := h28 hf37
        replace h29 : LxP (m27.1 7) (m27.1 8) (m27.1 9) (m12.1 6) (m27.1 10) := h29
        rewrite [(show (m12.1 6) = (m.1 6) from (fr1 Fm12 6 rfl))] at h29
        have hLx := h29
        obtain ⟨c38, c39, c40, c41, c42, c43⟩ := c30 hf37
        replace c38 : (m12.1 8) + 1 ≤ (m27.1 8) := c38
        replace c39 : (m27.1 69) ≤ 64 := c39
        replace c40 : (m12.1 28) ≤ (m27.1 28) := c40
        rewrite [(show (m12.1 28) = (m.1 28) from (fr1 Fm12 28 rfl))] at c40
        replace c41 : okc (m27.2 65) (m12.1 28) (m27.1 28) := c41
        rewrite [(show (m12.1 28) = (m.1 28) from (fr1 Fm12 28 rfl))] at c41
        have hOk := c41
        replace c42 : CN (m27.2 65) (m27.2 67) (m27.1 28) := c42
        have hCN := c42
        replace c43 : agr (m12.2 65) (m27.2 65) (m12.1 28) := c43
        rewrite [(show (m12.2 65) = (m.2 65) from (fr2 Fm12 65 rfl)), (show (m12.1 28) = (m.1 28) from (fr1 Fm12 28 rfl))] at c43
        have hAg := c43
        clear c30
        have u44 : (m.1 8) + 1 ≤ (m27.1 8) := by omega
        have u45 : (m.1 28) ≤ (m27.1 28) := by omega
        clear g17 g18 g19 g20 h13 h15 h16 u22 h24 h28 c38
        refine T_gf 31 (.ref 266) rfl rfl rfl rfl rfl rfl ?_
        refine T_ld 32 (.int (i32 s)) rfl (fun _ => rfl) ?_
        refine T_gf 36 (.int (i32 (m27.1 28))) rfl rfl rfl rfl rfl rfl ?_
        have G46 : ∀ j, 0 ≤ (upI (m.2 106) s (m27.1 28)) j ∧ (upI (m.2 106) s (m27.1 28)) j ≤ 800 := upI_rg (hT.2.1 106) ⟨by omega, by omega⟩
        refine T_iast (a' := [(106, upI (m.2 106) s (m27.1 28))]) 37 106 (m.2 106) rfl rfl rfl (by omega) (show s < (240 : Int) by omega) (show (m27.2 106) = (m.2 106) from ((fr2 Fm27 106 rfl).trans (fr2 Fm12 106 rfl))) rfl ?_
        refine T_ld 38 (.ref 189) rfl (fun _ => rfl) ?_
        refine T_ld 40 (.int (i32 93)) rfl (fun _ => rfl) ?_
        refine T_call 43 232 [.ref 189, .int (i32 93)] [] rfl (fun _ => rfl) rfl (d_need w (mO m27 [] [(106, upI (m.2 106) s (m27.1 28))]) c N D (by omega) (Ty_mO Tm27 rfl rfl trivial ⟨G46, trivial⟩) 93 ⟨by decide, by decide⟩ (show 1 ≤ (93 : Int) by omega) (show LxP (m27.1 7) (m27.1 8) (m27.1 9) (m27.1 6) (m27.1 10) by rewrite [(show (m27.1 6) = (m.1 6) from ((fr1 Fm27 6 rfl).trans (fr1 Fm12 6 rfl)))]; first | exact hLx | (intro h9; exfalso; omega) | (intro h9; have h8 := hLx (by omega); omega))) (fun rr47 k48 => ?_)
        obtain ⟨m49, Tm49, Fm49, h50, h51, h52, h53, rfl⟩ := k48
        refine ⟨_, _, rfl, ?_⟩
        refine T_nb (st' := []) rfl ?_
        have g54 : 0 ≤ m49.1 7 ∧ m49.1 7 ≤ 330 := Tm49.1 7
        have g55 : 0 ≤ m49.1 8 ∧ m49.1 8 ≤ 4000 := Tm49.1 8
        have g56 : 0 ≤ m49.1 9 ∧ m49.1 9 ≤ 4000 := Tm49.1 9
        have g57 : 0 ≤ m49.1 10 ∧ m49.1 10 ≤ 8 := Tm49.1 10
        by_cases hf58 : (m49.1 10) = 0
        · skip
          replace h50 : LxP (m49.1 7) (m49.1 8) (m49.1 9) (m27.1 6) (m49.1 10) := h50
          rewrite [(show (m27.1 6) = (m.1 6) from ((fr1 Fm27 6 rfl).trans (fr1 Fm12 6 rfl)))] at h50
          have hLx := h50
          replace h51 : (m27.1 10) = 0 ∧ (m27.1 7) = (93 : Int) := h51 hf58
          replace h52 : (m27.1 8) ≤ (m49.1 8) := h52
          replace h53 : (m27.1 8) + (m27.1 9) ≤ (m49.1 8) := h53 hf58
          have u59 : (m.1 8) + 1 ≤ (m49.1 8) := by omega
          have u60 : (m.1 28) ≤ (m27.1 28) := by omega
          clear g31 g32 g33 g34 h29 u44 h51 h52 h53
          refine T_ret rfl (fun _ => rfl) ?_
          exact ⟨(mO m49 [] []), Tm49, (fr_m (fr_s Fm49 (fr_m (fr_s Fm27 (fr_m (fr_s Fm12 (fr_m fr_0 rfl rfl) rfl rfl) rfl rfl) rfl rfl) rfl rfl) rfl rfl) rfl rfl), (show (m49.1 10) = 0 → (m.1 10) = 0 by omega), (show LxP (m49.1 7) (m49.1 8) (m49.1 9) (m.1 6) (m49.1 10) by first | (first | exact hLx | exact (fun _ => hLx (by omega)) | (intro h9; exfalso; omega)) | (exfalso; omega)), (fun _ => ⟨(show (m.1 8) + 1 ≤ (m49.1 8) by omega), (show CN (m49.2 65) (m49.2 67) (m49.1 28) by rewrite [(show (m49.2 65) = (m27.2 65) from (fr2 Fm49 65 rfl)), (show (m49.2 67) = (m27.2 67) from (fr2 Fm49 67 rfl)), (show (m49.1 28) = (m27.1 28) from (fr1 Fm49 28 rfl))]; first | (exact hCN) | (exfalso; omega)), (show agr (m.2 65) (m49.2 65) (m.1 28) by rewrite [(show (m49.2 65) = (m27.2 65) from (fr2 Fm49 65 rfl))]; first | (exact hAg) | (exfalso; omega)), (show (m.1 28) ≤ (m49.1 28) by rewrite [(show (m49.1 28) = (m27.1 28) from (fr1 Fm49 28 rfl))]; omega), (show cdr (m49.2 65) (m49.1 28) ((m49.2 105) s) ((m49.2 106) s) by rewrite [(show (m49.2 65) = (m27.2 65) from (fr2 Fm49 65 rfl)), (show (m49.1 28) = (m27.1 28) from (fr1 Fm49 28 rfl)), (show (m49.2 105) = (upI (m.2 105) s (m.1 28)) from ((fr2 Fm49 105 rfl).trans (fr2 Fm27 105 rfl))), (show (m49.2 106) = (upI (m.2 106) s (m27.1 28)) from (fr2 Fm49 106 rfl))]; first | (rw [upI_s, upI_s]; exact ⟨hOk, by omega⟩) | (exfalso; omega)), (show agr (m.2 105) (m49.2 105) s by rewrite [(show (m49.2 105) = (upI (m.2 105) s (m.1 28)) from ((fr2 Fm49 105 rfl).trans (fr2 Fm27 105 rfl)))]; first | (exact agr_u (Int.le_refl _)) | (exfalso; omega)), (show agr (m.2 106) (m49.2 106) s by rewrite [(show (m49.2 106) = (upI (m.2 106) s (m27.1 28)) from (fr2 Fm49 106 rfl))]; first | (exact agr_u (Int.le_refl _)) | (exfalso; omega))⟩), rfl⟩
        · skip
          replace h50 : LxP (m49.1 7) (m49.1 8) (m49.1 9) (m27.1 6) (m49.1 10) := h50
          rewrite [(show (m27.1 6) = (m.1 6) from ((fr1 Fm27 6 rfl).trans (fr1 Fm12 6 rfl)))] at h50
          have hLx := h50
          clear h51
          replace h52 : (m27.1 8) ≤ (m49.1 8) := h52
          clear h53
          have hf61 : 1 ≤ (m49.1 10) := by omega
          clear g31 g32 g33 g34 h29 u44 h52
          refine Tm_lv (a := [(0, .ref 189)]) rfl rfl ⟨rfl, trivial⟩ ?_
          exact J43_5 (mO m49 [] []) Tm49 (fr_m (fr_s Fm49 (fr_m (fr_s Fm27 (fr_m (fr_s Fm12 (fr_m fr_0 rfl rfl) rfl rfl) rfl rfl) rfl rfl) rfl rfl) rfl rfl) rfl rfl) (show 1 ≤ (m49.1 10) by omega)
      · skip
        clear c30
        clear h28
        replace h29 : LxP (m27.1 7) (m27.1 8) (m27.1 9) (m12.1 6) (m27.1 10) := h29
        rewrite [(show (m12.1 6) = (m.1 6) from (fr1 Fm12 6 rfl))] at h29
        have hLx := h29
        have hf62 : 1 ≤ (m27.1 10) := by omega
        clear g17 g18 g19 g20 h13 h15 h16 u22 h24
        refine T_gf 31 (.ref 266) rfl rfl rfl rfl rfl rfl ?_
        refine T_ld 32 (.int (i32 s)) rfl (fun _ => rfl) ?_
        refine T_gf 36 (.int (i32 (m27.1 28))) rfl rfl rfl rfl rfl rfl ?_
        have G63 : ∀ j, 0 ≤ (upI (m.2 106) s (m27.1 28)) j ∧ (upI (m.2 106) s (m27.1 28)) j ≤ 800 := upI_rg (hT.2.1 106) ⟨by omega, by omega⟩
        refine T_iast (a' := [(106, upI (m.2 106) s (m27.1 28))]) 37 106 (m.2 106) rfl rfl rfl (by omega) (show s < (240 : Int) by omega) (show (m27.2 106) = (m.2 106) from ((fr2 Fm27 106 rfl).trans (fr2 Fm12 106 rfl))) rfl ?_
        refine T_ld 38 (.ref 189) rfl (fun _ => rfl) ?_
        refine T_ld 40 (.int (i32 93)) rfl (fun _ => rfl) ?_
        refine T_call 43 232 [.ref 189, .int (i32 93)] [] rfl (fun _ => rfl) rfl (d_need w (mO m27 [] [(106, upI (m.2 106) s (m27.1 28))]) c N D (by omega) (Ty_mO Tm27 rfl rfl trivial ⟨G63, trivial⟩) 93 ⟨by decide, by decide⟩ (show 1 ≤ (93 : Int) by omega) (show LxP (m27.1 7) (m27.1 8) (m27.1 9) (m27.1 6) (m27.1 10) by rewrite [(show (m27.1 6) = (m.1 6) from ((fr1 Fm27 6 rfl).trans (fr1 Fm12 6 rfl)))]; first | exact hLx | (intro h9; exfalso; omega) | (intro h9; have h8 := hLx (by omega); omega))) (fun rr64 k65 => ?_)
        obtain ⟨m66, Tm66, Fm66, h67, h68, h69, h70, rfl⟩ := k65
        refine ⟨_, _, rfl, ?_⟩
        refine T_nb (st' := []) rfl ?_
        have g71 : 0 ≤ m66.1 7 ∧ m66.1 7 ≤ 330 := Tm66.1 7
        have g72 : 0 ≤ m66.1 8 ∧ m66.1 8 ≤ 4000 := Tm66.1 8
        have g73 : 0 ≤ m66.1 9 ∧ m66.1 9 ≤ 4000 := Tm66.1 9
        have g74 : 0 ≤ m66.1 10 ∧ m66.1 10 ≤ 8 := Tm66.1 10
        replace h67 : LxP (m66.1 7) (m66.1 8) (m66.1 9) (m27.1 6) (m66.1 10) := h67
        rewrite [(show (m27.1 6) = (m.1 6) from ((fr1 Fm27 6 rfl).trans (fr1 Fm12 6 rfl)))] at h67
        replace h68 : (m66.1 10) = 0 → (m27.1 10) = 0 ∧ (m27.1 7) = (93 : Int) := h68
        replace h69 : (m27.1 8) ≤ (m66.1 8) := h69
        replace h70 : (m66.1 10) = 0 → (m27.1 8) + (m27.1 9) ≤ (m66.1 8) := h70
        have hf75 : 1 ≤ (m66.1 10) := by omega
        clear h68
        clear h70
        have hLx := h67
        clear g31 g32 g33 g34 h29 hf62 h69
        refine Tm_lv (a := [(0, .ref 189)]) rfl rfl ⟨rfl, trivial⟩ ?_
        exact J43_5 (mO m66 [] []) Tm66 (fr_m (fr_s Fm66 (fr_m (fr_s Fm27 (fr_m (fr_s Fm12 (fr_m fr_0 rfl rfl) rfl rfl) rfl rfl) rfl rfl) rfl rfl) rfl rfl) rfl rfl) (show 1 ≤ (m66.1 10) by omega)
    · skip
      replace h13 : LxP (m12.1 7) (m12.1 8) (m12.1 9) (m.1 6) (m12.1 10) := h13
      have hLx := h13
      clear h14
      replace h15 : (m.1 8) ≤ (m12.1 8) := h15
      clear h16
      have hf76 : 1 ≤ (m12.1 10) := by omega
      refine T_gf 10 (.ref 265) rfl rfl rfl rfl rfl rfl ?_
      refine T_ld 11 (.int (i32 s)) rfl (fun _ => rfl) ?_
      refine T_gf 15 (.int (i32 (m.1 28))) rfl rfl rfl rfl (mfv_c (F := fun x => .int (i32 x)) rfl (show (m12.1 28) = (m.1 28) from (fr1 Fm12 28 rfl))) rfl ?_
      have G77 : ∀ j, 0 ≤ (upI (m.2 105) s (m.1 28)) j ∧ (upI (m.2 105) s (m.1 28)) j ≤ 800 := upI_rg (hT.2.1 105) ⟨by omega, by omega⟩
      refine T_iast (a' := [(105, upI (m.2 105) s (m.1 28))]) 16 105 (m.2 105) rfl rfl rfl (by omega) (show s < (240 : Int) by omega) (show (m12.2 105) = (m.2 105) from (fr2 Fm12 105 rfl)) rfl ?_
      refine T_gf 20 (.int (i32 (m12.1 10))) rfl rfl rfl rfl rfl rfl ?_
      refine T_if 27 23 rfl rfl rfl (r32 (by omega) (by omega)) (fun (h78 : (m12.1 10) ≠ 0) => ?_) (fun (h78 : ¬ ((m12.1 10) ≠ 0)) => by exfalso; omega)
      refine T_gf 31 (.ref 266) rfl rfl rfl rfl rfl rfl ?_
      refine T_ld 32 (.int (i32 s)) rfl (fun _ => rfl) ?_
      refine T_gf 36 (.int (i32 (m.1 28))) rfl rfl rfl rfl (mfv_c (F := fun x => .int (i32 x)) rfl (show (m12.1 28) = (m.1 28) from (fr1 Fm12 28 rfl))) rfl ?_
      have G79 : ∀ j, 0 ≤ (upI (m.2 106) s (m.1 28)) j ∧ (upI (m.2 106) s (m.1 28)) j ≤ 800 := upI_rg (hT.2.1 106) ⟨by omega, by omega⟩
      refine T_iast (a' := [(105, upI (m.2 105) s (m.1 28)), (106, upI (m.2 106) s (m.1 28))]) 37 106 (m.2 106) rfl rfl rfl (by omega) (show s < (240 : Int) by omega) (show (m12.2 106) = (m.2 106) from (fr2 Fm12 106 rfl)) rfl ?_
      refine T_ld 38 (.ref 189) rfl (fun _ => rfl) ?_
      refine T_ld 40 (.int (i32 93)) rfl (fun _ => rfl) ?_
      refine T_call 43 232 [.ref 189, .int (i32 93)] [] rfl (fun _ => rfl) rfl (d_need w (mO m12 [] [(105, upI (m.2 105) s (m.1 28)), (106, upI (m.2 106) s (m.1 28))]) c N D (by omega) (Ty_mO Tm12 rfl rfl trivial ⟨G77, G79, trivial⟩) 93 ⟨by decide, by decide⟩ (show 1 ≤ (93 : Int) by omega) (show LxP (m12.1 7) (m12.1 8) (m12.1 9) (m12.1 6) (m12.1 10) by rewrite [(show (m12.1 6) = (m.1 6) from (fr1 Fm12 6 rfl))]; first | exact hLx | (intro h9; exfalso; omega) | (intro h9; have h8 := hLx (by omega); omega))) (fun rr80 k81 => ?_)
      obtain ⟨m82, Tm82, Fm82, h83, h84, h85, h86, rfl⟩ := k81
      refine ⟨_, _, rfl, ?_⟩
      refine T_nb (st' := []) rfl ?_
      have g87 : 0 ≤ m82.1 7 ∧ m82.1 7 ≤ 330 := Tm82.1 7
      have g88 : 0 ≤ m82.1 8 ∧ m82.1 8 ≤ 4000 := Tm82.1 8
      have g89 : 0 ≤ m82.1 9 ∧ m82.1 9 ≤ 4000 := Tm82.1 9
      have g90 : 0 ≤ m82.1 10 ∧ m82.1 10 ≤ 8 := Tm82.1 10
      replace h83 : LxP (m82.1 7) (m82.1 8) (m82.1 9) (m12.1 6) (m82.1 10) := h83
      rewrite [(show (m12.1 6) = (m.1 6) from (fr1 Fm12 6 rfl))] at h83
      replace h84 : (m82.1 10) = 0 → (m12.1 10) = 0 ∧ (m12.1 7) = (93 : Int) := h84
      replace h85 : (m12.1 8) ≤ (m82.1 8) := h85
      replace h86 : (m82.1 10) = 0 → (m12.1 8) + (m12.1 9) ≤ (m82.1 8) := h86
      have hf91 : 1 ≤ (m82.1 10) := by omega
      clear h84
      clear h86
      have hLx := h83
      clear g17 g18 g19 g20 h13 h15 hf76 h78 h85
      refine Tm_lv (a := [(0, .ref 189)]) rfl rfl ⟨rfl, trivial⟩ ?_
      exact J43_5 (mO m82 [] []) Tm82 (fr_m (fr_s Fm82 (fr_m (fr_s Fm12 (fr_m fr_0 rfl rfl) rfl rfl) rfl rfl) rfl rfl) rfl rfl) (show 1 ≤ (m82.1 10) by omega)
  · skip
    clear hC
    refine T_ld 1 (.ref 189) rfl (fun _ => rfl) ?_
    refine T_ld 3 (.int (i32 91)) rfl (fun _ => rfl) ?_
    refine T_call 6 232 [.ref 189, .int (i32 91)] [] rfl (fun _ => rfl) rfl (d_need w (mO m [] []) c N D (by omega) hT 91 ⟨by decide, by decide⟩ (show 1 ≤ (91 : Int) by omega) (show LxP (m.1 7) (m.1 8) (m.1 9) (m.1 6) (m.1 10) by first | exact hLx | (intro h9; exfalso; omega) | (intro h9; have h8 := hLx (by omega); omega))) (fun rr92 k93 => ?_)
    obtain ⟨m94, Tm94, Fm94, h95, h96, h97, h98, rfl⟩ := k93
    refine ⟨_, _, rfl, ?_⟩
    refine T_nb (st' := []) rfl ?_
    have g99 : 0 ≤ m94.1 7 ∧ m94.1 7 ≤ 330 := Tm94.1 7
    have g100 : 0 ≤ m94.1 8 ∧ m94.1 8 ≤ 4000 := Tm94.1 8
    have g101 : 0 ≤ m94.1 9 ∧ m94.1 9 ≤ 4000 := Tm94.1 9
    have g102 : 0 ≤ m94.1 10 ∧ m94.1 10 ≤ 8 := Tm94.1 10
    replace h95 : LxP (m94.1 7) (m94.1 8) (m94.1 9) (m.1 6) (m94.1 10) := h95
    replace h96 : (m94.1 10) = 0 → (m.1 10) = 0 ∧ (m.1 7) = (91 : Int) := h96
    replace h97 : (m.1 8) ≤ (m94.1 8) := h97
    replace h98 : (m94.1 10) = 0 → (m.1 8) + (m.1 9) ≤ (m94.1 8) := h98
    have hf103 : 1 ≤ (m94.1 10) := by omega
    clear h96
    clear h98
    have hLx := h95
    refine T_gf 10 (.ref 265) rfl rfl rfl rfl rfl rfl ?_
    refine T_ld 11 (.int (i32 s)) rfl (fun _ => rfl) ?_
    refine T_gf 15 (.int (i32 (m.1 28))) rfl rfl rfl rfl (mfv_c (F := fun x => .int (i32 x)) rfl (show (m94.1 28) = (m.1 28) from (fr1 Fm94 28 rfl))) rfl ?_
    have G104 : ∀ j, 0 ≤ (upI (m.2 105) s (m.1 28)) j ∧ (upI (m.2 105) s (m.1 28)) j ≤ 800 := upI_rg (hT.2.1 105) ⟨by omega, by omega⟩
    refine T_iast (a' := [(105, upI (m.2 105) s (m.1 28))]) 16 105 (m.2 105) rfl rfl rfl (by omega) (show s < (240 : Int) by omega) (show (m94.2 105) = (m.2 105) from (fr2 Fm94 105 rfl)) rfl ?_
    refine T_gf 20 (.int (i32 (m94.1 10))) rfl rfl rfl rfl rfl rfl ?_
    refine T_if 27 23 rfl rfl rfl (r32 (by omega) (by omega)) (fun (h105 : (m94.1 10) ≠ 0) => ?_) (fun (h105 : ¬ ((m94.1 10) ≠ 0)) => by exfalso; omega)
    refine T_gf 31 (.ref 266) rfl rfl rfl rfl rfl rfl ?_
    refine T_ld 32 (.int (i32 s)) rfl (fun _ => rfl) ?_
    refine T_gf 36 (.int (i32 (m.1 28))) rfl rfl rfl rfl (mfv_c (F := fun x => .int (i32 x)) rfl (show (m94.1 28) = (m.1 28) from (fr1 Fm94 28 rfl))) rfl ?_
    have G106 : ∀ j, 0 ≤ (upI (m.2 106) s (m.1 28)) j ∧ (upI (m.2 106) s (m.1 28)) j ≤ 800 := upI_rg (hT.2.1 106) ⟨by omega, by omega⟩
    refine T_iast (a' := [(105, upI (m.2 105) s (m.1 28)), (106, upI (m.2 106) s (m.1 28))]) 37 106 (m.2 106) rfl rfl rfl (by omega) (show s < (240 : Int) by omega) (show (m94.2 106) = (m.2 106) from (fr2 Fm94 106 rfl)) rfl ?_
    refine T_ld 38 (.ref 189) rfl (fun _ => rfl) ?_
    refine T_ld 40 (.int (i32 93)) rfl (fun _ => rfl) ?_
    refine T_call 43 232 [.ref 189, .int (i32 93)] [] rfl (fun _ => rfl) rfl (d_need w (mO m94 [] [(105, upI (m.2 105) s (m.1 28)), (106, upI (m.2 106) s (m.1 28))]) c N D (by omega) (Ty_mO Tm94 rfl rfl trivial ⟨G104, G106, trivial⟩) 93 ⟨by decide, by decide⟩ (show 1 ≤ (93 : Int) by omega) (show LxP (m94.1 7) (m94.1 8) (m94.1 9) (m94.1 6) (m94.1 10) by rewrite [(show (m94.1 6) = (m.1 6) from (fr1 Fm94 6 rfl))]; first | exact hLx | (intro h9; exfalso; omega) | (intro h9; have h8 := hLx (by omega); omega))) (fun rr107 k108 => ?_)
    obtain ⟨m109, Tm109, Fm109, h110, h111, h112, h113, rfl⟩ := k108
    refine ⟨_, _, rfl, ?_⟩
    refine T_nb (st' := []) rfl ?_
    have g114 : 0 ≤ m109.1 7 ∧ m109.1 7 ≤ 330 := Tm109.1 7
    have g115 : 0 ≤ m109.1 8 ∧ m109.1 8 ≤ 4000 := Tm109.1 8
    have g116 : 0 ≤ m109.1 9 ∧ m109.1 9 ≤ 4000 := Tm109.1 9
    have g117 : 0 ≤ m109.1 10 ∧ m109.1 10 ≤ 8 := Tm109.1 10
    replace h110 : LxP (m109.1 7) (m109.1 8) (m109.1 9) (m94.1 6) (m109.1 10) := h110
    rewrite [(show (m94.1 6) = (m.1 6) from (fr1 Fm94 6 rfl))] at h110
    replace h111 : (m109.1 10) = 0 → (m94.1 10) = 0 ∧ (m94.1 7) = (93 : Int) := h111
    replace h112 : (m94.1 8) ≤ (m109.1 8) := h112
    replace h113 : (m109.1 10) = 0 → (m94.1 8) + (m94.1 9) ≤ (m109.1 8) := h113
    have hf118 : 1 ≤ (m109.1 10) := by omega
    clear h111
    clear h113
    have hLx := h110
    clear g99 g100 g101 g102 hf103 h95 h97 h105 h112
    refine T_ret rfl (fun _ => rfl) ?_
    exact ⟨(mO m109 [] []), Tm109, (fr_m (fr_s Fm109 (fr_m (fr_s Fm94 (fr_m fr_0 rfl rfl) rfl rfl) rfl rfl) rfl rfl) rfl rfl), (show (m109.1 10) = 0 → (m.1 10) = 0 by omega), (show LxP (m109.1 7) (m109.1 8) (m109.1 9) (m.1 6) (m109.1 10) by first | (first | exact hLx | exact (fun _ => hLx (by omega)) | (intro h9; exfalso; omega)) | (exfalso; omega)), (fun (h : (m109.1 10) = 0) => absurd h (by omega)), rfl⟩
def fF_takeWorth : List Nat := [7, 8, 9, 10, 11, 12, 28, 69, 70, 71, 72, 73, 74, 75]
def fA_takeWorth : List Nat := [65, 66, 67, 68, 76, 77, 78, 79, 80, 81, 82, 83, 84, 85, 86, 87, 88, 89, 90, 91, 92, 107, 108]
def Q_takeWorth (m : mR) (c : Nat → Option am_C) (N : Nat) (s : Int) (b : Int) : ag_Re af_T → Prop := fun R => ∃ (M : mR), Ty M ∧ fr fF_takeWorth fA_takeWorth m M ∧ ((M.1 10) = 0 → (m.1 10) = 0) ∧ (LxP (M.1 7) (M.1 8) (M.1 9) (m.1 6) (M.1 10)) ∧ (M.1 10 = 0 → ((m.1 8) + 1 ≤ (M.1 8)) ∧ (CN (M.2 65) (M.2 67) (M.1 28)) ∧ (agr (m.2 65) (M.2 65) (m.1 28)) ∧ ((m.1 28) ≤ (M.1 28)) ∧ (cdr (M.2 65) (M.1 28) ((M.2 107) s) ((M.2 108) s)) ∧ (agr (m.2 107) (M.2 107) s) ∧ (agr (m.2 108) (M.2 108) s)) ∧ R = (.inl (none), (mhp M c, N), 0, 0)
set_option maxHeartbeats 3000000 in
theorem c_takeWorth (w : wX) (m : mR) (c : Nat → Option am_C) (N D : Nat) (hD : 12 ≤ D) (hT : Ty m) (s : Int) (b : Int) (qs : R32 s) (qb : R32 b) (hLx0 : LxP (m.1 7) (m.1 8) (m.1 9) (m.1 6) (m.1 10)) (hNM0 : ∀ k, (m.2 14) k + (m.2 15) k ≤ 4000) (hFA0 : ∀ k, (m.2 31) k + (m.2 32) k ≤ 4000) (hPA0 : ∀ k, (m.2 47) k + (m.2 48) k ≤ 4000) (p4 : 0 ≤ s ∧ s ≤ 239) (hC : m.1 10 = 0 → (PN (m.1 13) (m.1 19) (m.1 20) (m.1 21) (m.1 22) (m.1 23) (m.1 25) (m.1 26) (m.2 16) (m.2 17)) ∧ (CN (m.2 65) (m.2 67) (m.1 28))) : TC w D 272 [.ref 189, .int (i32 s), .int (i32 b)] (mhp m c, N) (Q_takeWorth m c N s b) := by
  obtain ⟨D, rfl⟩ : ∃ k, D = k + 1 := ⟨D - 1, by omega⟩
  obtain ⟨qsa, qsb⟩ := id qs
  obtain ⟨qba, qbb⟩ := id qb
  have hLx := hLx0
  have hNM := hNM0
  have hFA := hFA0
  have hPA := hPA0
  have f7 : 0 ≤ m.1 7 ∧ m.1 7 ≤ 330 := hT.1 7
  have f8 : 0 ≤ m.1 8 ∧ m.1 8 ≤ 4000 := hT.1 8
  have f9 : 0 ≤ m.1 9 ∧ m.1 9 ≤ 4000 := hT.1 9
  have f10 : 0 ≤ m.1 10 ∧ m.1 10 ≤ 8 := hT.1 10
  have f28 : 0 ≤ m.1 28 ∧ m.1 28 ≤ 800 := hT.1 28
  have f69 : 0 ≤ m.1 69 ∧ m.1 69 ≤ 1024 := hT.1 69
  have f25 : 0 ≤ m.1 25 ∧ m.1 25 ≤ 16 := hT.1 25
  have f22 : 0 ≤ m.1 22 ∧ m.1 22 ≤ 8 := hT.1 22
  have f19 : 0 ≤ m.1 19 ∧ m.1 19 ≤ 12 := hT.1 19
  have f20 : 0 ≤ m.1 20 ∧ m.1 20 ≤ 12 := hT.1 20
  have f21 : 0 ≤ m.1 21 ∧ m.1 21 ≤ 16 := hT.1 21
  have f13 : 0 ≤ m.1 13 ∧ m.1 13 ≤ 120 := hT.1 13
  have f6 : 0 ≤ m.1 6 ∧ m.1 6 ≤ 4000 := hT.1 6
  have f23 : 0 ≤ m.1 23 ∧ m.1 23 ≤ 16 := hT.1 23
  have f26 : 0 ≤ m.1 26 ∧ m.1 26 ≤ 8 := hT.1 26
  refine Tc_of rfl ?_
  show TT w D pm_272 (0, [(0, .ref 189), (1, .int (i32 s)), (2, .int (i32 b))], [], (mhp (mO m [] []) c, N), 0, 0) (Q_takeWorth m c N s b)
  by_cases hf0 : m.1 10 = 0
  · skip
    obtain ⟨pPN, hCN⟩ := hC hf0
    have h7 := hLx (by omega)
    refine T_gf 4 (.ref 267) rfl rfl rfl rfl rfl rfl ?_
    refine T_ld 5 (.int (i32 s)) rfl (fun _ => rfl) ?_
    refine T_gf 9 (.int (i32 (m.1 28))) rfl rfl rfl rfl rfl rfl ?_
    have G2 : ∀ j, 0 ≤ (upI (m.2 107) s (m.1 28)) j ∧ (upI (m.2 107) s (m.1 28)) j ≤ 800 := upI_rg (hT.2.1 107) ⟨by omega, by omega⟩
    refine T_iast (a' := [(107, upI (m.2 107) s (m.1 28))]) 10 107 (m.2 107) rfl rfl rfl (by omega) (show s < (240 : Int) by omega) rfl rfl ?_
    refine T_gf 14 (.int (i32 (m.1 10))) rfl rfl rfl rfl rfl rfl ?_
    refine T_if 22 17 rfl rfl rfl (r32 (by omega) (by omega)) (fun (h3 : (m.1 10) ≠ 0) => by exfalso; omega) (fun (h3 : ¬ ((m.1 10) ≠ 0)) => ?_)
    refine T_ld 18 (.ref 189) rfl (fun _ => rfl) ?_
    refine T_ld 19 (.int (i32 b)) rfl (fun _ => rfl) ?_
    refine T_call 22 273 [.ref 189, .int (i32 b)] [] rfl (fun _ => rfl) rfl (c_exprOf w (mO m [] [(107, upI (m.2 107) s (m.1 28))]) c N D (by omega) (Ty_mO hT rfl rfl trivial ⟨G2, trivial⟩) b (r32 (by omega) (by omega)) (show LxP (m.1 7) (m.1 8) (m.1 9) (m.1 6) (m.1 10) by first | exact hLx | exact (fun _ => hLx (by omega)) | (intro h9; exfalso; omega)) (show ∀ k, (m.2 14) k + (m.2 15) k ≤ 4000 by assumption) (show ∀ k, (m.2 31) k + (m.2 32) k ≤ 4000 by assumption) (show ∀ k, (m.2 47) k + (m.2 48) k ≤ 4000 by assumption) (fun _ => ⟨(show PN (m.1 13) (m.1 19) (m.1 20) (m.1 21) (m.1 22) (m.1 23) (m.1 25) (m.1 26) (m.2 16) (m.2 17) by assumption), (show CN (m.2 65) (m.2 67) (m.1 28) by assumption)⟩)) (fun rr4 k5 => ?_)
    obtain ⟨m6, Tm6, Fm6, h7, h8, c9, rfl⟩ := k5
    refine ⟨_, _, rfl, ?_⟩
    refine T_nb (st' := []) rfl ?_
    have g10 : 0 ≤ m6.1 7 ∧ m6.1 7 ≤ 330 := Tm6.1 7
    have g11 : 0 ≤ m6.1 8 ∧ m6.1 8 ≤ 4000 := Tm6.1 8
    have g12 : 0 ≤ m6.1 9 ∧ m6.1 9 ≤ 4000 := Tm6.1 9
    have g13 : 0 ≤ m6.1 10 ∧ m6.1 10 ≤ 8 := Tm6.1 10
    have g14 : 0 ≤ m6.1 28 ∧ m6.1 28 ≤ 800 := Tm6.1 28
    have g15 : 0 ≤ m6.1 69 ∧ m6.1 69 ≤ 1024 := Tm6.1 69
    by_cases hf16 : (m6.1 10) = 0
    · skip
      replace h7 : (m.1 10) = 0 := h7 hf16
      replace h8 : LxP (m6.1 7) (m6.1 8) (m6.1 9) (m.1 6) (m6.1 10) := h8
      have hLx := h8
      obtain ⟨c17, c18, c19, c20, c21, c22⟩ := c9 hf16
      replace c17 : (m.1 8) + 1 ≤ (m6.1 8) := c17
      replace c18 : (m6.1 69) ≤ 64 := c18
      replace c19 : (m.1 28) ≤ (m6.1 28) := c19
      replace c20 : okc (m6.2 65) (m.1 28) (m6.1 28) := c20
      have hOk := c20
      replace c21 : CN (m6.2 65) (m6.2 67) (m6.1 28) := c21
      have hCN := c21
      replace c22 : agr (m.2 65) (m6.2 65) (m.1 28) := c22
      have hAg := c22
      clear c9
      have u23 : (m.1 8) + 1 ≤ (m6.1 8) := by omega
      refine T_gf 26 (.ref 268) rfl rfl rfl rfl rfl rfl ?_
      refine T_ld 27 (.int (i32 s)) rfl (fun _ => rfl) ?_
      refine T_gf 31 (.int (i32 (m6.1 28))) rfl rfl rfl rfl rfl rfl ?_
      have G24 : ∀ j, 0 ≤ (upI (m.2 108) s (m6.1 28)) j ∧ (upI (m.2 108) s (m6.1 28)) j ≤ 800 := upI_rg (hT.2.1 108) ⟨by omega, by omega⟩
      refine T_iast (a' := [(108, upI (m.2 108) s (m6.1 28))]) 32 108 (m.2 108) rfl rfl rfl (by omega) (show s < (240 : Int) by omega) (show (m6.2 108) = (m.2 108) from (fr2 Fm6 108 rfl)) rfl ?_
      refine T_ret rfl (fun _ => rfl) ?_
      exact ⟨(mO m6 [] [(108, upI (m.2 108) s (m6.1 28))]), (Ty_mO Tm6 rfl rfl trivial ⟨G24, trivial⟩), (fr_m (fr_s Fm6 (fr_m fr_0 rfl rfl) rfl rfl) rfl rfl), (show (m6.1 10) = 0 → (m.1 10) = 0 by omega), (show LxP (m6.1 7) (m6.1 8) (m6.1 9) (m.1 6) (m6.1 10) by first | (first | exact hLx | exact (fun _ => hLx (by omega)) | (intro h9; exfalso; omega)) | (exfalso; omega)), (fun _ => ⟨(show (m.1 8) + 1 ≤ (m6.1 8) by omega), (show CN (m6.2 65) (m6.2 67) (m6.1 28) by first | (exact hCN) | (exfalso; omega)), (show agr (m.2 65) (m6.2 65) (m.1 28) by first | (exact hAg) | (exfalso; omega)), (show (m.1 28) ≤ (m6.1 28) by omega), (show cdr (m6.2 65) (m6.1 28) ((m6.2 107) s) ((upI (m.2 108) s (m6.1 28)) s) by rewrite [(show (m6.2 107) = (upI (m.2 107) s (m.1 28)) from (fr2 Fm6 107 rfl))]; first | (rw [upI_s, upI_s]; exact ⟨hOk, by omega⟩) | (exfalso; omega)), (show agr (m.2 107) (m6.2 107) s by rewrite [(show (m6.2 107) = (upI (m.2 107) s (m.1 28)) from (fr2 Fm6 107 rfl))]; first | (exact agr_u (Int.le_refl _)) | (exfalso; omega)), (show agr (m.2 108) (upI (m.2 108) s (m6.1 28)) s by first | (exact agr_u (Int.le_refl _)) | (exfalso; omega))⟩), rfl⟩
    · skip
      clear c9
      clear h7
      replace h8 : LxP (m6.1 7) (m6.1 8) (m6.1 9) (m.1 6) (m6.1 10) := h8
      have hLx := h8
      have hf25 : 1 ≤ (m6.1 10) := by omega
      refine T_gf 26 (.ref 268) rfl rfl rfl rfl rfl rfl ?_
      refine T_ld 27 (.int (i32 s)) rfl (fun _ => rfl) ?_
      refine T_gf 31 (.int (i32 (m6.1 28))) rfl rfl rfl rfl rfl rfl ?_
      have G26 : ∀ j, 0 ≤ (upI (m.2 108) s (m6.1 28)) j ∧ (upI (m.2 108) s (m6.1 28)) j ≤ 800 := upI_rg (hT.2.1 108) ⟨by omega, by omega⟩
      refine T_iast (a' := [(108, upI (m.2 108) s (m6.1 28))]) 32 108 (m.2 108) rfl rfl rfl (by omega) (show s < (240 : Int) by omega) (show (m6.2 108) = (m.2 108) from (fr2 Fm6 108 rfl)) rfl ?_
      refine T_ret rfl (fun _ => rfl) ?_
      exact ⟨(mO m6 [] [(108, upI (m.2 108) s (m6.1 28))]), (Ty_mO Tm6 rfl rfl trivial ⟨G26, trivial⟩), (fr_m (fr_s Fm6 (fr_m fr_0 rfl rfl) rfl rfl) rfl rfl), (show (m6.1 10) = 0 → (m.1 10) = 0 by omega), (show LxP (m6.1 7) (m6.1 8) (m6.1 9) (m.1 6) (m6.1 10) by first | (first | exact hLx | exact (fun _ => hLx (by omega)) | (intro h9; exfalso; omega)) | (exfalso; omega)), (fun (h : (m6.1 10) = 0) => absurd h (by omega)), rfl⟩
  · skip
    clear hC
    refine T_gf 4 (.ref 267) rfl rfl rfl rfl rfl rfl ?_
    refine T_ld 5 (.int (i32 s)) rfl (fun _ => rfl) ?_
    refine T_gf 9 (.int (i32 (m.1 28))) rfl rfl rfl rfl rfl rfl ?_
    have G27 : ∀ j, 0 ≤ (upI (m.2 107) s (m.1 28)) j ∧ (upI (m.2 107) s (m.1 28)) j ≤ 800 := upI_rg (hT.2.1 107) ⟨by omega, by omega⟩
    refine T_iast (a' := [(107, upI (m.2 107) s (m.1 28))]) 10 107 (m.2 107) rfl rfl rfl (by omega) (show s < (240 : Int) by omega) rfl rfl ?_
    refine T_gf 14 (.int (i32 (m.1 10))) rfl rfl rfl rfl rfl rfl ?_
    refine T_if 22 17 rfl rfl rfl (r32 (by omega) (by omega)) (fun (h28 : (m.1 10) ≠ 0) => ?_) (fun (h28 : ¬ ((m.1 10) ≠ 0)) => by exfalso; omega)
    refine T_gf 26 (.ref 268) rfl rfl rfl rfl rfl rfl ?_
    refine T_ld 27 (.int (i32 s)) rfl (fun _ => rfl) ?_
    refine T_gf 31 (.int (i32 (m.1 28))) rfl rfl rfl rfl rfl rfl ?_
    have G29 : ∀ j, 0 ≤ (upI (m.2 108) s (m.1 28)) j ∧ (upI (m.2 108) s (m.1 28)) j ≤ 800 := upI_rg (hT.2.1 108) ⟨by omega, by omega⟩
    refine T_iast (a' := [(107, upI (m.2 107) s (m.1 28)), (108, upI (m.2 108) s (m.1 28))]) 32 108 (m.2 108) rfl rfl rfl (by omega) (show s < (240 : Int) by omega) rfl rfl ?_
    refine T_ret rfl (fun _ => rfl) ?_
    exact ⟨(mO m [] [(107, upI (m.2 107) s (m.1 28)), (108, upI (m.2 108) s (m.1 28))]), (Ty_mO hT rfl rfl trivial ⟨G27, G29, trivial⟩), (fr_m fr_0 rfl rfl), (show (m.1 10) = 0 → (m.1 10) = 0 by omega), (show LxP (m.1 7) (m.1 8) (m.1 9) (m.1 6) (m.1 10) by first | (first | exact hLx | exact (fun _ => hLx (by omega)) | (intro h9; exfalso; omega)) | (exfalso; omega)), (fun (h : (m.1 10) = 0) => absurd h (by omega)), rfl⟩
def fF_takeStatement : List Nat := [7, 8, 9, 10, 11, 12, 28, 69, 70, 71, 72, 73, 74, 75, 99, 100]
def fA_takeStatement : List Nat := [65, 66, 67, 68, 76, 77, 78, 79, 80, 81, 82, 83, 84, 85, 86, 87, 88, 89, 90, 91, 92, 101, 102, 103, 104, 105, 106, 107, 108]
def Q_takeStatement (m : mR) (c : Nat → Option am_C) (N : Nat) : ag_Re af_T → Prop := fun R => ∃ (M : mR), Ty M ∧ fr fF_takeStatement fA_takeStatement m M ∧ ((M.1 10) = 0 → (m.1 10) = 0) ∧ (LxP (M.1 7) (M.1 8) (M.1 9) (m.1 6) (M.1 10)) ∧ ((M.1 99) = (m.1 99) + 1) ∧ (M.1 10 = 0 → ((m.1 8) + 1 ≤ (M.1 8)) ∧ ((m.1 28) ≤ (M.1 28)) ∧ (CN (M.2 65) (M.2 67) (M.1 28)) ∧ (agr (m.2 65) (M.2 65) (m.1 28)) ∧ (TdP (M.2 65) (M.1 28) (m.1 22) (M.1 99) (M.2 101) (M.2 103) (M.2 105) (M.2 106) (M.2 107) (M.2 108))) ∧ R = (.inl (none), (mhp M c, N), 0, 0)
set_option maxHeartbeats 3000000 in
theorem c_takeStatement (w : wX) (m : mR) (c : Nat → Option am_C) (N D : Nat) (hD : 13 ≤ D) (hT : Ty m) (hLx0 : LxP (m.1 7) (m.1 8) (m.1 9) (m.1 6) (m.1 10)) (hNM0 : ∀ k, (m.2 14) k + (m.2 15) k ≤ 4000) (hFA0 : ∀ k, (m.2 31) k + (m.2 32) k ≤ 4000) (hPA0 : ∀ k, (m.2 47) k + (m.2 48) k ≤ 4000) (p4 : (m.1 99) ≤ 239) (hf0 : m.1 10 = 0) (hC : (PN (m.1 13) (m.1 19) (m.1 20) (m.1 21) (m.1 22) (m.1 23) (m.1 25) (m.1 26) (m.2 16) (m.2 17)) ∧ (CN (m.2 65) (m.2 67) (m.1 28)) ∧ ((m.1 7) ≠ 0) ∧ (TdP (m.2 65) (m.1 28) (m.1 22) (m.1 99) (m.2 101) (m.2 103) (m.2 105) (m.2 106) (m.2 107) (m.2 108))) : TC w D 270 [.ref 189] (mhp m c, N) (Q_takeStatement m c N) := by
  obtain ⟨D, rfl⟩ : ∃ k, D = k + 1 := ⟨D - 1, by omega⟩
  have hLx := hLx0
  have hNM := hNM0
  have hFA := hFA0
  have hPA := hPA0
  have f7 : 0 ≤ m.1 7 ∧ m.1 7 ≤ 330 := hT.1 7
  have f8 : 0 ≤ m.1 8 ∧ m.1 8 ≤ 4000 := hT.1 8
  have f9 : 0 ≤ m.1 9 ∧ m.1 9 ≤ 4000 := hT.1 9
  have f10 : 0 ≤ m.1 10 ∧ m.1 10 ≤ 8 := hT.1 10
  have f28 : 0 ≤ m.1 28 ∧ m.1 28 ≤ 800 := hT.1 28
  have f99 : 0 ≤ m.1 99 ∧ m.1 99 ≤ 240 := hT.1 99
  have f100 : 0 ≤ m.1 100 ∧ m.1 100 ≤ 64 := hT.1 100
  have f25 : 0 ≤ m.1 25 ∧ m.1 25 ≤ 16 := hT.1 25
  have f22 : 0 ≤ m.1 22 ∧ m.1 22 ≤ 8 := hT.1 22
  have f19 : 0 ≤ m.1 19 ∧ m.1 19 ≤ 12 := hT.1 19
  have f20 : 0 ≤ m.1 20 ∧ m.1 20 ≤ 12 := hT.1 20
  have f21 : 0 ≤ m.1 21 ∧ m.1 21 ≤ 16 := hT.1 21
  have f13 : 0 ≤ m.1 13 ∧ m.1 13 ≤ 120 := hT.1 13
  have f6 : 0 ≤ m.1 6 ∧ m.1 6 ≤ 4000 := hT.1 6
  have f23 : 0 ≤ m.1 23 ∧ m.1 23 ≤ 16 := hT.1 23
  have f26 : 0 ≤ m.1 26 ∧ m.1 26 ≤ 8 := hT.1 26
  refine Tc_of rfl ?_
  show TT w D pm_270 (0, [(0, .ref 189)], [], (mhp (mO m [] []) c, N), 0, 0) (Q_takeStatement m c N)
  obtain ⟨pPN, hCN, c1, pTd⟩ := hC
  have h7 := hLx (by omega)
  have hAgC := agr_r (m.2 65) (m.1 28)
  have J235_25 : ∀ (m24 : mR), Ty m24 → fr [7, 8, 9, 10, 11, 12, 28, 69, 70, 71, 72, 73, 74, 75, 99, 100] [65, 66, 67, 68, 76, 77, 78, 79, 80, 81, 82, 83, 84, 85, 86, 87, 88, 89, 90, 91, 92, 101, 102, 103, 104, 105, 106, 107, 108] (mO m [] []) m24 → ((m24.1 99) = (m.1 99) + 1) → (1 ≤ (m24.1 10)) → TT w D pm_270 (235, [(0, .ref 189)], [], (mhp (mO m24 [] []) c, N), 0, 0) (Q_takeStatement m c N) := by
    intro m24 Tm24 Fm24 ic26 ic27
    have q28_7 : 0 ≤ m24.1 7 ∧ m24.1 7 ≤ 330 := Tm24.1 7
    have q28_8 : 0 ≤ m24.1 8 ∧ m24.1 8 ≤ 4000 := Tm24.1 8
    have q28_9 : 0 ≤ m24.1 9 ∧ m24.1 9 ≤ 4000 := Tm24.1 9
    have q28_10 : 0 ≤ m24.1 10 ∧ m24.1 10 ≤ 8 := Tm24.1 10
    have q28_28 : 0 ≤ m24.1 28 ∧ m24.1 28 ≤ 800 := Tm24.1 28
    have q28_99 : 0 ≤ m24.1 99 ∧ m24.1 99 ≤ 240 := Tm24.1 99
    have q28_100 : 0 ≤ m24.1 100 ∧ m24.1 100 ≤ 64 := Tm24.1 100
    refine T_ret rfl (fun _ => rfl) ?_
    exact ⟨(mO m24 [] []), Tm24, (fr_m (fr_s Fm24 (fr_m fr_0 rfl rfl) rfl rfl) rfl rfl), (show (m24.1 10) = 0 → (m.1 10) = 0 by omega), (show LxP (m24.1 7) (m24.1 8) (m24.1 9) (m.1 6) (m24.1 10) by first | (first | exact hLx | exact (fun _ => hLx (by omega)) | (intro h9; exfalso; omega)) | (exfalso; omega)), (show (m24.1 99) = (m.1 99) + 1 by omega), (fun (h : (m24.1 10) = 0) => absurd h (by omega)), rfl⟩
  have J228_33 : ∀ (s31 : Int) (m32 : mR), (R32 s31) → Ty m32 → fr [7, 8, 9, 10, 11, 12, 99] [101] (mO m [] []) m32 → (0 ≤ s31) → (s31 ≤ 11) → ((m32.1 99) = (m.1 99) + 1) → (0 ≤ (m.1 99) ∧ (m.1 99) ≤ 240) → (1 ≤ (m32.1 10)) → TT w D pm_270 (228, [(0, .ref 189)], [.int (i32 s31), .int (i32 (m.1 99)), .ref 264], (mhp (mO m32 [] []) c, N), 0, 0) (Q_takeStatement m c N) := by
    intro s31 m32 q39 Tm32 Fm32 ic34 ic35 ic36 ic37 ic38
    obtain ⟨q39a, q39b⟩ := id q39
    have q40_7 : 0 ≤ m32.1 7 ∧ m32.1 7 ≤ 330 := Tm32.1 7
    have q40_8 : 0 ≤ m32.1 8 ∧ m32.1 8 ≤ 4000 := Tm32.1 8
    have q40_9 : 0 ≤ m32.1 9 ∧ m32.1 9 ≤ 4000 := Tm32.1 9
    have q40_10 : 0 ≤ m32.1 10 ∧ m32.1 10 ≤ 8 := Tm32.1 10
    have q40_99 : 0 ≤ m32.1 99 ∧ m32.1 99 ≤ 240 := Tm32.1 99
    have G43 : ∀ j, 0 ≤ (upI (m.2 104) (m.1 99) s31) j ∧ (upI (m.2 104) (m.1 99) s31) j ≤ 11 := upI_rg (hT.2.1 104) ⟨by omega, by omega⟩
    refine T_iast (a' := [(104, upI (m.2 104) (m.1 99) s31)]) 229 104 (m.2 104) rfl rfl rfl (by omega) (show (m.1 99) < (240 : Int) by omega) (show (m32.2 104) = (m.2 104) from (fr2 Fm32 104 rfl)) rfl ?_
    refine T_ld 230 (.ref 189) rfl (fun _ => rfl) ?_
    refine T_ld 232 (.int (i32 59)) rfl (fun _ => rfl) ?_
    refine T_call 235 232 [.ref 189, .int (i32 59)] [] rfl (fun _ => rfl) rfl (d_need w (mO m32 [] [(104, upI (m.2 104) (m.1 99) s31)]) c N D (by omega) (Ty_mO Tm32 rfl rfl trivial ⟨G43, trivial⟩) 59 ⟨by decide, by decide⟩ (show 1 ≤ (59 : Int) by omega) (show LxP (m32.1 7) (m32.1 8) (m32.1 9) (m32.1 6) (m32.1 10) by rewrite [(show (m32.1 6) = (m.1 6) from (fr1 Fm32 6 rfl))]; first | exact hLx | (intro h9; exfalso; omega) | (intro h9; have h8 := hLx (by omega); omega))) (fun rr44 k45 => ?_)
    obtain ⟨m46, Tm46, Fm46, h47, h48, h49, h50, rfl⟩ := k45
    refine ⟨_, _, rfl, ?_⟩
    refine T_nb (st' := []) rfl ?_
    have g51 : 0 ≤ m46.1 7 ∧ m46.1 7 ≤ 330 := Tm46.1 7
    have g52 : 0 ≤ m46.1 8 ∧ m46.1 8 ≤ 4000 := Tm46.1 8
    have g53 : 0 ≤ m46.1 9 ∧ m46.1 9 ≤ 4000 := Tm46.1 9
    have g54 : 0 ≤ m46.1 10 ∧ m46.1 10 ≤ 8 := Tm46.1 10
    replace h47 : LxP (m46.1 7) (m46.1 8) (m46.1 9) (m32.1 6) (m46.1 10) := h47
    rewrite [(show (m32.1 6) = (m.1 6) from (fr1 Fm32 6 rfl))] at h47
    replace h48 : (m46.1 10) = 0 → (m32.1 10) = 0 ∧ (m32.1 7) = (59 : Int) := h48
    replace h49 : (m32.1 8) ≤ (m46.1 8) := h49
    replace h50 : (m46.1 10) = 0 → (m32.1 8) + (m32.1 9) ≤ (m46.1 8) := h50
    have hf55 : 1 ≤ (m46.1 10) := by omega
    clear h48
    clear h50
    have hLx := h47
    clear q40_7 q40_8 q40_9 q40_10 ic38 h49
    exact J235_25 (mO m46 [] []) Tm46 (fr_m (fr_s Fm46 (fr_m (fr_s Fm32 (fr_m fr_0 rfl rfl) rfl rfl) rfl rfl) rfl rfl) rfl rfl) (show (m46.1 99) = (m.1 99) + 1 by rewrite [(show (m46.1 99) = (m32.1 99) from (fr1 Fm46 99 rfl))]; omega) (show 1 ≤ (m46.1 10) by omega)
  have J176_57 : ∀ (m56 : mR), Ty m56 → fr [7, 8, 9, 10, 11, 12, 28, 69, 70, 71, 72, 73, 74, 75, 99] [65, 66, 67, 68, 76, 77, 78, 79, 80, 81, 82, 83, 84, 85, 86, 87, 88, 89, 90, 91, 92, 101, 103, 105, 106] (mO m [] []) m56 → ((m56.1 99) = (m.1 99) + 1) → (0 ≤ (m.1 99) ∧ (m.1 99) ≤ 240) → (1 ≤ (m56.1 10)) → TT w D pm_270 (176, [(0, .ref 189), (1, .int (i32 (m.1 99)))], [], (mhp (mO m56 [] []) c, N), 0, 0) (Q_takeStatement m c N) := by
    intro m56 Tm56 Fm56 ic58 ic59 ic60
    have q61_7 : 0 ≤ m56.1 7 ∧ m56.1 7 ≤ 330 := Tm56.1 7
    have q61_8 : 0 ≤ m56.1 8 ∧ m56.1 8 ≤ 4000 := Tm56.1 8
    have q61_9 : 0 ≤ m56.1 9 ∧ m56.1 9 ≤ 4000 := Tm56.1 9
    have q61_10 : 0 ≤ m56.1 10 ∧ m56.1 10 ≤ 8 := Tm56.1 10
    have q61_28 : 0 ≤ m56.1 28 ∧ m56.1 28 ≤ 800 := Tm56.1 28
    have q61_99 : 0 ≤ m56.1 99 ∧ m56.1 99 ≤ 240 := Tm56.1 99
    refine T_gf 180 (.int (i32 (m56.1 10))) rfl rfl rfl rfl rfl rfl ?_
    refine T_if 229 183 rfl rfl rfl (r32 (by omega) (by omega)) (fun (h64 : (m56.1 10) ≠ 0) => ?_) (fun (h64 : ¬ ((m56.1 10) ≠ 0)) => by exfalso; omega)
    refine T_ld 230 (.ref 189) rfl (fun _ => rfl) ?_
    refine T_ld 232 (.int (i32 59)) rfl (fun _ => rfl) ?_
    refine T_call 235 232 [.ref 189, .int (i32 59)] [] rfl (fun _ => rfl) rfl (d_need w (mO m56 [] []) c N D (by omega) Tm56 59 ⟨by decide, by decide⟩ (show 1 ≤ (59 : Int) by omega) (show LxP (m56.1 7) (m56.1 8) (m56.1 9) (m56.1 6) (m56.1 10) by rewrite [(show (m56.1 6) = (m.1 6) from (fr1 Fm56 6 rfl))]; first | exact hLx | (intro h9; exfalso; omega) | (intro h9; have h8 := hLx (by omega); omega))) (fun rr65 k66 => ?_)
    obtain ⟨m67, Tm67, Fm67, h68, h69, h70, h71, rfl⟩ := k66
    refine ⟨_, _, rfl, ?_⟩
    refine T_nb (st' := []) rfl ?_
    have g72 : 0 ≤ m67.1 7 ∧ m67.1 7 ≤ 330 := Tm67.1 7
    have g73 : 0 ≤ m67.1 8 ∧ m67.1 8 ≤ 4000 := Tm67.1 8
    have g74 : 0 ≤ m67.1 9 ∧ m67.1 9 ≤ 4000 := Tm67.1 9
    have g75 : 0 ≤ m67.1 10 ∧ m67.1 10 ≤ 8 := Tm67.1 10
    replace h68 : LxP (m67.1 7) (m67.1 8) (m67.1 9) (m56.1 6) (m67.1 10) := h68
    rewrite [(show (m56.1 6) = (m.1 6) from (fr1 Fm56 6 rfl))] at h68
    replace h69 : (m67.1 10) = 0 → (m56.1 10) = 0 ∧ (m56.1 7) = (59 : Int) := h69
    replace h70 : (m56.1 8) ≤ (m67.1 8) := h70
    replace h71 : (m67.1 10) = 0 → (m56.1 8) + (m56.1 9) ≤ (m67.1 8) := h71
    have hf76 : 1 ≤ (m67.1 10) := by omega
    clear h69
    clear h71
    have hLx := h68
    clear q61_7 q61_8 q61_9 q61_10 ic60 h64 h70
    refine Tm_lv (a := [(0, .ref 189)]) rfl rfl ⟨rfl, trivial⟩ ?_
    exact J235_25 (mO m67 [] []) Tm67 (fr_m (fr_s Fm67 (fr_m (fr_s Fm56 (fr_m fr_0 rfl rfl) rfl rfl) rfl rfl) rfl rfl) rfl rfl) (show (m67.1 99) = (m.1 99) + 1 by rewrite [(show (m67.1 99) = (m56.1 99) from (fr1 Fm67 99 rfl))]; omega) (show 1 ≤ (m67.1 10) by omega)
  have J170_79 : ∀ (s77 : Int) (m78 : mR), (R32 s77) → Ty m78 → fr [7, 8, 9, 10, 11, 12, 99] [101] (mO m [] []) m78 → (0 ≤ s77) → (s77 ≤ 7) → ((m78.1 99) = (m.1 99) + 1) → (0 ≤ (m.1 99) ∧ (m.1 99) ≤ 240) → (0 ≤ (m.1 99) ∧ (m.1 99) ≤ 240) → (1 ≤ (m78.1 10)) → TT w D pm_270 (170, [(0, .ref 189), (1, .int (i32 (m.1 99)))], [.int (i32 s77), .int (i32 (m.1 99)), .ref 263], (mhp (mO m78 [] []) c, N), 0, 0) (Q_takeStatement m c N) := by
    intro s77 m78 q86 Tm78 Fm78 ic80 ic81 ic82 ic83 ic84 ic85
    obtain ⟨q86a, q86b⟩ := id q86
    have q87_7 : 0 ≤ m78.1 7 ∧ m78.1 7 ≤ 330 := Tm78.1 7
    have q87_8 : 0 ≤ m78.1 8 ∧ m78.1 8 ≤ 4000 := Tm78.1 8
    have q87_9 : 0 ≤ m78.1 9 ∧ m78.1 9 ≤ 4000 := Tm78.1 9
    have q87_10 : 0 ≤ m78.1 10 ∧ m78.1 10 ≤ 8 := Tm78.1 10
    have q87_99 : 0 ≤ m78.1 99 ∧ m78.1 99 ≤ 240 := Tm78.1 99
    have G90 : ∀ j, 0 ≤ (upI (m.2 103) (m.1 99) s77) j ∧ (upI (m.2 103) (m.1 99) s77) j ≤ 7 := upI_rg (hT.2.1 103) ⟨by omega, by omega⟩
    refine T_iast (a' := [(103, upI (m.2 103) (m.1 99) s77)]) 171 103 (m.2 103) rfl rfl rfl (by omega) (show (m.1 99) < (240 : Int) by omega) (show (m78.2 103) = (m.2 103) from (fr2 Fm78 103 rfl)) rfl ?_
    refine T_ld 172 (.ref 189) rfl (fun _ => rfl) ?_
    refine T_ld 173 (.int (i32 (m.1 99))) rfl (fun _ => rfl) ?_
    refine T_call 176 274 [.ref 189, .int (i32 (m.1 99))] [] rfl (fun _ => rfl) rfl (c_takeIndex w (mO m78 [] [(103, upI (m.2 103) (m.1 99) s77)]) c N D (by omega) (Ty_mO Tm78 rfl rfl trivial ⟨G90, trivial⟩) (m.1 99) (r32 (by omega) (by omega)) (show LxP (m78.1 7) (m78.1 8) (m78.1 9) (m78.1 6) (m78.1 10) by rewrite [(show (m78.1 6) = (m.1 6) from (fr1 Fm78 6 rfl))]; first | exact hLx | exact (fun _ => hLx (by omega)) | (intro h9; exfalso; omega)) (show ∀ k, (m78.2 14) k + (m78.2 15) k ≤ 4000 by rewrite [(show (m78.2 14) = (m.2 14) from (fr2 Fm78 14 rfl)), (show (m78.2 15) = (m.2 15) from (fr2 Fm78 15 rfl))]; assumption) (show ∀ k, (m78.2 31) k + (m78.2 32) k ≤ 4000 by rewrite [(show (m78.2 31) = (m.2 31) from (fr2 Fm78 31 rfl)), (show (m78.2 32) = (m.2 32) from (fr2 Fm78 32 rfl))]; assumption) (show ∀ k, (m78.2 47) k + (m78.2 48) k ≤ 4000 by rewrite [(show (m78.2 47) = (m.2 47) from (fr2 Fm78 47 rfl)), (show (m78.2 48) = (m.2 48) from (fr2 Fm78 48 rfl))]; assumption) (show 0 ≤ (m.1 99) ∧ (m.1 99) ≤ 239 by omega) (fun (h : (m78.1 10) = 0) => absurd h (by omega))) (fun rr91 k92 => ?_)
    obtain ⟨m93, Tm93, Fm93, h94, h95, c96, rfl⟩ := k92
    refine ⟨_, _, rfl, ?_⟩
    refine T_nb (st' := []) rfl ?_
    have g97 : 0 ≤ m93.1 7 ∧ m93.1 7 ≤ 330 := Tm93.1 7
    have g98 : 0 ≤ m93.1 8 ∧ m93.1 8 ≤ 4000 := Tm93.1 8
    have g99 : 0 ≤ m93.1 9 ∧ m93.1 9 ≤ 4000 := Tm93.1 9
    have g100 : 0 ≤ m93.1 10 ∧ m93.1 10 ≤ 8 := Tm93.1 10
    have g101 : 0 ≤ m93.1 28 ∧ m93.1 28 ≤ 800 := Tm93.1 28
    replace h94 : (m93.1 10) = 0 → (m78.1 10) = 0 := h94
    replace h95 : LxP (m93.1 7) (m93.1 8) (m93.1 9) (m78.1 6) (m93.1 10) := h95
    rewrite [(show (m78.1 6) = (m.1 6) from (fr1 Fm78 6 rfl))] at h95
    have hf102 : 1 ≤ (m93.1 10) := by omega
    clear c96
    clear h94
    have hLx := h95
    clear q87_7 q87_8 q87_9 q87_10 ic85
    exact J176_57 (mO m93 [] []) Tm93 (fr_m (fr_s Fm93 (fr_m (fr_s Fm78 (fr_m fr_0 rfl rfl) rfl rfl) rfl rfl) rfl rfl) rfl rfl) (show (m93.1 99) = (m.1 99) + 1 by rewrite [(show (m93.1 99) = (m78.1 99) from (fr1 Fm93 99 rfl))]; omega) (show 0 ≤ (m.1 99) ∧ (m.1 99) ≤ 240 by omega) (show 1 ≤ (m93.1 10) by omega)
  have J143_104 : ∀ (m103 : mR), Ty m103 → fr [7, 8, 9, 10, 11, 12, 28, 69, 70, 71, 72, 73, 74, 75, 99, 100] [65, 66, 67, 68, 76, 77, 78, 79, 80, 81, 82, 83, 84, 85, 86, 87, 88, 89, 90, 91, 92, 101, 102, 103, 105, 106] (mO m [] []) m103 → ((m103.1 99) = (m.1 99) + 1) → (1 ≤ (m103.1 10)) → TT w D pm_270 (143, [(0, .ref 189)], [], (mhp (mO m103 [] []) c, N), 0, 0) (Q_takeStatement m c N) := by
    intro m103 Tm103 Fm103 ic105 ic106
    have q107_7 : 0 ≤ m103.1 7 ∧ m103.1 7 ≤ 330 := Tm103.1 7
    have q107_8 : 0 ≤ m103.1 8 ∧ m103.1 8 ≤ 4000 := Tm103.1 8
    have q107_9 : 0 ≤ m103.1 9 ∧ m103.1 9 ≤ 4000 := Tm103.1 9
    have q107_10 : 0 ≤ m103.1 10 ∧ m103.1 10 ≤ 8 := Tm103.1 10
    have q107_28 : 0 ≤ m103.1 28 ∧ m103.1 28 ≤ 800 := Tm103.1 28
    have q107_99 : 0 ≤ m103.1 99 ∧ m103.1 99 ≤ 240 := Tm103.1 99
    have q107_100 : 0 ≤ m103.1 100 ∧ m103.1 100 ≤ 64 := Tm103.1 100
    refine T_goto 229 rfl (fun _ => rfl) ?_
    refine T_ld 230 (.ref 189) rfl (fun _ => rfl) ?_
    refine T_ld 232 (.int (i32 59)) rfl (fun _ => rfl) ?_
    refine T_call 235 232 [.ref 189, .int (i32 59)] [] rfl (fun _ => rfl) rfl (d_need w (mO m103 [] []) c N D (by omega) Tm103 59 ⟨by decide, by decide⟩ (show 1 ≤ (59 : Int) by omega) (show LxP (m103.1 7) (m103.1 8) (m103.1 9) (m103.1 6) (m103.1 10) by rewrite [(show (m103.1 6) = (m.1 6) from (fr1 Fm103 6 rfl))]; first | exact hLx | (intro h9; exfalso; omega) | (intro h9; have h8 := hLx (by omega); omega))) (fun rr110 k111 => ?_)
    obtain ⟨m112, Tm112, Fm112, h113, h114, h115, h116, rfl⟩ := k111
    refine ⟨_, _, rfl, ?_⟩
    refine T_nb (st' := []) rfl ?_
    have g117 : 0 ≤ m112.1 7 ∧ m112.1 7 ≤ 330 := Tm112.1 7
    have g118 : 0 ≤ m112.1 8 ∧ m112.1 8 ≤ 4000 := Tm112.1 8
    have g119 : 0 ≤ m112.1 9 ∧ m112.1 9 ≤ 4000 := Tm112.1 9
    have g120 : 0 ≤ m112.1 10 ∧ m112.1 10 ≤ 8 := Tm112.1 10
    replace h113 : LxP (m112.1 7) (m112.1 8) (m112.1 9) (m103.1 6) (m112.1 10) := h113
    rewrite [(show (m103.1 6) = (m.1 6) from (fr1 Fm103 6 rfl))] at h113
    replace h114 : (m112.1 10) = 0 → (m103.1 10) = 0 ∧ (m103.1 7) = (59 : Int) := h114
    replace h115 : (m103.1 8) ≤ (m112.1 8) := h115
    replace h116 : (m112.1 10) = 0 → (m103.1 8) + (m103.1 9) ≤ (m112.1 8) := h116
    have hf121 : 1 ≤ (m112.1 10) := by omega
    clear h114
    clear h116
    have hLx := h113
    clear q107_7 q107_8 q107_9 q107_10 ic106 h115
    exact J235_25 (mO m112 [] []) Tm112 (fr_m (fr_s Fm112 (fr_m (fr_s Fm103 (fr_m fr_0 rfl rfl) rfl rfl) rfl rfl) rfl rfl) rfl rfl) (show (m112.1 99) = (m.1 99) + 1 by rewrite [(show (m112.1 99) = (m103.1 99) from (fr1 Fm112 99 rfl))]; omega) (show 1 ≤ (m112.1 10) by omega)
  have J138_123 : ∀ (m122 : mR), Ty m122 → fr [7, 8, 9, 10, 11, 12, 99, 100] [101, 102, 103] (mO m [] []) m122 → ((m122.1 99) = (m.1 99) + 1) → (0 ≤ (m.1 99) ∧ (m.1 99) ≤ 240) → (1 ≤ (m122.1 10)) → TT w D pm_270 (138, [(0, .ref 189), (1, .int (i32 (m.1 99)))], [], (mhp (mO m122 [] []) c, N), 0, 0) (Q_takeStatement m c N) := by
    intro m122 Tm122 Fm122 ic124 ic125 ic126
    have q127_7 : 0 ≤ m122.1 7 ∧ m122.1 7 ≤ 330 := Tm122.1 7
    have q127_8 : 0 ≤ m122.1 8 ∧ m122.1 8 ≤ 4000 := Tm122.1 8
    have q127_9 : 0 ≤ m122.1 9 ∧ m122.1 9 ≤ 4000 := Tm122.1 9
    have q127_10 : 0 ≤ m122.1 10 ∧ m122.1 10 ≤ 8 := Tm122.1 10
    have q127_99 : 0 ≤ m122.1 99 ∧ m122.1 99 ≤ 240 := Tm122.1 99
    have q127_100 : 0 ≤ m122.1 100 ∧ m122.1 100 ≤ 64 := Tm122.1 100
    refine T_ld 139 (.ref 189) rfl (fun _ => rfl) ?_
    refine T_ld 140 (.int (i32 (m.1 99))) rfl (fun _ => rfl) ?_
    refine T_call 143 274 [.ref 189, .int (i32 (m.1 99))] [] rfl (fun _ => rfl) rfl (c_takeIndex w (mO m122 [] []) c N D (by omega) Tm122 (m.1 99) (r32 (by omega) (by omega)) (show LxP (m122.1 7) (m122.1 8) (m122.1 9) (m122.1 6) (m122.1 10) by rewrite [(show (m122.1 6) = (m.1 6) from (fr1 Fm122 6 rfl))]; first | exact hLx | exact (fun _ => hLx (by omega)) | (intro h9; exfalso; omega)) (show ∀ k, (m122.2 14) k + (m122.2 15) k ≤ 4000 by rewrite [(show (m122.2 14) = (m.2 14) from (fr2 Fm122 14 rfl)), (show (m122.2 15) = (m.2 15) from (fr2 Fm122 15 rfl))]; assumption) (show ∀ k, (m122.2 31) k + (m122.2 32) k ≤ 4000 by rewrite [(show (m122.2 31) = (m.2 31) from (fr2 Fm122 31 rfl)), (show (m122.2 32) = (m.2 32) from (fr2 Fm122 32 rfl))]; assumption) (show ∀ k, (m122.2 47) k + (m122.2 48) k ≤ 4000 by rewrite [(show (m122.2 47) = (m.2 47) from (fr2 Fm122 47 rfl)), (show (m122.2 48) = (m.2 48) from (fr2 Fm122 48 rfl))]; assumption) (show 0 ≤ (m.1 99) ∧ (m.1 99) ≤ 239 by omega) (fun (h : (m122.1 10) = 0) => absurd h (by omega))) (fun rr130 k131 => ?_)
    obtain ⟨m132, Tm132, Fm132, h133, h134, c135, rfl⟩ := k131
    refine ⟨_, _, rfl, ?_⟩
    refine T_nb (st' := []) rfl ?_
    have g136 : 0 ≤ m132.1 7 ∧ m132.1 7 ≤ 330 := Tm132.1 7
    have g137 : 0 ≤ m132.1 8 ∧ m132.1 8 ≤ 4000 := Tm132.1 8
    have g138 : 0 ≤ m132.1 9 ∧ m132.1 9 ≤ 4000 := Tm132.1 9
    have g139 : 0 ≤ m132.1 10 ∧ m132.1 10 ≤ 8 := Tm132.1 10
    have g140 : 0 ≤ m132.1 28 ∧ m132.1 28 ≤ 800 := Tm132.1 28
    replace h133 : (m132.1 10) = 0 → (m122.1 10) = 0 := h133
    replace h134 : LxP (m132.1 7) (m132.1 8) (m132.1 9) (m122.1 6) (m132.1 10) := h134
    rewrite [(show (m122.1 6) = (m.1 6) from (fr1 Fm122 6 rfl))] at h134
    have hf141 : 1 ≤ (m132.1 10) := by omega
    clear c135
    clear h133
    have hLx := h134
    clear q127_7 q127_8 q127_9 q127_10 ic126
    refine Tm_lv (a := [(0, .ref 189)]) rfl rfl ⟨rfl, trivial⟩ ?_
    exact J143_104 (mO m132 [] []) Tm132 (fr_m (fr_s Fm132 (fr_m (fr_s Fm122 (fr_m fr_0 rfl rfl) rfl rfl) rfl rfl) rfl rfl) rfl rfl) (show (m132.1 99) = (m.1 99) + 1 by rewrite [(show (m132.1 99) = (m122.1 99) from (fr1 Fm132 99 rfl))]; omega) (show 1 ≤ (m132.1 10) by omega)
  have J102_145 : ∀ (v142 : Int) (s143 : Int) (m144 : mR), (R32 v142) → (R32 s143) → Ty m144 → fr [7, 8, 9, 10, 11, 12, 99, 100] [101, 102] (mO m [] []) m144 → (0 ≤ v142) → (v142 ≤ 4000) → (0 ≤ s143) → (s143 ≤ 7) → ((m144.1 99) = (m.1 99) + 1) → (0 ≤ (m.1 99) ∧ (m.1 99) ≤ 240) → (0 ≤ (m.1 99) ∧ (m.1 99) ≤ 240) → (1 ≤ (m144.1 10)) → TT w D pm_270 (102, [(0, .ref 189), (1, .int (i32 (m.1 99))), (2, .int (i32 v142))], [.int (i32 s143), .int (i32 (m.1 99)), .ref 263], (mhp (mO m144 [] []) c, N), 0, 0) (Q_takeStatement m c N) := by
    intro v142 s143 m144 q154 q155 Tm144 Fm144 ic146 ic147 ic148 ic149 ic150 ic151 ic152 ic153
    obtain ⟨q154a, q154b⟩ := id q154
    obtain ⟨q155a, q155b⟩ := id q155
    have q156_7 : 0 ≤ m144.1 7 ∧ m144.1 7 ≤ 330 := Tm144.1 7
    have q156_8 : 0 ≤ m144.1 8 ∧ m144.1 8 ≤ 4000 := Tm144.1 8
    have q156_9 : 0 ≤ m144.1 9 ∧ m144.1 9 ≤ 4000 := Tm144.1 9
    have q156_10 : 0 ≤ m144.1 10 ∧ m144.1 10 ≤ 8 := Tm144.1 10
    have q156_99 : 0 ≤ m144.1 99 ∧ m144.1 99 ≤ 240 := Tm144.1 99
    have q156_100 : 0 ≤ m144.1 100 ∧ m144.1 100 ≤ 64 := Tm144.1 100
    have G159 : ∀ j, 0 ≤ (upI (m.2 103) (m.1 99) s143) j ∧ (upI (m.2 103) (m.1 99) s143) j ≤ 7 := upI_rg (hT.2.1 103) ⟨by omega, by omega⟩
    refine T_iast (a' := [(103, upI (m.2 103) (m.1 99) s143)]) 103 103 (m.2 103) rfl rfl rfl (by omega) (show (m.1 99) < (240 : Int) by omega) (show (m144.2 103) = (m.2 103) from (fr2 Fm144 103 rfl)) rfl ?_
    refine T_gf 107 (.int (i32 (m144.1 10))) rfl rfl rfl rfl rfl rfl ?_
    refine T_if 138 110 rfl rfl rfl (r32 (by omega) (by omega)) (fun (h160 : (m144.1 10) ≠ 0) => ?_) (fun (h160 : ¬ ((m144.1 10) ≠ 0)) => by exfalso; omega)
    refine T_ld 139 (.ref 189) rfl (fun _ => rfl) ?_
    refine T_ld 140 (.int (i32 (m.1 99))) rfl (fun _ => rfl) ?_
    refine T_call 143 274 [.ref 189, .int (i32 (m.1 99))] [] rfl (fun _ => rfl) rfl (c_takeIndex w (mO m144 [] [(103, upI (m.2 103) (m.1 99) s143)]) c N D (by omega) (Ty_mO Tm144 rfl rfl trivial ⟨G159, trivial⟩) (m.1 99) (r32 (by omega) (by omega)) (show LxP (m144.1 7) (m144.1 8) (m144.1 9) (m144.1 6) (m144.1 10) by rewrite [(show (m144.1 6) = (m.1 6) from (fr1 Fm144 6 rfl))]; first | exact hLx | exact (fun _ => hLx (by omega)) | (intro h9; exfalso; omega)) (show ∀ k, (m144.2 14) k + (m144.2 15) k ≤ 4000 by rewrite [(show (m144.2 14) = (m.2 14) from (fr2 Fm144 14 rfl)), (show (m144.2 15) = (m.2 15) from (fr2 Fm144 15 rfl))]; assumption) (show ∀ k, (m144.2 31) k + (m144.2 32) k ≤ 4000 by rewrite [(show (m144.2 31) = (m.2 31) from (fr2 Fm144 31 rfl)), (show (m144.2 32) = (m.2 32) from (fr2 Fm144 32 rfl))]; assumption) (show ∀ k, (m144.2 47) k + (m144.2 48) k ≤ 4000 by rewrite [(show (m144.2 47) = (m.2 47) from (fr2 Fm144 47 rfl)), (show (m144.2 48) = (m.2 48) from (fr2 Fm144 48 rfl))]; assumption) (show 0 ≤ (m.1 99) ∧ (m.1 99) ≤ 239 by omega) (fun (h : (m144.1 10) = 0) => absurd h (by omega))) (fun rr161 k162 => ?_)
    obtain ⟨m163, Tm163, Fm163, h164, h165, c166, rfl⟩ := k162
    refine ⟨_, _, rfl, ?_⟩
    refine T_nb (st' := []) rfl ?_
    have g167 : 0 ≤ m163.1 7 ∧ m163.1 7 ≤ 330 := Tm163.1 7
    have g168 : 0 ≤ m163.1 8 ∧ m163.1 8 ≤ 4000 := Tm163.1 8
    have g169 : 0 ≤ m163.1 9 ∧ m163.1 9 ≤ 4000 := Tm163.1 9
    have g170 : 0 ≤ m163.1 10 ∧ m163.1 10 ≤ 8 := Tm163.1 10
    have g171 : 0 ≤ m163.1 28 ∧ m163.1 28 ≤ 800 := Tm163.1 28
    replace h164 : (m163.1 10) = 0 → (m144.1 10) = 0 := h164
    replace h165 : LxP (m163.1 7) (m163.1 8) (m163.1 9) (m144.1 6) (m163.1 10) := h165
    rewrite [(show (m144.1 6) = (m.1 6) from (fr1 Fm144 6 rfl))] at h165
    have hf172 : 1 ≤ (m163.1 10) := by omega
    clear c166
    clear h164
    have hLx := h165
    clear q156_7 q156_8 q156_9 q156_10 ic153 h160
    refine Tm_lv (a := [(0, .ref 189)]) rfl rfl ⟨rfl, trivial⟩ ?_
    exact J143_104 (mO m163 [] []) Tm163 (fr_m (fr_s Fm163 (fr_m (fr_s Fm144 (fr_m fr_0 rfl rfl) rfl rfl) rfl rfl) rfl rfl) rfl rfl) (show (m163.1 99) = (m.1 99) + 1 by rewrite [(show (m163.1 99) = (m144.1 99) from (fr1 Fm163 99 rfl))]; omega) (show 1 ≤ (m163.1 10) by omega)
  have J86_175 : ∀ (s173 : Int) (m174 : mR), (R32 s173) → Ty m174 → fr [7, 8, 9, 10, 11, 12, 99, 100] [101] (mO m [] []) m174 → (0 ≤ s173) → (s173 ≤ 207) → ((m174.1 99) = (m.1 99) + 1) → (0 ≤ (m.1 99) ∧ (m.1 99) ≤ 240) → (0 ≤ (m.1 99) ∧ (m.1 99) ≤ 240) → (1 ≤ (m174.1 10)) → TT w D pm_270 (86, [(0, .ref 189), (1, .int (i32 (m.1 99)))], [.int (i32 s173), .int (i32 (m.1 99)), .ref 262], (mhp (mO m174 [] []) c, N), 0, 0) (Q_takeStatement m c N) := by
    intro s173 m174 q182 Tm174 Fm174 ic176 ic177 ic178 ic179 ic180 ic181
    obtain ⟨q182a, q182b⟩ := id q182
    have q183_7 : 0 ≤ m174.1 7 ∧ m174.1 7 ≤ 330 := Tm174.1 7
    have q183_8 : 0 ≤ m174.1 8 ∧ m174.1 8 ≤ 4000 := Tm174.1 8
    have q183_9 : 0 ≤ m174.1 9 ∧ m174.1 9 ≤ 4000 := Tm174.1 9
    have q183_10 : 0 ≤ m174.1 10 ∧ m174.1 10 ≤ 8 := Tm174.1 10
    have q183_99 : 0 ≤ m174.1 99 ∧ m174.1 99 ≤ 240 := Tm174.1 99
    have q183_100 : 0 ≤ m174.1 100 ∧ m174.1 100 ≤ 64 := Tm174.1 100
    have G186 : ∀ j, 0 ≤ (upI (m.2 102) (m.1 99) s173) j ∧ (upI (m.2 102) (m.1 99) s173) j ≤ 207 := upI_rg (hT.2.1 102) ⟨by omega, by omega⟩
    refine T_iast (a' := [(102, upI (m.2 102) (m.1 99) s173)]) 87 102 (m.2 102) rfl rfl rfl (by omega) (show (m.1 99) < (240 : Int) by omega) (show (m174.2 102) = (m.2 102) from (fr2 Fm174 102 rfl)) rfl ?_
    refine T_gf 91 (.int (i32 (m174.1 8))) rfl rfl rfl rfl rfl rfl ?_
    refine T_sto 92 [(2, .int (i32 (m174.1 8))), (0, .ref 189), (1, .int (i32 (m.1 99)))] rfl (fun _ => rfl) ?_
    refine T_gf 96 (.ref 263) rfl rfl rfl rfl rfl rfl ?_
    refine T_ld 97 (.int (i32 (m.1 99))) rfl (fun _ => rfl) ?_
    refine T_ld 98 (.ref 189) rfl (fun _ => rfl) ?_
    refine T_ld 99 (.int (i32 4)) rfl (fun _ => rfl) ?_
    refine T_call 102 236 [.ref 189, .int (i32 4)] [.int (i32 (m.1 99)), .ref 263] rfl (fun _ => rfl) rfl (d_oldName w (mO m174 [] [(102, upI (m.2 102) (m.1 99) s173)]) c N D (by omega) (Ty_mO Tm174 rfl rfl trivial ⟨G186, trivial⟩) 4 (m.1 22) ⟨by decide, by decide⟩ (show LxP (m174.1 7) (m174.1 8) (m174.1 9) (m174.1 6) (m174.1 10) by rewrite [(show (m174.1 6) = (m.1 6) from (fr1 Fm174 6 rfl))]; first | exact hLx | (intro h9; exfalso; omega) | (intro h9; have h8 := hLx (by omega); omega)) (show ∀ k, (m174.2 14) k + (m174.2 15) k ≤ 4000 by rewrite [(show (m174.2 14) = (m.2 14) from (fr2 Fm174 14 rfl)), (show (m174.2 15) = (m.2 15) from (fr2 Fm174 15 rfl))]; first | exact p1 | exact hNM) (show 1 ≤ (4 : Int) ∧ (4 : Int) ≤ 7 ∧ (4 : Int) ≠ 5 by omega) (show (m.1 22) ≤ 16 by omega) (show (m174.1 10) = 0 → ∀ k, 0 ≤ k → k < (m174.1 13) → (m174.2 16) k = (4 : Int) → 0 ≤ (m174.2 17) k ∧ (m174.2 17) k < (m.1 22) by rewrite [(show (m174.1 13) = (m.1 13) from (fr1 Fm174 13 rfl)), (show (m174.2 16) = (m.2 16) from (fr2 Fm174 16 rfl)), (show (m174.2 17) = (m.2 17) from (fr2 Fm174 17 rfl))]; first | exact hOL | (intro h; exfalso; omega)) (show (4 : Int) = 3 → 3 ≤ (m.1 22) by omega)) (fun rr187 k188 => ?_)
    obtain ⟨m189, oo, Tm189, Fm189, g190, h191, h192, h193, h194, h195, h196, rfl⟩ := k188
    refine ⟨_, _, rfl, ?_⟩
    refine T_nb (st' := [.int (i32 oo), .int (i32 (m.1 99)), .ref 263]) rfl ?_
    obtain ⟨g190a, g190b⟩ := g190
    have g197 : 0 ≤ m189.1 7 ∧ m189.1 7 ≤ 330 := Tm189.1 7
    have g198 : 0 ≤ m189.1 8 ∧ m189.1 8 ≤ 4000 := Tm189.1 8
    have g199 : 0 ≤ m189.1 9 ∧ m189.1 9 ≤ 4000 := Tm189.1 9
    have g200 : 0 ≤ m189.1 10 ∧ m189.1 10 ≤ 8 := Tm189.1 10
    replace h191 : LxP (m189.1 7) (m189.1 8) (m189.1 9) (m174.1 6) (m189.1 10) := h191
    rewrite [(show (m174.1 6) = (m.1 6) from (fr1 Fm174 6 rfl))] at h191
    replace h192 : (m174.1 8) ≤ (m189.1 8) := h192
    replace h193 : (m189.1 10) = 0 → (m174.1 10) = 0 ∧ (m174.1 8) + (m174.1 9) ≤ (m189.1 8) := h193
    replace h194 : (m189.1 10) = 0 → (m174.1 7) = 1 := h194
    replace h195 : 0 ≤ oo ∧ (oo < (m.1 22) ∨ oo = 0) := h195
    replace h196 : (m189.1 10) = 0 → oo < (m.1 22) := h196
    have hf201 : 1 ≤ (m189.1 10) := by omega
    clear h193
    clear h194
    clear h196
    have hLx := h191
    clear q183_7 q183_9 q183_10 ic181
    refine Tm_lv (a := [(0, .ref 189), (1, .int (i32 (m.1 99))), (2, .int (i32 (m174.1 8)))]) rfl rfl ⟨rfl, rfl, rfl, trivial⟩ ?_
    exact J102_145 (m174.1 8) oo (mO m189 [] []) (r32 (by omega) (by omega)) (r32 (by omega) (by omega)) Tm189 (fr_m (fr_s Fm189 (fr_m (fr_s Fm174 (fr_m fr_0 rfl rfl) rfl rfl) rfl rfl) rfl rfl) rfl rfl) (show 0 ≤ (m174.1 8) by omega) (show (m174.1 8) ≤ 4000 by omega) (show 0 ≤ oo by omega) (show oo ≤ 7 by omega) (show (m189.1 99) = (m.1 99) + 1 by rewrite [(show (m189.1 99) = (m174.1 99) from (fr1 Fm189 99 rfl))]; omega) (show 0 ≤ (m.1 99) ∧ (m.1 99) ≤ 240 by omega) (show 0 ≤ (m.1 99) ∧ (m.1 99) ≤ 240 by omega) (show 1 ≤ (m189.1 10) by omega)
  have J60_203 : ∀ (m202 : mR), Ty m202 → fr [7, 8, 9, 10, 11, 12, 28, 69, 70, 71, 72, 73, 74, 75, 99, 100] [65, 66, 67, 68, 76, 77, 78, 79, 80, 81, 82, 83, 84, 85, 86, 87, 88, 89, 90, 91, 92, 101, 102, 107, 108] (mO m [] []) m202 → ((m202.1 99) = (m.1 99) + 1) → (1 ≤ (m202.1 10)) → TT w D pm_270 (60, [(0, .ref 189)], [], (mhp (mO m202 [] []) c, N), 0, 0) (Q_takeStatement m c N) := by
    intro m202 Tm202 Fm202 ic204 ic205
    have q206_7 : 0 ≤ m202.1 7 ∧ m202.1 7 ≤ 330 := Tm202.1 7
    have q206_8 : 0 ≤ m202.1 8 ∧ m202.1 8 ≤ 4000 := Tm202.1 8
    have q206_9 : 0 ≤ m202.1 9 ∧ m202.1 9 ≤ 4000 := Tm202.1 9
    have q206_10 : 0 ≤ m202.1 10 ∧ m202.1 10 ≤ 8 := Tm202.1 10
    have q206_28 : 0 ≤ m202.1 28 ∧ m202.1 28 ≤ 800 := Tm202.1 28
    have q206_99 : 0 ≤ m202.1 99 ∧ m202.1 99 ≤ 240 := Tm202.1 99
    have q206_100 : 0 ≤ m202.1 100 ∧ m202.1 100 ≤ 64 := Tm202.1 100
    refine T_goto 229 rfl (fun _ => rfl) ?_
    refine T_ld 230 (.ref 189) rfl (fun _ => rfl) ?_
    refine T_ld 232 (.int (i32 59)) rfl (fun _ => rfl) ?_
    refine T_call 235 232 [.ref 189, .int (i32 59)] [] rfl (fun _ => rfl) rfl (d_need w (mO m202 [] []) c N D (by omega) Tm202 59 ⟨by decide, by decide⟩ (show 1 ≤ (59 : Int) by omega) (show LxP (m202.1 7) (m202.1 8) (m202.1 9) (m202.1 6) (m202.1 10) by rewrite [(show (m202.1 6) = (m.1 6) from (fr1 Fm202 6 rfl))]; first | exact hLx | (intro h9; exfalso; omega) | (intro h9; have h8 := hLx (by omega); omega))) (fun rr209 k210 => ?_)
    obtain ⟨m211, Tm211, Fm211, h212, h213, h214, h215, rfl⟩ := k210
    refine ⟨_, _, rfl, ?_⟩
    refine T_nb (st' := []) rfl ?_
    have g216 : 0 ≤ m211.1 7 ∧ m211.1 7 ≤ 330 := Tm211.1 7
    have g217 : 0 ≤ m211.1 8 ∧ m211.1 8 ≤ 4000 := Tm211.1 8
    have g218 : 0 ≤ m211.1 9 ∧ m211.1 9 ≤ 4000 := Tm211.1 9
    have g219 : 0 ≤ m211.1 10 ∧ m211.1 10 ≤ 8 := Tm211.1 10
    replace h212 : LxP (m211.1 7) (m211.1 8) (m211.1 9) (m202.1 6) (m211.1 10) := h212
    rewrite [(show (m202.1 6) = (m.1 6) from (fr1 Fm202 6 rfl))] at h212
    replace h213 : (m211.1 10) = 0 → (m202.1 10) = 0 ∧ (m202.1 7) = (59 : Int) := h213
    replace h214 : (m202.1 8) ≤ (m211.1 8) := h214
    replace h215 : (m211.1 10) = 0 → (m202.1 8) + (m202.1 9) ≤ (m211.1 8) := h215
    have hf220 : 1 ≤ (m211.1 10) := by omega
    clear h213
    clear h215
    have hLx := h212
    clear q206_7 q206_8 q206_9 q206_10 ic205 h214
    exact J235_25 (mO m211 [] []) Tm211 (fr_m (fr_s Fm211 (fr_m (fr_s Fm202 (fr_m fr_0 rfl rfl) rfl rfl) rfl rfl) rfl rfl) rfl rfl) (show (m211.1 99) = (m.1 99) + 1 by rewrite [(show (m211.1 99) = (m202.1 99) from (fr1 Fm211 99 rfl))]; omega) (show 1 ≤ (m211.1 10) by omega)
  have J54_223 : ∀ (v221 : Int) (m222 : mR), (R32 v221) → Ty m222 → fr [7, 8, 9, 10, 11, 12, 99, 100] [101, 102] (mO m [] []) m222 → (0 ≤ v221) → (v221 ≤ 64) → ((m222.1 99) = (m.1 99) + 1) → (0 ≤ (m.1 99) ∧ (m.1 99) ≤ 240) → (1 ≤ (m222.1 10)) → TT w D pm_270 (54, [(0, .ref 189), (1, .int (i32 (m.1 99))), (2, .int (i32 v221))], [], (mhp (mO m222 [] []) c, N), 0, 0) (Q_takeStatement m c N) := by
    intro v221 m222 q229 Tm222 Fm222 ic224 ic225 ic226 ic227 ic228
    obtain ⟨q229a, q229b⟩ := id q229
    have q230_7 : 0 ≤ m222.1 7 ∧ m222.1 7 ≤ 330 := Tm222.1 7
    have q230_8 : 0 ≤ m222.1 8 ∧ m222.1 8 ≤ 4000 := Tm222.1 8
    have q230_9 : 0 ≤ m222.1 9 ∧ m222.1 9 ≤ 4000 := Tm222.1 9
    have q230_10 : 0 ≤ m222.1 10 ∧ m222.1 10 ≤ 8 := Tm222.1 10
    have q230_99 : 0 ≤ m222.1 99 ∧ m222.1 99 ≤ 240 := Tm222.1 99
    have q230_100 : 0 ≤ m222.1 100 ∧ m222.1 100 ≤ 64 := Tm222.1 100
    refine T_ld 55 (.ref 189) rfl (fun _ => rfl) ?_
    refine T_ld 56 (.int (i32 (m.1 99))) rfl (fun _ => rfl) ?_
    refine T_ld 57 (.int (i32 v221)) rfl (fun _ => rfl) ?_
    refine T_call 60 272 [.ref 189, .int (i32 (m.1 99)), .int (i32 v221)] [] rfl (fun _ => rfl) rfl (c_takeWorth w (mO m222 [] []) c N D (by omega) Tm222 (m.1 99) v221 (r32 (by omega) (by omega)) (r32 (by omega) (by omega)) (show LxP (m222.1 7) (m222.1 8) (m222.1 9) (m222.1 6) (m222.1 10) by rewrite [(show (m222.1 6) = (m.1 6) from (fr1 Fm222 6 rfl))]; first | exact hLx | exact (fun _ => hLx (by omega)) | (intro h9; exfalso; omega)) (show ∀ k, (m222.2 14) k + (m222.2 15) k ≤ 4000 by rewrite [(show (m222.2 14) = (m.2 14) from (fr2 Fm222 14 rfl)), (show (m222.2 15) = (m.2 15) from (fr2 Fm222 15 rfl))]; assumption) (show ∀ k, (m222.2 31) k + (m222.2 32) k ≤ 4000 by rewrite [(show (m222.2 31) = (m.2 31) from (fr2 Fm222 31 rfl)), (show (m222.2 32) = (m.2 32) from (fr2 Fm222 32 rfl))]; assumption) (show ∀ k, (m222.2 47) k + (m222.2 48) k ≤ 4000 by rewrite [(show (m222.2 47) = (m.2 47) from (fr2 Fm222 47 rfl)), (show (m222.2 48) = (m.2 48) from (fr2 Fm222 48 rfl))]; assumption) (show 0 ≤ (m.1 99) ∧ (m.1 99) ≤ 239 by omega) (fun (h : (m222.1 10) = 0) => absurd h (by omega))) (fun rr233 k234 => ?_)
    obtain ⟨m235, Tm235, Fm235, h236, h237, c238, rfl⟩ := k234
    refine ⟨_, _, rfl, ?_⟩
    refine T_nb (st' := []) rfl ?_
    have g239 : 0 ≤ m235.1 7 ∧ m235.1 7 ≤ 330 := Tm235.1 7
    have g240 : 0 ≤ m235.1 8 ∧ m235.1 8 ≤ 4000 := Tm235.1 8
    have g241 : 0 ≤ m235.1 9 ∧ m235.1 9 ≤ 4000 := Tm235.1 9
    have g242 : 0 ≤ m235.1 10 ∧ m235.1 10 ≤ 8 := Tm235.1 10
    have g243 : 0 ≤ m235.1 28 ∧ m235.1 28 ≤ 800 := Tm235.1 28
    replace h236 : (m235.1 10) = 0 → (m222.1 10) = 0 := h236
    replace h237 : LxP (m235.1 7) (m235.1 8) (m235.1 9) (m222.1 6) (m235.1 10) := h237
    rewrite [(show (m222.1 6) = (m.1 6) from (fr1 Fm222 6 rfl))] at h237
    have hf244 : 1 ≤ (m235.1 10) := by omega
    clear c238
    clear h236
    have hLx := h237
    clear q230_7 q230_8 q230_9 q230_10 ic228
    refine Tm_lv (a := [(0, .ref 189)]) rfl rfl ⟨rfl, trivial⟩ ?_
    exact J60_203 (mO m235 [] []) Tm235 (fr_m (fr_s Fm235 (fr_m (fr_s Fm222 (fr_m fr_0 rfl rfl) rfl rfl) rfl rfl) rfl rfl) rfl rfl) (show (m235.1 99) = (m.1 99) + 1 by rewrite [(show (m235.1 99) = (m222.1 99) from (fr1 Fm235 99 rfl))]; omega) (show 1 ≤ (m235.1 10) by omega)
  refine T_gf 4 (.int (i32 (m.1 99))) rfl rfl rfl rfl rfl rfl ?_
  refine T_sto 5 [(1, .int (i32 (m.1 99))), (0, .ref 189)] rfl (fun _ => rfl) ?_
  refine T_ld 6 (.ref 189) rfl (fun _ => rfl) ?_
  refine T_ld 7 (.ref 189) rfl (fun _ => rfl) ?_
  refine T_gf1 10 (.int (i32 (m.1 99))) rfl rfl rfl rfl ?_
  refine T_ld 11 (.int (i32 1)) rfl (fun _ => rfl) ?_
  refine T_iadd 12 rfl rfl ?_
  refine T_pf (l' := [(99, (m.1 99) + 1)]) 15 ((m.1 99) + 1) rfl rfl rfl rfl rfl rfl ?_
  have g245 : 0 ≤ (m.1 99) + 1 ∧ (m.1 99) + 1 ≤ 240 := ⟨by omega, by omega⟩
  refine T_gf 19 (.ref 261) rfl rfl rfl rfl rfl rfl ?_
  refine T_ld 20 (.int (i32 (m.1 99))) rfl (fun _ => rfl) ?_
  refine T_gf 24 (.int (i32 (m.1 7))) rfl rfl rfl rfl rfl rfl ?_
  have G246 : ∀ j, 0 ≤ (upI (m.2 101) (m.1 99) (m.1 7)) j ∧ (upI (m.2 101) (m.1 99) (m.1 7)) j ≤ 330 := upI_rg (hT.2.1 101) ⟨by omega, by omega⟩
  refine T_iast (a' := [(101, upI (m.2 101) (m.1 99) (m.1 7))]) 25 101 (m.2 101) rfl rfl rfl (by omega) (show (m.1 99) < (240 : Int) by omega) rfl rfl ?_
  refine T_gf 29 (.int (i32 (m.1 7))) rfl rfl rfl rfl rfl rfl ?_
  refine T_ld 30 (.int (i32 1)) rfl (fun _ => rfl) ?_
  refine T_icmp 63 33 rfl rfl rfl (r32 (by omega) (by omega)) ⟨by decide, by decide⟩ (fun (h247 : (m.1 7) ≠ 1) => ?_) (fun (h247 : ¬ ((m.1 7) ≠ 1)) => ?_)
  · skip
    refine T_gf 67 (.int (i32 (m.1 7))) rfl rfl rfl rfl rfl rfl ?_
    refine T_ld 70 (.int (i32 327)) rfl (fun _ => rfl) ?_
    refine T_icmp 146 73 rfl rfl rfl (r32 (by omega) (by omega)) ⟨by decide, by decide⟩ (fun (h248 : (m.1 7) ≠ 327) => ?_) (fun (h248 : ¬ ((m.1 7) ≠ 327)) => ?_)
    · skip
      refine T_gf 150 (.int (i32 (m.1 7))) rfl rfl rfl rfl rfl rfl ?_
      refine T_ld 153 (.int (i32 328)) rfl (fun _ => rfl) ?_
      refine T_icmp 202 156 rfl rfl rfl (r32 (by omega) (by omega)) ⟨by decide, by decide⟩ (fun (h249 : (m.1 7) ≠ 328) => ?_) (fun (h249 : ¬ ((m.1 7) ≠ 328)) => ?_)
      · skip
        refine T_ld 203 (.ref 189) rfl (fun _ => rfl) ?_
        refine T_call 206 212 [.ref 189] [] rfl (fun _ => rfl) rfl (d_next w (mO m [(99, (m.1 99) + 1)] [(101, upI (m.2 101) (m.1 99) (m.1 7))]) c N D (by omega) (Ty_mO hT rfl rfl ⟨g245, trivial⟩ ⟨G246, trivial⟩) (show (m.1 10) = 0 → (m.1 8) + (m.1 9) ≤ (m.1 6) by first | omega | (intro h9; have h8 := hLx h9; omega))) (fun rr250 k251 => ?_)
        obtain ⟨m252, Tm252, Fm252, h253, h254, h255, h256, rfl⟩ := k251
        refine ⟨_, _, rfl, ?_⟩
        refine T_nb (st' := []) rfl ?_
        have g257 : 0 ≤ m252.1 7 ∧ m252.1 7 ≤ 330 := Tm252.1 7
        have g258 : 0 ≤ m252.1 8 ∧ m252.1 8 ≤ 4000 := Tm252.1 8
        have g259 : 0 ≤ m252.1 9 ∧ m252.1 9 ≤ 4000 := Tm252.1 9
        have g260 : 0 ≤ m252.1 10 ∧ m252.1 10 ≤ 8 := Tm252.1 10
        by_cases hf261 : (m252.1 10) = 0
        · skip
          replace h253 : LxP (m252.1 7) (m252.1 8) (m252.1 9) (m.1 6) (m252.1 10) := h253
          have hLx := h253
          replace h254 : (m.1 10) = 0 := h254 hf261
          replace h255 : (m.1 8) ≤ (m252.1 8) := h255
          replace h256 : (m.1 8) + (m.1 9) ≤ (m252.1 8) := h256 hf261
          have u262 : (m.1 8) + 1 ≤ (m252.1 8) := by omega
          have hAgC : agr (m.2 65) (m.2 65) (m.1 28) := by first | exact agr_r _ _ | exact hAgC | exact agr_t hAgC hAg (by omega)
          have u263 : (m.1 28) ≤ (m.1 28) := by omega
          refine T_gf 210 (.ref 261) rfl rfl rfl rfl rfl rfl ?_
          refine T_ld 211 (.int (i32 (m.1 99))) rfl (fun _ => rfl) ?_
          refine T_iald 212 101 (upI (m.2 101) (m.1 99) (m.1 7)) rfl rfl rfl (by omega) (show (m.1 99) < (240 : Int) by omega) (show (m252.2 101) = (upI (m.2 101) (m.1 99) (m.1 7)) from (fr2 Fm252 101 rfl)) ?_
          refine T_cast (m.1 7) upI_s ?_
          refine T_ld 215 (.int (i32 326)) rfl (fun _ => rfl) ?_
          refine T_icmp 229 218 rfl rfl rfl (r32 (by omega) (by omega)) ⟨by decide, by decide⟩ (fun (h264 : (m.1 7) = 326) => ?_) (fun (h264 : ¬ ((m.1 7) = 326)) => ?_)
          · skip
            have w1 : agr (m.2 101) (upI (m.2 101) (m.1 99) (m.1 7)) (m.1 99) := by first | exact agr_u (Int.le_refl _) | exact agr_r _ _
            have w2 : agr (m.2 103) (m.2 103) (m.1 99) := by first | exact agr_u (Int.le_refl _) | exact agr_r _ _
            have w3 : agr (m.2 105) (m.2 105) (m.1 99) := by first | exact hI1 | exact agr_u (Int.le_refl _) | exact agr_r _ _
            have w4 : agr (m.2 106) (m.2 106) (m.1 99) := by first | exact hI2 | exact agr_u (Int.le_refl _) | exact agr_r _ _
            have w5 : agr (m.2 107) (m.2 107) (m.1 99) := by first | exact hJ1 | exact agr_u (Int.le_refl _) | exact agr_r _ _
            have w6 : agr (m.2 108) (m.2 108) (m.1 99) := by first | exact hJ2 | exact agr_u (Int.le_refl _) | exact agr_r _ _
            have hR : TdR (m.2 65) (m.1 28) (m.1 22) (m.1 99) (upI (m.2 101) (m.1 99) (m.1 7)) (m.2 103) (m.2 105) (m.2 106) (m.2 107) (m.2 108) := by
              refine ⟨fun h => ?_, fun h => ?_⟩ <;> rw [upI_s] at h <;> first | exact hEc | exact ⟨hXc, by rw [upI_s]; omega⟩ | exact ⟨cdr_f hXc hAg (by omega), by rw [upI_s]; omega⟩ | omega
            have hTd2 : TdP (m.2 65) (m.1 28) (m.1 22) ((m.1 99) + 1) (upI (m.2 101) (m.1 99) (m.1 7)) (m.2 103) (m.2 105) (m.2 106) (m.2 107) (m.2 108) := TdP_add (TdP_f pTd hAgC (by omega) w1 w2 w3 w4 w5 w6) hR
            refine T_ld 230 (.ref 189) rfl (fun _ => rfl) ?_
            refine T_ld 232 (.int (i32 59)) rfl (fun _ => rfl) ?_
            refine T_call 235 232 [.ref 189, .int (i32 59)] [] rfl (fun _ => rfl) rfl (d_need w (mO m252 [] []) c N D (by omega) Tm252 59 ⟨by decide, by decide⟩ (show 1 ≤ (59 : Int) by omega) (show LxP (m252.1 7) (m252.1 8) (m252.1 9) (m252.1 6) (m252.1 10) by rewrite [(show (m252.1 6) = (m.1 6) from (fr1 Fm252 6 rfl))]; first | exact hLx | (intro h9; exfalso; omega) | (intro h9; have h8 := hLx (by omega); omega))) (fun rr265 k266 => ?_)
            obtain ⟨m267, Tm267, Fm267, h268, h269, h270, h271, rfl⟩ := k266
            refine ⟨_, _, rfl, ?_⟩
            refine T_nb (st' := []) rfl ?_
            have g272 : 0 ≤ m267.1 7 ∧ m267.1 7 ≤ 330 := Tm267.1 7
            have g273 : 0 ≤ m267.1 8 ∧ m267.1 8 ≤ 4000 := Tm267.1 8
            have g274 : 0 ≤ m267.1 9 ∧ m267.1 9 ≤ 4000 := Tm267.1 9
            have g275 : 0 ≤ m267.1 10 ∧ m267.1 10 ≤ 8 := Tm267.1 10
            by_cases hf276 : (m267.1 10) = 0
            · skip
              replace h268 : LxP (m267.1 7) (m267.1 8) (m267.1 9) (m252.1 6) (m267.1 10) := h268
              rewrite [(show (m252.1 6) = (m.1 6) from (fr1 Fm252 6 rfl))] at h268
              have hLx := h268
              replace h269 : (m252.1 10) = 0 ∧ (m252.1 7) = (59 : Int) := h269 hf276
              replace h270 : (m252.1 8) ≤ (m267.1 8) := h270
              replace h271 : (m252.1 8) + (m252.1 9) ≤ (m267.1 8) := h271 hf276
              have u277 : (m.1 8) + 1 ≤ (m267.1 8) := by omega
              have hAgC : agr (m.2 65) (m.2 65) (m.1 28) := by first | exact agr_r _ _ | exact hAgC | exact agr_t hAgC hAg (by omega)
              have u278 : (m.1 28) ≤ (m.1 28) := by omega
              clear g257 g258 g259 g260 h253 h255 h256 u262 h269 h270 h271
              refine T_ret rfl (fun _ => rfl) ?_
              exact ⟨(mO m267 [] []), Tm267, (fr_m (fr_s Fm267 (fr_m (fr_s Fm252 (fr_m fr_0 rfl rfl) rfl rfl) rfl rfl) rfl rfl) rfl rfl), (show (m267.1 10) = 0 → (m.1 10) = 0 by omega), (show LxP (m267.1 7) (m267.1 8) (m267.1 9) (m.1 6) (m267.1 10) by first | (first | exact hLx | exact (fun _ => hLx (by omega)) | (intro h9; exfalso; omega)) | (exfalso; omega)), (show (m267.1 99) = (m.1 99) + 1 by rewrite [(show (m267.1 99) = ((m.1 99) + 1) from ((fr1 Fm267 99 rfl).trans (fr1 Fm252 99 rfl)))]; omega), (fun _ => ⟨(show (m.1 8) + 1 ≤ (m267.1 8) by omega), (show (m.1 28) ≤ (m267.1 28) by rewrite [(show (m267.1 28) = (m.1 28) from ((fr1 Fm267 28 rfl).trans (fr1 Fm252 28 rfl)))]; omega), (show CN (m267.2 65) (m267.2 67) (m267.1 28) by rewrite [(show (m267.2 65) = (m.2 65) from ((fr2 Fm267 65 rfl).trans (fr2 Fm252 65 rfl))), (show (m267.2 67) = (m.2 67) from ((fr2 Fm267 67 rfl).trans (fr2 Fm252 67 rfl))), (show (m267.1 28) = (m.1 28) from ((fr1 Fm267 28 rfl).trans (fr1 Fm252 28 rfl)))]; first | (exact hCN) | (exfalso; omega)), (show agr (m.2 65) (m267.2 65) (m.1 28) by rewrite [(show (m267.2 65) = (m.2 65) from ((fr2 Fm267 65 rfl).trans (fr2 Fm252 65 rfl)))]; first | (exact hAgC) | (exfalso; omega)), (show TdP (m267.2 65) (m267.1 28) (m.1 22) (m267.1 99) (m267.2 101) (m267.2 103) (m267.2 105) (m267.2 106) (m267.2 107) (m267.2 108) by rewrite [(show (m267.2 65) = (m.2 65) from ((fr2 Fm267 65 rfl).trans (fr2 Fm252 65 rfl))), (show (m267.1 28) = (m.1 28) from ((fr1 Fm267 28 rfl).trans (fr1 Fm252 28 rfl))), (show (m267.1 99) = ((m.1 99) + 1) from ((fr1 Fm267 99 rfl).trans (fr1 Fm252 99 rfl))), (show (m267.2 101) = (upI (m.2 101) (m.1 99) (m.1 7)) from ((fr2 Fm267 101 rfl).trans (fr2 Fm252 101 rfl))), (show (m267.2 103) = (m.2 103) from ((fr2 Fm267 103 rfl).trans (fr2 Fm252 103 rfl))), (show (m267.2 105) = (m.2 105) from ((fr2 Fm267 105 rfl).trans (fr2 Fm252 105 rfl))), (show (m267.2 106) = (m.2 106) from ((fr2 Fm267 106 rfl).trans (fr2 Fm252 106 rfl))), (show (m267.2 107) = (m.2 107) from ((fr2 Fm267 107 rfl).trans (fr2 Fm252 107 rfl))), (show (m267.2 108) = (m.2 108) from ((fr2 Fm267 108 rfl).trans (fr2 Fm252 108 rfl)))]; first | (exact hTd2) | (exfalso; omega))⟩), rfl⟩
            · skip
              replace h268 : LxP (m267.1 7) (m267.1 8) (m267.1 9) (m252.1 6) (m267.1 10) := h268
              rewrite [(show (m252.1 6) = (m.1 6) from (fr1 Fm252 6 rfl))] at h268
              have hLx := h268
              clear h269
              replace h270 : (m252.1 8) ≤ (m267.1 8) := h270
              clear h271
              have hf279 : 1 ≤ (m267.1 10) := by omega
              clear g257 g258 g259 g260 h253 h255 h256 u262 h270
              refine Tm_lv (a := [(0, .ref 189)]) rfl rfl ⟨rfl, trivial⟩ ?_
              exact J235_25 (mO m267 [] []) Tm267 (fr_m (fr_s Fm267 (fr_m (fr_s Fm252 (fr_m fr_0 rfl rfl) rfl rfl) rfl rfl) rfl rfl) rfl rfl) (show (m267.1 99) = (m.1 99) + 1 by rewrite [(show (m267.1 99) = ((m.1 99) + 1) from ((fr1 Fm267 99 rfl).trans (fr1 Fm252 99 rfl)))]; omega) (show 1 ≤ (m267.1 10) by omega)
          · skip
            refine T_gf 222 (.ref 264) rfl rfl rfl rfl rfl rfl ?_
            refine T_ld 223 (.int (i32 (m.1 99))) rfl (fun _ => rfl) ?_
            refine T_ld 224 (.ref 189) rfl (fun _ => rfl) ?_
            refine T_ld 225 (.int (i32 2)) rfl (fun _ => rfl) ?_
            have hOL : (m252.1 10) = 0 → ∀ k, 0 ≤ k → k < (m.1 13) → (m.2 16) k = 2 → 0 ≤ (m.2 17) k ∧ (m.2 17) k < 12 := fun _ k h1 h2 h3 => by
              have h4 := PNl_2 pPN k h1 h2 h3
              omega
            refine T_call 228 236 [.ref 189, .int (i32 2)] [.int (i32 (m.1 99)), .ref 264] rfl (fun _ => rfl) rfl (d_oldName w (mO m252 [] []) c N D (by omega) Tm252 2 12 ⟨by decide, by decide⟩ (show LxP (m252.1 7) (m252.1 8) (m252.1 9) (m252.1 6) (m252.1 10) by rewrite [(show (m252.1 6) = (m.1 6) from (fr1 Fm252 6 rfl))]; first | exact hLx | (intro h9; exfalso; omega) | (intro h9; have h8 := hLx (by omega); omega)) (show ∀ k, (m252.2 14) k + (m252.2 15) k ≤ 4000 by rewrite [(show (m252.2 14) = (m.2 14) from (fr2 Fm252 14 rfl)), (show (m252.2 15) = (m.2 15) from (fr2 Fm252 15 rfl))]; first | exact p1 | exact hNM) (show 1 ≤ (2 : Int) ∧ (2 : Int) ≤ 7 ∧ (2 : Int) ≠ 5 by omega) (show 12 ≤ 16 by omega) (show (m252.1 10) = 0 → ∀ k, 0 ≤ k → k < (m252.1 13) → (m252.2 16) k = (2 : Int) → 0 ≤ (m252.2 17) k ∧ (m252.2 17) k < 12 by rewrite [(show (m252.1 13) = (m.1 13) from (fr1 Fm252 13 rfl)), (show (m252.2 16) = (m.2 16) from (fr2 Fm252 16 rfl)), (show (m252.2 17) = (m.2 17) from (fr2 Fm252 17 rfl))]; first | exact hOL | (intro h; exfalso; omega)) (show (2 : Int) = 3 → 3 ≤ 12 by omega)) (fun rr280 k281 => ?_)
            obtain ⟨m282, oo, Tm282, Fm282, g283, h284, h285, h286, h287, h288, h289, rfl⟩ := k281
            refine ⟨_, _, rfl, ?_⟩
            refine T_nb (st' := [.int (i32 oo), .int (i32 (m.1 99)), .ref 264]) rfl ?_
            obtain ⟨g283a, g283b⟩ := g283
            have g290 : 0 ≤ m282.1 7 ∧ m282.1 7 ≤ 330 := Tm282.1 7
            have g291 : 0 ≤ m282.1 8 ∧ m282.1 8 ≤ 4000 := Tm282.1 8
            have g292 : 0 ≤ m282.1 9 ∧ m282.1 9 ≤ 4000 := Tm282.1 9
            have g293 : 0 ≤ m282.1 10 ∧ m282.1 10 ≤ 8 := Tm282.1 10
            by_cases hf294 : (m282.1 10) = 0
            · skip
              replace h284 : LxP (m282.1 7) (m282.1 8) (m282.1 9) (m252.1 6) (m282.1 10) := h284
              rewrite [(show (m252.1 6) = (m.1 6) from (fr1 Fm252 6 rfl))] at h284
              have hLx := h284
              replace h285 : (m252.1 8) ≤ (m282.1 8) := h285
              replace h286 : (m252.1 10) = 0 ∧ (m252.1 8) + (m252.1 9) ≤ (m282.1 8) := h286 hf294
              replace h287 : (m252.1 7) = 1 := h287 hf294
              replace h288 : 0 ≤ oo ∧ (oo < 12 ∨ oo = 0) := h288
              replace h289 : oo < 12 := h289 hf294
              have u295 : (m.1 8) + 1 ≤ (m282.1 8) := by omega
              have hAgC : agr (m.2 65) (m.2 65) (m.1 28) := by first | exact agr_r _ _ | exact hAgC | exact agr_t hAgC hAg (by omega)
              have u296 : (m.1 28) ≤ (m.1 28) := by omega
              clear g257 g258 g259 g260 h253 h255 h256 u262 h285 h286 h287
              have G297 : ∀ j, 0 ≤ (upI (m.2 104) (m.1 99) oo) j ∧ (upI (m.2 104) (m.1 99) oo) j ≤ 11 := upI_rg (hT.2.1 104) ⟨by omega, by omega⟩
              refine T_iast (a' := [(104, upI (m.2 104) (m.1 99) oo)]) 229 104 (m.2 104) rfl rfl rfl (by omega) (show (m.1 99) < (240 : Int) by omega) (show (m282.2 104) = (m.2 104) from ((fr2 Fm282 104 rfl).trans (fr2 Fm252 104 rfl))) rfl ?_
              have w1 : agr (m.2 101) (upI (m.2 101) (m.1 99) (m.1 7)) (m.1 99) := by first | exact agr_u (Int.le_refl _) | exact agr_r _ _
              have w2 : agr (m.2 103) (m.2 103) (m.1 99) := by first | exact agr_u (Int.le_refl _) | exact agr_r _ _
              have w3 : agr (m.2 105) (m.2 105) (m.1 99) := by first | exact hI1 | exact agr_u (Int.le_refl _) | exact agr_r _ _
              have w4 : agr (m.2 106) (m.2 106) (m.1 99) := by first | exact hI2 | exact agr_u (Int.le_refl _) | exact agr_r _ _
              have w5 : agr (m.2 107) (m.2 107) (m.1 99) := by first | exact hJ1 | exact agr_u (Int.le_refl _) | exact agr_r _ _
              have w6 : agr (m.2 108) (m.2 108) (m.1 99) := by first | exact hJ2 | exact agr_u (Int.le_refl _) | exact agr_r _ _
              have hR : TdR (m.2 65) (m.1 28) (m.1 22) (m.1 99) (upI (m.2 101) (m.1 99) (m.1 7)) (m.2 103) (m.2 105) (m.2 106) (m.2 107) (m.2 108) := by
                refine ⟨fun h => ?_, fun h => ?_⟩ <;> rw [upI_s] at h <;> first | exact hEc | exact ⟨hXc, by rw [upI_s]; omega⟩ | exact ⟨cdr_f hXc hAg (by omega), by rw [upI_s]; omega⟩ | omega
              have hTd2 : TdP (m.2 65) (m.1 28) (m.1 22) ((m.1 99) + 1) (upI (m.2 101) (m.1 99) (m.1 7)) (m.2 103) (m.2 105) (m.2 106) (m.2 107) (m.2 108) := TdP_add (TdP_f pTd hAgC (by omega) w1 w2 w3 w4 w5 w6) hR
              refine T_ld 230 (.ref 189) rfl (fun _ => rfl) ?_
              refine T_ld 232 (.int (i32 59)) rfl (fun _ => rfl) ?_
              refine T_call 235 232 [.ref 189, .int (i32 59)] [] rfl (fun _ => rfl) rfl (d_need w (mO m282 [] [(104, upI (m.2 104) (m.1 99) oo)]) c N D (by omega) (Ty_mO Tm282 rfl rfl trivial ⟨G297, trivial⟩) 59 ⟨by decide, by decide⟩ (show 1 ≤ (59 : Int) by omega) (show LxP (m282.1 7) (m282.1 8) (m282.1 9) (m282.1 6) (m282.1 10) by rewrite [(show (m282.1 6) = (m.1 6) from ((fr1 Fm282 6 rfl).trans (fr1 Fm252 6 rfl)))]; first | exact hLx | (intro h9; exfalso; omega) | (intro h9; have h8 := hLx (by omega); omega))) (fun rr298 k299 => ?_)
              obtain ⟨m300, Tm300, Fm300, h301, h302, h303, h304, rfl⟩ := k299
              refine ⟨_, _, rfl, ?_⟩
              refine T_nb (st' := []) rfl ?_
              have g305 : 0 ≤ m300.1 7 ∧ m300.1 7 ≤ 330 := Tm300.1 7
              have g306 : 0 ≤ m300.1 8 ∧ m300.1 8 ≤ 4000 := Tm300.1 8
              have g307 : 0 ≤ m300.1 9 ∧ m300.1 9 ≤ 4000 := Tm300.1 9
              have g308 : 0 ≤ m300.1 10 ∧ m300.1 10 ≤ 8 := Tm300.1 10
              by_cases hf309 : (m300.1 10) = 0
              · skip
                replace h301 : LxP (m300.1 7) (m300.1 8) (m300.1 9) (m282.1 6) (m300.1 10) := h301
                rewrite [(show (m282.1 6) = (m.1 6) from ((fr1 Fm282 6 rfl).trans (fr1 Fm252 6 rfl)))] at h301
                have hLx := h301
                replace h302 : (m282.1 10) = 0 ∧ (m282.1 7) = (59 : Int) := h302 hf309
                replace h303 : (m282.1 8) ≤ (m300.1 8) := h303
                replace h304 : (m282.1 8) + (m282.1 9) ≤ (m300.1 8) := h304 hf309
                have u310 : (m.1 8) + 1 ≤ (m300.1 8) := by omega
                have hAgC : agr (m.2 65) (m.2 65) (m.1 28) := by first | exact agr_r _ _ | exact hAgC | exact agr_t hAgC hAg (by omega)
                have u311 : (m.1 28) ≤ (m.1 28) := by omega
                clear g290 g291 g292 g293 h284 u295 h302 h303 h304
                refine T_ret rfl (fun _ => rfl) ?_
                exact ⟨(mO m300 [] []), Tm300, (fr_m (fr_s Fm300 (fr_m (fr_s Fm282 (fr_m (fr_s Fm252 (fr_m fr_0 rfl rfl) rfl rfl) rfl rfl) rfl rfl) rfl rfl) rfl rfl) rfl rfl), (show (m300.1 10) = 0 → (m.1 10) = 0 by omega), (show LxP (m300.1 7) (m300.1 8) (m300.1 9) (m.1 6) (m300.1 10) by first | (first | exact hLx | exact (fun _ => hLx (by omega)) | (intro h9; exfalso; omega)) | (exfalso; omega)), (show (m300.1 99) = (m.1 99) + 1 by rewrite [(show (m300.1 99) = ((m.1 99) + 1) from ((fr1 Fm300 99 rfl).trans ((fr1 Fm282 99 rfl).trans (fr1 Fm252 99 rfl))))]; omega), (fun _ => ⟨(show (m.1 8) + 1 ≤ (m300.1 8) by omega), (show (m.1 28) ≤ (m300.1 28) by rewrite [(show (m300.1 28) = (m.1 28) from ((fr1 Fm300 28 rfl).trans ((fr1 Fm282 28 rfl).trans (fr1 Fm252 28 rfl))))]; omega), (show CN (m300.2 65) (m300.2 67) (m300.1 28) by rewrite [(show (m300.2 65) = (m.2 65) from ((fr2 Fm300 65 rfl).trans ((fr2 Fm282 65 rfl).trans (fr2 Fm252 65 rfl)))), (show (m300.2 67) = (m.2 67) from ((fr2 Fm300 67 rfl).trans ((fr2 Fm282 67 rfl).trans (fr2 Fm252 67 rfl)))), (show (m300.1 28) = (m.1 28) from ((fr1 Fm300 28 rfl).trans ((fr1 Fm282 28 rfl).trans (fr1 Fm252 28 rfl))))]; first | (exact hCN) | (exfalso; omega)), (show agr (m.2 65) (m300.2 65) (m.1 28) by rewrite [(show (m300.2 65) = (m.2 65) from ((fr2 Fm300 65 rfl).trans ((fr2 Fm282 65 rfl).trans (fr2 Fm252 65 rfl))))]; first | (exact hAgC) | (exfalso; omega)), (show TdP (m300.2 65) (m300.1 28) (m.1 22) (m300.1 99) (m300.2 101) (m300.2 103) (m300.2 105) (m300.2 106) (m300.2 107) (m300.2 108) by rewrite [(show (m300.2 65) = (m.2 65) from ((fr2 Fm300 65 rfl).trans ((fr2 Fm282 65 rfl).trans (fr2 Fm252 65 rfl)))), (show (m300.1 28) = (m.1 28) from ((fr1 Fm300 28 rfl).trans ((fr1 Fm282 28 rfl).trans (fr1 Fm252 28 rfl)))), (show (m300.1 99) = ((m.1 99) + 1) from ((fr1 Fm300 99 rfl).trans ((fr1 Fm282 99 rfl).trans (fr1 Fm252 99 rfl)))), (show (m300.2 101) = (upI (m.2 101) (m.1 99) (m.1 7)) from ((fr2 Fm300 101 rfl).trans ((fr2 Fm282 101 rfl).trans (fr2 Fm252 101 rfl)))), (show (m300.2 103) = (m.2 103) from ((fr2 Fm300 103 rfl).trans ((fr2 Fm282 103 rfl).trans (fr2 Fm252 103 rfl)))), (show (m300.2 105) = (m.2 105) from ((fr2 Fm300 105 rfl).trans ((fr2 Fm282 105 rfl).trans (fr2 Fm252 105 rfl)))), (show (m300.2 106) = (m.2 106) from ((fr2 Fm300 106 rfl).trans ((fr2 Fm282 106 rfl).trans (fr2 Fm252 106 rfl)))), (show (m300.2 107) = (m.2 107) from ((fr2 Fm300 107 rfl).trans ((fr2 Fm282 107 rfl).trans (fr2 Fm252 107 rfl)))), (show (m300.2 108) = (m.2 108) from ((fr2 Fm300 108 rfl).trans ((fr2 Fm282 108 rfl).trans (fr2 Fm252 108 rfl))))]; first | (exact hTd2) | (exfalso; omega))⟩), rfl⟩
              · skip
                replace h301 : LxP (m300.1 7) (m300.1 8) (m300.1 9) (m282.1 6) (m300.1 10) := h301
                rewrite [(show (m282.1 6) = (m.1 6) from ((fr1 Fm282 6 rfl).trans (fr1 Fm252 6 rfl)))] at h301
                have hLx := h301
                clear h302
                replace h303 : (m282.1 8) ≤ (m300.1 8) := h303
                clear h304
                have hf312 : 1 ≤ (m300.1 10) := by omega
                clear g290 g291 g292 g293 h284 u295 h303
                refine Tm_lv (a := [(0, .ref 189)]) rfl rfl ⟨rfl, trivial⟩ ?_
                exact J235_25 (mO m300 [] []) Tm300 (fr_m (fr_s Fm300 (fr_m (fr_s Fm282 (fr_m (fr_s Fm252 (fr_m fr_0 rfl rfl) rfl rfl) rfl rfl) rfl rfl) rfl rfl) rfl rfl) rfl rfl) (show (m300.1 99) = (m.1 99) + 1 by rewrite [(show (m300.1 99) = ((m.1 99) + 1) from ((fr1 Fm300 99 rfl).trans ((fr1 Fm282 99 rfl).trans (fr1 Fm252 99 rfl))))]; omega) (show 1 ≤ (m300.1 10) by omega)
            · skip
              replace h284 : LxP (m282.1 7) (m282.1 8) (m282.1 9) (m252.1 6) (m282.1 10) := h284
              rewrite [(show (m252.1 6) = (m.1 6) from (fr1 Fm252 6 rfl))] at h284
              have hLx := h284
              replace h285 : (m252.1 8) ≤ (m282.1 8) := h285
              clear h286
              clear h287
              replace h288 : 0 ≤ oo ∧ (oo < 12 ∨ oo = 0) := h288
              clear h289
              have hf313 : 1 ≤ (m282.1 10) := by omega
              clear g257 g258 g259 g260 h253 h255 h256 u262 h285
              refine Tm_lv (a := [(0, .ref 189)]) rfl rfl ⟨rfl, trivial⟩ ?_
              exact J228_33 oo (mO m282 [] []) (r32 (by omega) (by omega)) Tm282 (fr_m (fr_s Fm282 (fr_m (fr_s Fm252 (fr_m fr_0 rfl rfl) rfl rfl) rfl rfl) rfl rfl) rfl rfl) (show 0 ≤ oo by omega) (show oo ≤ 11 by omega) (show (m282.1 99) = (m.1 99) + 1 by rewrite [(show (m282.1 99) = ((m.1 99) + 1) from ((fr1 Fm282 99 rfl).trans (fr1 Fm252 99 rfl)))]; omega) (show 0 ≤ (m.1 99) ∧ (m.1 99) ≤ 240 by omega) (show 1 ≤ (m282.1 10) by omega)
        · skip
          replace h253 : LxP (m252.1 7) (m252.1 8) (m252.1 9) (m.1 6) (m252.1 10) := h253
          have hLx := h253
          clear h254
          replace h255 : (m.1 8) ≤ (m252.1 8) := h255
          clear h256
          have hf314 : 1 ≤ (m252.1 10) := by omega
          refine T_gf 210 (.ref 261) rfl rfl rfl rfl rfl rfl ?_
          refine T_ld 211 (.int (i32 (m.1 99))) rfl (fun _ => rfl) ?_
          refine T_iald 212 101 (upI (m.2 101) (m.1 99) (m.1 7)) rfl rfl rfl (by omega) (show (m.1 99) < (240 : Int) by omega) (show (m252.2 101) = (upI (m.2 101) (m.1 99) (m.1 7)) from (fr2 Fm252 101 rfl)) ?_
          refine T_cast (m.1 7) upI_s ?_
          refine T_ld 215 (.int (i32 326)) rfl (fun _ => rfl) ?_
          refine T_icmp 229 218 rfl rfl rfl (r32 (by omega) (by omega)) ⟨by decide, by decide⟩ (fun (h315 : (m.1 7) = 326) => ?_) (fun (h315 : ¬ ((m.1 7) = 326)) => ?_)
          · skip
            refine T_ld 230 (.ref 189) rfl (fun _ => rfl) ?_
            refine T_ld 232 (.int (i32 59)) rfl (fun _ => rfl) ?_
            refine T_call 235 232 [.ref 189, .int (i32 59)] [] rfl (fun _ => rfl) rfl (d_need w (mO m252 [] []) c N D (by omega) Tm252 59 ⟨by decide, by decide⟩ (show 1 ≤ (59 : Int) by omega) (show LxP (m252.1 7) (m252.1 8) (m252.1 9) (m252.1 6) (m252.1 10) by rewrite [(show (m252.1 6) = (m.1 6) from (fr1 Fm252 6 rfl))]; first | exact hLx | (intro h9; exfalso; omega) | (intro h9; have h8 := hLx (by omega); omega))) (fun rr316 k317 => ?_)
            obtain ⟨m318, Tm318, Fm318, h319, h320, h321, h322, rfl⟩ := k317
            refine ⟨_, _, rfl, ?_⟩
            refine T_nb (st' := []) rfl ?_
            have g323 : 0 ≤ m318.1 7 ∧ m318.1 7 ≤ 330 := Tm318.1 7
            have g324 : 0 ≤ m318.1 8 ∧ m318.1 8 ≤ 4000 := Tm318.1 8
            have g325 : 0 ≤ m318.1 9 ∧ m318.1 9 ≤ 4000 := Tm318.1 9
            have g326 : 0 ≤ m318.1 10 ∧ m318.1 10 ≤ 8 := Tm318.1 10
            replace h319 : LxP (m318.1 7) (m318.1 8) (m318.1 9) (m252.1 6) (m318.1 10) := h319
            rewrite [(show (m252.1 6) = (m.1 6) from (fr1 Fm252 6 rfl))] at h319
            replace h320 : (m318.1 10) = 0 → (m252.1 10) = 0 ∧ (m252.1 7) = (59 : Int) := h320
            replace h321 : (m252.1 8) ≤ (m318.1 8) := h321
            replace h322 : (m318.1 10) = 0 → (m252.1 8) + (m252.1 9) ≤ (m318.1 8) := h322
            have hf327 : 1 ≤ (m318.1 10) := by omega
            clear h320
            clear h322
            have hLx := h319
            clear g257 g258 g259 g260 h253 h255 hf314 h321
            refine Tm_lv (a := [(0, .ref 189)]) rfl rfl ⟨rfl, trivial⟩ ?_
            exact J235_25 (mO m318 [] []) Tm318 (fr_m (fr_s Fm318 (fr_m (fr_s Fm252 (fr_m fr_0 rfl rfl) rfl rfl) rfl rfl) rfl rfl) rfl rfl) (show (m318.1 99) = (m.1 99) + 1 by rewrite [(show (m318.1 99) = ((m.1 99) + 1) from ((fr1 Fm318 99 rfl).trans (fr1 Fm252 99 rfl)))]; omega) (show 1 ≤ (m318.1 10) by omega)
          · skip
            refine T_gf 222 (.ref 264) rfl rfl rfl rfl rfl rfl ?_
            refine T_ld 223 (.int (i32 (m.1 99))) rfl (fun _ => rfl) ?_
            refine T_ld 224 (.ref 189) rfl (fun _ => rfl) ?_
            refine T_ld 225 (.int (i32 2)) rfl (fun _ => rfl) ?_
            refine T_call 228 236 [.ref 189, .int (i32 2)] [.int (i32 (m.1 99)), .ref 264] rfl (fun _ => rfl) rfl (d_oldName w (mO m252 [] []) c N D (by omega) Tm252 2 12 ⟨by decide, by decide⟩ (show LxP (m252.1 7) (m252.1 8) (m252.1 9) (m252.1 6) (m252.1 10) by rewrite [(show (m252.1 6) = (m.1 6) from (fr1 Fm252 6 rfl))]; first | exact hLx | (intro h9; exfalso; omega) | (intro h9; have h8 := hLx (by omega); omega)) (show ∀ k, (m252.2 14) k + (m252.2 15) k ≤ 4000 by rewrite [(show (m252.2 14) = (m.2 14) from (fr2 Fm252 14 rfl)), (show (m252.2 15) = (m.2 15) from (fr2 Fm252 15 rfl))]; first | exact p1 | exact hNM) (show 1 ≤ (2 : Int) ∧ (2 : Int) ≤ 7 ∧ (2 : Int) ≠ 5 by omega) (show 12 ≤ 16 by omega) (show (m252.1 10) = 0 → ∀ k, 0 ≤ k → k < (m252.1 13) → (m252.2 16) k = (2 : Int) → 0 ≤ (m252.2 17) k ∧ (m252.2 17) k < 12 by rewrite [(show (m252.1 13) = (m.1 13) from (fr1 Fm252 13 rfl)), (show (m252.2 16) = (m.2 16) from (fr2 Fm252 16 rfl)), (show (m252.2 17) = (m.2 17) from (fr2 Fm252 17 rfl))]; first | exact hOL | (intro h; exfalso; omega)) (show (2 : Int) = 3 → 3 ≤ 12 by omega)) (fun rr328 k329 => ?_)
            obtain ⟨m330, oo, Tm330, Fm330, g331, h332, h333, h334, h335, h336, h337, rfl⟩ := k329
            refine ⟨_, _, rfl, ?_⟩
            refine T_nb (st' := [.int (i32 oo), .int (i32 (m.1 99)), .ref 264]) rfl ?_
            obtain ⟨g331a, g331b⟩ := g331
            have g338 : 0 ≤ m330.1 7 ∧ m330.1 7 ≤ 330 := Tm330.1 7
            have g339 : 0 ≤ m330.1 8 ∧ m330.1 8 ≤ 4000 := Tm330.1 8
            have g340 : 0 ≤ m330.1 9 ∧ m330.1 9 ≤ 4000 := Tm330.1 9
            have g341 : 0 ≤ m330.1 10 ∧ m330.1 10 ≤ 8 := Tm330.1 10
            replace h332 : LxP (m330.1 7) (m330.1 8) (m330.1 9) (m252.1 6) (m330.1 10) := h332
            rewrite [(show (m252.1 6) = (m.1 6) from (fr1 Fm252 6 rfl))] at h332
            replace h333 : (m252.1 8) ≤ (m330.1 8) := h333
            replace h334 : (m330.1 10) = 0 → (m252.1 10) = 0 ∧ (m252.1 8) + (m252.1 9) ≤ (m330.1 8) := h334
            replace h335 : (m330.1 10) = 0 → (m252.1 7) = 1 := h335
            replace h336 : 0 ≤ oo ∧ (oo < 12 ∨ oo = 0) := h336
            replace h337 : (m330.1 10) = 0 → oo < 12 := h337
            have hf342 : 1 ≤ (m330.1 10) := by omega
            clear h334
            clear h335
            clear h337
            have hLx := h332
            clear g257 g258 g259 g260 h253 h255 hf314 h333
            refine Tm_lv (a := [(0, .ref 189)]) rfl rfl ⟨rfl, trivial⟩ ?_
            exact J228_33 oo (mO m330 [] []) (r32 (by omega) (by omega)) Tm330 (fr_m (fr_s Fm330 (fr_m (fr_s Fm252 (fr_m fr_0 rfl rfl) rfl rfl) rfl rfl) rfl rfl) rfl rfl) (show 0 ≤ oo by omega) (show oo ≤ 11 by omega) (show (m330.1 99) = (m.1 99) + 1 by rewrite [(show (m330.1 99) = ((m.1 99) + 1) from ((fr1 Fm330 99 rfl).trans (fr1 Fm252 99 rfl)))]; omega) (show 0 ≤ (m.1 99) ∧ (m.1 99) ≤ 240 by omega) (show 1 ≤ (m330.1 10) by omega)
      · skip
        refine T_ld 157 (.ref 189) rfl (fun _ => rfl) ?_
        refine T_call 160 212 [.ref 189] [] rfl (fun _ => rfl) rfl (d_next w (mO m [(99, (m.1 99) + 1)] [(101, upI (m.2 101) (m.1 99) (m.1 7))]) c N D (by omega) (Ty_mO hT rfl rfl ⟨g245, trivial⟩ ⟨G246, trivial⟩) (show (m.1 10) = 0 → (m.1 8) + (m.1 9) ≤ (m.1 6) by first | omega | (intro h9; have h8 := hLx h9; omega))) (fun rr343 k344 => ?_)
        obtain ⟨m345, Tm345, Fm345, h346, h347, h348, h349, rfl⟩ := k344
        refine ⟨_, _, rfl, ?_⟩
        refine T_nb (st' := []) rfl ?_
        have g350 : 0 ≤ m345.1 7 ∧ m345.1 7 ≤ 330 := Tm345.1 7
        have g351 : 0 ≤ m345.1 8 ∧ m345.1 8 ≤ 4000 := Tm345.1 8
        have g352 : 0 ≤ m345.1 9 ∧ m345.1 9 ≤ 4000 := Tm345.1 9
        have g353 : 0 ≤ m345.1 10 ∧ m345.1 10 ≤ 8 := Tm345.1 10
        by_cases hf354 : (m345.1 10) = 0
        · skip
          replace h346 : LxP (m345.1 7) (m345.1 8) (m345.1 9) (m.1 6) (m345.1 10) := h346
          have hLx := h346
          replace h347 : (m.1 10) = 0 := h347 hf354
          replace h348 : (m.1 8) ≤ (m345.1 8) := h348
          replace h349 : (m.1 8) + (m.1 9) ≤ (m345.1 8) := h349 hf354
          have u355 : (m.1 8) + 1 ≤ (m345.1 8) := by omega
          have hAgC : agr (m.2 65) (m.2 65) (m.1 28) := by first | exact agr_r _ _ | exact hAgC | exact agr_t hAgC hAg (by omega)
          have u356 : (m.1 28) ≤ (m.1 28) := by omega
          refine T_gf 164 (.ref 263) rfl rfl rfl rfl rfl rfl ?_
          refine T_ld 165 (.int (i32 (m.1 99))) rfl (fun _ => rfl) ?_
          refine T_ld 166 (.ref 189) rfl (fun _ => rfl) ?_
          refine T_ld 167 (.int (i32 4)) rfl (fun _ => rfl) ?_
          have hOL : (m345.1 10) = 0 → ∀ k, 0 ≤ k → k < (m.1 13) → (m.2 16) k = 4 → 0 ≤ (m.2 17) k ∧ (m.2 17) k < (m.1 22) := fun _ k h1 h2 h3 => by
            have h4 := PNl_4 pPN k h1 h2 h3
            omega
          refine T_call 170 236 [.ref 189, .int (i32 4)] [.int (i32 (m.1 99)), .ref 263] rfl (fun _ => rfl) rfl (d_oldName w (mO m345 [] []) c N D (by omega) Tm345 4 (m.1 22) ⟨by decide, by decide⟩ (show LxP (m345.1 7) (m345.1 8) (m345.1 9) (m345.1 6) (m345.1 10) by rewrite [(show (m345.1 6) = (m.1 6) from (fr1 Fm345 6 rfl))]; first | exact hLx | (intro h9; exfalso; omega) | (intro h9; have h8 := hLx (by omega); omega)) (show ∀ k, (m345.2 14) k + (m345.2 15) k ≤ 4000 by rewrite [(show (m345.2 14) = (m.2 14) from (fr2 Fm345 14 rfl)), (show (m345.2 15) = (m.2 15) from (fr2 Fm345 15 rfl))]; first | exact p1 | exact hNM) (show 1 ≤ (4 : Int) ∧ (4 : Int) ≤ 7 ∧ (4 : Int) ≠ 5 by omega) (show (m.1 22) ≤ 16 by omega) (show (m345.1 10) = 0 → ∀ k, 0 ≤ k → k < (m345.1 13) → (m345.2 16) k = (4 : Int) → 0 ≤ (m345.2 17) k ∧ (m345.2 17) k < (m.1 22) by rewrite [(show (m345.1 13) = (m.1 13) from (fr1 Fm345 13 rfl)), (show (m345.2 16) = (m.2 16) from (fr2 Fm345 16 rfl)), (show (m345.2 17) = (m.2 17) from (fr2 Fm345 17 rfl))]; first | exact hOL | (intro h; exfalso; omega)) (show (4 : Int) = 3 → 3 ≤ (m.1 22) by omega)) (fun rr357 k358 => ?_)
          obtain ⟨m359, oo, Tm359, Fm359, g360, h361, h362, h363, h364, h365, h366, rfl⟩ := k358
          refine ⟨_, _, rfl, ?_⟩
          refine T_nb (st' := [.int (i32 oo), .int (i32 (m.1 99)), .ref 263]) rfl ?_
          obtain ⟨g360a, g360b⟩ := g360
          have g367 : 0 ≤ m359.1 7 ∧ m359.1 7 ≤ 330 := Tm359.1 7
          have g368 : 0 ≤ m359.1 8 ∧ m359.1 8 ≤ 4000 := Tm359.1 8
          have g369 : 0 ≤ m359.1 9 ∧ m359.1 9 ≤ 4000 := Tm359.1 9
          have g370 : 0 ≤ m359.1 10 ∧ m359.1 10 ≤ 8 := Tm359.1 10
          by_cases hf371 : (m359.1 10) = 0
          · skip
            replace h361 : LxP (m359.1 7) (m359.1 8) (m359.1 9) (m345.1 6) (m359.1 10) := h361
            rewrite [(show (m345.1 6) = (m.1 6) from (fr1 Fm345 6 rfl))] at h361
            have hLx := h361
            replace h362 : (m345.1 8) ≤ (m359.1 8) := h362
            replace h363 : (m345.1 10) = 0 ∧ (m345.1 8) + (m345.1 9) ≤ (m359.1 8) := h363 hf371
            replace h364 : (m345.1 7) = 1 := h364 hf371
            replace h365 : 0 ≤ oo ∧ (oo < (m.1 22) ∨ oo = 0) := h365
            replace h366 : oo < (m.1 22) := h366 hf371
            have u372 : (m.1 8) + 1 ≤ (m359.1 8) := by omega
            have hAgC : agr (m.2 65) (m.2 65) (m.1 28) := by first | exact agr_r _ _ | exact hAgC | exact agr_t hAgC hAg (by omega)
            have u373 : (m.1 28) ≤ (m.1 28) := by omega
            clear g350 g351 g352 g353 h346 h348 h349 u355 h362 h363 h364
            have G374 : ∀ j, 0 ≤ (upI (m.2 103) (m.1 99) oo) j ∧ (upI (m.2 103) (m.1 99) oo) j ≤ 7 := upI_rg (hT.2.1 103) ⟨by omega, by omega⟩
            refine T_iast (a' := [(103, upI (m.2 103) (m.1 99) oo)]) 171 103 (m.2 103) rfl rfl rfl (by omega) (show (m.1 99) < (240 : Int) by omega) (show (m359.2 103) = (m.2 103) from ((fr2 Fm359 103 rfl).trans (fr2 Fm345 103 rfl))) rfl ?_
            refine T_ld 172 (.ref 189) rfl (fun _ => rfl) ?_
            refine T_ld 173 (.int (i32 (m.1 99))) rfl (fun _ => rfl) ?_
            refine T_call 176 274 [.ref 189, .int (i32 (m.1 99))] [] rfl (fun _ => rfl) rfl (c_takeIndex w (mO m359 [] [(103, upI (m.2 103) (m.1 99) oo)]) c N D (by omega) (Ty_mO Tm359 rfl rfl trivial ⟨G374, trivial⟩) (m.1 99) (r32 (by omega) (by omega)) (show LxP (m359.1 7) (m359.1 8) (m359.1 9) (m359.1 6) (m359.1 10) by rewrite [(show (m359.1 6) = (m.1 6) from ((fr1 Fm359 6 rfl).trans (fr1 Fm345 6 rfl)))]; first | exact hLx | exact (fun _ => hLx (by omega)) | (intro h9; exfalso; omega)) (show ∀ k, (m359.2 14) k + (m359.2 15) k ≤ 4000 by rewrite [(show (m359.2 14) = (m.2 14) from ((fr2 Fm359 14 rfl).trans (fr2 Fm345 14 rfl))), (show (m359.2 15) = (m.2 15) from ((fr2 Fm359 15 rfl).trans (fr2 Fm345 15 rfl)))]; assumption) (show ∀ k, (m359.2 31) k + (m359.2 32) k ≤ 4000 by rewrite [(show (m359.2 31) = (m.2 31) from ((fr2 Fm359 31 rfl).trans (fr2 Fm345 31 rfl))), (show (m359.2 32) = (m.2 32) from ((fr2 Fm359 32 rfl).trans (fr2 Fm345 32 rfl)))]; assumption) (show ∀ k, (m359.2 47) k + (m359.2 48) k ≤ 4000 by rewrite [(show (m359.2 47) = (m.2 47) from ((fr2 Fm359 47 rfl).trans (fr2 Fm345 47 rfl))), (show (m359.2 48) = (m.2 48) from ((fr2 Fm359 48 rfl).trans (fr2 Fm345 48 rfl)))]; assumption) (show 0 ≤ (m.1 99) ∧ (m.1 99) ≤ 239 by omega) (fun _ => ⟨(show PN (m359.1 13) (m359.1 19) (m359.1 20) (m359.1 21) (m359.1 22) (m359.1 23) (m359.1 25) (m359.1 26) (m359.2 16) (m359.2 17) by rewrite [(show (m359.1 13) = (m.1 13) from ((fr1 Fm359 13 rfl).trans (fr1 Fm345 13 rfl))), (show (m359.1 19) = (m.1 19) from ((fr1 Fm359 19 rfl).trans (fr1 Fm345 19 rfl))), (show (m359.1 20) = (m.1 20) from ((fr1 Fm359 20 rfl).trans (fr1 Fm345 20 rfl))), (show (m359.1 21) = (m.1 21) from ((fr1 Fm359 21 rfl).trans (fr1 Fm345 21 rfl))), (show (m359.1 22) = (m.1 22) from ((fr1 Fm359 22 rfl).trans (fr1 Fm345 22 rfl))), (show (m359.1 23) = (m.1 23) from ((fr1 Fm359 23 rfl).trans (fr1 Fm345 23 rfl))), (show (m359.1 25) = (m.1 25) from ((fr1 Fm359 25 rfl).trans (fr1 Fm345 25 rfl))), (show (m359.1 26) = (m.1 26) from ((fr1 Fm359 26 rfl).trans (fr1 Fm345 26 rfl))), (show (m359.2 16) = (m.2 16) from ((fr2 Fm359 16 rfl).trans (fr2 Fm345 16 rfl))), (show (m359.2 17) = (m.2 17) from ((fr2 Fm359 17 rfl).trans (fr2 Fm345 17 rfl)))]; assumption), (show CN (m359.2 65) (m359.2 67) (m359.1 28) by rewrite [(show (m359.2 65) = (m.2 65) from ((fr2 Fm359 65 rfl).trans (fr2 Fm345 65 rfl))), (show (m359.2 67) = (m.2 67) from ((fr2 Fm359 67 rfl).trans (fr2 Fm345 67 rfl))), (show (m359.1 28) = (m.1 28) from ((fr1 Fm359 28 rfl).trans (fr1 Fm345 28 rfl)))]; assumption)⟩)) (fun rr375 k376 => ?_)
            obtain ⟨m377, Tm377, Fm377, h378, h379, c380, rfl⟩ := k376
            refine ⟨_, _, rfl, ?_⟩
            refine T_nb (st' := []) rfl ?_
            have g381 : 0 ≤ m377.1 7 ∧ m377.1 7 ≤ 330 := Tm377.1 7
            have g382 : 0 ≤ m377.1 8 ∧ m377.1 8 ≤ 4000 := Tm377.1 8
            have g383 : 0 ≤ m377.1 9 ∧ m377.1 9 ≤ 4000 := Tm377.1 9
            have g384 : 0 ≤ m377.1 10 ∧ m377.1 10 ≤ 8 := Tm377.1 10
            have g385 : 0 ≤ m377.1 28 ∧ m377.1 28 ≤ 800 := Tm377.1 28
            by_cases hf386 : (m377.1 10) = 0
            · skip
              replace h378 : (m359.1 10) = 0 := h378 hf386
              replace h379 : LxP (m377.1 7) (m377.1 8) (m377.1 9) (m359.1 6) (m377.1 10) := h379
              rewrite [(show (m359.1 6) = (m.1 6) from ((fr1 Fm359 6 rfl).trans (fr1 Fm345 6 rfl)))] at h379
              have hLx := h379
              obtain ⟨c387, c388, c389, c390, c391, c392, c393⟩ := c380 hf386
              replace c387 : (m359.1 8) + 1 ≤ (m377.1 8) := c387
              replace c388 : CN (m377.2 65) (m377.2 67) (m377.1 28) := c388
              have hCN := c388
              replace c389 : agr (m359.2 65) (m377.2 65) (m359.1 28) := c389
              rewrite [(show (m359.2 65) = (m.2 65) from ((fr2 Fm359 65 rfl).trans (fr2 Fm345 65 rfl))), (show (m359.1 28) = (m.1 28) from ((fr1 Fm359 28 rfl).trans (fr1 Fm345 28 rfl)))] at c389
              have hAg := c389
              replace c390 : (m359.1 28) ≤ (m377.1 28) := c390
              rewrite [(show (m359.1 28) = (m.1 28) from ((fr1 Fm359 28 rfl).trans (fr1 Fm345 28 rfl)))] at c390
              have hNdhI := c390
              replace c391 : cdr (m377.2 65) (m377.1 28) ((m377.2 105) (m.1 99)) ((m377.2 106) (m.1 99)) := c391
              have hXc := c391
              replace c392 : agr (m359.2 105) (m377.2 105) (m.1 99) := c392
              rewrite [(show (m359.2 105) = (m.2 105) from ((fr2 Fm359 105 rfl).trans (fr2 Fm345 105 rfl)))] at c392
              have hI1 := c392
              replace c393 : agr (m359.2 106) (m377.2 106) (m.1 99) := c393
              rewrite [(show (m359.2 106) = (m.2 106) from ((fr2 Fm359 106 rfl).trans (fr2 Fm345 106 rfl)))] at c393
              have hI2 := c393
              clear c380
              have u394 : (m.1 8) + 1 ≤ (m377.1 8) := by omega
              have hAgC : agr (m.2 65) (m377.2 65) (m.1 28) := by first | exact agr_r _ _ | exact hAgC | exact agr_t hAgC hAg (by omega)
              have u395 : (m.1 28) ≤ (m377.1 28) := by omega
              clear g367 g368 g369 g370 h361 u372 h378 c387
              refine T_gf 180 (.int (i32 (m377.1 10))) rfl rfl rfl rfl rfl rfl ?_
              refine T_if 229 183 rfl rfl rfl (r32 (by omega) (by omega)) (fun (h396 : (m377.1 10) ≠ 0) => by exfalso; omega) (fun (h396 : ¬ ((m377.1 10) ≠ 0)) => ?_)
              refine T_ld 184 (.ref 189) rfl (fun _ => rfl) ?_
              refine T_ld 185 (.int (i32 (m.1 99))) rfl (fun _ => rfl) ?_
              refine T_gf 189 (.ref 206) rfl rfl rfl rfl rfl rfl ?_
              refine T_gf 193 (.ref 263) rfl rfl rfl rfl rfl rfl ?_
              refine T_ld 194 (.int (i32 (m.1 99))) rfl (fun _ => rfl) ?_
              refine T_iald 195 103 (upI (m.2 103) (m.1 99) oo) rfl rfl rfl (by omega) (show (m.1 99) < (240 : Int) by omega) (show (m377.2 103) = (upI (m.2 103) (m.1 99) oo) from (fr2 Fm377 103 rfl)) ?_
              refine T_cast oo upI_s ?_
              refine T_iald 196 36 (m.2 36) rfl rfl rfl (by omega) (show oo < (8 : Int) by omega) (show (m377.2 36) = (m.2 36) from ((fr2 Fm377 36 rfl).trans ((fr2 Fm359 36 rfl).trans (fr2 Fm345 36 rfl)))) ?_
              have e397 : 0 ≤ m.2 36 oo ∧ m.2 36 oo ≤ 64 := hT.2.1 36 oo
              refine T_call 199 272 [.ref 189, .int (i32 (m.1 99)), .int (i32 ((m.2 36) oo))] [] rfl (fun _ => rfl) rfl (c_takeWorth w (mO m377 [] []) c N D (by omega) Tm377 (m.1 99) ((m.2 36) oo) (r32 (by omega) (by omega)) (r32 (by omega) (by omega)) (show LxP (m377.1 7) (m377.1 8) (m377.1 9) (m377.1 6) (m377.1 10) by rewrite [(show (m377.1 6) = (m.1 6) from ((fr1 Fm377 6 rfl).trans ((fr1 Fm359 6 rfl).trans (fr1 Fm345 6 rfl))))]; first | exact hLx | exact (fun _ => hLx (by omega)) | (intro h9; exfalso; omega)) (show ∀ k, (m377.2 14) k + (m377.2 15) k ≤ 4000 by rewrite [(show (m377.2 14) = (m.2 14) from ((fr2 Fm377 14 rfl).trans ((fr2 Fm359 14 rfl).trans (fr2 Fm345 14 rfl)))), (show (m377.2 15) = (m.2 15) from ((fr2 Fm377 15 rfl).trans ((fr2 Fm359 15 rfl).trans (fr2 Fm345 15 rfl))))]; assumption) (show ∀ k, (m377.2 31) k + (m377.2 32) k ≤ 4000 by rewrite [(show (m377.2 31) = (m.2 31) from ((fr2 Fm377 31 rfl).trans ((fr2 Fm359 31 rfl).trans (fr2 Fm345 31 rfl)))), (show (m377.2 32) = (m.2 32) from ((fr2 Fm377 32 rfl).trans ((fr2 Fm359 32 rfl).trans (fr2 Fm345 32 rfl))))]; assumption) (show ∀ k, (m377.2 47) k + (m377.2 48) k ≤ 4000 by rewrite [(show (m377.2 47) = (m.2 47) from ((fr2 Fm377 47 rfl).trans ((fr2 Fm359 47 rfl).trans (fr2 Fm345 47 rfl)))), (show (m377.2 48) = (m.2 48) from ((fr2 Fm377 48 rfl).trans ((fr2 Fm359 48 rfl).trans (fr2 Fm345 48 rfl))))]; assumption) (show 0 ≤ (m.1 99) ∧ (m.1 99) ≤ 239 by omega) (fun _ => ⟨(show PN (m377.1 13) (m377.1 19) (m377.1 20) (m377.1 21) (m377.1 22) (m377.1 23) (m377.1 25) (m377.1 26) (m377.2 16) (m377.2 17) by rewrite [(show (m377.1 13) = (m.1 13) from ((fr1 Fm377 13 rfl).trans ((fr1 Fm359 13 rfl).trans (fr1 Fm345 13 rfl)))), (show (m377.1 19) = (m.1 19) from ((fr1 Fm377 19 rfl).trans ((fr1 Fm359 19 rfl).trans (fr1 Fm345 19 rfl)))), (show (m377.1 20) = (m.1 20) from ((fr1 Fm377 20 rfl).trans ((fr1 Fm359 20 rfl).trans (fr1 Fm345 20 rfl)))), (show (m377.1 21) = (m.1 21) from ((fr1 Fm377 21 rfl).trans ((fr1 Fm359 21 rfl).trans (fr1 Fm345 21 rfl)))), (show (m377.1 22) = (m.1 22) from ((fr1 Fm377 22 rfl).trans ((fr1 Fm359 22 rfl).trans (fr1 Fm345 22 rfl)))), (show (m377.1 23) = (m.1 23) from ((fr1 Fm377 23 rfl).trans ((fr1 Fm359 23 rfl).trans (fr1 Fm345 23 rfl)))), (show (m377.1 25) = (m.1 25) from ((fr1 Fm377 25 rfl).trans ((fr1 Fm359 25 rfl).trans (fr1 Fm345 25 rfl)))), (show (m377.1 26) = (m.1 26) from ((fr1 Fm377 26 rfl).trans ((fr1 Fm359 26 rfl).trans (fr1 Fm345 26 rfl)))), (show (m377.2 16) = (m.2 16) from ((fr2 Fm377 16 rfl).trans ((fr2 Fm359 16 rfl).trans (fr2 Fm345 16 rfl)))), (show (m377.2 17) = (m.2 17) from ((fr2 Fm377 17 rfl).trans ((fr2 Fm359 17 rfl).trans (fr2 Fm345 17 rfl))))]; assumption), (show CN (m377.2 65) (m377.2 67) (m377.1 28) by assumption)⟩)) (fun rr398 k399 => ?_)
              obtain ⟨m400, Tm400, Fm400, h401, h402, c403, rfl⟩ := k399
              refine ⟨_, _, rfl, ?_⟩
              refine T_nb (st' := []) rfl ?_
              have g404 : 0 ≤ m400.1 7 ∧ m400.1 7 ≤ 330 := Tm400.1 7
              have g405 : 0 ≤ m400.1 8 ∧ m400.1 8 ≤ 4000 := Tm400.1 8
              have g406 : 0 ≤ m400.1 9 ∧ m400.1 9 ≤ 4000 := Tm400.1 9
              have g407 : 0 ≤ m400.1 10 ∧ m400.1 10 ≤ 8 := Tm400.1 10
              have g408 : 0 ≤ m400.1 28 ∧ m400.1 28 ≤ 800 := Tm400.1 28
              by_cases hf409 : (m400.1 10) = 0
              · skip
                replace h401 : (m377.1 10) = 0 := h401 hf409
                replace h402 : LxP (m400.1 7) (m400.1 8) (m400.1 9) (m377.1 6) (m400.1 10) := h402
                rewrite [(show (m377.1 6) = (m.1 6) from ((fr1 Fm377 6 rfl).trans ((fr1 Fm359 6 rfl).trans (fr1 Fm345 6 rfl))))] at h402
                have hLx := h402
                obtain ⟨c410, c411, c412, c413, c414, c415, c416⟩ := c403 hf409
                replace c410 : (m377.1 8) + 1 ≤ (m400.1 8) := c410
                replace c411 : CN (m400.2 65) (m400.2 67) (m400.1 28) := c411
                have hCN := c411
                replace c412 : agr (m377.2 65) (m400.2 65) (m377.1 28) := c412
                have hAg := c412
                replace c413 : (m377.1 28) ≤ (m400.1 28) := c413
                have hNdhJ := c413
                replace c414 : cdr (m400.2 65) (m400.1 28) ((m400.2 107) (m.1 99)) ((m400.2 108) (m.1 99)) := c414
                have hEc := c414
                replace c415 : agr (m377.2 107) (m400.2 107) (m.1 99) := c415
                rewrite [(show (m377.2 107) = (m.2 107) from ((fr2 Fm377 107 rfl).trans ((fr2 Fm359 107 rfl).trans (fr2 Fm345 107 rfl))))] at c415
                have hJ1 := c415
                replace c416 : agr (m377.2 108) (m400.2 108) (m.1 99) := c416
                rewrite [(show (m377.2 108) = (m.2 108) from ((fr2 Fm377 108 rfl).trans ((fr2 Fm359 108 rfl).trans (fr2 Fm345 108 rfl))))] at c416
                have hJ2 := c416
                clear c403
                have u417 : (m.1 8) + 1 ≤ (m400.1 8) := by omega
                have hAgC : agr (m.2 65) (m400.2 65) (m.1 28) := by first | exact agr_r _ _ | exact hAgC | exact agr_t hAgC hAg (by omega)
                have u418 : (m.1 28) ≤ (m400.1 28) := by omega
                clear g381 g382 g383 g384 g385 h379 c388 c389 c390 c391 u394 u395 h396 h401 c410 c412 c413
                refine T_goto 229 rfl (fun _ => rfl) ?_
                have w1 : agr (m.2 101) (upI (m.2 101) (m.1 99) (m.1 7)) (m.1 99) := by first | exact agr_u (Int.le_refl _) | exact agr_r _ _
                have w2 : agr (m.2 103) (upI (m.2 103) (m.1 99) oo) (m.1 99) := by first | exact agr_u (Int.le_refl _) | exact agr_r _ _
                have w3 : agr (m.2 105) (m377.2 105) (m.1 99) := by first | exact hI1 | exact agr_u (Int.le_refl _) | exact agr_r _ _
                have w4 : agr (m.2 106) (m377.2 106) (m.1 99) := by first | exact hI2 | exact agr_u (Int.le_refl _) | exact agr_r _ _
                have w5 : agr (m.2 107) (m400.2 107) (m.1 99) := by first | exact hJ1 | exact agr_u (Int.le_refl _) | exact agr_r _ _
                have w6 : agr (m.2 108) (m400.2 108) (m.1 99) := by first | exact hJ2 | exact agr_u (Int.le_refl _) | exact agr_r _ _
                have hR : TdR (m400.2 65) (m400.1 28) (m.1 22) (m.1 99) (upI (m.2 101) (m.1 99) (m.1 7)) (upI (m.2 103) (m.1 99) oo) (m377.2 105) (m377.2 106) (m400.2 107) (m400.2 108) := by
                  refine ⟨fun h => ?_, fun h => ?_⟩ <;> rw [upI_s] at h <;> first | exact hEc | exact ⟨hXc, by rw [upI_s]; omega⟩ | exact ⟨cdr_f hXc hAg (by omega), by rw [upI_s]; omega⟩ | omega
                have hTd2 : TdP (m400.2 65) (m400.1 28) (m.1 22) ((m.1 99) + 1) (upI (m.2 101) (m.1 99) (m.1 7)) (upI (m.2 103) (m.1 99) oo) (m377.2 105) (m377.2 106) (m400.2 107) (m400.2 108) := TdP_add (TdP_f pTd hAgC (by omega) w1 w2 w3 w4 w5 w6) hR
                refine T_ld 230 (.ref 189) rfl (fun _ => rfl) ?_
                refine T_ld 232 (.int (i32 59)) rfl (fun _ => rfl) ?_
                refine T_call 235 232 [.ref 189, .int (i32 59)] [] rfl (fun _ => rfl) rfl (d_need w (mO m400 [] []) c N D (by omega) Tm400 59 ⟨by decide, by decide⟩ (show 1 ≤ (59 : Int) by omega) (show LxP (m400.1 7) (m400.1 8) (m400.1 9) (m400.1 6) (m400.1 10) by rewrite [(show (m400.1 6) = (m.1 6) from ((fr1 Fm400 6 rfl).trans ((fr1 Fm377 6 rfl).trans ((fr1 Fm359 6 rfl).trans (fr1 Fm345 6 rfl)))))]; first | exact hLx | (intro h9; exfalso; omega) | (intro h9; have h8 := hLx (by omega); omega))) (fun rr419 k420 => ?_)
                obtain ⟨m421, Tm421, Fm421, h422, h423, h424, h425, rfl⟩ := k420
                refine ⟨_, _, rfl, ?_⟩
                refine T_nb (st' := []) rfl ?_
                have g426 : 0 ≤ m421.1 7 ∧ m421.1 7 ≤ 330 := Tm421.1 7
                have g427 : 0 ≤ m421.1 8 ∧ m421.1 8 ≤ 4000 := Tm421.1 8
                have g428 : 0 ≤ m421.1 9 ∧ m421.1 9 ≤ 4000 := Tm421.1 9
                have g429 : 0 ≤ m421.1 10 ∧ m421.1 10 ≤ 8 := Tm421.1 10
                by_cases hf430 : (m421.1 10) = 0
                · skip
                  replace h422 : LxP (m421.1 7) (m421.1 8) (m421.1 9) (m400.1 6) (m421.1 10) := h422
                  rewrite [(show (m400.1 6) = (m.1 6) from ((fr1 Fm400 6 rfl).trans ((fr1 Fm377 6 rfl).trans ((fr1 Fm359 6 rfl).trans (fr1 Fm345 6 rfl)))))] at h422
                  have hLx := h422
                  replace h423 : (m400.1 10) = 0 ∧ (m400.1 7) = (59 : Int) := h423 hf430
                  replace h424 : (m400.1 8) ≤ (m421.1 8) := h424
                  replace h425 : (m400.1 8) + (m400.1 9) ≤ (m421.1 8) := h425 hf430
                  have u431 : (m.1 8) + 1 ≤ (m421.1 8) := by omega
                  have hAgC : agr (m.2 65) (m400.2 65) (m.1 28) := by first | exact agr_r _ _ | exact hAgC | exact agr_t hAgC hAg (by omega)
                  have u432 : (m.1 28) ≤ (m400.1 28) := by omega
                  clear g404 g405 g406 g407 h402 u417 h423 h424 h425
                  refine T_ret rfl (fun _ => rfl) ?_
                  exact ⟨(mO m421 [] []), Tm421, (fr_m (fr_s Fm421 (fr_m (fr_s Fm400 (fr_m (fr_s Fm377 (fr_m (fr_s Fm359 (fr_m (fr_s Fm345 (fr_m fr_0 rfl rfl) rfl rfl) rfl rfl) rfl rfl) rfl rfl) rfl rfl) rfl rfl) rfl rfl) rfl rfl) rfl rfl) rfl rfl), (show (m421.1 10) = 0 → (m.1 10) = 0 by omega), (show LxP (m421.1 7) (m421.1 8) (m421.1 9) (m.1 6) (m421.1 10) by first | (first | exact hLx | exact (fun _ => hLx (by omega)) | (intro h9; exfalso; omega)) | (exfalso; omega)), (show (m421.1 99) = (m.1 99) + 1 by rewrite [(show (m421.1 99) = ((m.1 99) + 1) from ((fr1 Fm421 99 rfl).trans ((fr1 Fm400 99 rfl).trans ((fr1 Fm377 99 rfl).trans ((fr1 Fm359 99 rfl).trans (fr1 Fm345 99 rfl))))))]; omega), (fun _ => ⟨(show (m.1 8) + 1 ≤ (m421.1 8) by omega), (show (m.1 28) ≤ (m421.1 28) by rewrite [(show (m421.1 28) = (m400.1 28) from (fr1 Fm421 28 rfl))]; omega), (show CN (m421.2 65) (m421.2 67) (m421.1 28) by rewrite [(show (m421.2 65) = (m400.2 65) from (fr2 Fm421 65 rfl)), (show (m421.2 67) = (m400.2 67) from (fr2 Fm421 67 rfl)), (show (m421.1 28) = (m400.1 28) from (fr1 Fm421 28 rfl))]; first | (exact hCN) | (exfalso; omega)), (show agr (m.2 65) (m421.2 65) (m.1 28) by rewrite [(show (m421.2 65) = (m400.2 65) from (fr2 Fm421 65 rfl))]; first | (exact hAgC) | (exfalso; omega)), (show TdP (m421.2 65) (m421.1 28) (m.1 22) (m421.1 99) (m421.2 101) (m421.2 103) (m421.2 105) (m421.2 106) (m421.2 107) (m421.2 108) by rewrite [(show (m421.2 65) = (m400.2 65) from (fr2 Fm421 65 rfl)), (show (m421.1 28) = (m400.1 28) from (fr1 Fm421 28 rfl)), (show (m421.1 99) = ((m.1 99) + 1) from ((fr1 Fm421 99 rfl).trans ((fr1 Fm400 99 rfl).trans ((fr1 Fm377 99 rfl).trans ((fr1 Fm359 99 rfl).trans (fr1 Fm345 99 rfl)))))), (show (m421.2 101) = (upI (m.2 101) (m.1 99) (m.1 7)) from ((fr2 Fm421 101 rfl).trans ((fr2 Fm400 101 rfl).trans ((fr2 Fm377 101 rfl).trans ((fr2 Fm359 101 rfl).trans (fr2 Fm345 101 rfl)))))), (show (m421.2 103) = (upI (m.2 103) (m.1 99) oo) from ((fr2 Fm421 103 rfl).trans ((fr2 Fm400 103 rfl).trans (fr2 Fm377 103 rfl)))), (show (m421.2 105) = (m377.2 105) from ((fr2 Fm421 105 rfl).trans (fr2 Fm400 105 rfl))), (show (m421.2 106) = (m377.2 106) from ((fr2 Fm421 106 rfl).trans (fr2 Fm400 106 rfl))), (show (m421.2 107) = (m400.2 107) from (fr2 Fm421 107 rfl)), (show (m421.2 108) = (m400.2 108) from (fr2 Fm421 108 rfl))]; first | (exact hTd2) | (exfalso; omega))⟩), rfl⟩
                · skip
                  replace h422 : LxP (m421.1 7) (m421.1 8) (m421.1 9) (m400.1 6) (m421.1 10) := h422
                  rewrite [(show (m400.1 6) = (m.1 6) from ((fr1 Fm400 6 rfl).trans ((fr1 Fm377 6 rfl).trans ((fr1 Fm359 6 rfl).trans (fr1 Fm345 6 rfl)))))] at h422
                  have hLx := h422
                  clear h423
                  replace h424 : (m400.1 8) ≤ (m421.1 8) := h424
                  clear h425
                  have hf433 : 1 ≤ (m421.1 10) := by omega
                  clear g404 g405 g406 g407 h402 u417 h424
                  refine Tm_lv (a := [(0, .ref 189)]) rfl rfl ⟨rfl, trivial⟩ ?_
                  exact J235_25 (mO m421 [] []) Tm421 (fr_m (fr_s Fm421 (fr_m (fr_s Fm400 (fr_m (fr_s Fm377 (fr_m (fr_s Fm359 (fr_m (fr_s Fm345 (fr_m fr_0 rfl rfl) rfl rfl) rfl rfl) rfl rfl) rfl rfl) rfl rfl) rfl rfl) rfl rfl) rfl rfl) rfl rfl) rfl rfl) (show (m421.1 99) = (m.1 99) + 1 by rewrite [(show (m421.1 99) = ((m.1 99) + 1) from ((fr1 Fm421 99 rfl).trans ((fr1 Fm400 99 rfl).trans ((fr1 Fm377 99 rfl).trans ((fr1 Fm359 99 rfl).trans (fr1 Fm345 99 rfl))))))]; omega) (show 1 ≤ (m421.1 10) by omega)
              · skip
                clear c403
                clear h401
                replace h402 : LxP (m400.1 7) (m400.1 8) (m400.1 9) (m377.1 6) (m400.1 10) := h402
                rewrite [(show (m377.1 6) = (m.1 6) from ((fr1 Fm377 6 rfl).trans ((fr1 Fm359 6 rfl).trans (fr1 Fm345 6 rfl))))] at h402
                have hLx := h402
                have hf434 : 1 ≤ (m400.1 10) := by omega
                clear g381 g382 g383 g384 g385 h379 c388 c389 c390 c391 u394 u395 h396
                refine T_goto 229 rfl (fun _ => rfl) ?_
                refine T_ld 230 (.ref 189) rfl (fun _ => rfl) ?_
                refine T_ld 232 (.int (i32 59)) rfl (fun _ => rfl) ?_
                refine T_call 235 232 [.ref 189, .int (i32 59)] [] rfl (fun _ => rfl) rfl (d_need w (mO m400 [] []) c N D (by omega) Tm400 59 ⟨by decide, by decide⟩ (show 1 ≤ (59 : Int) by omega) (show LxP (m400.1 7) (m400.1 8) (m400.1 9) (m400.1 6) (m400.1 10) by rewrite [(show (m400.1 6) = (m.1 6) from ((fr1 Fm400 6 rfl).trans ((fr1 Fm377 6 rfl).trans ((fr1 Fm359 6 rfl).trans (fr1 Fm345 6 rfl)))))]; first | exact hLx | (intro h9; exfalso; omega) | (intro h9; have h8 := hLx (by omega); omega))) (fun rr435 k436 => ?_)
                obtain ⟨m437, Tm437, Fm437, h438, h439, h440, h441, rfl⟩ := k436
                refine ⟨_, _, rfl, ?_⟩
                refine T_nb (st' := []) rfl ?_
                have g442 : 0 ≤ m437.1 7 ∧ m437.1 7 ≤ 330 := Tm437.1 7
                have g443 : 0 ≤ m437.1 8 ∧ m437.1 8 ≤ 4000 := Tm437.1 8
                have g444 : 0 ≤ m437.1 9 ∧ m437.1 9 ≤ 4000 := Tm437.1 9
                have g445 : 0 ≤ m437.1 10 ∧ m437.1 10 ≤ 8 := Tm437.1 10
                replace h438 : LxP (m437.1 7) (m437.1 8) (m437.1 9) (m400.1 6) (m437.1 10) := h438
                rewrite [(show (m400.1 6) = (m.1 6) from ((fr1 Fm400 6 rfl).trans ((fr1 Fm377 6 rfl).trans ((fr1 Fm359 6 rfl).trans (fr1 Fm345 6 rfl)))))] at h438
                replace h439 : (m437.1 10) = 0 → (m400.1 10) = 0 ∧ (m400.1 7) = (59 : Int) := h439
                replace h440 : (m400.1 8) ≤ (m437.1 8) := h440
                replace h441 : (m437.1 10) = 0 → (m400.1 8) + (m400.1 9) ≤ (m437.1 8) := h441
                have hf446 : 1 ≤ (m437.1 10) := by omega
                clear h439
                clear h441
                have hLx := h438
                clear g404 g405 g406 g407 h402 hf434 h440
                refine Tm_lv (a := [(0, .ref 189)]) rfl rfl ⟨rfl, trivial⟩ ?_
                exact J235_25 (mO m437 [] []) Tm437 (fr_m (fr_s Fm437 (fr_m (fr_s Fm400 (fr_m (fr_s Fm377 (fr_m (fr_s Fm359 (fr_m (fr_s Fm345 (fr_m fr_0 rfl rfl) rfl rfl) rfl rfl) rfl rfl) rfl rfl) rfl rfl) rfl rfl) rfl rfl) rfl rfl) rfl rfl) rfl rfl) (show (m437.1 99) = (m.1 99) + 1 by rewrite [(show (m437.1 99) = ((m.1 99) + 1) from ((fr1 Fm437 99 rfl).trans ((fr1 Fm400 99 rfl).trans ((fr1 Fm377 99 rfl).trans ((fr1 Fm359 99 rfl).trans (fr1 Fm345 99 rfl))))))]; omega) (show 1 ≤ (m437.1 10) by omega)
            · skip
              clear c380
              clear h378
              replace h379 : LxP (m377.1 7) (m377.1 8) (m377.1 9) (m359.1 6) (m377.1 10) := h379
              rewrite [(show (m359.1 6) = (m.1 6) from ((fr1 Fm359 6 rfl).trans (fr1 Fm345 6 rfl)))] at h379
              have hLx := h379
              have hf447 : 1 ≤ (m377.1 10) := by omega
              clear g367 g368 g369 g370 h361 u372
              refine Tm_lv (a := [(0, .ref 189), (1, .int (i32 (m.1 99)))]) rfl rfl ⟨rfl, rfl, trivial⟩ ?_
              exact J176_57 (mO m377 [] []) Tm377 (fr_m (fr_s Fm377 (fr_m (fr_s Fm359 (fr_m (fr_s Fm345 (fr_m fr_0 rfl rfl) rfl rfl) rfl rfl) rfl rfl) rfl rfl) rfl rfl) rfl rfl) (show (m377.1 99) = (m.1 99) + 1 by rewrite [(show (m377.1 99) = ((m.1 99) + 1) from ((fr1 Fm377 99 rfl).trans ((fr1 Fm359 99 rfl).trans (fr1 Fm345 99 rfl))))]; omega) (show 0 ≤ (m.1 99) ∧ (m.1 99) ≤ 240 by omega) (show 1 ≤ (m377.1 10) by omega)
          · skip
            replace h361 : LxP (m359.1 7) (m359.1 8) (m359.1 9) (m345.1 6) (m359.1 10) := h361
            rewrite [(show (m345.1 6) = (m.1 6) from (fr1 Fm345 6 rfl))] at h361
            have hLx := h361
            replace h362 : (m345.1 8) ≤ (m359.1 8) := h362
            clear h363
            clear h364
            replace h365 : 0 ≤ oo ∧ (oo < (m.1 22) ∨ oo = 0) := h365
            clear h366
            have hf448 : 1 ≤ (m359.1 10) := by omega
            clear g350 g351 g352 g353 h346 h348 h349 u355 h362
            refine Tm_lv (a := [(0, .ref 189), (1, .int (i32 (m.1 99)))]) rfl rfl ⟨rfl, rfl, trivial⟩ ?_
            exact J170_79 oo (mO m359 [] []) (r32 (by omega) (by omega)) Tm359 (fr_m (fr_s Fm359 (fr_m (fr_s Fm345 (fr_m fr_0 rfl rfl) rfl rfl) rfl rfl) rfl rfl) rfl rfl) (show 0 ≤ oo by omega) (show oo ≤ 7 by omega) (show (m359.1 99) = (m.1 99) + 1 by rewrite [(show (m359.1 99) = ((m.1 99) + 1) from ((fr1 Fm359 99 rfl).trans (fr1 Fm345 99 rfl)))]; omega) (show 0 ≤ (m.1 99) ∧ (m.1 99) ≤ 240 by omega) (show 0 ≤ (m.1 99) ∧ (m.1 99) ≤ 240 by omega) (show 1 ≤ (m359.1 10) by omega)
        · skip
          replace h346 : LxP (m345.1 7) (m345.1 8) (m345.1 9) (m.1 6) (m345.1 10) := h346
          have hLx := h346
          clear h347
          replace h348 : (m.1 8) ≤ (m345.1 8) := h348
          clear h349
          have hf449 : 1 ≤ (m345.1 10) := by omega
          refine T_gf 164 (.ref 263) rfl rfl rfl rfl rfl rfl ?_
          refine T_ld 165 (.int (i32 (m.1 99))) rfl (fun _ => rfl) ?_
          refine T_ld 166 (.ref 189) rfl (fun _ => rfl) ?_
          refine T_ld 167 (.int (i32 4)) rfl (fun _ => rfl) ?_
          refine T_call 170 236 [.ref 189, .int (i32 4)] [.int (i32 (m.1 99)), .ref 263] rfl (fun _ => rfl) rfl (d_oldName w (mO m345 [] []) c N D (by omega) Tm345 4 (m.1 22) ⟨by decide, by decide⟩ (show LxP (m345.1 7) (m345.1 8) (m345.1 9) (m345.1 6) (m345.1 10) by rewrite [(show (m345.1 6) = (m.1 6) from (fr1 Fm345 6 rfl))]; first | exact hLx | (intro h9; exfalso; omega) | (intro h9; have h8 := hLx (by omega); omega)) (show ∀ k, (m345.2 14) k + (m345.2 15) k ≤ 4000 by rewrite [(show (m345.2 14) = (m.2 14) from (fr2 Fm345 14 rfl)), (show (m345.2 15) = (m.2 15) from (fr2 Fm345 15 rfl))]; first | exact p1 | exact hNM) (show 1 ≤ (4 : Int) ∧ (4 : Int) ≤ 7 ∧ (4 : Int) ≠ 5 by omega) (show (m.1 22) ≤ 16 by omega) (show (m345.1 10) = 0 → ∀ k, 0 ≤ k → k < (m345.1 13) → (m345.2 16) k = (4 : Int) → 0 ≤ (m345.2 17) k ∧ (m345.2 17) k < (m.1 22) by rewrite [(show (m345.1 13) = (m.1 13) from (fr1 Fm345 13 rfl)), (show (m345.2 16) = (m.2 16) from (fr2 Fm345 16 rfl)), (show (m345.2 17) = (m.2 17) from (fr2 Fm345 17 rfl))]; first | exact hOL | (intro h; exfalso; omega)) (show (4 : Int) = 3 → 3 ≤ (m.1 22) by omega)) (fun rr450 k451 => ?_)
          obtain ⟨m452, oo, Tm452, Fm452, g453, h454, h455, h456, h457, h458, h459, rfl⟩ := k451
          refine ⟨_, _, rfl, ?_⟩
          refine T_nb (st' := [.int (i32 oo), .int (i32 (m.1 99)), .ref 263]) rfl ?_
          obtain ⟨g453a, g453b⟩ := g453
          have g460 : 0 ≤ m452.1 7 ∧ m452.1 7 ≤ 330 := Tm452.1 7
          have g461 : 0 ≤ m452.1 8 ∧ m452.1 8 ≤ 4000 := Tm452.1 8
          have g462 : 0 ≤ m452.1 9 ∧ m452.1 9 ≤ 4000 := Tm452.1 9
          have g463 : 0 ≤ m452.1 10 ∧ m452.1 10 ≤ 8 := Tm452.1 10
          replace h454 : LxP (m452.1 7) (m452.1 8) (m452.1 9) (m345.1 6) (m452.1 10) := h454
          rewrite [(show (m345.1 6) = (m.1 6) from (fr1 Fm345 6 rfl))] at h454
          replace h455 : (m345.1 8) ≤ (m452.1 8) := h455
          replace h456 : (m452.1 10) = 0 → (m345.1 10) = 0 ∧ (m345.1 8) + (m345.1 9) ≤ (m452.1 8) := h456
          replace h457 : (m452.1 10) = 0 → (m345.1 7) = 1 := h457
          replace h458 : 0 ≤ oo ∧ (oo < (m.1 22) ∨ oo = 0) := h458
          replace h459 : (m452.1 10) = 0 → oo < (m.1 22) := h459
          have hf464 : 1 ≤ (m452.1 10) := by omega
          clear h456
          clear h457
          clear h459
          have hLx := h454
          clear g350 g351 g352 g353 h346 h348 hf449 h455
          refine Tm_lv (a := [(0, .ref 189), (1, .int (i32 (m.1 99)))]) rfl rfl ⟨rfl, rfl, trivial⟩ ?_
          exact J170_79 oo (mO m452 [] []) (r32 (by omega) (by omega)) Tm452 (fr_m (fr_s Fm452 (fr_m (fr_s Fm345 (fr_m fr_0 rfl rfl) rfl rfl) rfl rfl) rfl rfl) rfl rfl) (show 0 ≤ oo by omega) (show oo ≤ 7 by omega) (show (m452.1 99) = (m.1 99) + 1 by rewrite [(show (m452.1 99) = ((m.1 99) + 1) from ((fr1 Fm452 99 rfl).trans (fr1 Fm345 99 rfl)))]; omega) (show 0 ≤ (m.1 99) ∧ (m.1 99) ≤ 240 by omega) (show 0 ≤ (m.1 99) ∧ (m.1 99) ≤ 240 by omega) (show 1 ≤ (m452.1 10) by omega)
    · skip
      refine T_ld 74 (.ref 189) rfl (fun _ => rfl) ?_
      refine T_call 77 212 [.ref 189] [] rfl (fun _ => rfl) rfl (d_next w (mO m [(99, (m.1 99) + 1)] [(101, upI (m.2 101) (m.1 99) (m.1 7))]) c N D (by omega) (Ty_mO hT rfl rfl ⟨g245, trivial⟩ ⟨G246, trivial⟩) (show (m.1 10) = 0 → (m.1 8) + (m.1 9) ≤ (m.1 6) by first | omega | (intro h9; have h8 := hLx h9; omega))) (fun rr465 k466 => ?_)
      obtain ⟨m467, Tm467, Fm467, h468, h469, h470, h471, rfl⟩ := k466
      refine ⟨_, _, rfl, ?_⟩
      refine T_nb (st' := []) rfl ?_
      have g472 : 0 ≤ m467.1 7 ∧ m467.1 7 ≤ 330 := Tm467.1 7
      have g473 : 0 ≤ m467.1 8 ∧ m467.1 8 ≤ 4000 := Tm467.1 8
      have g474 : 0 ≤ m467.1 9 ∧ m467.1 9 ≤ 4000 := Tm467.1 9
      have g475 : 0 ≤ m467.1 10 ∧ m467.1 10 ≤ 8 := Tm467.1 10
      by_cases hf476 : (m467.1 10) = 0
      · skip
        replace h468 : LxP (m467.1 7) (m467.1 8) (m467.1 9) (m.1 6) (m467.1 10) := h468
        have hLx := h468
        replace h469 : (m.1 10) = 0 := h469 hf476
        replace h470 : (m.1 8) ≤ (m467.1 8) := h470
        replace h471 : (m.1 8) + (m.1 9) ≤ (m467.1 8) := h471 hf476
        have u477 : (m.1 8) + 1 ≤ (m467.1 8) := by omega
        have hAgC : agr (m.2 65) (m.2 65) (m.1 28) := by first | exact agr_r _ _ | exact hAgC | exact agr_t hAgC hAg (by omega)
        have u478 : (m.1 28) ≤ (m.1 28) := by omega
        refine T_gf 81 (.ref 262) rfl rfl rfl rfl rfl rfl ?_
        refine T_ld 82 (.int (i32 (m.1 99))) rfl (fun _ => rfl) ?_
        refine T_ld 83 (.ref 189) rfl (fun _ => rfl) ?_
        refine T_call 86 271 [.ref 189] [.int (i32 (m.1 99)), .ref 262] rfl (fun _ => rfl) rfl (c_takePlace w (mO m467 [] []) c N D (by omega) Tm467 (show LxP (m467.1 7) (m467.1 8) (m467.1 9) (m467.1 6) (m467.1 10) by rewrite [(show (m467.1 6) = (m.1 6) from (fr1 Fm467 6 rfl))]; first | exact hLx | exact (fun _ => hLx (by omega)) | (intro h9; exfalso; omega)) (show ∀ k, (m467.2 14) k + (m467.2 15) k ≤ 4000 by rewrite [(show (m467.2 14) = (m.2 14) from (fr2 Fm467 14 rfl)), (show (m467.2 15) = (m.2 15) from (fr2 Fm467 15 rfl))]; assumption) (show ∀ k, (m467.2 31) k + (m467.2 32) k ≤ 4000 by rewrite [(show (m467.2 31) = (m.2 31) from (fr2 Fm467 31 rfl)), (show (m467.2 32) = (m.2 32) from (fr2 Fm467 32 rfl))]; assumption) (fun _ => (show PN (m467.1 13) (m467.1 19) (m467.1 20) (m467.1 21) (m467.1 22) (m467.1 23) (m467.1 25) (m467.1 26) (m467.2 16) (m467.2 17) by rewrite [(show (m467.1 13) = (m.1 13) from (fr1 Fm467 13 rfl)), (show (m467.1 19) = (m.1 19) from (fr1 Fm467 19 rfl)), (show (m467.1 20) = (m.1 20) from (fr1 Fm467 20 rfl)), (show (m467.1 21) = (m.1 21) from (fr1 Fm467 21 rfl)), (show (m467.1 22) = (m.1 22) from (fr1 Fm467 22 rfl)), (show (m467.1 23) = (m.1 23) from (fr1 Fm467 23 rfl)), (show (m467.1 25) = (m.1 25) from (fr1 Fm467 25 rfl)), (show (m467.1 26) = (m.1 26) from (fr1 Fm467 26 rfl)), (show (m467.2 16) = (m.2 16) from (fr2 Fm467 16 rfl)), (show (m467.2 17) = (m.2 17) from (fr2 Fm467 17 rfl))]; assumption))) (fun rr479 k480 => ?_)
        obtain ⟨m481, tp, Tm481, Fm481, g482, h483, h484, c485, rfl⟩ := k480
        refine ⟨_, _, rfl, ?_⟩
        refine T_nb (st' := [.int (i32 tp), .int (i32 (m.1 99)), .ref 262]) rfl ?_
        obtain ⟨g482a, g482b⟩ := g482
        have g486 : 0 ≤ m481.1 7 ∧ m481.1 7 ≤ 330 := Tm481.1 7
        have g487 : 0 ≤ m481.1 8 ∧ m481.1 8 ≤ 4000 := Tm481.1 8
        have g488 : 0 ≤ m481.1 9 ∧ m481.1 9 ≤ 4000 := Tm481.1 9
        have g489 : 0 ≤ m481.1 10 ∧ m481.1 10 ≤ 8 := Tm481.1 10
        have g490 : 0 ≤ m481.1 100 ∧ m481.1 100 ≤ 64 := Tm481.1 100
        by_cases hf491 : (m481.1 10) = 0
        · skip
          replace h483 : (m467.1 10) = 0 := h483 hf491
          replace h484 : LxP (m481.1 7) (m481.1 8) (m481.1 9) (m467.1 6) (m481.1 10) := h484
          rewrite [(show (m467.1 6) = (m.1 6) from (fr1 Fm467 6 rfl))] at h484
          have hLx := h484
          have c492 := c485 hf491
          replace c492 : (m467.1 8) + 1 ≤ (m481.1 8) := c492
          clear c485
          have u493 : (m.1 8) + 1 ≤ (m481.1 8) := by omega
          have hAgC : agr (m.2 65) (m.2 65) (m.1 28) := by first | exact agr_r _ _ | exact hAgC | exact agr_t hAgC hAg (by omega)
          have u494 : (m.1 28) ≤ (m.1 28) := by omega
          clear g472 g473 g474 g475 h468 h470 h471 u477 h483 c492
          have G495 : ∀ j, 0 ≤ (upI (m.2 102) (m.1 99) tp) j ∧ (upI (m.2 102) (m.1 99) tp) j ≤ 207 := upI_rg (hT.2.1 102) ⟨by omega, by omega⟩
          refine T_iast (a' := [(102, upI (m.2 102) (m.1 99) tp)]) 87 102 (m.2 102) rfl rfl rfl (by omega) (show (m.1 99) < (240 : Int) by omega) (show (m481.2 102) = (m.2 102) from ((fr2 Fm481 102 rfl).trans (fr2 Fm467 102 rfl))) rfl ?_
          refine T_gf 91 (.int (i32 (m481.1 8))) rfl rfl rfl rfl rfl rfl ?_
          refine T_sto 92 [(2, .int (i32 (m481.1 8))), (1, .int (i32 (m.1 99))), (0, .ref 189)] rfl (fun _ => rfl) ?_
          refine T_gf 96 (.ref 263) rfl rfl rfl rfl rfl rfl ?_
          refine T_ld 97 (.int (i32 (m.1 99))) rfl (fun _ => rfl) ?_
          refine T_ld 98 (.ref 189) rfl (fun _ => rfl) ?_
          refine T_ld 99 (.int (i32 4)) rfl (fun _ => rfl) ?_
          have hOL : (m481.1 10) = 0 → ∀ k, 0 ≤ k → k < (m.1 13) → (m.2 16) k = 4 → 0 ≤ (m.2 17) k ∧ (m.2 17) k < (m.1 22) := fun _ k h1 h2 h3 => by
            have h4 := PNl_4 pPN k h1 h2 h3
            omega
          refine T_call 102 236 [.ref 189, .int (i32 4)] [.int (i32 (m.1 99)), .ref 263] rfl (fun _ => rfl) rfl (d_oldName w (mO m481 [] [(102, upI (m.2 102) (m.1 99) tp)]) c N D (by omega) (Ty_mO Tm481 rfl rfl trivial ⟨G495, trivial⟩) 4 (m.1 22) ⟨by decide, by decide⟩ (show LxP (m481.1 7) (m481.1 8) (m481.1 9) (m481.1 6) (m481.1 10) by rewrite [(show (m481.1 6) = (m.1 6) from ((fr1 Fm481 6 rfl).trans (fr1 Fm467 6 rfl)))]; first | exact hLx | (intro h9; exfalso; omega) | (intro h9; have h8 := hLx (by omega); omega)) (show ∀ k, (m481.2 14) k + (m481.2 15) k ≤ 4000 by rewrite [(show (m481.2 14) = (m.2 14) from ((fr2 Fm481 14 rfl).trans (fr2 Fm467 14 rfl))), (show (m481.2 15) = (m.2 15) from ((fr2 Fm481 15 rfl).trans (fr2 Fm467 15 rfl)))]; first | exact p1 | exact hNM) (show 1 ≤ (4 : Int) ∧ (4 : Int) ≤ 7 ∧ (4 : Int) ≠ 5 by omega) (show (m.1 22) ≤ 16 by omega) (show (m481.1 10) = 0 → ∀ k, 0 ≤ k → k < (m481.1 13) → (m481.2 16) k = (4 : Int) → 0 ≤ (m481.2 17) k ∧ (m481.2 17) k < (m.1 22) by rewrite [(show (m481.1 13) = (m.1 13) from ((fr1 Fm481 13 rfl).trans (fr1 Fm467 13 rfl))), (show (m481.2 16) = (m.2 16) from ((fr2 Fm481 16 rfl).trans (fr2 Fm467 16 rfl))), (show (m481.2 17) = (m.2 17) from ((fr2 Fm481 17 rfl).trans (fr2 Fm467 17 rfl)))]; first | exact hOL | (intro h; exfalso; omega)) (show (4 : Int) = 3 → 3 ≤ (m.1 22) by omega)) (fun rr496 k497 => ?_)
          obtain ⟨m498, oo, Tm498, Fm498, g499, h500, h501, h502, h503, h504, h505, rfl⟩ := k497
          refine ⟨_, _, rfl, ?_⟩
          refine T_nb (st' := [.int (i32 oo), .int (i32 (m.1 99)), .ref 263]) rfl ?_
          obtain ⟨g499a, g499b⟩ := g499
          have g506 : 0 ≤ m498.1 7 ∧ m498.1 7 ≤ 330 := Tm498.1 7
          have g507 : 0 ≤ m498.1 8 ∧ m498.1 8 ≤ 4000 := Tm498.1 8
          have g508 : 0 ≤ m498.1 9 ∧ m498.1 9 ≤ 4000 := Tm498.1 9
          have g509 : 0 ≤ m498.1 10 ∧ m498.1 10 ≤ 8 := Tm498.1 10
          by_cases hf510 : (m498.1 10) = 0
          · skip
            replace h500 : LxP (m498.1 7) (m498.1 8) (m498.1 9) (m481.1 6) (m498.1 10) := h500
            rewrite [(show (m481.1 6) = (m.1 6) from ((fr1 Fm481 6 rfl).trans (fr1 Fm467 6 rfl)))] at h500
            have hLx := h500
            replace h501 : (m481.1 8) ≤ (m498.1 8) := h501
            replace h502 : (m481.1 10) = 0 ∧ (m481.1 8) + (m481.1 9) ≤ (m498.1 8) := h502 hf510
            replace h503 : (m481.1 7) = 1 := h503 hf510
            replace h504 : 0 ≤ oo ∧ (oo < (m.1 22) ∨ oo = 0) := h504
            replace h505 : oo < (m.1 22) := h505 hf510
            have u511 : (m.1 8) + 1 ≤ (m498.1 8) := by omega
            have hAgC : agr (m.2 65) (m.2 65) (m.1 28) := by first | exact agr_r _ _ | exact hAgC | exact agr_t hAgC hAg (by omega)
            have u512 : (m.1 28) ≤ (m.1 28) := by omega
            clear g486 g488 g489 h484 h502 h503
            have G513 : ∀ j, 0 ≤ (upI (m.2 103) (m.1 99) oo) j ∧ (upI (m.2 103) (m.1 99) oo) j ≤ 7 := upI_rg (hT.2.1 103) ⟨by omega, by omega⟩
            refine T_iast (a' := [(103, upI (m.2 103) (m.1 99) oo)]) 103 103 (m.2 103) rfl rfl rfl (by omega) (show (m.1 99) < (240 : Int) by omega) (show (m498.2 103) = (m.2 103) from ((fr2 Fm498 103 rfl).trans ((fr2 Fm481 103 rfl).trans (fr2 Fm467 103 rfl)))) rfl ?_
            refine T_gf 107 (.int (i32 (m498.1 10))) rfl rfl rfl rfl rfl rfl ?_
            refine T_if 138 110 rfl rfl rfl (r32 (by omega) (by omega)) (fun (h514 : (m498.1 10) ≠ 0) => by exfalso; omega) (fun (h514 : ¬ ((m498.1 10) ≠ 0)) => ?_)
            refine T_ld 111 (.ref 189) rfl (fun _ => rfl) ?_
            refine T_gf 115 (.ref 206) rfl rfl rfl rfl rfl rfl ?_
            refine T_gf 119 (.ref 263) rfl rfl rfl rfl rfl rfl ?_
            refine T_ld 120 (.int (i32 (m.1 99))) rfl (fun _ => rfl) ?_
            refine T_iald 121 103 (upI (m.2 103) (m.1 99) oo) rfl rfl rfl (by omega) (show (m.1 99) < (240 : Int) by omega) rfl ?_
            refine T_cast oo upI_s ?_
            refine T_iald 122 36 (m.2 36) rfl rfl rfl (by omega) (show oo < (8 : Int) by omega) (show (m498.2 36) = (m.2 36) from ((fr2 Fm498 36 rfl).trans ((fr2 Fm481 36 rfl).trans (fr2 Fm467 36 rfl)))) ?_
            have e515 : 0 ≤ m.2 36 oo ∧ m.2 36 oo ≤ 64 := hT.2.1 36 oo
            refine T_gf 126 (.int (i32 (m481.1 100))) rfl rfl rfl rfl (mfv_c (F := fun x => .int (i32 x)) rfl (show (m498.1 100) = (m481.1 100) from (fr1 Fm498 100 rfl))) rfl ?_
            refine T_icmp 133 129 rfl rfl rfl (r32 (by omega) (by omega)) (r32 (by omega) (by omega)) (fun (h516 : (m.2 36) oo ≠ (m481.1 100)) => ?_) (fun (h516 : ¬ ((m.2 36) oo ≠ (m481.1 100))) => ?_)
            · skip
              refine T_ld 134 (.int (i32 0)) rfl (fun _ => rfl) ?_
              refine T_ld 135 (.int (i32 (m481.1 8))) rfl (fun _ => rfl) ?_
              refine T_call 138 256 [.ref 189, .int (i32 0), .int (i32 (m481.1 8))] [] rfl (fun _ => rfl) rfl (c_want w (mO m498 [] [(103, upI (m.2 103) (m.1 99) oo)]) c N D (by omega) (Ty_mO Tm498 rfl rfl trivial ⟨G513, trivial⟩) 0 (m481.1 8) ⟨by decide, by decide⟩ (r32 (by omega) (by omega)) (show 0 ≤ (m481.1 8) ∧ (m481.1 8) ≤ 4000 by omega) (fun _ => trivial)) (fun rr517 k518 => ?_)
              obtain ⟨m519, Tm519, Fm519, h520, c521, rfl⟩ := k518
              refine ⟨_, _, rfl, ?_⟩
              refine T_nb (st' := []) rfl ?_
              have g522 : 0 ≤ m519.1 10 ∧ m519.1 10 ≤ 8 := Tm519.1 10
              by_cases hf523 : (m519.1 10) = 0
              · skip
                replace h520 : (m498.1 10) = 0 := h520 hf523
                have c524 := c521 hf523
                replace c524 : (0 : Int) ≠ 0 := c524
                clear c521
                have u525 : (m.1 8) + 1 ≤ (m498.1 8) := by omega
                have hAgC : agr (m.2 65) (m.2 65) (m.1 28) := by first | exact agr_r _ _ | exact hAgC | exact agr_t hAgC hAg (by omega)
                have u526 : (m.1 28) ≤ (m.1 28) := by omega
                clear g509 h500 h514 h520
                refine T_ld 139 (.ref 189) rfl (fun _ => rfl) ?_
                refine T_ld 140 (.int (i32 (m.1 99))) rfl (fun _ => rfl) ?_
                refine T_call 143 274 [.ref 189, .int (i32 (m.1 99))] [] rfl (fun _ => rfl) rfl (c_takeIndex w (mO m519 [] []) c N D (by omega) Tm519 (m.1 99) (r32 (by omega) (by omega)) (show LxP (m519.1 7) (m519.1 8) (m519.1 9) (m519.1 6) (m519.1 10) by rewrite [(show (m519.1 7) = (m498.1 7) from (fr1 Fm519 7 rfl)), (show (m519.1 8) = (m498.1 8) from (fr1 Fm519 8 rfl)), (show (m519.1 9) = (m498.1 9) from (fr1 Fm519 9 rfl)), (show (m519.1 6) = (m.1 6) from ((fr1 Fm519 6 rfl).trans ((fr1 Fm498 6 rfl).trans ((fr1 Fm481 6 rfl).trans (fr1 Fm467 6 rfl)))))]; first | exact hLx | exact (fun _ => hLx (by omega)) | (intro h9; exfalso; omega)) (show ∀ k, (m519.2 14) k + (m519.2 15) k ≤ 4000 by rewrite [(show (m519.2 14) = (m.2 14) from ((fr2 Fm519 14 rfl).trans ((fr2 Fm498 14 rfl).trans ((fr2 Fm481 14 rfl).trans (fr2 Fm467 14 rfl))))), (show (m519.2 15) = (m.2 15) from ((fr2 Fm519 15 rfl).trans ((fr2 Fm498 15 rfl).trans ((fr2 Fm481 15 rfl).trans (fr2 Fm467 15 rfl)))))]; assumption) (show ∀ k, (m519.2 31) k + (m519.2 32) k ≤ 4000 by rewrite [(show (m519.2 31) = (m.2 31) from ((fr2 Fm519 31 rfl).trans ((fr2 Fm498 31 rfl).trans ((fr2 Fm481 31 rfl).trans (fr2 Fm467 31 rfl))))), (show (m519.2 32) = (m.2 32) from ((fr2 Fm519 32 rfl).trans ((fr2 Fm498 32 rfl).trans ((fr2 Fm481 32 rfl).trans (fr2 Fm467 32 rfl)))))]; assumption) (show ∀ k, (m519.2 47) k + (m519.2 48) k ≤ 4000 by rewrite [(show (m519.2 47) = (m.2 47) from ((fr2 Fm519 47 rfl).trans ((fr2 Fm498 47 rfl).trans ((fr2 Fm481 47 rfl).trans (fr2 Fm467 47 rfl))))), (show (m519.2 48) = (m.2 48) from ((fr2 Fm519 48 rfl).trans ((fr2 Fm498 48 rfl).trans ((fr2 Fm481 48 rfl).trans (fr2 Fm467 48 rfl)))))]; assumption) (show 0 ≤ (m.1 99) ∧ (m.1 99) ≤ 239 by omega) (fun _ => ⟨(show PN (m519.1 13) (m519.1 19) (m519.1 20) (m519.1 21) (m519.1 22) (m519.1 23) (m519.1 25) (m519.1 26) (m519.2 16) (m519.2 17) by rewrite [(show (m519.1 13) = (m.1 13) from ((fr1 Fm519 13 rfl).trans ((fr1 Fm498 13 rfl).trans ((fr1 Fm481 13 rfl).trans (fr1 Fm467 13 rfl))))), (show (m519.1 19) = (m.1 19) from ((fr1 Fm519 19 rfl).trans ((fr1 Fm498 19 rfl).trans ((fr1 Fm481 19 rfl).trans (fr1 Fm467 19 rfl))))), (show (m519.1 20) = (m.1 20) from ((fr1 Fm519 20 rfl).trans ((fr1 Fm498 20 rfl).trans ((fr1 Fm481 20 rfl).trans (fr1 Fm467 20 rfl))))), (show (m519.1 21) = (m.1 21) from ((fr1 Fm519 21 rfl).trans ((fr1 Fm498 21 rfl).trans ((fr1 Fm481 21 rfl).trans (fr1 Fm467 21 rfl))))), (show (m519.1 22) = (m.1 22) from ((fr1 Fm519 22 rfl).trans ((fr1 Fm498 22 rfl).trans ((fr1 Fm481 22 rfl).trans (fr1 Fm467 22 rfl))))), (show (m519.1 23) = (m.1 23) from ((fr1 Fm519 23 rfl).trans ((fr1 Fm498 23 rfl).trans ((fr1 Fm481 23 rfl).trans (fr1 Fm467 23 rfl))))), (show (m519.1 25) = (m.1 25) from ((fr1 Fm519 25 rfl).trans ((fr1 Fm498 25 rfl).trans ((fr1 Fm481 25 rfl).trans (fr1 Fm467 25 rfl))))), (show (m519.1 26) = (m.1 26) from ((fr1 Fm519 26 rfl).trans ((fr1 Fm498 26 rfl).trans ((fr1 Fm481 26 rfl).trans (fr1 Fm467 26 rfl))))), (show (m519.2 16) = (m.2 16) from ((fr2 Fm519 16 rfl).trans ((fr2 Fm498 16 rfl).trans ((fr2 Fm481 16 rfl).trans (fr2 Fm467 16 rfl))))), (show (m519.2 17) = (m.2 17) from ((fr2 Fm519 17 rfl).trans ((fr2 Fm498 17 rfl).trans ((fr2 Fm481 17 rfl).trans (fr2 Fm467 17 rfl)))))]; assumption), (show CN (m519.2 65) (m519.2 67) (m519.1 28) by rewrite [(show (m519.2 65) = (m.2 65) from ((fr2 Fm519 65 rfl).trans ((fr2 Fm498 65 rfl).trans ((fr2 Fm481 65 rfl).trans (fr2 Fm467 65 rfl))))), (show (m519.2 67) = (m.2 67) from ((fr2 Fm519 67 rfl).trans ((fr2 Fm498 67 rfl).trans ((fr2 Fm481 67 rfl).trans (fr2 Fm467 67 rfl))))), (show (m519.1 28) = (m.1 28) from ((fr1 Fm519 28 rfl).trans ((fr1 Fm498 28 rfl).trans ((fr1 Fm481 28 rfl).trans (fr1 Fm467 28 rfl)))))]; assumption)⟩)) (fun rr527 k528 => ?_)
                obtain ⟨m529, Tm529, Fm529, h530, h531, c532, rfl⟩ := k528
                refine ⟨_, _, rfl, ?_⟩
                refine T_nb (st' := []) rfl ?_
                have g533 : 0 ≤ m529.1 7 ∧ m529.1 7 ≤ 330 := Tm529.1 7
                have g534 : 0 ≤ m529.1 8 ∧ m529.1 8 ≤ 4000 := Tm529.1 8
                have g535 : 0 ≤ m529.1 9 ∧ m529.1 9 ≤ 4000 := Tm529.1 9
                have g536 : 0 ≤ m529.1 10 ∧ m529.1 10 ≤ 8 := Tm529.1 10
                have g537 : 0 ≤ m529.1 28 ∧ m529.1 28 ≤ 800 := Tm529.1 28
                by_cases hf538 : (m529.1 10) = 0
                · skip
                  replace h530 : (m519.1 10) = 0 := h530 hf538
                  replace h531 : LxP (m529.1 7) (m529.1 8) (m529.1 9) (m519.1 6) (m529.1 10) := h531
                  rewrite [(show (m519.1 6) = (m.1 6) from ((fr1 Fm519 6 rfl).trans ((fr1 Fm498 6 rfl).trans ((fr1 Fm481 6 rfl).trans (fr1 Fm467 6 rfl)))))] at h531
                  have hLx := h531
                  obtain ⟨c539, c540, c541, c542, c543, c544, c545⟩ := c532 hf538
                  replace c539 : (m519.1 8) + 1 ≤ (m529.1 8) := c539
                  rewrite [(show (m519.1 8) = (m498.1 8) from (fr1 Fm519 8 rfl))] at c539
                  replace c540 : CN (m529.2 65) (m529.2 67) (m529.1 28) := c540
                  have hCN := c540
                  replace c541 : agr (m519.2 65) (m529.2 65) (m519.1 28) := c541
                  rewrite [(show (m519.2 65) = (m.2 65) from ((fr2 Fm519 65 rfl).trans ((fr2 Fm498 65 rfl).trans ((fr2 Fm481 65 rfl).trans (fr2 Fm467 65 rfl))))), (show (m519.1 28) = (m.1 28) from ((fr1 Fm519 28 rfl).trans ((fr1 Fm498 28 rfl).trans ((fr1 Fm481 28 rfl).trans (fr1 Fm467 28 rfl)))))] at c541
                  have hAg := c541
                  replace c542 : (m519.1 28) ≤ (m529.1 28) := c542
                  rewrite [(show (m519.1 28) = (m.1 28) from ((fr1 Fm519 28 rfl).trans ((fr1 Fm498 28 rfl).trans ((fr1 Fm481 28 rfl).trans (fr1 Fm467 28 rfl)))))] at c542
                  have hNdhI := c542
                  replace c543 : cdr (m529.2 65) (m529.1 28) ((m529.2 105) (m.1 99)) ((m529.2 106) (m.1 99)) := c543
                  have hXc := c543
                  replace c544 : agr (m519.2 105) (m529.2 105) (m.1 99) := c544
                  rewrite [(show (m519.2 105) = (m.2 105) from ((fr2 Fm519 105 rfl).trans ((fr2 Fm498 105 rfl).trans ((fr2 Fm481 105 rfl).trans (fr2 Fm467 105 rfl)))))] at c544
                  have hI1 := c544
                  replace c545 : agr (m519.2 106) (m529.2 106) (m.1 99) := c545
                  rewrite [(show (m519.2 106) = (m.2 106) from ((fr2 Fm519 106 rfl).trans ((fr2 Fm498 106 rfl).trans ((fr2 Fm481 106 rfl).trans (fr2 Fm467 106 rfl)))))] at c545
                  have hI2 := c545
                  clear c532
                  have u546 : (m.1 8) + 1 ≤ (m529.1 8) := by omega
                  have hAgC : agr (m.2 65) (m529.2 65) (m.1 28) := by first | exact agr_r _ _ | exact hAgC | exact agr_t hAgC hAg (by omega)
                  have u547 : (m.1 28) ≤ (m529.1 28) := by omega
                  clear g506 g507 g508 h501 u511 g522 u525 h530 c539
                  refine T_goto 229 rfl (fun _ => rfl) ?_
                  have w1 : agr (m.2 101) (upI (m.2 101) (m.1 99) (m.1 7)) (m.1 99) := by first | exact agr_u (Int.le_refl _) | exact agr_r _ _
                  have w2 : agr (m.2 103) (upI (m.2 103) (m.1 99) oo) (m.1 99) := by first | exact agr_u (Int.le_refl _) | exact agr_r _ _
                  have w3 : agr (m.2 105) (m529.2 105) (m.1 99) := by first | exact hI1 | exact agr_u (Int.le_refl _) | exact agr_r _ _
                  have w4 : agr (m.2 106) (m529.2 106) (m.1 99) := by first | exact hI2 | exact agr_u (Int.le_refl _) | exact agr_r _ _
                  have w5 : agr (m.2 107) (m.2 107) (m.1 99) := by first | exact hJ1 | exact agr_u (Int.le_refl _) | exact agr_r _ _
                  have w6 : agr (m.2 108) (m.2 108) (m.1 99) := by first | exact hJ2 | exact agr_u (Int.le_refl _) | exact agr_r _ _
                  have hR : TdR (m529.2 65) (m529.1 28) (m.1 22) (m.1 99) (upI (m.2 101) (m.1 99) (m.1 7)) (upI (m.2 103) (m.1 99) oo) (m529.2 105) (m529.2 106) (m.2 107) (m.2 108) := by
                    refine ⟨fun h => ?_, fun h => ?_⟩ <;> rw [upI_s] at h <;> first | exact hEc | exact ⟨hXc, by rw [upI_s]; omega⟩ | exact ⟨cdr_f hXc hAg (by omega), by rw [upI_s]; omega⟩ | omega
                  have hTd2 : TdP (m529.2 65) (m529.1 28) (m.1 22) ((m.1 99) + 1) (upI (m.2 101) (m.1 99) (m.1 7)) (upI (m.2 103) (m.1 99) oo) (m529.2 105) (m529.2 106) (m.2 107) (m.2 108) := TdP_add (TdP_f pTd hAgC (by omega) w1 w2 w3 w4 w5 w6) hR
                  refine T_ld 230 (.ref 189) rfl (fun _ => rfl) ?_
                  refine T_ld 232 (.int (i32 59)) rfl (fun _ => rfl) ?_
                  refine T_call 235 232 [.ref 189, .int (i32 59)] [] rfl (fun _ => rfl) rfl (d_need w (mO m529 [] []) c N D (by omega) Tm529 59 ⟨by decide, by decide⟩ (show 1 ≤ (59 : Int) by omega) (show LxP (m529.1 7) (m529.1 8) (m529.1 9) (m529.1 6) (m529.1 10) by rewrite [(show (m529.1 6) = (m.1 6) from ((fr1 Fm529 6 rfl).trans ((fr1 Fm519 6 rfl).trans ((fr1 Fm498 6 rfl).trans ((fr1 Fm481 6 rfl).trans (fr1 Fm467 6 rfl))))))]; first | exact hLx | (intro h9; exfalso; omega) | (intro h9; have h8 := hLx (by omega); omega))) (fun rr548 k549 => ?_)
                  obtain ⟨m550, Tm550, Fm550, h551, h552, h553, h554, rfl⟩ := k549
                  refine ⟨_, _, rfl, ?_⟩
                  refine T_nb (st' := []) rfl ?_
                  have g555 : 0 ≤ m550.1 7 ∧ m550.1 7 ≤ 330 := Tm550.1 7
                  have g556 : 0 ≤ m550.1 8 ∧ m550.1 8 ≤ 4000 := Tm550.1 8
                  have g557 : 0 ≤ m550.1 9 ∧ m550.1 9 ≤ 4000 := Tm550.1 9
                  have g558 : 0 ≤ m550.1 10 ∧ m550.1 10 ≤ 8 := Tm550.1 10
                  by_cases hf559 : (m550.1 10) = 0
                  · skip
                    replace h551 : LxP (m550.1 7) (m550.1 8) (m550.1 9) (m529.1 6) (m550.1 10) := h551
                    rewrite [(show (m529.1 6) = (m.1 6) from ((fr1 Fm529 6 rfl).trans ((fr1 Fm519 6 rfl).trans ((fr1 Fm498 6 rfl).trans ((fr1 Fm481 6 rfl).trans (fr1 Fm467 6 rfl))))))] at h551
                    have hLx := h551
                    replace h552 : (m529.1 10) = 0 ∧ (m529.1 7) = (59 : Int) := h552 hf559
                    replace h553 : (m529.1 8) ≤ (m550.1 8) := h553
                    replace h554 : (m529.1 8) + (m529.1 9) ≤ (m550.1 8) := h554 hf559
                    have u560 : (m.1 8) + 1 ≤ (m550.1 8) := by omega
                    have hAgC : agr (m.2 65) (m529.2 65) (m.1 28) := by first | exact agr_r _ _ | exact hAgC | exact agr_t hAgC hAg (by omega)
                    have u561 : (m.1 28) ≤ (m529.1 28) := by omega
                    clear g533 g534 g535 g536 h531 u546 h552 h553 h554
                    refine T_ret rfl (fun _ => rfl) ?_
                    exact ⟨(mO m550 [] []), Tm550, (fr_m (fr_s Fm550 (fr_m (fr_s Fm529 (fr_m (fr_s Fm519 (fr_m (fr_s Fm498 (fr_m (fr_s Fm481 (fr_m (fr_s Fm467 (fr_m fr_0 rfl rfl) rfl rfl) rfl rfl) rfl rfl) rfl rfl) rfl rfl) rfl rfl) rfl rfl) rfl rfl) rfl rfl) rfl rfl) rfl rfl) rfl rfl), (show (m550.1 10) = 0 → (m.1 10) = 0 by omega), (show LxP (m550.1 7) (m550.1 8) (m550.1 9) (m.1 6) (m550.1 10) by first | (first | exact hLx | exact (fun _ => hLx (by omega)) | (intro h9; exfalso; omega)) | (exfalso; omega)), (show (m550.1 99) = (m.1 99) + 1 by rewrite [(show (m550.1 99) = ((m.1 99) + 1) from ((fr1 Fm550 99 rfl).trans ((fr1 Fm529 99 rfl).trans ((fr1 Fm519 99 rfl).trans ((fr1 Fm498 99 rfl).trans ((fr1 Fm481 99 rfl).trans (fr1 Fm467 99 rfl)))))))]; omega), (fun _ => ⟨(show (m.1 8) + 1 ≤ (m550.1 8) by omega), (show (m.1 28) ≤ (m550.1 28) by rewrite [(show (m550.1 28) = (m529.1 28) from (fr1 Fm550 28 rfl))]; omega), (show CN (m550.2 65) (m550.2 67) (m550.1 28) by rewrite [(show (m550.2 65) = (m529.2 65) from (fr2 Fm550 65 rfl)), (show (m550.2 67) = (m529.2 67) from (fr2 Fm550 67 rfl)), (show (m550.1 28) = (m529.1 28) from (fr1 Fm550 28 rfl))]; first | (exact hCN) | (exfalso; omega)), (show agr (m.2 65) (m550.2 65) (m.1 28) by rewrite [(show (m550.2 65) = (m529.2 65) from (fr2 Fm550 65 rfl))]; first | (exact hAgC) | (exfalso; omega)), (show TdP (m550.2 65) (m550.1 28) (m.1 22) (m550.1 99) (m550.2 101) (m550.2 103) (m550.2 105) (m550.2 106) (m550.2 107) (m550.2 108) by rewrite [(show (m550.2 65) = (m529.2 65) from (fr2 Fm550 65 rfl)), (show (m550.1 28) = (m529.1 28) from (fr1 Fm550 28 rfl)), (show (m550.1 99) = ((m.1 99) + 1) from ((fr1 Fm550 99 rfl).trans ((fr1 Fm529 99 rfl).trans ((fr1 Fm519 99 rfl).trans ((fr1 Fm498 99 rfl).trans ((fr1 Fm481 99 rfl).trans (fr1 Fm467 99 rfl))))))), (show (m550.2 101) = (upI (m.2 101) (m.1 99) (m.1 7)) from ((fr2 Fm550 101 rfl).trans ((fr2 Fm529 101 rfl).trans ((fr2 Fm519 101 rfl).trans ((fr2 Fm498 101 rfl).trans ((fr2 Fm481 101 rfl).trans (fr2 Fm467 101 rfl))))))), (show (m550.2 103) = (upI (m.2 103) (m.1 99) oo) from ((fr2 Fm550 103 rfl).trans ((fr2 Fm529 103 rfl).trans (fr2 Fm519 103 rfl)))), (show (m550.2 105) = (m529.2 105) from (fr2 Fm550 105 rfl)), (show (m550.2 106) = (m529.2 106) from (fr2 Fm550 106 rfl)), (show (m550.2 107) = (m.2 107) from ((fr2 Fm550 107 rfl).trans ((fr2 Fm529 107 rfl).trans ((fr2 Fm519 107 rfl).trans ((fr2 Fm498 107 rfl).trans ((fr2 Fm481 107 rfl).trans (fr2 Fm467 107 rfl))))))), (show (m550.2 108) = (m.2 108) from ((fr2 Fm550 108 rfl).trans ((fr2 Fm529 108 rfl).trans ((fr2 Fm519 108 rfl).trans ((fr2 Fm498 108 rfl).trans ((fr2 Fm481 108 rfl).trans (fr2 Fm467 108 rfl)))))))]; first | (exact hTd2) | (exfalso; omega))⟩), rfl⟩
                  · skip
                    replace h551 : LxP (m550.1 7) (m550.1 8) (m550.1 9) (m529.1 6) (m550.1 10) := h551
                    rewrite [(show (m529.1 6) = (m.1 6) from ((fr1 Fm529 6 rfl).trans ((fr1 Fm519 6 rfl).trans ((fr1 Fm498 6 rfl).trans ((fr1 Fm481 6 rfl).trans (fr1 Fm467 6 rfl))))))] at h551
                    have hLx := h551
                    clear h552
                    replace h553 : (m529.1 8) ≤ (m550.1 8) := h553
                    clear h554
                    have hf562 : 1 ≤ (m550.1 10) := by omega
                    clear g533 g534 g535 g536 h531 u546 h553
                    refine Tm_lv (a := [(0, .ref 189)]) rfl rfl ⟨rfl, trivial⟩ ?_
                    exact J235_25 (mO m550 [] []) Tm550 (fr_m (fr_s Fm550 (fr_m (fr_s Fm529 (fr_m (fr_s Fm519 (fr_m (fr_s Fm498 (fr_m (fr_s Fm481 (fr_m (fr_s Fm467 (fr_m fr_0 rfl rfl) rfl rfl) rfl rfl) rfl rfl) rfl rfl) rfl rfl) rfl rfl) rfl rfl) rfl rfl) rfl rfl) rfl rfl) rfl rfl) rfl rfl) (show (m550.1 99) = (m.1 99) + 1 by rewrite [(show (m550.1 99) = ((m.1 99) + 1) from ((fr1 Fm550 99 rfl).trans ((fr1 Fm529 99 rfl).trans ((fr1 Fm519 99 rfl).trans ((fr1 Fm498 99 rfl).trans ((fr1 Fm481 99 rfl).trans (fr1 Fm467 99 rfl)))))))]; omega) (show 1 ≤ (m550.1 10) by omega)
                · skip
                  clear c532
                  clear h530
                  replace h531 : LxP (m529.1 7) (m529.1 8) (m529.1 9) (m519.1 6) (m529.1 10) := h531
                  rewrite [(show (m519.1 6) = (m.1 6) from ((fr1 Fm519 6 rfl).trans ((fr1 Fm498 6 rfl).trans ((fr1 Fm481 6 rfl).trans (fr1 Fm467 6 rfl)))))] at h531
                  have hLx := h531
                  have hf563 : 1 ≤ (m529.1 10) := by omega
                  clear g506 g507 g508 h501 u511 g522 u525
                  refine Tm_lv (a := [(0, .ref 189)]) rfl rfl ⟨rfl, trivial⟩ ?_
                  exact J143_104 (mO m529 [] []) Tm529 (fr_m (fr_s Fm529 (fr_m (fr_s Fm519 (fr_m (fr_s Fm498 (fr_m (fr_s Fm481 (fr_m (fr_s Fm467 (fr_m fr_0 rfl rfl) rfl rfl) rfl rfl) rfl rfl) rfl rfl) rfl rfl) rfl rfl) rfl rfl) rfl rfl) rfl rfl) rfl rfl) (show (m529.1 99) = (m.1 99) + 1 by rewrite [(show (m529.1 99) = ((m.1 99) + 1) from ((fr1 Fm529 99 rfl).trans ((fr1 Fm519 99 rfl).trans ((fr1 Fm498 99 rfl).trans ((fr1 Fm481 99 rfl).trans (fr1 Fm467 99 rfl))))))]; omega) (show 1 ≤ (m529.1 10) by omega)
              · skip
                clear c521
                clear h520
                have hf564 : 1 ≤ (m519.1 10) := by omega
                clear g509 h500 h514
                refine Tm_lv (a := [(0, .ref 189), (1, .int (i32 (m.1 99)))]) rfl rfl ⟨rfl, rfl, trivial⟩ ?_
                exact J138_123 (mO m519 [] []) Tm519 (fr_m (fr_s Fm519 (fr_m (fr_s Fm498 (fr_m (fr_s Fm481 (fr_m (fr_s Fm467 (fr_m fr_0 rfl rfl) rfl rfl) rfl rfl) rfl rfl) rfl rfl) rfl rfl) rfl rfl) rfl rfl) rfl rfl) (show (m519.1 99) = (m.1 99) + 1 by rewrite [(show (m519.1 99) = ((m.1 99) + 1) from ((fr1 Fm519 99 rfl).trans ((fr1 Fm498 99 rfl).trans ((fr1 Fm481 99 rfl).trans (fr1 Fm467 99 rfl)))))]; omega) (show 0 ≤ (m.1 99) ∧ (m.1 99) ≤ 240 by omega) (show 1 ≤ (m519.1 10) by omega)
            · skip
              refine T_ld 130 (.int (i32 1)) rfl (fun _ => rfl) ?_
              refine T_goto 134 rfl (fun _ => rfl) ?_
              refine T_ld 135 (.int (i32 (m481.1 8))) rfl (fun _ => rfl) ?_
              refine T_call 138 256 [.ref 189, .int (i32 1), .int (i32 (m481.1 8))] [] rfl (fun _ => rfl) rfl (c_want w (mO m498 [] [(103, upI (m.2 103) (m.1 99) oo)]) c N D (by omega) (Ty_mO Tm498 rfl rfl trivial ⟨G513, trivial⟩) 1 (m481.1 8) ⟨by decide, by decide⟩ (r32 (by omega) (by omega)) (show 0 ≤ (m481.1 8) ∧ (m481.1 8) ≤ 4000 by omega) (fun _ => trivial)) (fun rr565 k566 => ?_)
              obtain ⟨m567, Tm567, Fm567, h568, c569, rfl⟩ := k566
              refine ⟨_, _, rfl, ?_⟩
              refine T_nb (st' := []) rfl ?_
              have g570 : 0 ≤ m567.1 10 ∧ m567.1 10 ≤ 8 := Tm567.1 10
              by_cases hf571 : (m567.1 10) = 0
              · skip
                replace h568 : (m498.1 10) = 0 := h568 hf571
                have c572 := c569 hf571
                replace c572 : (1 : Int) ≠ 0 := c572
                clear c569
                have u573 : (m.1 8) + 1 ≤ (m498.1 8) := by omega
                have hAgC : agr (m.2 65) (m.2 65) (m.1 28) := by first | exact agr_r _ _ | exact hAgC | exact agr_t hAgC hAg (by omega)
                have u574 : (m.1 28) ≤ (m.1 28) := by omega
                clear g509 h500 h514 h568
                refine T_ld 139 (.ref 189) rfl (fun _ => rfl) ?_
                refine T_ld 140 (.int (i32 (m.1 99))) rfl (fun _ => rfl) ?_
                refine T_call 143 274 [.ref 189, .int (i32 (m.1 99))] [] rfl (fun _ => rfl) rfl (c_takeIndex w (mO m567 [] []) c N D (by omega) Tm567 (m.1 99) (r32 (by omega) (by omega)) (show LxP (m567.1 7) (m567.1 8) (m567.1 9) (m567.1 6) (m567.1 10) by rewrite [(show (m567.1 7) = (m498.1 7) from (fr1 Fm567 7 rfl)), (show (m567.1 8) = (m498.1 8) from (fr1 Fm567 8 rfl)), (show (m567.1 9) = (m498.1 9) from (fr1 Fm567 9 rfl)), (show (m567.1 6) = (m.1 6) from ((fr1 Fm567 6 rfl).trans ((fr1 Fm498 6 rfl).trans ((fr1 Fm481 6 rfl).trans (fr1 Fm467 6 rfl)))))]; first | exact hLx | exact (fun _ => hLx (by omega)) | (intro h9; exfalso; omega)) (show ∀ k, (m567.2 14) k + (m567.2 15) k ≤ 4000 by rewrite [(show (m567.2 14) = (m.2 14) from ((fr2 Fm567 14 rfl).trans ((fr2 Fm498 14 rfl).trans ((fr2 Fm481 14 rfl).trans (fr2 Fm467 14 rfl))))), (show (m567.2 15) = (m.2 15) from ((fr2 Fm567 15 rfl).trans ((fr2 Fm498 15 rfl).trans ((fr2 Fm481 15 rfl).trans (fr2 Fm467 15 rfl)))))]; assumption) (show ∀ k, (m567.2 31) k + (m567.2 32) k ≤ 4000 by rewrite [(show (m567.2 31) = (m.2 31) from ((fr2 Fm567 31 rfl).trans ((fr2 Fm498 31 rfl).trans ((fr2 Fm481 31 rfl).trans (fr2 Fm467 31 rfl))))), (show (m567.2 32) = (m.2 32) from ((fr2 Fm567 32 rfl).trans ((fr2 Fm498 32 rfl).trans ((fr2 Fm481 32 rfl).trans (fr2 Fm467 32 rfl)))))]; assumption) (show ∀ k, (m567.2 47) k + (m567.2 48) k ≤ 4000 by rewrite [(show (m567.2 47) = (m.2 47) from ((fr2 Fm567 47 rfl).trans ((fr2 Fm498 47 rfl).trans ((fr2 Fm481 47 rfl).trans (fr2 Fm467 47 rfl))))), (show (m567.2 48) = (m.2 48) from ((fr2 Fm567 48 rfl).trans ((fr2 Fm498 48 rfl).trans ((fr2 Fm481 48 rfl).trans (fr2 Fm467 48 rfl)))))]; assumption) (show 0 ≤ (m.1 99) ∧ (m.1 99) ≤ 239 by omega) (fun _ => ⟨(show PN (m567.1 13) (m567.1 19) (m567.1 20) (m567.1 21) (m567.1 22) (m567.1 23) (m567.1 25) (m567.1 26) (m567.2 16) (m567.2 17) by rewrite [(show (m567.1 13) = (m.1 13) from ((fr1 Fm567 13 rfl).trans ((fr1 Fm498 13 rfl).trans ((fr1 Fm481 13 rfl).trans (fr1 Fm467 13 rfl))))), (show (m567.1 19) = (m.1 19) from ((fr1 Fm567 19 rfl).trans ((fr1 Fm498 19 rfl).trans ((fr1 Fm481 19 rfl).trans (fr1 Fm467 19 rfl))))), (show (m567.1 20) = (m.1 20) from ((fr1 Fm567 20 rfl).trans ((fr1 Fm498 20 rfl).trans ((fr1 Fm481 20 rfl).trans (fr1 Fm467 20 rfl))))), (show (m567.1 21) = (m.1 21) from ((fr1 Fm567 21 rfl).trans ((fr1 Fm498 21 rfl).trans ((fr1 Fm481 21 rfl).trans (fr1 Fm467 21 rfl))))), (show (m567.1 22) = (m.1 22) from ((fr1 Fm567 22 rfl).trans ((fr1 Fm498 22 rfl).trans ((fr1 Fm481 22 rfl).trans (fr1 Fm467 22 rfl))))), (show (m567.1 23) = (m.1 23) from ((fr1 Fm567 23 rfl).trans ((fr1 Fm498 23 rfl).trans ((fr1 Fm481 23 rfl).trans (fr1 Fm467 23 rfl))))), (show (m567.1 25) = (m.1 25) from ((fr1 Fm567 25 rfl).trans ((fr1 Fm498 25 rfl).trans ((fr1 Fm481 25 rfl).trans (fr1 Fm467 25 rfl))))), (show (m567.1 26) = (m.1 26) from ((fr1 Fm567 26 rfl).trans ((fr1 Fm498 26 rfl).trans ((fr1 Fm481 26 rfl).trans (fr1 Fm467 26 rfl))))), (show (m567.2 16) = (m.2 16) from ((fr2 Fm567 16 rfl).trans ((fr2 Fm498 16 rfl).trans ((fr2 Fm481 16 rfl).trans (fr2 Fm467 16 rfl))))), (show (m567.2 17) = (m.2 17) from ((fr2 Fm567 17 rfl).trans ((fr2 Fm498 17 rfl).trans ((fr2 Fm481 17 rfl).trans (fr2 Fm467 17 rfl)))))]; assumption), (show CN (m567.2 65) (m567.2 67) (m567.1 28) by rewrite [(show (m567.2 65) = (m.2 65) from ((fr2 Fm567 65 rfl).trans ((fr2 Fm498 65 rfl).trans ((fr2 Fm481 65 rfl).trans (fr2 Fm467 65 rfl))))), (show (m567.2 67) = (m.2 67) from ((fr2 Fm567 67 rfl).trans ((fr2 Fm498 67 rfl).trans ((fr2 Fm481 67 rfl).trans (fr2 Fm467 67 rfl))))), (show (m567.1 28) = (m.1 28) from ((fr1 Fm567 28 rfl).trans ((fr1 Fm498 28 rfl).trans ((fr1 Fm481 28 rfl).trans (fr1 Fm467 28 rfl)))))]; assumption)⟩)) (fun rr575 k576 => ?_)
                obtain ⟨m577, Tm577, Fm577, h578, h579, c580, rfl⟩ := k576
                refine ⟨_, _, rfl, ?_⟩
                refine T_nb (st' := []) rfl ?_
                have g581 : 0 ≤ m577.1 7 ∧ m577.1 7 ≤ 330 := Tm577.1 7
                have g582 : 0 ≤ m577.1 8 ∧ m577.1 8 ≤ 4000 := Tm577.1 8
                have g583 : 0 ≤ m577.1 9 ∧ m577.1 9 ≤ 4000 := Tm577.1 9
                have g584 : 0 ≤ m577.1 10 ∧ m577.1 10 ≤ 8 := Tm577.1 10
                have g585 : 0 ≤ m577.1 28 ∧ m577.1 28 ≤ 800 := Tm577.1 28
                by_cases hf586 : (m577.1 10) = 0
                · skip
                  replace h578 : (m567.1 10) = 0 := h578 hf586
                  replace h579 : LxP (m577.1 7) (m577.1 8) (m577.1 9) (m567.1 6) (m577.1 10) := h579
                  rewrite [(show (m567.1 6) = (m.1 6) from ((fr1 Fm567 6 rfl).trans ((fr1 Fm498 6 rfl).trans ((fr1 Fm481 6 rfl).trans (fr1 Fm467 6 rfl)))))] at h579
                  have hLx := h579
                  obtain ⟨c587, c588, c589, c590, c591, c592, c593⟩ := c580 hf586
                  replace c587 : (m567.1 8) + 1 ≤ (m577.1 8) := c587
                  rewrite [(show (m567.1 8) = (m498.1 8) from (fr1 Fm567 8 rfl))] at c587
                  replace c588 : CN (m577.2 65) (m577.2 67) (m577.1 28) := c588
                  have hCN := c588
                  replace c589 : agr (m567.2 65) (m577.2 65) (m567.1 28) := c589
                  rewrite [(show (m567.2 65) = (m.2 65) from ((fr2 Fm567 65 rfl).trans ((fr2 Fm498 65 rfl).trans ((fr2 Fm481 65 rfl).trans (fr2 Fm467 65 rfl))))), (show (m567.1 28) = (m.1 28) from ((fr1 Fm567 28 rfl).trans ((fr1 Fm498 28 rfl).trans ((fr1 Fm481 28 rfl).trans (fr1 Fm467 28 rfl)))))] at c589
                  have hAg := c589
                  replace c590 : (m567.1 28) ≤ (m577.1 28) := c590
                  rewrite [(show (m567.1 28) = (m.1 28) from ((fr1 Fm567 28 rfl).trans ((fr1 Fm498 28 rfl).trans ((fr1 Fm481 28 rfl).trans (fr1 Fm467 28 rfl)))))] at c590
                  have hNdhI := c590
                  replace c591 : cdr (m577.2 65) (m577.1 28) ((m577.2 105) (m.1 99)) ((m577.2 106) (m.1 99)) := c591
                  have hXc := c591
                  replace c592 : agr (m567.2 105) (m577.2 105) (m.1 99) := c592
                  rewrite [(show (m567.2 105) = (m.2 105) from ((fr2 Fm567 105 rfl).trans ((fr2 Fm498 105 rfl).trans ((fr2 Fm481 105 rfl).trans (fr2 Fm467 105 rfl)))))] at c592
                  have hI1 := c592
                  replace c593 : agr (m567.2 106) (m577.2 106) (m.1 99) := c593
                  rewrite [(show (m567.2 106) = (m.2 106) from ((fr2 Fm567 106 rfl).trans ((fr2 Fm498 106 rfl).trans ((fr2 Fm481 106 rfl).trans (fr2 Fm467 106 rfl)))))] at c593
                  have hI2 := c593
                  clear c580
                  have u594 : (m.1 8) + 1 ≤ (m577.1 8) := by omega
                  have hAgC : agr (m.2 65) (m577.2 65) (m.1 28) := by first | exact agr_r _ _ | exact hAgC | exact agr_t hAgC hAg (by omega)
                  have u595 : (m.1 28) ≤ (m577.1 28) := by omega
                  clear g506 g507 g508 h501 u511 g570 u573 h578 c587
                  refine T_goto 229 rfl (fun _ => rfl) ?_
                  have w1 : agr (m.2 101) (upI (m.2 101) (m.1 99) (m.1 7)) (m.1 99) := by first | exact agr_u (Int.le_refl _) | exact agr_r _ _
                  have w2 : agr (m.2 103) (upI (m.2 103) (m.1 99) oo) (m.1 99) := by first | exact agr_u (Int.le_refl _) | exact agr_r _ _
                  have w3 : agr (m.2 105) (m577.2 105) (m.1 99) := by first | exact hI1 | exact agr_u (Int.le_refl _) | exact agr_r _ _
                  have w4 : agr (m.2 106) (m577.2 106) (m.1 99) := by first | exact hI2 | exact agr_u (Int.le_refl _) | exact agr_r _ _
                  have w5 : agr (m.2 107) (m.2 107) (m.1 99) := by first | exact hJ1 | exact agr_u (Int.le_refl _) | exact agr_r _ _
                  have w6 : agr (m.2 108) (m.2 108) (m.1 99) := by first | exact hJ2 | exact agr_u (Int.le_refl _) | exact agr_r _ _
                  have hR : TdR (m577.2 65) (m577.1 28) (m.1 22) (m.1 99) (upI (m.2 101) (m.1 99) (m.1 7)) (upI (m.2 103) (m.1 99) oo) (m577.2 105) (m577.2 106) (m.2 107) (m.2 108) := by
                    refine ⟨fun h => ?_, fun h => ?_⟩ <;> rw [upI_s] at h <;> first | exact hEc | exact ⟨hXc, by rw [upI_s]; omega⟩ | exact ⟨cdr_f hXc hAg (by omega), by rw [upI_s]; omega⟩ | omega
                  have hTd2 : TdP (m577.2 65) (m577.1 28) (m.1 22) ((m.1 99) + 1) (upI (m.2 101) (m.1 99) (m.1 7)) (upI (m.2 103) (m.1 99) oo) (m577.2 105) (m577.2 106) (m.2 107) (m.2 108) := TdP_add (TdP_f pTd hAgC (by omega) w1 w2 w3 w4 w5 w6) hR
                  refine T_ld 230 (.ref 189) rfl (fun _ => rfl) ?_
                  refine T_ld 232 (.int (i32 59)) rfl (fun _ => rfl) ?_
                  refine T_call 235 232 [.ref 189, .int (i32 59)] [] rfl (fun _ => rfl) rfl (d_need w (mO m577 [] []) c N D (by omega) Tm577 59 ⟨by decide, by decide⟩ (show 1 ≤ (59 : Int) by omega) (show LxP (m577.1 7) (m577.1 8) (m577.1 9) (m577.1 6) (m577.1 10) by rewrite [(show (m577.1 6) = (m.1 6) from ((fr1 Fm577 6 rfl).trans ((fr1 Fm567 6 rfl).trans ((fr1 Fm498 6 rfl).trans ((fr1 Fm481 6 rfl).trans (fr1 Fm467 6 rfl))))))]; first | exact hLx | (intro h9; exfalso; omega) | (intro h9; have h8 := hLx (by omega); omega))) (fun rr596 k597 => ?_)
                  obtain ⟨m598, Tm598, Fm598, h599, h600, h601, h602, rfl⟩ := k597
                  refine ⟨_, _, rfl, ?_⟩
                  refine T_nb (st' := []) rfl ?_
                  have g603 : 0 ≤ m598.1 7 ∧ m598.1 7 ≤ 330 := Tm598.1 7
                  have g604 : 0 ≤ m598.1 8 ∧ m598.1 8 ≤ 4000 := Tm598.1 8
                  have g605 : 0 ≤ m598.1 9 ∧ m598.1 9 ≤ 4000 := Tm598.1 9
                  have g606 : 0 ≤ m598.1 10 ∧ m598.1 10 ≤ 8 := Tm598.1 10
                  by_cases hf607 : (m598.1 10) = 0
                  · skip
                    replace h599 : LxP (m598.1 7) (m598.1 8) (m598.1 9) (m577.1 6) (m598.1 10) := h599
                    rewrite [(show (m577.1 6) = (m.1 6) from ((fr1 Fm577 6 rfl).trans ((fr1 Fm567 6 rfl).trans ((fr1 Fm498 6 rfl).trans ((fr1 Fm481 6 rfl).trans (fr1 Fm467 6 rfl))))))] at h599
                    have hLx := h599
                    replace h600 : (m577.1 10) = 0 ∧ (m577.1 7) = (59 : Int) := h600 hf607
                    replace h601 : (m577.1 8) ≤ (m598.1 8) := h601
                    replace h602 : (m577.1 8) + (m577.1 9) ≤ (m598.1 8) := h602 hf607
                    have u608 : (m.1 8) + 1 ≤ (m598.1 8) := by omega
                    have hAgC : agr (m.2 65) (m577.2 65) (m.1 28) := by first | exact agr_r _ _ | exact hAgC | exact agr_t hAgC hAg (by omega)
                    have u609 : (m.1 28) ≤ (m577.1 28) := by omega
                    clear g581 g582 g583 g584 h579 u594 h600 h601 h602
                    refine T_ret rfl (fun _ => rfl) ?_
                    exact ⟨(mO m598 [] []), Tm598, (fr_m (fr_s Fm598 (fr_m (fr_s Fm577 (fr_m (fr_s Fm567 (fr_m (fr_s Fm498 (fr_m (fr_s Fm481 (fr_m (fr_s Fm467 (fr_m fr_0 rfl rfl) rfl rfl) rfl rfl) rfl rfl) rfl rfl) rfl rfl) rfl rfl) rfl rfl) rfl rfl) rfl rfl) rfl rfl) rfl rfl) rfl rfl), (show (m598.1 10) = 0 → (m.1 10) = 0 by omega), (show LxP (m598.1 7) (m598.1 8) (m598.1 9) (m.1 6) (m598.1 10) by first | (first | exact hLx | exact (fun _ => hLx (by omega)) | (intro h9; exfalso; omega)) | (exfalso; omega)), (show (m598.1 99) = (m.1 99) + 1 by rewrite [(show (m598.1 99) = ((m.1 99) + 1) from ((fr1 Fm598 99 rfl).trans ((fr1 Fm577 99 rfl).trans ((fr1 Fm567 99 rfl).trans ((fr1 Fm498 99 rfl).trans ((fr1 Fm481 99 rfl).trans (fr1 Fm467 99 rfl)))))))]; omega), (fun _ => ⟨(show (m.1 8) + 1 ≤ (m598.1 8) by omega), (show (m.1 28) ≤ (m598.1 28) by rewrite [(show (m598.1 28) = (m577.1 28) from (fr1 Fm598 28 rfl))]; omega), (show CN (m598.2 65) (m598.2 67) (m598.1 28) by rewrite [(show (m598.2 65) = (m577.2 65) from (fr2 Fm598 65 rfl)), (show (m598.2 67) = (m577.2 67) from (fr2 Fm598 67 rfl)), (show (m598.1 28) = (m577.1 28) from (fr1 Fm598 28 rfl))]; first | (exact hCN) | (exfalso; omega)), (show agr (m.2 65) (m598.2 65) (m.1 28) by rewrite [(show (m598.2 65) = (m577.2 65) from (fr2 Fm598 65 rfl))]; first | (exact hAgC) | (exfalso; omega)), (show TdP (m598.2 65) (m598.1 28) (m.1 22) (m598.1 99) (m598.2 101) (m598.2 103) (m598.2 105) (m598.2 106) (m598.2 107) (m598.2 108) by rewrite [(show (m598.2 65) = (m577.2 65) from (fr2 Fm598 65 rfl)), (show (m598.1 28) = (m577.1 28) from (fr1 Fm598 28 rfl)), (show (m598.1 99) = ((m.1 99) + 1) from ((fr1 Fm598 99 rfl).trans ((fr1 Fm577 99 rfl).trans ((fr1 Fm567 99 rfl).trans ((fr1 Fm498 99 rfl).trans ((fr1 Fm481 99 rfl).trans (fr1 Fm467 99 rfl))))))), (show (m598.2 101) = (upI (m.2 101) (m.1 99) (m.1 7)) from ((fr2 Fm598 101 rfl).trans ((fr2 Fm577 101 rfl).trans ((fr2 Fm567 101 rfl).trans ((fr2 Fm498 101 rfl).trans ((fr2 Fm481 101 rfl).trans (fr2 Fm467 101 rfl))))))), (show (m598.2 103) = (upI (m.2 103) (m.1 99) oo) from ((fr2 Fm598 103 rfl).trans ((fr2 Fm577 103 rfl).trans (fr2 Fm567 103 rfl)))), (show (m598.2 105) = (m577.2 105) from (fr2 Fm598 105 rfl)), (show (m598.2 106) = (m577.2 106) from (fr2 Fm598 106 rfl)), (show (m598.2 107) = (m.2 107) from ((fr2 Fm598 107 rfl).trans ((fr2 Fm577 107 rfl).trans ((fr2 Fm567 107 rfl).trans ((fr2 Fm498 107 rfl).trans ((fr2 Fm481 107 rfl).trans (fr2 Fm467 107 rfl))))))), (show (m598.2 108) = (m.2 108) from ((fr2 Fm598 108 rfl).trans ((fr2 Fm577 108 rfl).trans ((fr2 Fm567 108 rfl).trans ((fr2 Fm498 108 rfl).trans ((fr2 Fm481 108 rfl).trans (fr2 Fm467 108 rfl)))))))]; first | (exact hTd2) | (exfalso; omega))⟩), rfl⟩
                  · skip
                    replace h599 : LxP (m598.1 7) (m598.1 8) (m598.1 9) (m577.1 6) (m598.1 10) := h599
                    rewrite [(show (m577.1 6) = (m.1 6) from ((fr1 Fm577 6 rfl).trans ((fr1 Fm567 6 rfl).trans ((fr1 Fm498 6 rfl).trans ((fr1 Fm481 6 rfl).trans (fr1 Fm467 6 rfl))))))] at h599
                    have hLx := h599
                    clear h600
                    replace h601 : (m577.1 8) ≤ (m598.1 8) := h601
                    clear h602
                    have hf610 : 1 ≤ (m598.1 10) := by omega
                    clear g581 g582 g583 g584 h579 u594 h601
                    refine Tm_lv (a := [(0, .ref 189)]) rfl rfl ⟨rfl, trivial⟩ ?_
                    exact J235_25 (mO m598 [] []) Tm598 (fr_m (fr_s Fm598 (fr_m (fr_s Fm577 (fr_m (fr_s Fm567 (fr_m (fr_s Fm498 (fr_m (fr_s Fm481 (fr_m (fr_s Fm467 (fr_m fr_0 rfl rfl) rfl rfl) rfl rfl) rfl rfl) rfl rfl) rfl rfl) rfl rfl) rfl rfl) rfl rfl) rfl rfl) rfl rfl) rfl rfl) rfl rfl) (show (m598.1 99) = (m.1 99) + 1 by rewrite [(show (m598.1 99) = ((m.1 99) + 1) from ((fr1 Fm598 99 rfl).trans ((fr1 Fm577 99 rfl).trans ((fr1 Fm567 99 rfl).trans ((fr1 Fm498 99 rfl).trans ((fr1 Fm481 99 rfl).trans (fr1 Fm467 99 rfl)))))))]; omega) (show 1 ≤ (m598.1 10) by omega)
                · skip
                  clear c580
                  clear h578
                  replace h579 : LxP (m577.1 7) (m577.1 8) (m577.1 9) (m567.1 6) (m577.1 10) := h579
                  rewrite [(show (m567.1 6) = (m.1 6) from ((fr1 Fm567 6 rfl).trans ((fr1 Fm498 6 rfl).trans ((fr1 Fm481 6 rfl).trans (fr1 Fm467 6 rfl)))))] at h579
                  have hLx := h579
                  have hf611 : 1 ≤ (m577.1 10) := by omega
                  clear g506 g507 g508 h501 u511 g570 u573
                  refine Tm_lv (a := [(0, .ref 189)]) rfl rfl ⟨rfl, trivial⟩ ?_
                  exact J143_104 (mO m577 [] []) Tm577 (fr_m (fr_s Fm577 (fr_m (fr_s Fm567 (fr_m (fr_s Fm498 (fr_m (fr_s Fm481 (fr_m (fr_s Fm467 (fr_m fr_0 rfl rfl) rfl rfl) rfl rfl) rfl rfl) rfl rfl) rfl rfl) rfl rfl) rfl rfl) rfl rfl) rfl rfl) rfl rfl) (show (m577.1 99) = (m.1 99) + 1 by rewrite [(show (m577.1 99) = ((m.1 99) + 1) from ((fr1 Fm577 99 rfl).trans ((fr1 Fm567 99 rfl).trans ((fr1 Fm498 99 rfl).trans ((fr1 Fm481 99 rfl).trans (fr1 Fm467 99 rfl))))))]; omega) (show 1 ≤ (m577.1 10) by omega)
              · skip
                clear c569
                clear h568
                have hf612 : 1 ≤ (m567.1 10) := by omega
                clear g509 h500 h514
                refine Tm_lv (a := [(0, .ref 189), (1, .int (i32 (m.1 99)))]) rfl rfl ⟨rfl, rfl, trivial⟩ ?_
                exact J138_123 (mO m567 [] []) Tm567 (fr_m (fr_s Fm567 (fr_m (fr_s Fm498 (fr_m (fr_s Fm481 (fr_m (fr_s Fm467 (fr_m fr_0 rfl rfl) rfl rfl) rfl rfl) rfl rfl) rfl rfl) rfl rfl) rfl rfl) rfl rfl) rfl rfl) (show (m567.1 99) = (m.1 99) + 1 by rewrite [(show (m567.1 99) = ((m.1 99) + 1) from ((fr1 Fm567 99 rfl).trans ((fr1 Fm498 99 rfl).trans ((fr1 Fm481 99 rfl).trans (fr1 Fm467 99 rfl)))))]; omega) (show 0 ≤ (m.1 99) ∧ (m.1 99) ≤ 240 by omega) (show 1 ≤ (m567.1 10) by omega)
          · skip
            replace h500 : LxP (m498.1 7) (m498.1 8) (m498.1 9) (m481.1 6) (m498.1 10) := h500
            rewrite [(show (m481.1 6) = (m.1 6) from ((fr1 Fm481 6 rfl).trans (fr1 Fm467 6 rfl)))] at h500
            have hLx := h500
            replace h501 : (m481.1 8) ≤ (m498.1 8) := h501
            clear h502
            clear h503
            replace h504 : 0 ≤ oo ∧ (oo < (m.1 22) ∨ oo = 0) := h504
            clear h505
            have hf613 : 1 ≤ (m498.1 10) := by omega
            clear g486 g488 g489 h484
            refine Tm_lv (a := [(0, .ref 189), (1, .int (i32 (m.1 99))), (2, .int (i32 (m481.1 8)))]) rfl rfl ⟨rfl, rfl, rfl, trivial⟩ ?_
            exact J102_145 (m481.1 8) oo (mO m498 [] []) (r32 (by omega) (by omega)) (r32 (by omega) (by omega)) Tm498 (fr_m (fr_s Fm498 (fr_m (fr_s Fm481 (fr_m (fr_s Fm467 (fr_m fr_0 rfl rfl) rfl rfl) rfl rfl) rfl rfl) rfl rfl) rfl rfl) rfl rfl) (show 0 ≤ (m481.1 8) by omega) (show (m481.1 8) ≤ 4000 by omega) (show 0 ≤ oo by omega) (show oo ≤ 7 by omega) (show (m498.1 99) = (m.1 99) + 1 by rewrite [(show (m498.1 99) = ((m.1 99) + 1) from ((fr1 Fm498 99 rfl).trans ((fr1 Fm481 99 rfl).trans (fr1 Fm467 99 rfl))))]; omega) (show 0 ≤ (m.1 99) ∧ (m.1 99) ≤ 240 by omega) (show 0 ≤ (m.1 99) ∧ (m.1 99) ≤ 240 by omega) (show 1 ≤ (m498.1 10) by omega)
        · skip
          clear c485
          clear h483
          replace h484 : LxP (m481.1 7) (m481.1 8) (m481.1 9) (m467.1 6) (m481.1 10) := h484
          rewrite [(show (m467.1 6) = (m.1 6) from (fr1 Fm467 6 rfl))] at h484
          have hLx := h484
          have hf614 : 1 ≤ (m481.1 10) := by omega
          clear g472 g473 g474 g475 h468 h470 h471 u477
          refine Tm_lv (a := [(0, .ref 189), (1, .int (i32 (m.1 99)))]) rfl rfl ⟨rfl, rfl, trivial⟩ ?_
          exact J86_175 tp (mO m481 [] []) (r32 (by omega) (by omega)) Tm481 (fr_m (fr_s Fm481 (fr_m (fr_s Fm467 (fr_m fr_0 rfl rfl) rfl rfl) rfl rfl) rfl rfl) rfl rfl) (show 0 ≤ tp by omega) (show tp ≤ 207 by omega) (show (m481.1 99) = (m.1 99) + 1 by rewrite [(show (m481.1 99) = ((m.1 99) + 1) from ((fr1 Fm481 99 rfl).trans (fr1 Fm467 99 rfl)))]; omega) (show 0 ≤ (m.1 99) ∧ (m.1 99) ≤ 240 by omega) (show 0 ≤ (m.1 99) ∧ (m.1 99) ≤ 240 by omega) (show 1 ≤ (m481.1 10) by omega)
      · skip
        replace h468 : LxP (m467.1 7) (m467.1 8) (m467.1 9) (m.1 6) (m467.1 10) := h468
        have hLx := h468
        clear h469
        replace h470 : (m.1 8) ≤ (m467.1 8) := h470
        clear h471
        have hf615 : 1 ≤ (m467.1 10) := by omega
        refine T_gf 81 (.ref 262) rfl rfl rfl rfl rfl rfl ?_
        refine T_ld 82 (.int (i32 (m.1 99))) rfl (fun _ => rfl) ?_
        refine T_ld 83 (.ref 189) rfl (fun _ => rfl) ?_
        refine T_call 86 271 [.ref 189] [.int (i32 (m.1 99)), .ref 262] rfl (fun _ => rfl) rfl (c_takePlace w (mO m467 [] []) c N D (by omega) Tm467 (show LxP (m467.1 7) (m467.1 8) (m467.1 9) (m467.1 6) (m467.1 10) by rewrite [(show (m467.1 6) = (m.1 6) from (fr1 Fm467 6 rfl))]; first | exact hLx | exact (fun _ => hLx (by omega)) | (intro h9; exfalso; omega)) (show ∀ k, (m467.2 14) k + (m467.2 15) k ≤ 4000 by rewrite [(show (m467.2 14) = (m.2 14) from (fr2 Fm467 14 rfl)), (show (m467.2 15) = (m.2 15) from (fr2 Fm467 15 rfl))]; assumption) (show ∀ k, (m467.2 31) k + (m467.2 32) k ≤ 4000 by rewrite [(show (m467.2 31) = (m.2 31) from (fr2 Fm467 31 rfl)), (show (m467.2 32) = (m.2 32) from (fr2 Fm467 32 rfl))]; assumption) (fun (h : (m467.1 10) = 0) => absurd h (by omega))) (fun rr616 k617 => ?_)
        obtain ⟨m618, tp, Tm618, Fm618, g619, h620, h621, c622, rfl⟩ := k617
        refine ⟨_, _, rfl, ?_⟩
        refine T_nb (st' := [.int (i32 tp), .int (i32 (m.1 99)), .ref 262]) rfl ?_
        obtain ⟨g619a, g619b⟩ := g619
        have g623 : 0 ≤ m618.1 7 ∧ m618.1 7 ≤ 330 := Tm618.1 7
        have g624 : 0 ≤ m618.1 8 ∧ m618.1 8 ≤ 4000 := Tm618.1 8
        have g625 : 0 ≤ m618.1 9 ∧ m618.1 9 ≤ 4000 := Tm618.1 9
        have g626 : 0 ≤ m618.1 10 ∧ m618.1 10 ≤ 8 := Tm618.1 10
        have g627 : 0 ≤ m618.1 100 ∧ m618.1 100 ≤ 64 := Tm618.1 100
        replace h620 : (m618.1 10) = 0 → (m467.1 10) = 0 := h620
        replace h621 : LxP (m618.1 7) (m618.1 8) (m618.1 9) (m467.1 6) (m618.1 10) := h621
        rewrite [(show (m467.1 6) = (m.1 6) from (fr1 Fm467 6 rfl))] at h621
        have hf628 : 1 ≤ (m618.1 10) := by omega
        clear c622
        clear h620
        have hLx := h621
        clear g472 g473 g474 g475 h468 h470 hf615
        refine Tm_lv (a := [(0, .ref 189), (1, .int (i32 (m.1 99)))]) rfl rfl ⟨rfl, rfl, trivial⟩ ?_
        exact J86_175 tp (mO m618 [] []) (r32 (by omega) (by omega)) Tm618 (fr_m (fr_s Fm618 (fr_m (fr_s Fm467 (fr_m fr_0 rfl rfl) rfl rfl) rfl rfl) rfl rfl) rfl rfl) (show 0 ≤ tp by omega) (show tp ≤ 207 by omega) (show (m618.1 99) = (m.1 99) + 1 by rewrite [(show (m618.1 99) = ((m.1 99) + 1) from ((fr1 Fm618 99 rfl).trans (fr1 Fm467 99 rfl)))]; omega) (show 0 ≤ (m.1 99) ∧ (m.1 99) ≤ 240 by omega) (show 0 ≤ (m.1 99) ∧ (m.1 99) ≤ 240 by omega) (show 1 ≤ (m618.1 10) by omega)
  · skip
    refine T_gf 37 (.ref 262) rfl rfl rfl rfl rfl rfl ?_
    refine T_ld 38 (.int (i32 (m.1 99))) rfl (fun _ => rfl) ?_
    refine T_ld 39 (.ref 189) rfl (fun _ => rfl) ?_
    refine T_call 42 271 [.ref 189] [.int (i32 (m.1 99)), .ref 262] rfl (fun _ => rfl) rfl (c_takePlace w (mO m [(99, (m.1 99) + 1)] [(101, upI (m.2 101) (m.1 99) (m.1 7))]) c N D (by omega) (Ty_mO hT rfl rfl ⟨g245, trivial⟩ ⟨G246, trivial⟩) (show LxP (m.1 7) (m.1 8) (m.1 9) (m.1 6) (m.1 10) by first | exact hLx | exact (fun _ => hLx (by omega)) | (intro h9; exfalso; omega)) (show ∀ k, (m.2 14) k + (m.2 15) k ≤ 4000 by assumption) (show ∀ k, (m.2 31) k + (m.2 32) k ≤ 4000 by assumption) (fun _ => (show PN (m.1 13) (m.1 19) (m.1 20) (m.1 21) (m.1 22) (m.1 23) (m.1 25) (m.1 26) (m.2 16) (m.2 17) by assumption))) (fun rr629 k630 => ?_)
    obtain ⟨m631, tp, Tm631, Fm631, g632, h633, h634, c635, rfl⟩ := k630
    refine ⟨_, _, rfl, ?_⟩
    refine T_nb (st' := [.int (i32 tp), .int (i32 (m.1 99)), .ref 262]) rfl ?_
    obtain ⟨g632a, g632b⟩ := g632
    have g636 : 0 ≤ m631.1 7 ∧ m631.1 7 ≤ 330 := Tm631.1 7
    have g637 : 0 ≤ m631.1 8 ∧ m631.1 8 ≤ 4000 := Tm631.1 8
    have g638 : 0 ≤ m631.1 9 ∧ m631.1 9 ≤ 4000 := Tm631.1 9
    have g639 : 0 ≤ m631.1 10 ∧ m631.1 10 ≤ 8 := Tm631.1 10
    have g640 : 0 ≤ m631.1 100 ∧ m631.1 100 ≤ 64 := Tm631.1 100
    by_cases hf641 : (m631.1 10) = 0
    · skip
      replace h633 : (m.1 10) = 0 := h633 hf641
      replace h634 : LxP (m631.1 7) (m631.1 8) (m631.1 9) (m.1 6) (m631.1 10) := h634
      have hLx := h634
      have c642 := c635 hf641
      replace c642 : (m.1 8) + 1 ≤ (m631.1 8) := c642
      clear c635
      have u643 : (m.1 8) + 1 ≤ (m631.1 8) := by omega
      have hAgC : agr (m.2 65) (m.2 65) (m.1 28) := by first | exact agr_r _ _ | exact hAgC | exact agr_t hAgC hAg (by omega)
      have u644 : (m.1 28) ≤ (m.1 28) := by omega
      have G645 : ∀ j, 0 ≤ (upI (m.2 102) (m.1 99) tp) j ∧ (upI (m.2 102) (m.1 99) tp) j ≤ 207 := upI_rg (hT.2.1 102) ⟨by omega, by omega⟩
      refine T_iast (a' := [(102, upI (m.2 102) (m.1 99) tp)]) 43 102 (m.2 102) rfl rfl rfl (by omega) (show (m.1 99) < (240 : Int) by omega) (show (m631.2 102) = (m.2 102) from (fr2 Fm631 102 rfl)) rfl ?_
      refine T_gf 47 (.int (i32 (m631.1 100))) rfl rfl rfl rfl rfl rfl ?_
      refine T_sto 48 [(2, .int (i32 (m631.1 100))), (1, .int (i32 (m.1 99))), (0, .ref 189)] rfl (fun _ => rfl) ?_
      refine T_ld 49 (.ref 189) rfl (fun _ => rfl) ?_
      refine T_ld 51 (.int (i32 61)) rfl (fun _ => rfl) ?_
      refine T_call 54 232 [.ref 189, .int (i32 61)] [] rfl (fun _ => rfl) rfl (d_need w (mO m631 [] [(102, upI (m.2 102) (m.1 99) tp)]) c N D (by omega) (Ty_mO Tm631 rfl rfl trivial ⟨G645, trivial⟩) 61 ⟨by decide, by decide⟩ (show 1 ≤ (61 : Int) by omega) (show LxP (m631.1 7) (m631.1 8) (m631.1 9) (m631.1 6) (m631.1 10) by rewrite [(show (m631.1 6) = (m.1 6) from (fr1 Fm631 6 rfl))]; first | exact hLx | (intro h9; exfalso; omega) | (intro h9; have h8 := hLx (by omega); omega))) (fun rr646 k647 => ?_)
      obtain ⟨m648, Tm648, Fm648, h649, h650, h651, h652, rfl⟩ := k647
      refine ⟨_, _, rfl, ?_⟩
      refine T_nb (st' := []) rfl ?_
      have g653 : 0 ≤ m648.1 7 ∧ m648.1 7 ≤ 330 := Tm648.1 7
      have g654 : 0 ≤ m648.1 8 ∧ m648.1 8 ≤ 4000 := Tm648.1 8
      have g655 : 0 ≤ m648.1 9 ∧ m648.1 9 ≤ 4000 := Tm648.1 9
      have g656 : 0 ≤ m648.1 10 ∧ m648.1 10 ≤ 8 := Tm648.1 10
      by_cases hf657 : (m648.1 10) = 0
      · skip
        replace h649 : LxP (m648.1 7) (m648.1 8) (m648.1 9) (m631.1 6) (m648.1 10) := h649
        rewrite [(show (m631.1 6) = (m.1 6) from (fr1 Fm631 6 rfl))] at h649
        have hLx := h649
        replace h650 : (m631.1 10) = 0 ∧ (m631.1 7) = (61 : Int) := h650 hf657
        replace h651 : (m631.1 8) ≤ (m648.1 8) := h651
        replace h652 : (m631.1 8) + (m631.1 9) ≤ (m648.1 8) := h652 hf657
        have u658 : (m.1 8) + 1 ≤ (m648.1 8) := by omega
        have hAgC : agr (m.2 65) (m.2 65) (m.1 28) := by first | exact agr_r _ _ | exact hAgC | exact agr_t hAgC hAg (by omega)
        have u659 : (m.1 28) ≤ (m.1 28) := by omega
        clear g636 g637 g638 g639 h634 c642 u643 h650 h651 h652
        refine T_ld 55 (.ref 189) rfl (fun _ => rfl) ?_
        refine T_ld 56 (.int (i32 (m.1 99))) rfl (fun _ => rfl) ?_
        refine T_ld 57 (.int (i32 (m631.1 100))) rfl (fun _ => rfl) ?_
        refine T_call 60 272 [.ref 189, .int (i32 (m.1 99)), .int (i32 (m631.1 100))] [] rfl (fun _ => rfl) rfl (c_takeWorth w (mO m648 [] []) c N D (by omega) Tm648 (m.1 99) (m631.1 100) (r32 (by omega) (by omega)) (r32 (by omega) (by omega)) (show LxP (m648.1 7) (m648.1 8) (m648.1 9) (m648.1 6) (m648.1 10) by rewrite [(show (m648.1 6) = (m.1 6) from ((fr1 Fm648 6 rfl).trans (fr1 Fm631 6 rfl)))]; first | exact hLx | exact (fun _ => hLx (by omega)) | (intro h9; exfalso; omega)) (show ∀ k, (m648.2 14) k + (m648.2 15) k ≤ 4000 by rewrite [(show (m648.2 14) = (m.2 14) from ((fr2 Fm648 14 rfl).trans (fr2 Fm631 14 rfl))), (show (m648.2 15) = (m.2 15) from ((fr2 Fm648 15 rfl).trans (fr2 Fm631 15 rfl)))]; assumption) (show ∀ k, (m648.2 31) k + (m648.2 32) k ≤ 4000 by rewrite [(show (m648.2 31) = (m.2 31) from ((fr2 Fm648 31 rfl).trans (fr2 Fm631 31 rfl))), (show (m648.2 32) = (m.2 32) from ((fr2 Fm648 32 rfl).trans (fr2 Fm631 32 rfl)))]; assumption) (show ∀ k, (m648.2 47) k + (m648.2 48) k ≤ 4000 by rewrite [(show (m648.2 47) = (m.2 47) from ((fr2 Fm648 47 rfl).trans (fr2 Fm631 47 rfl))), (show (m648.2 48) = (m.2 48) from ((fr2 Fm648 48 rfl).trans (fr2 Fm631 48 rfl)))]; assumption) (show 0 ≤ (m.1 99) ∧ (m.1 99) ≤ 239 by omega) (fun _ => ⟨(show PN (m648.1 13) (m648.1 19) (m648.1 20) (m648.1 21) (m648.1 22) (m648.1 23) (m648.1 25) (m648.1 26) (m648.2 16) (m648.2 17) by rewrite [(show (m648.1 13) = (m.1 13) from ((fr1 Fm648 13 rfl).trans (fr1 Fm631 13 rfl))), (show (m648.1 19) = (m.1 19) from ((fr1 Fm648 19 rfl).trans (fr1 Fm631 19 rfl))), (show (m648.1 20) = (m.1 20) from ((fr1 Fm648 20 rfl).trans (fr1 Fm631 20 rfl))), (show (m648.1 21) = (m.1 21) from ((fr1 Fm648 21 rfl).trans (fr1 Fm631 21 rfl))), (show (m648.1 22) = (m.1 22) from ((fr1 Fm648 22 rfl).trans (fr1 Fm631 22 rfl))), (show (m648.1 23) = (m.1 23) from ((fr1 Fm648 23 rfl).trans (fr1 Fm631 23 rfl))), (show (m648.1 25) = (m.1 25) from ((fr1 Fm648 25 rfl).trans (fr1 Fm631 25 rfl))), (show (m648.1 26) = (m.1 26) from ((fr1 Fm648 26 rfl).trans (fr1 Fm631 26 rfl))), (show (m648.2 16) = (m.2 16) from ((fr2 Fm648 16 rfl).trans (fr2 Fm631 16 rfl))), (show (m648.2 17) = (m.2 17) from ((fr2 Fm648 17 rfl).trans (fr2 Fm631 17 rfl)))]; assumption), (show CN (m648.2 65) (m648.2 67) (m648.1 28) by rewrite [(show (m648.2 65) = (m.2 65) from ((fr2 Fm648 65 rfl).trans (fr2 Fm631 65 rfl))), (show (m648.2 67) = (m.2 67) from ((fr2 Fm648 67 rfl).trans (fr2 Fm631 67 rfl))), (show (m648.1 28) = (m.1 28) from ((fr1 Fm648 28 rfl).trans (fr1 Fm631 28 rfl)))]; assumption)⟩)) (fun rr660 k661 => ?_)
        obtain ⟨m662, Tm662, Fm662, h663, h664, c665, rfl⟩ := k661
        refine ⟨_, _, rfl, ?_⟩
        refine T_nb (st' := []) rfl ?_
        have g666 : 0 ≤ m662.1 7 ∧ m662.1 7 ≤ 330 := Tm662.1 7
        have g667 : 0 ≤ m662.1 8 ∧ m662.1 8 ≤ 4000 := Tm662.1 8
        have g668 : 0 ≤ m662.1 9 ∧ m662.1 9 ≤ 4000 := Tm662.1 9
        have g669 : 0 ≤ m662.1 10 ∧ m662.1 10 ≤ 8 := Tm662.1 10
        have g670 : 0 ≤ m662.1 28 ∧ m662.1 28 ≤ 800 := Tm662.1 28
        by_cases hf671 : (m662.1 10) = 0
        · skip
          replace h663 : (m648.1 10) = 0 := h663 hf671
          replace h664 : LxP (m662.1 7) (m662.1 8) (m662.1 9) (m648.1 6) (m662.1 10) := h664
          rewrite [(show (m648.1 6) = (m.1 6) from ((fr1 Fm648 6 rfl).trans (fr1 Fm631 6 rfl)))] at h664
          have hLx := h664
          obtain ⟨c672, c673, c674, c675, c676, c677, c678⟩ := c665 hf671
          replace c672 : (m648.1 8) + 1 ≤ (m662.1 8) := c672
          replace c673 : CN (m662.2 65) (m662.2 67) (m662.1 28) := c673
          have hCN := c673
          replace c674 : agr (m648.2 65) (m662.2 65) (m648.1 28) := c674
          rewrite [(show (m648.2 65) = (m.2 65) from ((fr2 Fm648 65 rfl).trans (fr2 Fm631 65 rfl))), (show (m648.1 28) = (m.1 28) from ((fr1 Fm648 28 rfl).trans (fr1 Fm631 28 rfl)))] at c674
          have hAg := c674
          replace c675 : (m648.1 28) ≤ (m662.1 28) := c675
          rewrite [(show (m648.1 28) = (m.1 28) from ((fr1 Fm648 28 rfl).trans (fr1 Fm631 28 rfl)))] at c675
          have hNdhJ := c675
          replace c676 : cdr (m662.2 65) (m662.1 28) ((m662.2 107) (m.1 99)) ((m662.2 108) (m.1 99)) := c676
          have hEc := c676
          replace c677 : agr (m648.2 107) (m662.2 107) (m.1 99) := c677
          rewrite [(show (m648.2 107) = (m.2 107) from ((fr2 Fm648 107 rfl).trans (fr2 Fm631 107 rfl)))] at c677
          have hJ1 := c677
          replace c678 : agr (m648.2 108) (m662.2 108) (m.1 99) := c678
          rewrite [(show (m648.2 108) = (m.2 108) from ((fr2 Fm648 108 rfl).trans (fr2 Fm631 108 rfl)))] at c678
          have hJ2 := c678
          clear c665
          have u679 : (m.1 8) + 1 ≤ (m662.1 8) := by omega
          have hAgC : agr (m.2 65) (m662.2 65) (m.1 28) := by first | exact agr_r _ _ | exact hAgC | exact agr_t hAgC hAg (by omega)
          have u680 : (m.1 28) ≤ (m662.1 28) := by omega
          clear g653 g654 g655 g656 h649 u658 h663 c672
          refine T_goto 229 rfl (fun _ => rfl) ?_
          have w1 : agr (m.2 101) (upI (m.2 101) (m.1 99) (m.1 7)) (m.1 99) := by first | exact agr_u (Int.le_refl _) | exact agr_r _ _
          have w2 : agr (m.2 103) (m.2 103) (m.1 99) := by first | exact agr_u (Int.le_refl _) | exact agr_r _ _
          have w3 : agr (m.2 105) (m.2 105) (m.1 99) := by first | exact hI1 | exact agr_u (Int.le_refl _) | exact agr_r _ _
          have w4 : agr (m.2 106) (m.2 106) (m.1 99) := by first | exact hI2 | exact agr_u (Int.le_refl _) | exact agr_r _ _
          have w5 : agr (m.2 107) (m662.2 107) (m.1 99) := by first | exact hJ1 | exact agr_u (Int.le_refl _) | exact agr_r _ _
          have w6 : agr (m.2 108) (m662.2 108) (m.1 99) := by first | exact hJ2 | exact agr_u (Int.le_refl _) | exact agr_r _ _
          have hR : TdR (m662.2 65) (m662.1 28) (m.1 22) (m.1 99) (upI (m.2 101) (m.1 99) (m.1 7)) (m.2 103) (m.2 105) (m.2 106) (m662.2 107) (m662.2 108) := by
            refine ⟨fun h => ?_, fun h => ?_⟩ <;> rw [upI_s] at h <;> first | exact hEc | exact ⟨hXc, by rw [upI_s]; omega⟩ | exact ⟨cdr_f hXc hAg (by omega), by rw [upI_s]; omega⟩ | omega
          have hTd2 : TdP (m662.2 65) (m662.1 28) (m.1 22) ((m.1 99) + 1) (upI (m.2 101) (m.1 99) (m.1 7)) (m.2 103) (m.2 105) (m.2 106) (m662.2 107) (m662.2 108) := TdP_add (TdP_f pTd hAgC (by omega) w1 w2 w3 w4 w5 w6) hR
          refine T_ld 230 (.ref 189) rfl (fun _ => rfl) ?_
          refine T_ld 232 (.int (i32 59)) rfl (fun _ => rfl) ?_
          refine T_call 235 232 [.ref 189, .int (i32 59)] [] rfl (fun _ => rfl) rfl (d_need w (mO m662 [] []) c N D (by omega) Tm662 59 ⟨by decide, by decide⟩ (show 1 ≤ (59 : Int) by omega) (show LxP (m662.1 7) (m662.1 8) (m662.1 9) (m662.1 6) (m662.1 10) by rewrite [(show (m662.1 6) = (m.1 6) from ((fr1 Fm662 6 rfl).trans ((fr1 Fm648 6 rfl).trans (fr1 Fm631 6 rfl))))]; first | exact hLx | (intro h9; exfalso; omega) | (intro h9; have h8 := hLx (by omega); omega))) (fun rr681 k682 => ?_)
          obtain ⟨m683, Tm683, Fm683, h684, h685, h686, h687, rfl⟩ := k682
          refine ⟨_, _, rfl, ?_⟩
          refine T_nb (st' := []) rfl ?_
          have g688 : 0 ≤ m683.1 7 ∧ m683.1 7 ≤ 330 := Tm683.1 7
          have g689 : 0 ≤ m683.1 8 ∧ m683.1 8 ≤ 4000 := Tm683.1 8
          have g690 : 0 ≤ m683.1 9 ∧ m683.1 9 ≤ 4000 := Tm683.1 9
          have g691 : 0 ≤ m683.1 10 ∧ m683.1 10 ≤ 8 := Tm683.1 10
          by_cases hf692 : (m683.1 10) = 0
          · skip
            replace h684 : LxP (m683.1 7) (m683.1 8) (m683.1 9) (m662.1 6) (m683.1 10) := h684
            rewrite [(show (m662.1 6) = (m.1 6) from ((fr1 Fm662 6 rfl).trans ((fr1 Fm648 6 rfl).trans (fr1 Fm631 6 rfl))))] at h684
            have hLx := h684
            replace h685 : (m662.1 10) = 0 ∧ (m662.1 7) = (59 : Int) := h685 hf692
            replace h686 : (m662.1 8) ≤ (m683.1 8) := h686
            replace h687 : (m662.1 8) + (m662.1 9) ≤ (m683.1 8) := h687 hf692
            have u693 : (m.1 8) + 1 ≤ (m683.1 8) := by omega
            have hAgC : agr (m.2 65) (m662.2 65) (m.1 28) := by first | exact agr_r _ _ | exact hAgC | exact agr_t hAgC hAg (by omega)
            have u694 : (m.1 28) ≤ (m662.1 28) := by omega
            clear g666 g667 g668 g669 h664 u679 h685 h686 h687
            refine T_ret rfl (fun _ => rfl) ?_
            exact ⟨(mO m683 [] []), Tm683, (fr_m (fr_s Fm683 (fr_m (fr_s Fm662 (fr_m (fr_s Fm648 (fr_m (fr_s Fm631 (fr_m fr_0 rfl rfl) rfl rfl) rfl rfl) rfl rfl) rfl rfl) rfl rfl) rfl rfl) rfl rfl) rfl rfl), (show (m683.1 10) = 0 → (m.1 10) = 0 by omega), (show LxP (m683.1 7) (m683.1 8) (m683.1 9) (m.1 6) (m683.1 10) by first | (first | exact hLx | exact (fun _ => hLx (by omega)) | (intro h9; exfalso; omega)) | (exfalso; omega)), (show (m683.1 99) = (m.1 99) + 1 by rewrite [(show (m683.1 99) = ((m.1 99) + 1) from ((fr1 Fm683 99 rfl).trans ((fr1 Fm662 99 rfl).trans ((fr1 Fm648 99 rfl).trans (fr1 Fm631 99 rfl)))))]; omega), (fun _ => ⟨(show (m.1 8) + 1 ≤ (m683.1 8) by omega), (show (m.1 28) ≤ (m683.1 28) by rewrite [(show (m683.1 28) = (m662.1 28) from (fr1 Fm683 28 rfl))]; omega), (show CN (m683.2 65) (m683.2 67) (m683.1 28) by rewrite [(show (m683.2 65) = (m662.2 65) from (fr2 Fm683 65 rfl)), (show (m683.2 67) = (m662.2 67) from (fr2 Fm683 67 rfl)), (show (m683.1 28) = (m662.1 28) from (fr1 Fm683 28 rfl))]; first | (exact hCN) | (exfalso; omega)), (show agr (m.2 65) (m683.2 65) (m.1 28) by rewrite [(show (m683.2 65) = (m662.2 65) from (fr2 Fm683 65 rfl))]; first | (exact hAgC) | (exfalso; omega)), (show TdP (m683.2 65) (m683.1 28) (m.1 22) (m683.1 99) (m683.2 101) (m683.2 103) (m683.2 105) (m683.2 106) (m683.2 107) (m683.2 108) by rewrite [(show (m683.2 65) = (m662.2 65) from (fr2 Fm683 65 rfl)), (show (m683.1 28) = (m662.1 28) from (fr1 Fm683 28 rfl)), (show (m683.1 99) = ((m.1 99) + 1) from ((fr1 Fm683 99 rfl).trans ((fr1 Fm662 99 rfl).trans ((fr1 Fm648 99 rfl).trans (fr1 Fm631 99 rfl))))), (show (m683.2 101) = (upI (m.2 101) (m.1 99) (m.1 7)) from ((fr2 Fm683 101 rfl).trans ((fr2 Fm662 101 rfl).trans ((fr2 Fm648 101 rfl).trans (fr2 Fm631 101 rfl))))), (show (m683.2 103) = (m.2 103) from ((fr2 Fm683 103 rfl).trans ((fr2 Fm662 103 rfl).trans ((fr2 Fm648 103 rfl).trans (fr2 Fm631 103 rfl))))), (show (m683.2 105) = (m.2 105) from ((fr2 Fm683 105 rfl).trans ((fr2 Fm662 105 rfl).trans ((fr2 Fm648 105 rfl).trans (fr2 Fm631 105 rfl))))), (show (m683.2 106) = (m.2 106) from ((fr2 Fm683 106 rfl).trans ((fr2 Fm662 106 rfl).trans ((fr2 Fm648 106 rfl).trans (fr2 Fm631 106 rfl))))), (show (m683.2 107) = (m662.2 107) from (fr2 Fm683 107 rfl)), (show (m683.2 108) = (m662.2 108) from (fr2 Fm683 108 rfl))]; first | (exact hTd2) | (exfalso; omega))⟩), rfl⟩
          · skip
            replace h684 : LxP (m683.1 7) (m683.1 8) (m683.1 9) (m662.1 6) (m683.1 10) := h684
            rewrite [(show (m662.1 6) = (m.1 6) from ((fr1 Fm662 6 rfl).trans ((fr1 Fm648 6 rfl).trans (fr1 Fm631 6 rfl))))] at h684
            have hLx := h684
            clear h685
            replace h686 : (m662.1 8) ≤ (m683.1 8) := h686
            clear h687
            have hf695 : 1 ≤ (m683.1 10) := by omega
            clear g666 g667 g668 g669 h664 u679 h686
            refine Tm_lv (a := [(0, .ref 189)]) rfl rfl ⟨rfl, trivial⟩ ?_
            exact J235_25 (mO m683 [] []) Tm683 (fr_m (fr_s Fm683 (fr_m (fr_s Fm662 (fr_m (fr_s Fm648 (fr_m (fr_s Fm631 (fr_m fr_0 rfl rfl) rfl rfl) rfl rfl) rfl rfl) rfl rfl) rfl rfl) rfl rfl) rfl rfl) rfl rfl) (show (m683.1 99) = (m.1 99) + 1 by rewrite [(show (m683.1 99) = ((m.1 99) + 1) from ((fr1 Fm683 99 rfl).trans ((fr1 Fm662 99 rfl).trans ((fr1 Fm648 99 rfl).trans (fr1 Fm631 99 rfl)))))]; omega) (show 1 ≤ (m683.1 10) by omega)
        · skip
          clear c665
          clear h663
          replace h664 : LxP (m662.1 7) (m662.1 8) (m662.1 9) (m648.1 6) (m662.1 10) := h664
          rewrite [(show (m648.1 6) = (m.1 6) from ((fr1 Fm648 6 rfl).trans (fr1 Fm631 6 rfl)))] at h664
          have hLx := h664
          have hf696 : 1 ≤ (m662.1 10) := by omega
          clear g653 g654 g655 g656 h649 u658
          refine Tm_lv (a := [(0, .ref 189)]) rfl rfl ⟨rfl, trivial⟩ ?_
          exact J60_203 (mO m662 [] []) Tm662 (fr_m (fr_s Fm662 (fr_m (fr_s Fm648 (fr_m (fr_s Fm631 (fr_m fr_0 rfl rfl) rfl rfl) rfl rfl) rfl rfl) rfl rfl) rfl rfl) rfl rfl) (show (m662.1 99) = (m.1 99) + 1 by rewrite [(show (m662.1 99) = ((m.1 99) + 1) from ((fr1 Fm662 99 rfl).trans ((fr1 Fm648 99 rfl).trans (fr1 Fm631 99 rfl))))]; omega) (show 1 ≤ (m662.1 10) by omega)
      · skip
        replace h649 : LxP (m648.1 7) (m648.1 8) (m648.1 9) (m631.1 6) (m648.1 10) := h649
        rewrite [(show (m631.1 6) = (m.1 6) from (fr1 Fm631 6 rfl))] at h649
        have hLx := h649
        clear h650
        replace h651 : (m631.1 8) ≤ (m648.1 8) := h651
        clear h652
        have hf697 : 1 ≤ (m648.1 10) := by omega
        clear g636 g637 g638 g639 h634 c642 u643 h651
        refine Tm_lv (a := [(0, .ref 189), (1, .int (i32 (m.1 99))), (2, .int (i32 (m631.1 100)))]) rfl rfl ⟨rfl, rfl, rfl, trivial⟩ ?_
        exact J54_223 (m631.1 100) (mO m648 [] []) (r32 (by omega) (by omega)) Tm648 (fr_m (fr_s Fm648 (fr_m (fr_s Fm631 (fr_m fr_0 rfl rfl) rfl rfl) rfl rfl) rfl rfl) rfl rfl) (show 0 ≤ (m631.1 100) by omega) (show (m631.1 100) ≤ 64 by omega) (show (m648.1 99) = (m.1 99) + 1 by rewrite [(show (m648.1 99) = ((m.1 99) + 1) from ((fr1 Fm648 99 rfl).trans (fr1 Fm631 99 rfl)))]; omega) (show 0 ≤ (m.1 99) ∧ (m.1 99) ≤ 240 by omega) (show 1 ≤ (m648.1 10) by omega)
    · skip
      clear c635
      clear h633
      replace h634 : LxP (m631.1 7) (m631.1 8) (m631.1 9) (m.1 6) (m631.1 10) := h634
      have hLx := h634
      have hf698 : 1 ≤ (m631.1 10) := by omega
      have G699 : ∀ j, 0 ≤ (upI (m.2 102) (m.1 99) tp) j ∧ (upI (m.2 102) (m.1 99) tp) j ≤ 207 := upI_rg (hT.2.1 102) ⟨by omega, by omega⟩
      refine T_iast (a' := [(102, upI (m.2 102) (m.1 99) tp)]) 43 102 (m.2 102) rfl rfl rfl (by omega) (show (m.1 99) < (240 : Int) by omega) (show (m631.2 102) = (m.2 102) from (fr2 Fm631 102 rfl)) rfl ?_
      refine T_gf 47 (.int (i32 (m631.1 100))) rfl rfl rfl rfl rfl rfl ?_
      refine T_sto 48 [(2, .int (i32 (m631.1 100))), (1, .int (i32 (m.1 99))), (0, .ref 189)] rfl (fun _ => rfl) ?_
      refine T_ld 49 (.ref 189) rfl (fun _ => rfl) ?_
      refine T_ld 51 (.int (i32 61)) rfl (fun _ => rfl) ?_
      refine T_call 54 232 [.ref 189, .int (i32 61)] [] rfl (fun _ => rfl) rfl (d_need w (mO m631 [] [(102, upI (m.2 102) (m.1 99) tp)]) c N D (by omega) (Ty_mO Tm631 rfl rfl trivial ⟨G699, trivial⟩) 61 ⟨by decide, by decide⟩ (show 1 ≤ (61 : Int) by omega) (show LxP (m631.1 7) (m631.1 8) (m631.1 9) (m631.1 6) (m631.1 10) by rewrite [(show (m631.1 6) = (m.1 6) from (fr1 Fm631 6 rfl))]; first | exact hLx | (intro h9; exfalso; omega) | (intro h9; have h8 := hLx (by omega); omega))) (fun rr700 k701 => ?_)
      obtain ⟨m702, Tm702, Fm702, h703, h704, h705, h706, rfl⟩ := k701
      refine ⟨_, _, rfl, ?_⟩
      refine T_nb (st' := []) rfl ?_
      have g707 : 0 ≤ m702.1 7 ∧ m702.1 7 ≤ 330 := Tm702.1 7
      have g708 : 0 ≤ m702.1 8 ∧ m702.1 8 ≤ 4000 := Tm702.1 8
      have g709 : 0 ≤ m702.1 9 ∧ m702.1 9 ≤ 4000 := Tm702.1 9
      have g710 : 0 ≤ m702.1 10 ∧ m702.1 10 ≤ 8 := Tm702.1 10
      replace h703 : LxP (m702.1 7) (m702.1 8) (m702.1 9) (m631.1 6) (m702.1 10) := h703
      rewrite [(show (m631.1 6) = (m.1 6) from (fr1 Fm631 6 rfl))] at h703
      replace h704 : (m702.1 10) = 0 → (m631.1 10) = 0 ∧ (m631.1 7) = (61 : Int) := h704
      replace h705 : (m631.1 8) ≤ (m702.1 8) := h705
      replace h706 : (m702.1 10) = 0 → (m631.1 8) + (m631.1 9) ≤ (m702.1 8) := h706
      have hf711 : 1 ≤ (m702.1 10) := by omega
      clear h704
      clear h706
      have hLx := h703
      clear g636 g637 g638 g639 h634 hf698 h705
      refine Tm_lv (a := [(0, .ref 189), (1, .int (i32 (m.1 99))), (2, .int (i32 (m631.1 100)))]) rfl rfl ⟨rfl, rfl, rfl, trivial⟩ ?_
      exact J54_223 (m631.1 100) (mO m702 [] []) (r32 (by omega) (by omega)) Tm702 (fr_m (fr_s Fm702 (fr_m (fr_s Fm631 (fr_m fr_0 rfl rfl) rfl rfl) rfl rfl) rfl rfl) rfl rfl) (show 0 ≤ (m631.1 100) by omega) (show (m631.1 100) ≤ 64 by omega) (show (m702.1 99) = (m.1 99) + 1 by rewrite [(show (m702.1 99) = ((m.1 99) + 1) from ((fr1 Fm702 99 rfl).trans (fr1 Fm631 99 rfl)))]; omega) (show 0 ≤ (m.1 99) ∧ (m.1 99) ≤ 240 by omega) (show 1 ≤ (m702.1 10) by omega)
