def Q_takePlace (m : mR) (c : Nat → Option am_C) (N : Nat) : ag_Re af_T → Prop := fun R => ∃ (M : mR) (r : Int), Ty M ∧ (0 ≤ r ∧ r ≤ 207) ∧ ((M.1 10) = 0 → (m.1 10) = 0) ∧ (LxP (M.1 7) (M.1 8) (M.1 9) (m.1 6) (M.1 10)) ∧ (M.1 10 = 0 → ((m.1 8) + 1 ≤ (M.1 8))) ∧ R = (.inl (some (.int (i32 r))), (mhp (mO m [(7, (M.1 7)), (8, (M.1 8)), (9, (M.1 9)), (10, (M.1 10)), (11, (M.1 11)), (12, (M.1 12)), (100, (M.1 100))] []) c, N), 0, 0)
set_option maxHeartbeats 8000000 in
theorem c_takePlace (w : wX) (m : mR) (c : Nat → Option am_C) (N D : Nat) (hD : 7 ≤ D) (hT : Ty m) (hLx0 : LxP (m.1 7) (m.1 8) (m.1 9) (m.1 6) (m.1 10)) (hNM0 : ∀ k, (m.2 14) k + (m.2 15) k ≤ 4000) (hFA0 : ∀ k, (m.2 31) k + (m.2 32) k ≤ 4000) (hC : m.1 10 = 0 → (PN (m.1 13) (m.1 19) (m.1 20) (m.1 21) (m.1 22) (m.1 23) (m.1 25) (m.1 26) (m.2 16) (m.2 17))) : TC w D 271 [.ref 189] (mhp m c, N) (Q_takePlace m c N) := by
  obtain ⟨D, rfl⟩ : ∃ k, D = k + 1 := ⟨D - 1, by omega⟩
  have hLx := hLx0
  have hNM := hNM0
  have hFA := hFA0
  have f7 : 0 ≤ m.1 7 ∧ m.1 7 ≤ 330 := hT.1 7
  have f8 : 0 ≤ m.1 8 ∧ m.1 8 ≤ 4000 := hT.1 8
  have f9 : 0 ≤ m.1 9 ∧ m.1 9 ≤ 4000 := hT.1 9
  have f10 : 0 ≤ m.1 10 ∧ m.1 10 ≤ 8 := hT.1 10
  have f11 : (-1) ≤ m.1 11 ∧ m.1 11 ≤ 4000 := hT.1 11
  have f12 : (-9223372036854775808) ≤ m.1 12 ∧ m.1 12 ≤ 9223372036854775807 := hT.1 12
  have f100 : 0 ≤ m.1 100 ∧ m.1 100 ≤ 64 := hT.1 100
  have f25 : 0 ≤ m.1 25 ∧ m.1 25 ≤ 16 := hT.1 25
  have f22 : 0 ≤ m.1 22 ∧ m.1 22 ≤ 8 := hT.1 22
  have f19 : 0 ≤ m.1 19 ∧ m.1 19 ≤ 12 := hT.1 19
  have f20 : 0 ≤ m.1 20 ∧ m.1 20 ≤ 12 := hT.1 20
  have f21 : 0 ≤ m.1 21 ∧ m.1 21 ≤ 16 := hT.1 21
  have f13 : 0 ≤ m.1 13 ∧ m.1 13 ≤ 120 := hT.1 13
  have f6 : 0 ≤ m.1 6 ∧ m.1 6 ≤ 4000 := hT.1 6
  have f23 : 0 ≤ m.1 23 ∧ m.1 23 ≤ 16 := hT.1 23
  have f26 : 0 ≤ m.1 26 ∧ m.1 26 ≤ 8 := hT.1 26
  refine Tc_of rfl ?_
  show TT w D pm_271 (0, [(0, .ref 189)], [], (mhp m c, N), 0, 0) (Q_takePlace m c N)
  rw [show (mhp m c, N) = (mhp (mO m [(7, (m.1 7)), (8, (m.1 8)), (9, (m.1 9)), (10, (m.1 10)), (11, (m.1 11)), (12, (m.1 12)), (100, (m.1 100))] []) c, N) from congrArg (fun M => (mhp M c, N)) (mO_pad m [7, 8, 9, 10, 11, 12, 100] [])]
  by_cases hf0 : m.1 10 = 0
  · skip
    have pPN := hC hf0
    have h7 := hLx (by omega)
    have hNM := hNM0
    have pmt := pPN.2.1
    have J123_19 : ∀ (v15 : Int) (v16 : Int) (s17 : Int) (m18 : mR), (R32 v15) → (R32 v16) → (R32 s17) → (Ty m18) → (2 ≤ v15) → (v15 ≤ 2) → (0 ≤ s17) → (s17 ≤ 191) → (1 ≤ (m18.1 10)) → ((m18.1 10) ≤ 8) → TT w D pm_271 (123, [(0, .ref 189), (1, .int (i32 v15)), (2, .int (i32 v16))], [.int (i32 s17)], (mhp (mO m [(7, (m18.1 7)), (8, (m18.1 8)), (9, (m18.1 9)), (10, (m18.1 10)), (11, (m18.1 11)), (12, (m18.1 12)), (100, 1)] []) c, N), 0, 0) (Q_takePlace m c N) := by
      intro v15 v16 s17 m18 q20 q21 q22 q23 ic24 ic25 ic26 ic27 ic28 ic29
      obtain ⟨q20a, q20b⟩ := id q20
      obtain ⟨q21a, q21b⟩ := id q21
      obtain ⟨q22a, q22b⟩ := id q22
      have q23_7 : 0 ≤ m18.1 7 ∧ m18.1 7 ≤ 330 := q23.1 7
      have q23_8 : 0 ≤ m18.1 8 ∧ m18.1 8 ≤ 4000 := q23.1 8
      have q23_9 : 0 ≤ m18.1 9 ∧ m18.1 9 ≤ 4000 := q23.1 9
      have q23_10 : 0 ≤ m18.1 10 ∧ m18.1 10 ≤ 8 := q23.1 10
      have q23_11 : (-1) ≤ m18.1 11 ∧ m18.1 11 ≤ 4000 := q23.1 11
      have q23_12 : (-9223372036854775808) ≤ m18.1 12 ∧ m18.1 12 ≤ 9223372036854775807 := q23.1 12
      refine T_sto 124 [(3, .int (i32 s17)), (0, .ref 189), (1, .int (i32 v15)), (2, .int (i32 v16))] rfl (fun _ => rfl) ?_
      refine T_gf 128 (.int (i32 (m18.1 10))) rfl rfl rfl rfl rfl rfl ?_
      refine T_if 133 131 rfl rfl rfl (r32 (by omega) (by omega)) (fun (h31 : (m18.1 10) ≤ 0) => by exfalso; omega) (fun (h31 : ¬ ((m18.1 10) ≤ 0)) => ?_)
      refine T_ld 132 (.int (i32 0)) rfl (fun _ => rfl) ?_
      refine T_ret rfl (fun _ => rfl) ?_
      exact ⟨(mO m [(7, (m18.1 7)), (8, (m18.1 8)), (9, (m18.1 9)), (10, (m18.1 10)), (11, (m18.1 11)), (12, (m18.1 12)), (100, 1)] []), 0, (Ty_mO hT rfl rfl ⟨(q23.1 7), (q23.1 8), (q23.1 9), (q23.1 10), (q23.1 11), (q23.1 12), ⟨(by omega : (0 : Int) ≤ 1), (by omega : (1 : Int) ≤ 64)⟩, trivial⟩ trivial), ⟨by omega, by omega⟩, (show (m18.1 10) = 0 → (m.1 10) = 0 by omega), (show LxP (m18.1 7) (m18.1 8) (m18.1 9) (m.1 6) (m18.1 10) by first | (first | exact hLx | exact (fun _ => hLx (by omega)) | (intro h9; exfalso; omega)) | (exfalso; omega)), (fun (h : (m18.1 10) = 0) => absurd h (by omega)), rfl⟩
    have J118_35 : ∀ (v32 : Int) (v33 : Int) (m34 : mR), (R32 v32) → (R32 v33) → (Ty m34) → (2 ≤ v32) → (v32 ≤ 2) → (1 ≤ (m34.1 10)) → ((m34.1 10) ≤ 8) → TT w D pm_271 (118, [(0, .ref 189), (1, .int (i32 v32)), (2, .int (i32 v33))], [], (mhp (mO m [(7, (m34.1 7)), (8, (m34.1 8)), (9, (m34.1 9)), (10, (m34.1 10)), (11, (m34.1 11)), (12, (m34.1 12)), (100, 1)] []) c, N), 0, 0) (Q_takePlace m c N) := by
      intro v32 v33 m34 q36 q37 q38 ic39 ic40 ic41 ic42
      obtain ⟨q36a, q36b⟩ := id q36
      obtain ⟨q37a, q37b⟩ := id q37
      have q38_7 : 0 ≤ m34.1 7 ∧ m34.1 7 ≤ 330 := q38.1 7
      have q38_8 : 0 ≤ m34.1 8 ∧ m34.1 8 ≤ 4000 := q38.1 8
      have q38_9 : 0 ≤ m34.1 9 ∧ m34.1 9 ≤ 4000 := q38.1 9
      have q38_10 : 0 ≤ m34.1 10 ∧ m34.1 10 ≤ 8 := q38.1 10
      have q38_11 : (-1) ≤ m34.1 11 ∧ m34.1 11 ≤ 4000 := q38.1 11
      have q38_12 : (-9223372036854775808) ≤ m34.1 12 ∧ m34.1 12 ≤ 9223372036854775807 := q38.1 12
      refine T_ld 119 (.ref 189) rfl (fun _ => rfl) ?_
      refine T_ld 120 (.int (i32 v33)) rfl (fun _ => rfl) ?_
      refine T_call 123 253 [.ref 189, .int (i32 v33)] [] rfl (fun _ => rfl) rfl (c_takeField w (mO m [(7, (m34.1 7)), (8, (m34.1 8)), (9, (m34.1 9)), (10, (m34.1 10)), (11, (m34.1 11)), (12, (m34.1 12)), (100, 1)] []) c N D (by omega) (Ty_mO hT rfl rfl ⟨(q38.1 7), (q38.1 8), (q38.1 9), (q38.1 10), (q38.1 11), (q38.1 12), ⟨(by omega : (0 : Int) ≤ 1), (by omega : (1 : Int) ≤ 64)⟩, trivial⟩ trivial) v33 (r32 (by omega) (by omega)) (show LxP (m34.1 7) (m34.1 8) (m34.1 9) (m.1 6) (m34.1 10) by first | exact hLx | exact (fun _ => hLx (by omega)) | (intro h9; exfalso; omega)) (show ∀ k, (m.2 31) k + (m.2 32) k ≤ 4000 by assumption) (show 0 ≤ v33 ∧ v33 ≤ 11 by omega) (fun (h : (m34.1 10) = 0) => absurd h (by omega))) (fun rr44 k45 => ?_)
      obtain ⟨m46, tf, hT47, g48, h49, h50, c51, rfl⟩ := k45
      refine ⟨_, _, rfl, ?_⟩
      refine T_nf2 (st' := [.int (i32 tf)]) (l' := [(7, (m46.1 7)), (8, (m46.1 8)), (9, (m46.1 9)), (10, (m46.1 10)), (11, (m46.1 11)), (12, (m46.1 12)), (100, 1)]) (a' := []) [7, 8, 9, 10, 11, 12] [] rfl ⟨rfl, rfl, rfl, rfl, rfl, rfl, rfl, rfl, rfl, rfl, rfl, rfl, rfl, rfl, trivial⟩ trivial rfl rfl (by decide) (by decide) ?_
      obtain ⟨g48a, g48b⟩ := g48
      have g52 : 0 ≤ m46.1 7 ∧ m46.1 7 ≤ 330 := hT47.1 7
      have g53 : 0 ≤ m46.1 8 ∧ m46.1 8 ≤ 4000 := hT47.1 8
      have g54 : 0 ≤ m46.1 9 ∧ m46.1 9 ≤ 4000 := hT47.1 9
      have g55 : 0 ≤ m46.1 10 ∧ m46.1 10 ≤ 8 := hT47.1 10
      have g56 : (-1) ≤ m46.1 11 ∧ m46.1 11 ≤ 4000 := hT47.1 11
      have g57 : (-9223372036854775808) ≤ m46.1 12 ∧ m46.1 12 ≤ 9223372036854775807 := hT47.1 12
      replace h49 : (m46.1 10) = 0 → (m34.1 10) = 0 := h49
      replace h50 : LxP (m46.1 7) (m46.1 8) (m46.1 9) (m.1 6) (m46.1 10) := h50
      have hf58 : 1 ≤ (m46.1 10) := by omega
      clear c51
      clear h49
      have hLx := h50
      clear q38_7 q38_8 q38_9 q38_10 q38_11 q38_12 ic41 ic42
      exact J123_19 v32 v33 tf (mO m [(7, (m46.1 7)), (8, (m46.1 8)), (9, (m46.1 9)), (10, (m46.1 10)), (11, (m46.1 11)), (12, (m46.1 12)), (100, 1)] []) (r32 (by omega) (by omega)) (r32 (by omega) (by omega)) (r32 (by omega) (by omega)) (Ty_mO hT rfl rfl ⟨(hT47.1 7), (hT47.1 8), (hT47.1 9), (hT47.1 10), (hT47.1 11), (hT47.1 12), ⟨(by omega : (0 : Int) ≤ 1), (by omega : (1 : Int) ≤ 64)⟩, trivial⟩ trivial) (show 2 ≤ v32 by omega) (show v32 ≤ 2 by omega) (show 0 ≤ tf by omega) (show tf ≤ 191 by omega) (show 1 ≤ (m46.1 10) by omega) (show (m46.1 10) ≤ 8 by omega)
    have J86_62 : ∀ (v59 : Int) (v60 : Int) (m61 : mR), (R32 v59) → (R32 v60) → (Ty m61) → ((-2147483648) ≤ v59) → (v59 ≤ 2147483647) → (1 ≤ (m61.1 10)) → ((m61.1 10) ≤ 8) → TT w D pm_271 (86, [(0, .ref 189), (1, .int (i32 v59)), (2, .int (i32 v60))], [], (mhp (mO m [(7, (m61.1 7)), (8, (m61.1 8)), (9, (m61.1 9)), (10, (m61.1 10)), (11, (m61.1 11)), (12, (m61.1 12)), (100, 1)] []) c, N), 0, 0) (Q_takePlace m c N) := by
      intro v59 v60 m61 q63 q64 q65 ic66 ic67 ic68 ic69
      obtain ⟨q63a, q63b⟩ := id q63
      obtain ⟨q64a, q64b⟩ := id q64
      have q65_7 : 0 ≤ m61.1 7 ∧ m61.1 7 ≤ 330 := q65.1 7
      have q65_8 : 0 ≤ m61.1 8 ∧ m61.1 8 ≤ 4000 := q65.1 8
      have q65_9 : 0 ≤ m61.1 9 ∧ m61.1 9 ≤ 4000 := q65.1 9
      have q65_10 : 0 ≤ m61.1 10 ∧ m61.1 10 ≤ 8 := q65.1 10
      have q65_11 : (-1) ≤ m61.1 11 ∧ m61.1 11 ≤ 4000 := q65.1 11
      have q65_12 : (-9223372036854775808) ≤ m61.1 12 ∧ m61.1 12 ≤ 9223372036854775807 := q65.1 12
      refine T_gf 90 (.int (i32 (m61.1 10))) rfl rfl rfl rfl rfl rfl ?_
      refine T_if 95 93 rfl rfl rfl (r32 (by omega) (by omega)) (fun (h71 : (m61.1 10) ≤ 0) => by exfalso; omega) (fun (h71 : ¬ ((m61.1 10) ≤ 0)) => ?_)
      refine T_ld 94 (.int (i32 0)) rfl (fun _ => rfl) ?_
      refine T_ret rfl (fun _ => rfl) ?_
      exact ⟨(mO m [(7, (m61.1 7)), (8, (m61.1 8)), (9, (m61.1 9)), (10, (m61.1 10)), (11, (m61.1 11)), (12, (m61.1 12)), (100, 1)] []), 0, (Ty_mO hT rfl rfl ⟨(q65.1 7), (q65.1 8), (q65.1 9), (q65.1 10), (q65.1 11), (q65.1 12), ⟨(by omega : (0 : Int) ≤ 1), (by omega : (1 : Int) ≤ 64)⟩, trivial⟩ trivial), ⟨by omega, by omega⟩, (show (m61.1 10) = 0 → (m.1 10) = 0 by omega), (show LxP (m61.1 7) (m61.1 8) (m61.1 9) (m.1 6) (m61.1 10) by first | (first | exact hLx | exact (fun _ => hLx (by omega)) | (intro h9; exfalso; omega)) | (exfalso; omega)), (fun (h : (m61.1 10) = 0) => absurd h (by omega)), rfl⟩
    have J82_75 : ∀ (v72 : Int) (v73 : Int) (m74 : mR), (R32 v72) → (R32 v73) → (Ty m74) → ((-2147483648) ≤ v72) → (v72 ≤ 2147483647) → ((-2147483648) ≤ v73) → (v73 ≤ 1) → (1 ≤ (m74.1 10)) → ((m74.1 10) ≤ 8) → TT w D pm_271 (82, [(0, .ref 189), (1, .int (i32 v72)), (2, .int (i32 v73))], [], (mhp (mO m [(7, (m.1 7)), (8, (m.1 8)), (9, (m.1 9)), (10, (m74.1 10)), (11, (m74.1 11)), (12, (m.1 12)), (100, 1)] []) c, N), 0, 0) (Q_takePlace m c N) := by
      intro v72 v73 m74 q76 q77 q78 ic79 ic80 ic81 ic82 ic83 ic84
      obtain ⟨q76a, q76b⟩ := id q76
      obtain ⟨q77a, q77b⟩ := id q77
      have q78_10 : 0 ≤ m74.1 10 ∧ m74.1 10 ≤ 8 := q78.1 10
      have q78_11 : (-1) ≤ m74.1 11 ∧ m74.1 11 ≤ 4000 := q78.1 11
      refine T_ld 83 (.ref 189) rfl (fun _ => rfl) ?_
      refine T_call 86 212 [.ref 189] [] rfl (fun _ => rfl) rfl (c_next w (mO m [(7, (m.1 7)), (8, (m.1 8)), (9, (m.1 9)), (10, (m74.1 10)), (11, (m74.1 11)), (12, (m.1 12)), (100, 1)] []) c N D (by omega) (Ty_mO hT rfl rfl ⟨f7, f8, f9, (q78.1 10), (q78.1 11), f12, ⟨(by omega : (0 : Int) ≤ 1), (by omega : (1 : Int) ≤ 64)⟩, trivial⟩ trivial) (show (m74.1 10) = 0 → (m.1 8) + (m.1 9) ≤ (m.1 6) by first | omega | (intro h9; have h8 := hLx h9; omega))) (fun rr86 k87 => ?_)
      obtain ⟨y88, y90, y92, y94, y96, y98, g89, g91, g93, g95, g97, g99, h100, h101, h102, h103, rfl⟩ := k87
      refine ⟨_, _, rfl, ?_⟩
      refine T_nf2 (st' := []) (l' := [(7, y88), (8, y90), (9, y92), (10, y94), (11, y96), (12, y98), (100, 1)]) (a' := []) [7, 8, 9, 10, 11, 12] [] rfl ⟨rfl, rfl, rfl, rfl, rfl, rfl, rfl, rfl, rfl, rfl, rfl, rfl, rfl, rfl, trivial⟩ trivial rfl rfl (by decide) (by decide) ?_
      replace h100 : LxP y88 y90 y92 (m.1 6) y94 := h100
      replace h101 : y94 = 0 → (m74.1 10) = 0 := h101
      replace h102 : (m.1 8) ≤ y90 := h102
      replace h103 : y94 = 0 → (m.1 8) + (m.1 9) ≤ y90 := h103
      have hf104 : 1 ≤ y94 := by omega
      clear h101
      clear h103
      have hLx := h100
      clear q78_10 q78_11 ic83 ic84
      exact J86_62 v72 v73 (mO m [(7, y88), (8, y90), (9, y92), (10, y94), (11, y96), (12, y98), (100, 1)] []) (r32 (by omega) (by omega)) (r32 (by omega) (by omega)) (Ty_mO hT rfl rfl ⟨g89, g91, g93, g95, g97, g99, ⟨(by omega : (0 : Int) ≤ 1), (by omega : (1 : Int) ≤ 64)⟩, trivial⟩ trivial) (show (-2147483648) ≤ v72 by omega) (show v72 ≤ 2147483647 by omega) (show 1 ≤ y94 by omega) (show y94 ≤ 8 by omega)
    refine T_ld 1 (.ref 189) rfl (fun _ => rfl) ?_
    refine T_ld 2 (.int (i32 1)) rfl (fun _ => rfl) ?_
    refine T_pf (l' := [(7, (m.1 7)), (8, (m.1 8)), (9, (m.1 9)), (10, (m.1 10)), (11, (m.1 11)), (12, (m.1 12)), (100, 1)]) 5 1 rfl rfl rfl rfl rfl rfl ?_
    refine T_gf 9 (.int (i32 (m.1 10))) rfl rfl rfl rfl rfl rfl ?_
    refine T_if 14 12 rfl rfl rfl (r32 (by omega) (by omega)) (fun (h105 : (m.1 10) ≤ 0) => ?_) (fun (h105 : ¬ ((m.1 10) ≤ 0)) => by exfalso; omega)
    refine T_gf 18 (.int (i32 (m.1 7))) rfl rfl rfl rfl rfl rfl ?_
    refine T_ld 19 (.int (i32 1)) rfl (fun _ => rfl) ?_
    refine T_icmp 28 22 rfl rfl rfl (r32 (by omega) (by omega)) ⟨by decide, by decide⟩ (fun (h106 : (m.1 7) = 1) => ?_) (fun (h106 : ¬ ((m.1 7) = 1)) => ?_)
    · skip
      refine T_ld 29 (.ref 189) rfl (fun _ => rfl) ?_
      refine T_call 32 227 [.ref 189] [] rfl (fun _ => rfl) rfl (c_sortHere w (mO m [(7, (m.1 7)), (8, (m.1 8)), (9, (m.1 9)), (10, (m.1 10)), (11, (m.1 11)), (12, (m.1 12)), (100, 1)] []) c N D (by omega) (Ty_mO hT rfl rfl ⟨f7, f8, f9, f10, f11, f12, ⟨(by omega : (0 : Int) ≤ 1), (by omega : (1 : Int) ≤ 64)⟩, trivial⟩ trivial) (show 1 ≤ (m.1 9) ∧ (m.1 8) + (m.1 9) ≤ (m.1 6) by first | omega | (have h8 := hLx (by omega); omega)) (show ∀ k, (m.2 14) k + (m.2 15) k ≤ 4000 by first | exact hNM | exact p1)) (fun rr107 k108 => ?_)
      obtain ⟨so, g109, h110, h111, rfl⟩ := k108
      refine ⟨_, _, rfl, ?_⟩
      refine T_nf2 (st' := [.int (i32 so)]) (l' := [(7, (m.1 7)), (8, (m.1 8)), (9, (m.1 9)), (10, (m.1 10)), (11, (m.1 11)), (12, (m.1 12)), (100, 1)]) (a' := []) [] [] rfl ⟨rfl, rfl, rfl, rfl, rfl, rfl, rfl, rfl, rfl, rfl, rfl, rfl, rfl, rfl, trivial⟩ trivial rfl rfl (by decide) (by decide) ?_
      obtain ⟨g109a, g109b⟩ := g109
      replace h110 : ∃ g k, isGH (m.2 4) (m.1 8) (m.1 9) g ∧ (g < 0 → isFH (m.2 4) (m.2 14) (m.2 15) (m.1 8) (m.1 9) (m.1 13) k) ∧ so = sortV (m.2 16) g k := h110
      have hSo := h110
      replace h111 : -1 ≤ so ∧ so ≤ 7 := h111
      have u112 : (m.1 8) ≤ (m.1 8) := by omega
      refine T_sto 33 [(1, .int (i32 so)), (0, .ref 189)] rfl (fun _ => rfl) ?_
      refine T_ld 34 (.int (i32 so)) rfl (fun _ => rfl) ?_
      refine T_ld 35 (.int (i32 3)) rfl (fun _ => rfl) ?_
      refine T_icmp 43 38 rfl rfl rfl (r32 (by omega) (by omega)) ⟨by decide, by decide⟩ (fun (h113 : so = 3) => ?_) (fun (h113 : ¬ (so = 3)) => ?_)
      · skip
        refine T_ld 44 (.ref 189) rfl (fun _ => rfl) ?_
        refine T_call 47 237 [.ref 189] [] rfl (fun _ => rfl) rfl (c_whichHere w (mO m [(7, (m.1 7)), (8, (m.1 8)), (9, (m.1 9)), (10, (m.1 10)), (11, (m.1 11)), (12, (m.1 12)), (100, 1)] []) c N D (by omega) (Ty_mO hT rfl rfl ⟨f7, f8, f9, f10, f11, f12, ⟨(by omega : (0 : Int) ≤ 1), (by omega : (1 : Int) ≤ 64)⟩, trivial⟩ trivial) (show 1 ≤ (m.1 9) ∧ (m.1 8) + (m.1 9) ≤ (m.1 6) by first | omega | (have h8 := hLx (by omega); omega)) (show ∀ k, (m.2 14) k + (m.2 15) k ≤ 4000 by first | exact hNM | exact p1) (show ∀ g k, isGH (m.2 4) (m.1 8) (m.1 9) g → g < 0 → isFH (m.2 4) (m.2 14) (m.2 15) (m.1 8) (m.1 9) (m.1 13) k → 0 ≤ k by exact old_ok hSo (by omega))) (fun rr114 k115 => ?_)
        obtain ⟨wi, g116, h117, rfl⟩ := k115
        refine ⟨_, _, rfl, ?_⟩
        refine T_nf2 (st' := [.int (i32 wi)]) (l' := [(7, (m.1 7)), (8, (m.1 8)), (9, (m.1 9)), (10, (m.1 10)), (11, (m.1 11)), (12, (m.1 12)), (100, 1)]) (a' := []) [] [] rfl ⟨rfl, rfl, rfl, rfl, rfl, rfl, rfl, rfl, rfl, rfl, rfl, rfl, rfl, rfl, trivial⟩ trivial rfl rfl (by decide) (by decide) ?_
        obtain ⟨g116a, g116b⟩ := g116
        replace h117 : ∃ g k, isGH (m.2 4) (m.1 8) (m.1 9) g ∧ (g < 0 → isFH (m.2 4) (m.2 14) (m.2 15) (m.1 8) (m.1 9) (m.1 13) k) ∧ wi = whichV (m.2 17) g k := h117
        have hWi := h117
        have u118 : (m.1 8) ≤ (m.1 8) := by omega
        have hw3 : so = 3 → 0 ≤ wi ∧ wi < (m.1 21) := fun h => old_rg hSo hWi h (by omega) (by omega) (PNl_3 pPN) (fun _ => pPN.2.1)
        have hw2 : so = 2 → 0 ≤ wi ∧ wi < (m.1 20) := fun h => old_rg hSo hWi h (by omega) (by omega) (PNl_2 pPN) (fun h => by omega)
        refine T_goto 51 rfl (fun _ => rfl) ?_
        refine T_sto 52 [(2, .int (i32 wi)), (1, .int (i32 so)), (0, .ref 189)] rfl (fun _ => rfl) ?_
        refine T_ld 53 (.int (i32 so)) rfl (fun _ => rfl) ?_
        refine T_ld 54 (.int (i32 3)) rfl (fun _ => rfl) ?_
        refine T_icmp 62 57 rfl rfl rfl (r32 (by omega) (by omega)) ⟨by decide, by decide⟩ (fun (h119 : so = 3) => ?_) (fun (h119 : ¬ (so = 3)) => by exfalso; omega)
        refine T_ld 63 (.int (i32 so)) rfl (fun _ => rfl) ?_
        refine T_ld 64 (.int (i32 3)) rfl (fun _ => rfl) ?_
        refine T_icmp 82 67 rfl rfl rfl (r32 (by omega) (by omega)) ⟨by decide, by decide⟩ (fun (h120 : so ≠ 3) => by exfalso; omega) (fun (h120 : ¬ (so ≠ 3)) => ?_)
        refine T_ld 68 (.int (i32 wi)) rfl (fun _ => rfl) ?_
        refine T_ld 69 (.int (i32 2)) rfl (fun _ => rfl) ?_
        refine T_icmp 82 72 rfl rfl rfl (r32 (by omega) (by omega)) ⟨by decide, by decide⟩ (fun (h121 : (2 : Int) ≤ wi) => ?_) (fun (h121 : ¬ ((2 : Int) ≤ wi)) => ?_)
        · skip
          refine T_ld 83 (.ref 189) rfl (fun _ => rfl) ?_
          refine T_call 86 212 [.ref 189] [] rfl (fun _ => rfl) rfl (c_next w (mO m [(7, (m.1 7)), (8, (m.1 8)), (9, (m.1 9)), (10, (m.1 10)), (11, (m.1 11)), (12, (m.1 12)), (100, 1)] []) c N D (by omega) (Ty_mO hT rfl rfl ⟨f7, f8, f9, f10, f11, f12, ⟨(by omega : (0 : Int) ≤ 1), (by omega : (1 : Int) ≤ 64)⟩, trivial⟩ trivial) (show (m.1 10) = 0 → (m.1 8) + (m.1 9) ≤ (m.1 6) by first | omega | (intro h9; have h8 := hLx h9; omega))) (fun rr122 k123 => ?_)
          obtain ⟨y124, y126, y128, y130, y132, y134, g125, g127, g129, g131, g133, g135, h136, h137, h138, h139, rfl⟩ := k123
          refine ⟨_, _, rfl, ?_⟩
          refine T_nf2 (st' := []) (l' := [(7, y124), (8, y126), (9, y128), (10, y130), (11, y132), (12, y134), (100, 1)]) (a' := []) [7, 8, 9, 10, 11, 12] [] rfl ⟨rfl, rfl, rfl, rfl, rfl, rfl, rfl, rfl, rfl, rfl, rfl, rfl, rfl, rfl, trivial⟩ trivial rfl rfl (by decide) (by decide) ?_
          by_cases hf140 : y130 = 0
          · skip
            subst hf140
            replace h136 : LxP y124 y126 y128 (m.1 6) (0 : Int) := h136
            have hLx := h136
            replace h137 : (m.1 10) = 0 := h137 rfl
            replace h138 : (m.1 8) ≤ y126 := h138
            replace h139 : (m.1 8) + (m.1 9) ≤ y126 := h139 rfl
            have u141 : (m.1 8) + 1 ≤ y126 := by omega
            clear g131
            refine T_gf 90 (.int (i32 0)) rfl rfl rfl rfl rfl rfl ?_
            refine T_if 95 93 rfl rfl rfl ⟨by decide, by decide⟩ (fun _ => ?_) (fun h142 => absurd (show (0 : Int) ≤ 0 by decide) h142)
            refine T_ld 96 (.int (i32 so)) rfl (fun _ => rfl) ?_
            refine T_ld 97 (.int (i32 3)) rfl (fun _ => rfl) ?_
            refine T_icmp 112 100 rfl rfl rfl (r32 (by omega) (by omega)) ⟨by decide, by decide⟩ (fun (h143 : so ≠ 3) => by exfalso; omega) (fun (h143 : ¬ (so ≠ 3)) => ?_)
            refine T_ld 101 (.ref 189) rfl (fun _ => rfl) ?_
            refine T_gf 105 (.ref 205) rfl rfl rfl rfl rfl rfl ?_
            refine T_ld 106 (.int (i32 wi)) rfl (fun _ => rfl) ?_
            refine T_iald 107 35 (m.2 35) rfl rfl rfl (by omega) (show wi < (16 : Int) by omega) rfl ?_
            have e144 : 0 ≤ m.2 35 wi ∧ m.2 35 wi ≤ 64 := hT.2.1 35 wi
            refine T_pf (l' := [(7, y124), (8, y126), (9, y128), (10, 0), (11, y132), (12, y134), (100, (m.2 35) wi)]) 110 ((m.2 35) wi) rfl rfl rfl rfl rfl rfl ?_
            have g145 : 0 ≤ (m.2 35) wi ∧ (m.2 35) wi ≤ 64 := ⟨by omega, by omega⟩
            refine T_ld 111 (.int (i32 wi)) rfl (fun _ => rfl) ?_
            refine T_ret rfl (fun _ => rfl) ?_
            exact ⟨(mO m [(7, y124), (8, y126), (9, y128), (10, 0), (11, y132), (12, y134), (100, (m.2 35) wi)] []), wi, (Ty_mO hT rfl rfl ⟨g125, g127, g129, ⟨(by omega : (0 : Int) ≤ 0), (by omega : (0 : Int) ≤ 8)⟩, g133, g135, g145, trivial⟩ trivial), ⟨by omega, by omega⟩, (show (0 : Int) = 0 → (m.1 10) = 0 by omega), (show LxP y124 y126 y128 (m.1 6) (0 : Int) by first | (first | exact hLx | exact (fun _ => hLx (by omega)) | (intro h9; exfalso; omega)) | (exfalso; omega)), (fun _ => (show (m.1 8) + 1 ≤ y126 by omega)), rfl⟩
          · skip
            replace h136 : LxP y124 y126 y128 (m.1 6) y130 := h136
            have hLx := h136
            clear h137
            replace h138 : (m.1 8) ≤ y126 := h138
            clear h139
            have hf146 : 1 ≤ y130 := by omega
            refine Tm_lv (a := [(0, .ref 189), (1, .int (i32 so)), (2, .int (i32 wi))]) rfl rfl ⟨rfl, rfl, rfl, trivial⟩ ?_
            exact J86_62 so wi (mO m [(7, y124), (8, y126), (9, y128), (10, y130), (11, y132), (12, y134), (100, 1)] []) (r32 (by omega) (by omega)) (r32 (by omega) (by omega)) (Ty_mO hT rfl rfl ⟨g125, g127, g129, g131, g133, g135, ⟨(by omega : (0 : Int) ≤ 1), (by omega : (1 : Int) ≤ 64)⟩, trivial⟩ trivial) (show (-2147483648) ≤ so by omega) (show so ≤ 2147483647 by omega) (show 1 ≤ y130 by omega) (show y130 ≤ 8 by omega)
        · skip
          refine T_ld 73 (.ref 189) rfl (fun _ => rfl) ?_
          refine T_ld 75 (.int (i32 6)) rfl (fun _ => rfl) ?_
          refine T_gf 79 (.int (i32 (m.1 8))) rfl rfl rfl rfl rfl rfl ?_
          refine T_call 82 222 [.ref 189, .int (i32 6), .int (i32 (m.1 8))] [] rfl (fun _ => rfl) rfl (c_wrong w (mO m [(7, (m.1 7)), (8, (m.1 8)), (9, (m.1 9)), (10, (m.1 10)), (11, (m.1 11)), (12, (m.1 12)), (100, 1)] []) c N D (by omega) (Ty_mO hT rfl rfl ⟨f7, f8, f9, f10, f11, f12, ⟨(by omega : (0 : Int) ≤ 1), (by omega : (1 : Int) ≤ 64)⟩, trivial⟩ trivial) 6 (m.1 8) ⟨by decide, by decide⟩ (r32 (by omega) (by omega)) (show 1 ≤ (6 : Int) ∧ (6 : Int) ≤ 8 by omega) (show 0 ≤ (m.1 8) ∧ (m.1 8) ≤ 4000 by omega)) (fun rr147 k148 => ?_)
          obtain ⟨y149, y151, g150, g152, h153, rfl⟩ := k148
          refine ⟨_, _, rfl, ?_⟩
          refine T_nf2 (st' := []) (l' := [(7, (m.1 7)), (8, (m.1 8)), (9, (m.1 9)), (10, y149), (11, y151), (12, (m.1 12)), (100, 1)]) (a' := []) [10, 11] [] rfl ⟨rfl, rfl, rfl, rfl, rfl, rfl, rfl, rfl, rfl, rfl, rfl, rfl, rfl, rfl, rfl, rfl, rfl, trivial⟩ trivial rfl rfl (by decide) (by decide) ?_
          replace h153 : (0 < (m.1 10) → y149 = (m.1 10) ∧ y151 = (m.1 11)) ∧ ((m.1 10) ≤ 0 → y149 = (6 : Int) ∧ y151 = (m.1 8)) := h153
          have hf154 : 1 ≤ y149 := by omega
          refine Tm_lv (a := [(0, .ref 189), (1, .int (i32 so)), (2, .int (i32 wi))]) rfl rfl ⟨rfl, rfl, rfl, trivial⟩ ?_
          exact J82_75 so wi (mO m [(7, (m.1 7)), (8, (m.1 8)), (9, (m.1 9)), (10, y149), (11, y151), (12, (m.1 12)), (100, 1)] []) (r32 (by omega) (by omega)) (r32 (by omega) (by omega)) (Ty_mO hT rfl rfl ⟨f7, f8, f9, g150, g152, f12, ⟨(by omega : (0 : Int) ≤ 1), (by omega : (1 : Int) ≤ 64)⟩, trivial⟩ trivial) (show (-2147483648) ≤ so by omega) (show so ≤ 2147483647 by omega) (show (-2147483648) ≤ wi by omega) (show wi ≤ 1 by omega) (show 1 ≤ y149 by omega) (show y149 ≤ 8 by omega)
      · skip
        refine T_ld 39 (.int (i32 so)) rfl (fun _ => rfl) ?_
        refine T_ld 40 (.int (i32 2)) rfl (fun _ => rfl) ?_
        refine T_icmp 50 43 rfl rfl rfl (r32 (by omega) (by omega)) ⟨by decide, by decide⟩ (fun (h155 : so ≠ 2) => ?_) (fun (h155 : ¬ (so ≠ 2)) => ?_)
        · skip
          refine T_ld 51 (.int (i32 0)) rfl (fun _ => rfl) ?_
          refine T_sto 52 [(2, .int (i32 0)), (1, .int (i32 so)), (0, .ref 189)] rfl (fun _ => rfl) ?_
          refine T_ld 53 (.int (i32 so)) rfl (fun _ => rfl) ?_
          refine T_ld 54 (.int (i32 3)) rfl (fun _ => rfl) ?_
          refine T_icmp 62 57 rfl rfl rfl (r32 (by omega) (by omega)) ⟨by decide, by decide⟩ (fun (h156 : so = 3) => ?_) (fun (h156 : ¬ (so = 3)) => ?_)
          · skip
            refine T_ld 63 (.int (i32 so)) rfl (fun _ => rfl) ?_
            refine T_ld 64 (.int (i32 3)) rfl (fun _ => rfl) ?_
            refine T_icmp 82 67 rfl rfl rfl (r32 (by omega) (by omega)) ⟨by decide, by decide⟩ (fun (h157 : so ≠ 3) => by exfalso; omega) (fun (h157 : ¬ (so ≠ 3)) => ?_)
            refine T_ld 68 (.int (i32 0)) rfl (fun _ => rfl) ?_
            refine T_ld 69 (.int (i32 2)) rfl (fun _ => rfl) ?_
            refine T_icmp 82 72 rfl rfl rfl ⟨by decide, by decide⟩ ⟨by decide, by decide⟩ (fun h158 => absurd (show (2 : Int) ≤ 0 from h158) (by decide)) (fun _ => ?_)
            refine T_ld 73 (.ref 189) rfl (fun _ => rfl) ?_
            refine T_ld 75 (.int (i32 6)) rfl (fun _ => rfl) ?_
            refine T_gf 79 (.int (i32 (m.1 8))) rfl rfl rfl rfl rfl rfl ?_
            refine T_call 82 222 [.ref 189, .int (i32 6), .int (i32 (m.1 8))] [] rfl (fun _ => rfl) rfl (c_wrong w (mO m [(7, (m.1 7)), (8, (m.1 8)), (9, (m.1 9)), (10, (m.1 10)), (11, (m.1 11)), (12, (m.1 12)), (100, 1)] []) c N D (by omega) (Ty_mO hT rfl rfl ⟨f7, f8, f9, f10, f11, f12, ⟨(by omega : (0 : Int) ≤ 1), (by omega : (1 : Int) ≤ 64)⟩, trivial⟩ trivial) 6 (m.1 8) ⟨by decide, by decide⟩ (r32 (by omega) (by omega)) (show 1 ≤ (6 : Int) ∧ (6 : Int) ≤ 8 by omega) (show 0 ≤ (m.1 8) ∧ (m.1 8) ≤ 4000 by omega)) (fun rr159 k160 => ?_)
            obtain ⟨y161, y163, g162, g164, h165, rfl⟩ := k160
            refine ⟨_, _, rfl, ?_⟩
            refine T_nf2 (st' := []) (l' := [(7, (m.1 7)), (8, (m.1 8)), (9, (m.1 9)), (10, y161), (11, y163), (12, (m.1 12)), (100, 1)]) (a' := []) [10, 11] [] rfl ⟨rfl, rfl, rfl, rfl, rfl, rfl, rfl, rfl, rfl, rfl, rfl, rfl, rfl, rfl, rfl, rfl, rfl, trivial⟩ trivial rfl rfl (by decide) (by decide) ?_
            replace h165 : (0 < (m.1 10) → y161 = (m.1 10) ∧ y163 = (m.1 11)) ∧ ((m.1 10) ≤ 0 → y161 = (6 : Int) ∧ y163 = (m.1 8)) := h165
            have hf166 : 1 ≤ y161 := by omega
            refine Tm_lv (a := [(0, .ref 189), (1, .int (i32 so)), (2, .int (i32 0))]) rfl rfl ⟨rfl, rfl, rfl, trivial⟩ ?_
            exact J82_75 so 0 (mO m [(7, (m.1 7)), (8, (m.1 8)), (9, (m.1 9)), (10, y161), (11, y163), (12, (m.1 12)), (100, 1)] []) (r32 (by omega) (by omega)) ⟨by decide, by decide⟩ (Ty_mO hT rfl rfl ⟨f7, f8, f9, g162, g164, f12, ⟨(by omega : (0 : Int) ≤ 1), (by omega : (1 : Int) ≤ 64)⟩, trivial⟩ trivial) (show (-2147483648) ≤ so by omega) (show so ≤ 2147483647 by omega) (show (-2147483648) ≤ (0 : Int) by omega) (show (0 : Int) ≤ 1 by omega) (show 1 ≤ y161 by omega) (show y161 ≤ 8 by omega)
          · skip
            refine T_ld 58 (.int (i32 so)) rfl (fun _ => rfl) ?_
            refine T_ld 59 (.int (i32 2)) rfl (fun _ => rfl) ?_
            refine T_icmp 72 62 rfl rfl rfl (r32 (by omega) (by omega)) ⟨by decide, by decide⟩ (fun (h167 : so ≠ 2) => ?_) (fun (h167 : ¬ (so ≠ 2)) => ?_)
            · skip
              refine T_ld 73 (.ref 189) rfl (fun _ => rfl) ?_
              refine T_ld 75 (.int (i32 6)) rfl (fun _ => rfl) ?_
              refine T_gf 79 (.int (i32 (m.1 8))) rfl rfl rfl rfl rfl rfl ?_
              refine T_call 82 222 [.ref 189, .int (i32 6), .int (i32 (m.1 8))] [] rfl (fun _ => rfl) rfl (c_wrong w (mO m [(7, (m.1 7)), (8, (m.1 8)), (9, (m.1 9)), (10, (m.1 10)), (11, (m.1 11)), (12, (m.1 12)), (100, 1)] []) c N D (by omega) (Ty_mO hT rfl rfl ⟨f7, f8, f9, f10, f11, f12, ⟨(by omega : (0 : Int) ≤ 1), (by omega : (1 : Int) ≤ 64)⟩, trivial⟩ trivial) 6 (m.1 8) ⟨by decide, by decide⟩ (r32 (by omega) (by omega)) (show 1 ≤ (6 : Int) ∧ (6 : Int) ≤ 8 by omega) (show 0 ≤ (m.1 8) ∧ (m.1 8) ≤ 4000 by omega)) (fun rr168 k169 => ?_)
              obtain ⟨y170, y172, g171, g173, h174, rfl⟩ := k169
              refine ⟨_, _, rfl, ?_⟩
              refine T_nf2 (st' := []) (l' := [(7, (m.1 7)), (8, (m.1 8)), (9, (m.1 9)), (10, y170), (11, y172), (12, (m.1 12)), (100, 1)]) (a' := []) [10, 11] [] rfl ⟨rfl, rfl, rfl, rfl, rfl, rfl, rfl, rfl, rfl, rfl, rfl, rfl, rfl, rfl, rfl, rfl, rfl, trivial⟩ trivial rfl rfl (by decide) (by decide) ?_
              replace h174 : (0 < (m.1 10) → y170 = (m.1 10) ∧ y172 = (m.1 11)) ∧ ((m.1 10) ≤ 0 → y170 = (6 : Int) ∧ y172 = (m.1 8)) := h174
              have hf175 : 1 ≤ y170 := by omega
              refine Tm_lv (a := [(0, .ref 189), (1, .int (i32 so)), (2, .int (i32 0))]) rfl rfl ⟨rfl, rfl, rfl, trivial⟩ ?_
              exact J82_75 so 0 (mO m [(7, (m.1 7)), (8, (m.1 8)), (9, (m.1 9)), (10, y170), (11, y172), (12, (m.1 12)), (100, 1)] []) (r32 (by omega) (by omega)) ⟨by decide, by decide⟩ (Ty_mO hT rfl rfl ⟨f7, f8, f9, g171, g173, f12, ⟨(by omega : (0 : Int) ≤ 1), (by omega : (1 : Int) ≤ 64)⟩, trivial⟩ trivial) (show (-2147483648) ≤ so by omega) (show so ≤ 2147483647 by omega) (show (-2147483648) ≤ (0 : Int) by omega) (show (0 : Int) ≤ 1 by omega) (show 1 ≤ y170 by omega) (show y170 ≤ 8 by omega)
            · skip
              refine T_ld 63 (.int (i32 so)) rfl (fun _ => rfl) ?_
              refine T_ld 64 (.int (i32 3)) rfl (fun _ => rfl) ?_
              refine T_icmp 82 67 rfl rfl rfl (r32 (by omega) (by omega)) ⟨by decide, by decide⟩ (fun (h176 : so ≠ 3) => ?_) (fun (h176 : ¬ (so ≠ 3)) => by exfalso; omega)
              refine T_ld 83 (.ref 189) rfl (fun _ => rfl) ?_
              refine T_call 86 212 [.ref 189] [] rfl (fun _ => rfl) rfl (c_next w (mO m [(7, (m.1 7)), (8, (m.1 8)), (9, (m.1 9)), (10, (m.1 10)), (11, (m.1 11)), (12, (m.1 12)), (100, 1)] []) c N D (by omega) (Ty_mO hT rfl rfl ⟨f7, f8, f9, f10, f11, f12, ⟨(by omega : (0 : Int) ≤ 1), (by omega : (1 : Int) ≤ 64)⟩, trivial⟩ trivial) (show (m.1 10) = 0 → (m.1 8) + (m.1 9) ≤ (m.1 6) by first | omega | (intro h9; have h8 := hLx h9; omega))) (fun rr177 k178 => ?_)
              obtain ⟨y179, y181, y183, y185, y187, y189, g180, g182, g184, g186, g188, g190, h191, h192, h193, h194, rfl⟩ := k178
              refine ⟨_, _, rfl, ?_⟩
              refine T_nf2 (st' := []) (l' := [(7, y179), (8, y181), (9, y183), (10, y185), (11, y187), (12, y189), (100, 1)]) (a' := []) [7, 8, 9, 10, 11, 12] [] rfl ⟨rfl, rfl, rfl, rfl, rfl, rfl, rfl, rfl, rfl, rfl, rfl, rfl, rfl, rfl, trivial⟩ trivial rfl rfl (by decide) (by decide) ?_
              by_cases hf195 : y185 = 0
              · skip
                subst hf195
                replace h191 : LxP y179 y181 y183 (m.1 6) (0 : Int) := h191
                have hLx := h191
                replace h192 : (m.1 10) = 0 := h192 rfl
                replace h193 : (m.1 8) ≤ y181 := h193
                replace h194 : (m.1 8) + (m.1 9) ≤ y181 := h194 rfl
                have u196 : (m.1 8) + 1 ≤ y181 := by omega
                clear g186
                refine T_gf 90 (.int (i32 0)) rfl rfl rfl rfl rfl rfl ?_
                refine T_if 95 93 rfl rfl rfl ⟨by decide, by decide⟩ (fun _ => ?_) (fun h197 => absurd (show (0 : Int) ≤ 0 by decide) h197)
                refine T_ld 96 (.int (i32 so)) rfl (fun _ => rfl) ?_
                refine T_ld 97 (.int (i32 3)) rfl (fun _ => rfl) ?_
                refine T_icmp 112 100 rfl rfl rfl (r32 (by omega) (by omega)) ⟨by decide, by decide⟩ (fun (h198 : so ≠ 3) => ?_) (fun (h198 : ¬ (so ≠ 3)) => by exfalso; omega)
                refine T_ld 113 (.ref 189) rfl (fun _ => rfl) ?_
                refine T_ld 115 (.int (i32 46)) rfl (fun _ => rfl) ?_
                refine T_call 118 232 [.ref 189, .int (i32 46)] [] rfl (fun _ => rfl) rfl (c_need w (mO m [(7, y179), (8, y181), (9, y183), (10, 0), (11, y187), (12, y189), (100, 1)] []) c N D (by omega) (Ty_mO hT rfl rfl ⟨g180, g182, g184, ⟨(by omega : (0 : Int) ≤ 0), (by omega : (0 : Int) ≤ 8)⟩, g188, g190, ⟨(by omega : (0 : Int) ≤ 1), (by omega : (1 : Int) ≤ 64)⟩, trivial⟩ trivial) 46 ⟨by decide, by decide⟩ (show 1 ≤ (46 : Int) by omega) (show LxP y179 y181 y183 (m.1 6) (0 : Int) by first | exact hLx | (intro h9; exfalso; omega) | (intro h9; have h8 := hLx (by omega); omega))) (fun rr199 k200 => ?_)
                obtain ⟨y201, y203, y205, y207, y209, y211, g202, g204, g206, g208, g210, g212, h213, h214, h215, h216, rfl⟩ := k200
                refine ⟨_, _, rfl, ?_⟩
                refine T_nf2 (st' := []) (l' := [(7, y201), (8, y203), (9, y205), (10, y207), (11, y209), (12, y211), (100, 1)]) (a' := []) [7, 8, 9, 10, 11, 12] [] rfl ⟨rfl, rfl, rfl, rfl, rfl, rfl, rfl, rfl, rfl, rfl, rfl, rfl, rfl, rfl, trivial⟩ trivial rfl rfl (by decide) (by decide) ?_
                by_cases hf217 : y207 = 0
                · skip
                  subst hf217
                  replace h213 : LxP y201 y203 y205 (m.1 6) (0 : Int) := h213
                  have hLx := h213
                  replace h214 : (0 : Int) = 0 ∧ y179 = (46 : Int) := h214 rfl
                  replace h215 : y181 ≤ y203 := h215
                  replace h216 : y181 + y183 ≤ y203 := h216 rfl
                  have u218 : (m.1 8) + 1 ≤ y203 := by omega
                  clear g180 g182 g184 g188 g190 h191 h193 h194 u196 g208 h214 h215 h216
                  refine T_ld 119 (.ref 189) rfl (fun _ => rfl) ?_
                  refine T_ld 120 (.int (i32 0)) rfl (fun _ => rfl) ?_
                  refine T_call 123 253 [.ref 189, .int (i32 0)] [] rfl (fun _ => rfl) rfl (c_takeField w (mO m [(7, y201), (8, y203), (9, y205), (10, 0), (11, y209), (12, y211), (100, 1)] []) c N D (by omega) (Ty_mO hT rfl rfl ⟨g202, g204, g206, ⟨(by omega : (0 : Int) ≤ 0), (by omega : (0 : Int) ≤ 8)⟩, g210, g212, ⟨(by omega : (0 : Int) ≤ 1), (by omega : (1 : Int) ≤ 64)⟩, trivial⟩ trivial) 0 ⟨by decide, by decide⟩ (show LxP y201 y203 y205 (m.1 6) (0 : Int) by first | exact hLx | exact (fun _ => hLx (by omega)) | (intro h9; exfalso; omega)) (show ∀ k, (m.2 31) k + (m.2 32) k ≤ 4000 by assumption) (show 0 ≤ (0 : Int) ∧ (0 : Int) ≤ 11 by omega) (fun _ => trivial)) (fun rr219 k220 => ?_)
                  obtain ⟨m221, tf, hT222, g223, h224, h225, c226, rfl⟩ := k220
                  refine ⟨_, _, rfl, ?_⟩
                  refine T_nf2 (st' := [.int (i32 tf)]) (l' := [(7, (m221.1 7)), (8, (m221.1 8)), (9, (m221.1 9)), (10, (m221.1 10)), (11, (m221.1 11)), (12, (m221.1 12)), (100, 1)]) (a' := []) [7, 8, 9, 10, 11, 12] [] rfl ⟨rfl, rfl, rfl, rfl, rfl, rfl, rfl, rfl, rfl, rfl, rfl, rfl, rfl, rfl, trivial⟩ trivial rfl rfl (by decide) (by decide) ?_
                  obtain ⟨g223a, g223b⟩ := g223
                  have g227 : 0 ≤ m221.1 7 ∧ m221.1 7 ≤ 330 := hT222.1 7
                  have g228 : 0 ≤ m221.1 8 ∧ m221.1 8 ≤ 4000 := hT222.1 8
                  have g229 : 0 ≤ m221.1 9 ∧ m221.1 9 ≤ 4000 := hT222.1 9
                  have g230 : 0 ≤ m221.1 10 ∧ m221.1 10 ≤ 8 := hT222.1 10
                  have g231 : (-1) ≤ m221.1 11 ∧ m221.1 11 ≤ 4000 := hT222.1 11
                  have g232 : (-9223372036854775808) ≤ m221.1 12 ∧ m221.1 12 ≤ 9223372036854775807 := hT222.1 12
                  by_cases hf233 : (m221.1 10) = 0
                  · skip
                    replace h224 : (0 : Int) = 0 := h224 hf233
                    replace h225 : LxP (m221.1 7) (m221.1 8) (m221.1 9) (m.1 6) (m221.1 10) := h225
                    have hLx := h225
                    obtain ⟨c234, c235⟩ := c226 hf233
                    replace c234 : y203 + 1 ≤ (m221.1 8) := c234
                    replace c235 : y201 = 1 := c235
                    clear c226
                    have u236 : (m.1 8) + 1 ≤ (m221.1 8) := by omega
                    clear g202 g204 g206 g210 g212 h213 u218 c234 c235
                    refine T_sto 124 [(3, .int (i32 tf)), (2, .int (i32 0)), (1, .int (i32 so)), (0, .ref 189)] rfl (fun _ => rfl) ?_
                    refine T_gf 128 (.int (i32 (m221.1 10))) rfl rfl rfl rfl rfl rfl ?_
                    refine T_if 133 131 rfl rfl rfl (r32 (by omega) (by omega)) (fun (h237 : (m221.1 10) ≤ 0) => ?_) (fun (h237 : ¬ ((m221.1 10) ≤ 0)) => by exfalso; omega)
                    refine T_ld 134 (.ref 189) rfl (fun _ => rfl) ?_
                    refine T_ld 135 (.ref 189) rfl (fun _ => rfl) ?_
                    refine T_ld 136 (.int (i32 tf)) rfl (fun _ => rfl) ?_
                    refine T_call 139 254 [.ref 189, .int (i32 tf)] [.ref 189] rfl (fun _ => rfl) rfl (c_bitsOfField w (mO m [(7, (m221.1 7)), (8, (m221.1 8)), (9, (m221.1 9)), (10, (m221.1 10)), (11, (m221.1 11)), (12, (m221.1 12)), (100, 1)] []) c N D (by omega) (Ty_mO hT rfl rfl ⟨(hT222.1 7), (hT222.1 8), (hT222.1 9), (hT222.1 10), (hT222.1 11), (hT222.1 12), ⟨(by omega : (0 : Int) ≤ 1), (by omega : (1 : Int) ≤ 64)⟩, trivial⟩ trivial) tf (r32 (by omega) (by omega)) (show 0 ≤ tf ∧ tf ≤ 191 by omega)) (fun rr238 k239 => ?_)
                    obtain ⟨x240, g241, rfl⟩ := k239
                    refine ⟨_, _, rfl, ?_⟩
                    refine T_nf2 (st' := [.int (i32 x240), .ref 189]) (l' := [(7, (m221.1 7)), (8, (m221.1 8)), (9, (m221.1 9)), (10, (m221.1 10)), (11, (m221.1 11)), (12, (m221.1 12)), (100, 1)]) (a' := []) [] [] rfl ⟨rfl, rfl, rfl, rfl, rfl, rfl, rfl, rfl, rfl, rfl, rfl, rfl, rfl, rfl, trivial⟩ trivial rfl rfl (by decide) (by decide) ?_
                    obtain ⟨g241a, g241b⟩ := g241
                    have u242 : (m.1 8) + 1 ≤ (m221.1 8) := by omega
                    refine T_pf (l' := [(7, (m221.1 7)), (8, (m221.1 8)), (9, (m221.1 9)), (10, (m221.1 10)), (11, (m221.1 11)), (12, (m221.1 12)), (100, x240)]) 142 x240 rfl rfl rfl rfl rfl rfl ?_
                    have g243 : 0 ≤ x240 ∧ x240 ≤ 64 := ⟨by omega, by omega⟩
                    refine T_ld 144 (.int (i32 16)) rfl (fun _ => rfl) ?_
                    refine T_ld 145 (.int (i32 tf)) rfl (fun _ => rfl) ?_
                    refine T_iadd 146 rfl rfl ?_
                    refine T_ret rfl (fun _ => rfl) ?_
                    exact ⟨(mO m [(7, (m221.1 7)), (8, (m221.1 8)), (9, (m221.1 9)), (10, (m221.1 10)), (11, (m221.1 11)), (12, (m221.1 12)), (100, x240)] []), 16 + tf, (Ty_mO hT rfl rfl ⟨(hT222.1 7), (hT222.1 8), (hT222.1 9), (hT222.1 10), (hT222.1 11), (hT222.1 12), g243, trivial⟩ trivial), ⟨by omega, by omega⟩, (show (m221.1 10) = 0 → (m.1 10) = 0 by omega), (show LxP (m221.1 7) (m221.1 8) (m221.1 9) (m.1 6) (m221.1 10) by first | (first | exact hLx | exact (fun _ => hLx (by omega)) | (intro h9; exfalso; omega)) | (exfalso; omega)), (fun _ => (show (m.1 8) + 1 ≤ (m221.1 8) by omega)), rfl⟩
                  · skip
                    clear c226
                    clear h224
                    replace h225 : LxP (m221.1 7) (m221.1 8) (m221.1 9) (m.1 6) (m221.1 10) := h225
                    have hLx := h225
                    have hf244 : 1 ≤ (m221.1 10) := by omega
                    clear g202 g204 g206 g210 g212 h213 u218
                    refine Tm_lv (a := [(0, .ref 189), (1, .int (i32 so)), (2, .int (i32 0))]) rfl rfl ⟨rfl, rfl, rfl, trivial⟩ ?_
                    exact J123_19 so 0 tf (mO m [(7, (m221.1 7)), (8, (m221.1 8)), (9, (m221.1 9)), (10, (m221.1 10)), (11, (m221.1 11)), (12, (m221.1 12)), (100, 1)] []) (r32 (by omega) (by omega)) ⟨by decide, by decide⟩ (r32 (by omega) (by omega)) (Ty_mO hT rfl rfl ⟨(hT222.1 7), (hT222.1 8), (hT222.1 9), (hT222.1 10), (hT222.1 11), (hT222.1 12), ⟨(by omega : (0 : Int) ≤ 1), (by omega : (1 : Int) ≤ 64)⟩, trivial⟩ trivial) (show 2 ≤ so by omega) (show so ≤ 2 by omega) (show 0 ≤ tf by omega) (show tf ≤ 191 by omega) (show 1 ≤ (m221.1 10) by omega) (show (m221.1 10) ≤ 8 by omega)
                · skip
                  replace h213 : LxP y201 y203 y205 (m.1 6) y207 := h213
                  have hLx := h213
                  clear h214
                  replace h215 : y181 ≤ y203 := h215
                  clear h216
                  have hf245 : 1 ≤ y207 := by omega
                  clear g180 g182 g184 g188 g190 h191 h193 h194 u196 h215
                  refine Tm_lv (a := [(0, .ref 189), (1, .int (i32 so)), (2, .int (i32 0))]) rfl rfl ⟨rfl, rfl, rfl, trivial⟩ ?_
                  exact J118_35 so 0 (mO m [(7, y201), (8, y203), (9, y205), (10, y207), (11, y209), (12, y211), (100, 1)] []) (r32 (by omega) (by omega)) ⟨by decide, by decide⟩ (Ty_mO hT rfl rfl ⟨g202, g204, g206, g208, g210, g212, ⟨(by omega : (0 : Int) ≤ 1), (by omega : (1 : Int) ≤ 64)⟩, trivial⟩ trivial) (show 2 ≤ so by omega) (show so ≤ 2 by omega) (show 1 ≤ y207 by omega) (show y207 ≤ 8 by omega)
              · skip
                replace h191 : LxP y179 y181 y183 (m.1 6) y185 := h191
                have hLx := h191
                clear h192
                replace h193 : (m.1 8) ≤ y181 := h193
                clear h194
                have hf246 : 1 ≤ y185 := by omega
                refine Tm_lv (a := [(0, .ref 189), (1, .int (i32 so)), (2, .int (i32 0))]) rfl rfl ⟨rfl, rfl, rfl, trivial⟩ ?_
                exact J86_62 so 0 (mO m [(7, y179), (8, y181), (9, y183), (10, y185), (11, y187), (12, y189), (100, 1)] []) (r32 (by omega) (by omega)) ⟨by decide, by decide⟩ (Ty_mO hT rfl rfl ⟨g180, g182, g184, g186, g188, g190, ⟨(by omega : (0 : Int) ≤ 1), (by omega : (1 : Int) ≤ 64)⟩, trivial⟩ trivial) (show (-2147483648) ≤ so by omega) (show so ≤ 2147483647 by omega) (show 1 ≤ y185 by omega) (show y185 ≤ 8 by omega)
        · skip
          refine T_ld 44 (.ref 189) rfl (fun _ => rfl) ?_
          refine T_call 47 237 [.ref 189] [] rfl (fun _ => rfl) rfl (c_whichHere w (mO m [(7, (m.1 7)), (8, (m.1 8)), (9, (m.1 9)), (10, (m.1 10)), (11, (m.1 11)), (12, (m.1 12)), (100, 1)] []) c N D (by omega) (Ty_mO hT rfl rfl ⟨f7, f8, f9, f10, f11, f12, ⟨(by omega : (0 : Int) ≤ 1), (by omega : (1 : Int) ≤ 64)⟩, trivial⟩ trivial) (show 1 ≤ (m.1 9) ∧ (m.1 8) + (m.1 9) ≤ (m.1 6) by first | omega | (have h8 := hLx (by omega); omega)) (show ∀ k, (m.2 14) k + (m.2 15) k ≤ 4000 by first | exact hNM | exact p1) (show ∀ g k, isGH (m.2 4) (m.1 8) (m.1 9) g → g < 0 → isFH (m.2 4) (m.2 14) (m.2 15) (m.1 8) (m.1 9) (m.1 13) k → 0 ≤ k by exact old_ok hSo (by omega))) (fun rr247 k248 => ?_)
          obtain ⟨wi, g249, h250, rfl⟩ := k248
          refine ⟨_, _, rfl, ?_⟩
          refine T_nf2 (st' := [.int (i32 wi)]) (l' := [(7, (m.1 7)), (8, (m.1 8)), (9, (m.1 9)), (10, (m.1 10)), (11, (m.1 11)), (12, (m.1 12)), (100, 1)]) (a' := []) [] [] rfl ⟨rfl, rfl, rfl, rfl, rfl, rfl, rfl, rfl, rfl, rfl, rfl, rfl, rfl, rfl, trivial⟩ trivial rfl rfl (by decide) (by decide) ?_
          obtain ⟨g249a, g249b⟩ := g249
          replace h250 : ∃ g k, isGH (m.2 4) (m.1 8) (m.1 9) g ∧ (g < 0 → isFH (m.2 4) (m.2 14) (m.2 15) (m.1 8) (m.1 9) (m.1 13) k) ∧ wi = whichV (m.2 17) g k := h250
          have hWi := h250
          have u251 : (m.1 8) ≤ (m.1 8) := by omega
          have hw3 : so = 3 → 0 ≤ wi ∧ wi < (m.1 21) := fun h => old_rg hSo hWi h (by omega) (by omega) (PNl_3 pPN) (fun _ => pPN.2.1)
          have hw2 : so = 2 → 0 ≤ wi ∧ wi < (m.1 20) := fun h => old_rg hSo hWi h (by omega) (by omega) (PNl_2 pPN) (fun h => by omega)
          refine T_goto 51 rfl (fun _ => rfl) ?_
          refine T_sto 52 [(2, .int (i32 wi)), (1, .int (i32 so)), (0, .ref 189)] rfl (fun _ => rfl) ?_
          refine T_ld 53 (.int (i32 so)) rfl (fun _ => rfl) ?_
          refine T_ld 54 (.int (i32 3)) rfl (fun _ => rfl) ?_
          refine T_icmp 62 57 rfl rfl rfl (r32 (by omega) (by omega)) ⟨by decide, by decide⟩ (fun (h252 : so = 3) => by exfalso; omega) (fun (h252 : ¬ (so = 3)) => ?_)
          refine T_ld 58 (.int (i32 so)) rfl (fun _ => rfl) ?_
          refine T_ld 59 (.int (i32 2)) rfl (fun _ => rfl) ?_
          refine T_icmp 72 62 rfl rfl rfl (r32 (by omega) (by omega)) ⟨by decide, by decide⟩ (fun (h253 : so ≠ 2) => by exfalso; omega) (fun (h253 : ¬ (so ≠ 2)) => ?_)
          refine T_ld 63 (.int (i32 so)) rfl (fun _ => rfl) ?_
          refine T_ld 64 (.int (i32 3)) rfl (fun _ => rfl) ?_
          refine T_icmp 82 67 rfl rfl rfl (r32 (by omega) (by omega)) ⟨by decide, by decide⟩ (fun (h254 : so ≠ 3) => ?_) (fun (h254 : ¬ (so ≠ 3)) => by exfalso; omega)
          refine T_ld 83 (.ref 189) rfl (fun _ => rfl) ?_
          refine T_call 86 212 [.ref 189] [] rfl (fun _ => rfl) rfl (c_next w (mO m [(7, (m.1 7)), (8, (m.1 8)), (9, (m.1 9)), (10, (m.1 10)), (11, (m.1 11)), (12, (m.1 12)), (100, 1)] []) c N D (by omega) (Ty_mO hT rfl rfl ⟨f7, f8, f9, f10, f11, f12, ⟨(by omega : (0 : Int) ≤ 1), (by omega : (1 : Int) ≤ 64)⟩, trivial⟩ trivial) (show (m.1 10) = 0 → (m.1 8) + (m.1 9) ≤ (m.1 6) by first | omega | (intro h9; have h8 := hLx h9; omega))) (fun rr255 k256 => ?_)
          obtain ⟨y257, y259, y261, y263, y265, y267, g258, g260, g262, g264, g266, g268, h269, h270, h271, h272, rfl⟩ := k256
          refine ⟨_, _, rfl, ?_⟩
          refine T_nf2 (st' := []) (l' := [(7, y257), (8, y259), (9, y261), (10, y263), (11, y265), (12, y267), (100, 1)]) (a' := []) [7, 8, 9, 10, 11, 12] [] rfl ⟨rfl, rfl, rfl, rfl, rfl, rfl, rfl, rfl, rfl, rfl, rfl, rfl, rfl, rfl, trivial⟩ trivial rfl rfl (by decide) (by decide) ?_
          by_cases hf273 : y263 = 0
          · skip
            subst hf273
            replace h269 : LxP y257 y259 y261 (m.1 6) (0 : Int) := h269
            have hLx := h269
            replace h270 : (m.1 10) = 0 := h270 rfl
            replace h271 : (m.1 8) ≤ y259 := h271
            replace h272 : (m.1 8) + (m.1 9) ≤ y259 := h272 rfl
            have u274 : (m.1 8) + 1 ≤ y259 := by omega
            clear g264
            refine T_gf 90 (.int (i32 0)) rfl rfl rfl rfl rfl rfl ?_
            refine T_if 95 93 rfl rfl rfl ⟨by decide, by decide⟩ (fun _ => ?_) (fun h275 => absurd (show (0 : Int) ≤ 0 by decide) h275)
            refine T_ld 96 (.int (i32 so)) rfl (fun _ => rfl) ?_
            refine T_ld 97 (.int (i32 3)) rfl (fun _ => rfl) ?_
            refine T_icmp 112 100 rfl rfl rfl (r32 (by omega) (by omega)) ⟨by decide, by decide⟩ (fun (h276 : so ≠ 3) => ?_) (fun (h276 : ¬ (so ≠ 3)) => by exfalso; omega)
            refine T_ld 113 (.ref 189) rfl (fun _ => rfl) ?_
            refine T_ld 115 (.int (i32 46)) rfl (fun _ => rfl) ?_
            refine T_call 118 232 [.ref 189, .int (i32 46)] [] rfl (fun _ => rfl) rfl (c_need w (mO m [(7, y257), (8, y259), (9, y261), (10, 0), (11, y265), (12, y267), (100, 1)] []) c N D (by omega) (Ty_mO hT rfl rfl ⟨g258, g260, g262, ⟨(by omega : (0 : Int) ≤ 0), (by omega : (0 : Int) ≤ 8)⟩, g266, g268, ⟨(by omega : (0 : Int) ≤ 1), (by omega : (1 : Int) ≤ 64)⟩, trivial⟩ trivial) 46 ⟨by decide, by decide⟩ (show 1 ≤ (46 : Int) by omega) (show LxP y257 y259 y261 (m.1 6) (0 : Int) by first | exact hLx | (intro h9; exfalso; omega) | (intro h9; have h8 := hLx (by omega); omega))) (fun rr277 k278 => ?_)
            obtain ⟨y279, y281, y283, y285, y287, y289, g280, g282, g284, g286, g288, g290, h291, h292, h293, h294, rfl⟩ := k278
            refine ⟨_, _, rfl, ?_⟩
            refine T_nf2 (st' := []) (l' := [(7, y279), (8, y281), (9, y283), (10, y285), (11, y287), (12, y289), (100, 1)]) (a' := []) [7, 8, 9, 10, 11, 12] [] rfl ⟨rfl, rfl, rfl, rfl, rfl, rfl, rfl, rfl, rfl, rfl, rfl, rfl, rfl, rfl, trivial⟩ trivial rfl rfl (by decide) (by decide) ?_
            by_cases hf295 : y285 = 0
            · skip
              subst hf295
              replace h291 : LxP y279 y281 y283 (m.1 6) (0 : Int) := h291
              have hLx := h291
              replace h292 : (0 : Int) = 0 ∧ y257 = (46 : Int) := h292 rfl
              replace h293 : y259 ≤ y281 := h293
              replace h294 : y259 + y261 ≤ y281 := h294 rfl
              have u296 : (m.1 8) + 1 ≤ y281 := by omega
              clear g258 g260 g262 g266 g268 h269 h271 h272 u274 g286 h292 h293 h294
              refine T_ld 119 (.ref 189) rfl (fun _ => rfl) ?_
              refine T_ld 120 (.int (i32 wi)) rfl (fun _ => rfl) ?_
              refine T_call 123 253 [.ref 189, .int (i32 wi)] [] rfl (fun _ => rfl) rfl (c_takeField w (mO m [(7, y279), (8, y281), (9, y283), (10, 0), (11, y287), (12, y289), (100, 1)] []) c N D (by omega) (Ty_mO hT rfl rfl ⟨g280, g282, g284, ⟨(by omega : (0 : Int) ≤ 0), (by omega : (0 : Int) ≤ 8)⟩, g288, g290, ⟨(by omega : (0 : Int) ≤ 1), (by omega : (1 : Int) ≤ 64)⟩, trivial⟩ trivial) wi (r32 (by omega) (by omega)) (show LxP y279 y281 y283 (m.1 6) (0 : Int) by first | exact hLx | exact (fun _ => hLx (by omega)) | (intro h9; exfalso; omega)) (show ∀ k, (m.2 31) k + (m.2 32) k ≤ 4000 by assumption) (show 0 ≤ wi ∧ wi ≤ 11 by omega) (fun _ => trivial)) (fun rr297 k298 => ?_)
              obtain ⟨m299, tf, hT300, g301, h302, h303, c304, rfl⟩ := k298
              refine ⟨_, _, rfl, ?_⟩
              refine T_nf2 (st' := [.int (i32 tf)]) (l' := [(7, (m299.1 7)), (8, (m299.1 8)), (9, (m299.1 9)), (10, (m299.1 10)), (11, (m299.1 11)), (12, (m299.1 12)), (100, 1)]) (a' := []) [7, 8, 9, 10, 11, 12] [] rfl ⟨rfl, rfl, rfl, rfl, rfl, rfl, rfl, rfl, rfl, rfl, rfl, rfl, rfl, rfl, trivial⟩ trivial rfl rfl (by decide) (by decide) ?_
              obtain ⟨g301a, g301b⟩ := g301
              have g305 : 0 ≤ m299.1 7 ∧ m299.1 7 ≤ 330 := hT300.1 7
              have g306 : 0 ≤ m299.1 8 ∧ m299.1 8 ≤ 4000 := hT300.1 8
              have g307 : 0 ≤ m299.1 9 ∧ m299.1 9 ≤ 4000 := hT300.1 9
              have g308 : 0 ≤ m299.1 10 ∧ m299.1 10 ≤ 8 := hT300.1 10
              have g309 : (-1) ≤ m299.1 11 ∧ m299.1 11 ≤ 4000 := hT300.1 11
              have g310 : (-9223372036854775808) ≤ m299.1 12 ∧ m299.1 12 ≤ 9223372036854775807 := hT300.1 12
              by_cases hf311 : (m299.1 10) = 0
              · skip
                replace h302 : (0 : Int) = 0 := h302 hf311
                replace h303 : LxP (m299.1 7) (m299.1 8) (m299.1 9) (m.1 6) (m299.1 10) := h303
                have hLx := h303
                obtain ⟨c312, c313⟩ := c304 hf311
                replace c312 : y281 + 1 ≤ (m299.1 8) := c312
                replace c313 : y279 = 1 := c313
                clear c304
                have u314 : (m.1 8) + 1 ≤ (m299.1 8) := by omega
                clear g280 g282 g284 g288 g290 h291 u296 c312 c313
                refine T_sto 124 [(3, .int (i32 tf)), (2, .int (i32 wi)), (1, .int (i32 so)), (0, .ref 189)] rfl (fun _ => rfl) ?_
                refine T_gf 128 (.int (i32 (m299.1 10))) rfl rfl rfl rfl rfl rfl ?_
                refine T_if 133 131 rfl rfl rfl (r32 (by omega) (by omega)) (fun (h315 : (m299.1 10) ≤ 0) => ?_) (fun (h315 : ¬ ((m299.1 10) ≤ 0)) => by exfalso; omega)
                refine T_ld 134 (.ref 189) rfl (fun _ => rfl) ?_
                refine T_ld 135 (.ref 189) rfl (fun _ => rfl) ?_
                refine T_ld 136 (.int (i32 tf)) rfl (fun _ => rfl) ?_
                refine T_call 139 254 [.ref 189, .int (i32 tf)] [.ref 189] rfl (fun _ => rfl) rfl (c_bitsOfField w (mO m [(7, (m299.1 7)), (8, (m299.1 8)), (9, (m299.1 9)), (10, (m299.1 10)), (11, (m299.1 11)), (12, (m299.1 12)), (100, 1)] []) c N D (by omega) (Ty_mO hT rfl rfl ⟨(hT300.1 7), (hT300.1 8), (hT300.1 9), (hT300.1 10), (hT300.1 11), (hT300.1 12), ⟨(by omega : (0 : Int) ≤ 1), (by omega : (1 : Int) ≤ 64)⟩, trivial⟩ trivial) tf (r32 (by omega) (by omega)) (show 0 ≤ tf ∧ tf ≤ 191 by omega)) (fun rr316 k317 => ?_)
                obtain ⟨x318, g319, rfl⟩ := k317
                refine ⟨_, _, rfl, ?_⟩
                refine T_nf2 (st' := [.int (i32 x318), .ref 189]) (l' := [(7, (m299.1 7)), (8, (m299.1 8)), (9, (m299.1 9)), (10, (m299.1 10)), (11, (m299.1 11)), (12, (m299.1 12)), (100, 1)]) (a' := []) [] [] rfl ⟨rfl, rfl, rfl, rfl, rfl, rfl, rfl, rfl, rfl, rfl, rfl, rfl, rfl, rfl, trivial⟩ trivial rfl rfl (by decide) (by decide) ?_
                obtain ⟨g319a, g319b⟩ := g319
                have u320 : (m.1 8) + 1 ≤ (m299.1 8) := by omega
                refine T_pf (l' := [(7, (m299.1 7)), (8, (m299.1 8)), (9, (m299.1 9)), (10, (m299.1 10)), (11, (m299.1 11)), (12, (m299.1 12)), (100, x318)]) 142 x318 rfl rfl rfl rfl rfl rfl ?_
                have g321 : 0 ≤ x318 ∧ x318 ≤ 64 := ⟨by omega, by omega⟩
                refine T_ld 144 (.int (i32 16)) rfl (fun _ => rfl) ?_
                refine T_ld 145 (.int (i32 tf)) rfl (fun _ => rfl) ?_
                refine T_iadd 146 rfl rfl ?_
                refine T_ret rfl (fun _ => rfl) ?_
                exact ⟨(mO m [(7, (m299.1 7)), (8, (m299.1 8)), (9, (m299.1 9)), (10, (m299.1 10)), (11, (m299.1 11)), (12, (m299.1 12)), (100, x318)] []), 16 + tf, (Ty_mO hT rfl rfl ⟨(hT300.1 7), (hT300.1 8), (hT300.1 9), (hT300.1 10), (hT300.1 11), (hT300.1 12), g321, trivial⟩ trivial), ⟨by omega, by omega⟩, (show (m299.1 10) = 0 → (m.1 10) = 0 by omega), (show LxP (m299.1 7) (m299.1 8) (m299.1 9) (m.1 6) (m299.1 10) by first | (first | exact hLx | exact (fun _ => hLx (by omega)) | (intro h9; exfalso; omega)) | (exfalso; omega)), (fun _ => (show (m.1 8) + 1 ≤ (m299.1 8) by omega)), rfl⟩
              · skip
                clear c304
                clear h302
                replace h303 : LxP (m299.1 7) (m299.1 8) (m299.1 9) (m.1 6) (m299.1 10) := h303
                have hLx := h303
                have hf322 : 1 ≤ (m299.1 10) := by omega
                clear g280 g282 g284 g288 g290 h291 u296
                refine Tm_lv (a := [(0, .ref 189), (1, .int (i32 so)), (2, .int (i32 wi))]) rfl rfl ⟨rfl, rfl, rfl, trivial⟩ ?_
                exact J123_19 so wi tf (mO m [(7, (m299.1 7)), (8, (m299.1 8)), (9, (m299.1 9)), (10, (m299.1 10)), (11, (m299.1 11)), (12, (m299.1 12)), (100, 1)] []) (r32 (by omega) (by omega)) (r32 (by omega) (by omega)) (r32 (by omega) (by omega)) (Ty_mO hT rfl rfl ⟨(hT300.1 7), (hT300.1 8), (hT300.1 9), (hT300.1 10), (hT300.1 11), (hT300.1 12), ⟨(by omega : (0 : Int) ≤ 1), (by omega : (1 : Int) ≤ 64)⟩, trivial⟩ trivial) (show 2 ≤ so by omega) (show so ≤ 2 by omega) (show 0 ≤ tf by omega) (show tf ≤ 191 by omega) (show 1 ≤ (m299.1 10) by omega) (show (m299.1 10) ≤ 8 by omega)
            · skip
              replace h291 : LxP y279 y281 y283 (m.1 6) y285 := h291
              have hLx := h291
              clear h292
              replace h293 : y259 ≤ y281 := h293
              clear h294
              have hf323 : 1 ≤ y285 := by omega
              clear g258 g260 g262 g266 g268 h269 h271 h272 u274 h293
              refine Tm_lv (a := [(0, .ref 189), (1, .int (i32 so)), (2, .int (i32 wi))]) rfl rfl ⟨rfl, rfl, rfl, trivial⟩ ?_
              exact J118_35 so wi (mO m [(7, y279), (8, y281), (9, y283), (10, y285), (11, y287), (12, y289), (100, 1)] []) (r32 (by omega) (by omega)) (r32 (by omega) (by omega)) (Ty_mO hT rfl rfl ⟨g280, g282, g284, g286, g288, g290, ⟨(by omega : (0 : Int) ≤ 1), (by omega : (1 : Int) ≤ 64)⟩, trivial⟩ trivial) (show 2 ≤ so by omega) (show so ≤ 2 by omega) (show 1 ≤ y285 by omega) (show y285 ≤ 8 by omega)
          · skip
            replace h269 : LxP y257 y259 y261 (m.1 6) y263 := h269
            have hLx := h269
            clear h270
            replace h271 : (m.1 8) ≤ y259 := h271
            clear h272
            have hf324 : 1 ≤ y263 := by omega
            refine Tm_lv (a := [(0, .ref 189), (1, .int (i32 so)), (2, .int (i32 wi))]) rfl rfl ⟨rfl, rfl, rfl, trivial⟩ ?_
            exact J86_62 so wi (mO m [(7, y257), (8, y259), (9, y261), (10, y263), (11, y265), (12, y267), (100, 1)] []) (r32 (by omega) (by omega)) (r32 (by omega) (by omega)) (Ty_mO hT rfl rfl ⟨g258, g260, g262, g264, g266, g268, ⟨(by omega : (0 : Int) ≤ 1), (by omega : (1 : Int) ≤ 64)⟩, trivial⟩ trivial) (show (-2147483648) ≤ so by omega) (show so ≤ 2147483647 by omega) (show 1 ≤ y263 by omega) (show y263 ≤ 8 by omega)
    · skip
      refine T_ld 23 (.ref 189) rfl (fun _ => rfl) ?_
      refine T_call 26 226 [.ref 189] [] rfl (fun _ => rfl) rfl (c_bad w (mO m [(7, (m.1 7)), (8, (m.1 8)), (9, (m.1 9)), (10, (m.1 10)), (11, (m.1 11)), (12, (m.1 12)), (100, 1)] []) c N D (by omega) (Ty_mO hT rfl rfl ⟨f7, f8, f9, f10, f11, f12, ⟨(by omega : (0 : Int) ≤ 1), (by omega : (1 : Int) ≤ 64)⟩, trivial⟩ trivial) ) (fun rr325 k326 => ?_)
      obtain ⟨y327, y329, g328, g330, h331, rfl⟩ := k326
      refine ⟨_, _, rfl, ?_⟩
      refine T_nf2 (st' := []) (l' := [(7, (m.1 7)), (8, (m.1 8)), (9, (m.1 9)), (10, y327), (11, y329), (12, (m.1 12)), (100, 1)]) (a' := []) [10, 11] [] rfl ⟨rfl, rfl, rfl, rfl, rfl, rfl, rfl, rfl, rfl, rfl, rfl, rfl, rfl, rfl, rfl, rfl, rfl, trivial⟩ trivial rfl rfl (by decide) (by decide) ?_
      replace h331 : (0 < (m.1 10) → y327 = (m.1 10) ∧ y329 = (m.1 11)) ∧ ((m.1 10) ≤ 0 → y327 = 1 ∧ y329 = (m.1 8)) := h331
      have hf332 : 1 ≤ y327 := by omega
      refine T_ld 27 (.int (i32 0)) rfl (fun _ => rfl) ?_
      refine T_ret rfl (fun _ => rfl) ?_
      exact ⟨(mO m [(7, (m.1 7)), (8, (m.1 8)), (9, (m.1 9)), (10, y327), (11, y329), (12, (m.1 12)), (100, 1)] []), 0, (Ty_mO hT rfl rfl ⟨f7, f8, f9, g328, g330, f12, ⟨(by omega : (0 : Int) ≤ 1), (by omega : (1 : Int) ≤ 64)⟩, trivial⟩ trivial), ⟨by omega, by omega⟩, (show y327 = 0 → (m.1 10) = 0 by omega), (show LxP (m.1 7) (m.1 8) (m.1 9) (m.1 6) y327 by first | (first | exact hLx | exact (fun _ => hLx (by omega)) | (intro h9; exfalso; omega)) | (exfalso; omega)), (fun (h : y327 = 0) => absurd h (by omega)), rfl⟩
  · skip
    clear hC
    refine T_ld 1 (.ref 189) rfl (fun _ => rfl) ?_
    refine T_ld 2 (.int (i32 1)) rfl (fun _ => rfl) ?_
    refine T_pf (l' := [(7, (m.1 7)), (8, (m.1 8)), (9, (m.1 9)), (10, (m.1 10)), (11, (m.1 11)), (12, (m.1 12)), (100, 1)]) 5 1 rfl rfl rfl rfl rfl rfl ?_
    refine T_gf 9 (.int (i32 (m.1 10))) rfl rfl rfl rfl rfl rfl ?_
    refine T_if 14 12 rfl rfl rfl (r32 (by omega) (by omega)) (fun (h333 : (m.1 10) ≤ 0) => by exfalso; omega) (fun (h333 : ¬ ((m.1 10) ≤ 0)) => ?_)
    refine T_ld 13 (.int (i32 0)) rfl (fun _ => rfl) ?_
    refine T_ret rfl (fun _ => rfl) ?_
    exact ⟨(mO m [(7, (m.1 7)), (8, (m.1 8)), (9, (m.1 9)), (10, (m.1 10)), (11, (m.1 11)), (12, (m.1 12)), (100, 1)] []), 0, (Ty_mO hT rfl rfl ⟨f7, f8, f9, f10, f11, f12, ⟨(by omega : (0 : Int) ≤ 1), (by omega : (1 : Int) ≤ 64)⟩, trivial⟩ trivial), ⟨by omega, by omega⟩, (show (m.1 10) = 0 → (m.1 10) = 0 by omega), (show LxP (m.1 7) (m.1 8) (m.1 9) (m.1 6) (m.1 10) by first | (first | exact hLx | exact (fun _ => hLx (by omega)) | (intro h9; exfalso; omega)) | (exfalso; omega)), (fun (h : (m.1 10) = 0) => absurd h (by omega)), rfl⟩
def Q_isStatement (m : mR) (c : Nat → Option am_C) (N : Nat) : ag_Re af_T → Prop := fun R => ∃ (r : Int), (0 ≤ r ∧ r ≤ 1) ∧ (r = 1 → (m.1 7) ≠ 0) ∧ R = (.inl (some (.int (i32 r))), (mhp (mO m [] []) c, N), 0, 0)
set_option maxHeartbeats 8000000 in
theorem c_isStatement (w : wX) (m : mR) (c : Nat → Option am_C) (N D : Nat) (hD : 1 ≤ D) (hT : Ty m) : TC w D 269 [.ref 189] (mhp m c, N) (Q_isStatement m c N) := by
  obtain ⟨D, rfl⟩ : ∃ k, D = k + 1 := ⟨D - 1, by omega⟩
  have f7 : 0 ≤ m.1 7 ∧ m.1 7 ≤ 330 := hT.1 7
  refine Tc_of rfl ?_
  show TT w D pm_269 (0, [(0, .ref 189)], [], (mhp m c, N), 0, 0) (Q_isStatement m c N)
  rw [show (mhp m c, N) = (mhp (mO m [] []) c, N) from rfl]
  refine T_gf 4 (.int (i32 (m.1 7))) rfl rfl rfl rfl rfl rfl ?_
  refine T_ld 5 (.int (i32 1)) rfl (fun _ => rfl) ?_
  refine T_icmp 58 8 rfl rfl rfl (r32 (by omega) (by omega)) ⟨by decide, by decide⟩ (fun (h1 : (m.1 7) = 1) => ?_) (fun (h1 : ¬ ((m.1 7) = 1)) => ?_)
  · skip
    refine T_ld 59 (.int (i32 1)) rfl (fun _ => rfl) ?_
    refine T_goto 63 rfl (fun _ => rfl) ?_
    refine T_ret rfl (fun _ => rfl) ?_
    exact ⟨1, ⟨by omega, by omega⟩, (show (1 : Int) = 1 → (m.1 7) ≠ 0 by omega), rfl⟩
  · skip
    refine T_gf 12 (.int (i32 (m.1 7))) rfl rfl rfl rfl rfl rfl ?_
    refine T_ld 15 (.int (i32 327)) rfl (fun _ => rfl) ?_
    refine T_icmp 58 18 rfl rfl rfl (r32 (by omega) (by omega)) ⟨by decide, by decide⟩ (fun (h2 : (m.1 7) = 327) => ?_) (fun (h2 : ¬ ((m.1 7) = 327)) => ?_)
    · skip
      refine T_ld 59 (.int (i32 1)) rfl (fun _ => rfl) ?_
      refine T_goto 63 rfl (fun _ => rfl) ?_
      refine T_ret rfl (fun _ => rfl) ?_
      exact ⟨1, ⟨by omega, by omega⟩, (show (1 : Int) = 1 → (m.1 7) ≠ 0 by omega), rfl⟩
    · skip
      refine T_gf 22 (.int (i32 (m.1 7))) rfl rfl rfl rfl rfl rfl ?_
      refine T_ld 25 (.int (i32 328)) rfl (fun _ => rfl) ?_
      refine T_icmp 58 28 rfl rfl rfl (r32 (by omega) (by omega)) ⟨by decide, by decide⟩ (fun (h3 : (m.1 7) = 328) => ?_) (fun (h3 : ¬ ((m.1 7) = 328)) => ?_)
      · skip
        refine T_ld 59 (.int (i32 1)) rfl (fun _ => rfl) ?_
        refine T_goto 63 rfl (fun _ => rfl) ?_
        refine T_ret rfl (fun _ => rfl) ?_
        exact ⟨1, ⟨by omega, by omega⟩, (show (1 : Int) = 1 → (m.1 7) ≠ 0 by omega), rfl⟩
      · skip
        refine T_gf 32 (.int (i32 (m.1 7))) rfl rfl rfl rfl rfl rfl ?_
        refine T_ld 35 (.int (i32 324)) rfl (fun _ => rfl) ?_
        refine T_icmp 58 38 rfl rfl rfl (r32 (by omega) (by omega)) ⟨by decide, by decide⟩ (fun (h4 : (m.1 7) = 324) => ?_) (fun (h4 : ¬ ((m.1 7) = 324)) => ?_)
        · skip
          refine T_ld 59 (.int (i32 1)) rfl (fun _ => rfl) ?_
          refine T_goto 63 rfl (fun _ => rfl) ?_
          refine T_ret rfl (fun _ => rfl) ?_
          exact ⟨1, ⟨by omega, by omega⟩, (show (1 : Int) = 1 → (m.1 7) ≠ 0 by omega), rfl⟩
        · skip
          refine T_gf 42 (.int (i32 (m.1 7))) rfl rfl rfl rfl rfl rfl ?_
          refine T_ld 45 (.int (i32 325)) rfl (fun _ => rfl) ?_
          refine T_icmp 58 48 rfl rfl rfl (r32 (by omega) (by omega)) ⟨by decide, by decide⟩ (fun (h5 : (m.1 7) = 325) => ?_) (fun (h5 : ¬ ((m.1 7) = 325)) => ?_)
          · skip
            refine T_ld 59 (.int (i32 1)) rfl (fun _ => rfl) ?_
            refine T_goto 63 rfl (fun _ => rfl) ?_
            refine T_ret rfl (fun _ => rfl) ?_
            exact ⟨1, ⟨by omega, by omega⟩, (show (1 : Int) = 1 → (m.1 7) ≠ 0 by omega), rfl⟩
          · skip
            refine T_gf 52 (.int (i32 (m.1 7))) rfl rfl rfl rfl rfl rfl ?_
            refine T_ld 55 (.int (i32 326)) rfl (fun _ => rfl) ?_
            refine T_icmp 62 58 rfl rfl rfl (r32 (by omega) (by omega)) ⟨by decide, by decide⟩ (fun (h6 : (m.1 7) ≠ 326) => ?_) (fun (h6 : ¬ ((m.1 7) ≠ 326)) => ?_)
            · skip
              refine T_ld 63 (.int (i32 0)) rfl (fun _ => rfl) ?_
              refine T_ret rfl (fun _ => rfl) ?_
              exact ⟨0, ⟨by omega, by omega⟩, (show (0 : Int) = 1 → (m.1 7) ≠ 0 by omega), rfl⟩
            · skip
              refine T_ld 59 (.int (i32 1)) rfl (fun _ => rfl) ?_
              refine T_goto 63 rfl (fun _ => rfl) ?_
              refine T_ret rfl (fun _ => rfl) ?_
              exact ⟨1, ⟨by omega, by omega⟩, (show (1 : Int) = 1 → (m.1 7) ≠ 0 by omega), rfl⟩
def Q_takeIndex (m : mR) (c : Nat → Option am_C) (N : Nat) (s : Int) : ag_Re af_T → Prop := fun R => ∃ (M : mR), Ty M ∧ ((M.1 10) = 0 → (m.1 10) = 0) ∧ (LxP (M.1 7) (M.1 8) (M.1 9) (m.1 6) (M.1 10)) ∧ (M.1 10 = 0 → ((m.1 8) + 1 ≤ (M.1 8)) ∧ (CN (M.2 65) (M.2 67) (M.1 28)) ∧ (agr (m.2 65) (M.2 65) (m.1 28)) ∧ ((m.1 28) ≤ (M.1 28)) ∧ (cdr (M.2 65) (M.1 28) ((M.2 105) s) ((M.2 106) s)) ∧ (agr (m.2 105) (M.2 105) s) ∧ (agr (m.2 106) (M.2 106) s)) ∧ R = (.inl (none), (mhp (mO m [(7, (M.1 7)), (8, (M.1 8)), (9, (M.1 9)), (10, (M.1 10)), (11, (M.1 11)), (12, (M.1 12)), (28, (M.1 28)), (69, (M.1 69)), (70, (M.1 70)), (71, (M.1 71)), (72, (M.1 72)), (73, (M.1 73)), (74, (M.1 74)), (75, (M.1 75))] [(65, (M.2 65)), (66, (M.2 66)), (67, (M.2 67)), (68, (M.2 68)), (76, (M.2 76)), (77, (M.2 77)), (78, (M.2 78)), (79, (M.2 79)), (80, (M.2 80)), (81, (M.2 81)), (82, (M.2 82)), (83, (M.2 83)), (84, (M.2 84)), (85, (M.2 85)), (86, (M.2 86)), (87, (M.2 87)), (88, (M.2 88)), (89, (M.2 89)), (90, (M.2 90)), (91, (M.2 91)), (92, (M.2 92)), (105, (M.2 105)), (106, (M.2 106))]) c, N), 0, 0)
set_option maxHeartbeats 8000000 in
theorem c_takeIndex (w : wX) (m : mR) (c : Nat → Option am_C) (N D : Nat) (hD : 11 ≤ D) (hT : Ty m) (s : Int) (qs : R32 s) (hLx0 : LxP (m.1 7) (m.1 8) (m.1 9) (m.1 6) (m.1 10)) (hNM0 : ∀ k, (m.2 14) k + (m.2 15) k ≤ 4000) (hFA0 : ∀ k, (m.2 31) k + (m.2 32) k ≤ 4000) (hPA0 : ∀ k, (m.2 47) k + (m.2 48) k ≤ 4000) (p4 : 0 ≤ s ∧ s ≤ 239) (hC : m.1 10 = 0 → (PN (m.1 13) (m.1 19) (m.1 20) (m.1 21) (m.1 22) (m.1 23) (m.1 25) (m.1 26) (m.2 16) (m.2 17)) ∧ (CN (m.2 65) (m.2 67) (m.1 28))) : TC w D 274 [.ref 189, .int (i32 s)] (mhp m c, N) (Q_takeIndex m c N s) := by
  obtain ⟨D, rfl⟩ : ∃ k, D = k + 1 := ⟨D - 1, by omega⟩
  obtain ⟨qsa, qsb⟩ := id qs
  have hLx := hLx0
  have hNM := hNM0
  have hFA := hFA0
  have hPA := hPA0
  have f7 : 0 ≤ m.1 7 ∧ m.1 7 ≤ 330 := hT.1 7
  have f8 : 0 ≤ m.1 8 ∧ m.1 8 ≤ 4000 := hT.1 8
  have f9 : 0 ≤ m.1 9 ∧ m.1 9 ≤ 4000 := hT.1 9
  have f10 : 0 ≤ m.1 10 ∧ m.1 10 ≤ 8 := hT.1 10
  have f11 : (-1) ≤ m.1 11 ∧ m.1 11 ≤ 4000 := hT.1 11
  have f12 : (-9223372036854775808) ≤ m.1 12 ∧ m.1 12 ≤ 9223372036854775807 := hT.1 12
  have f28 : 0 ≤ m.1 28 ∧ m.1 28 ≤ 800 := hT.1 28
  have f69 : 0 ≤ m.1 69 ∧ m.1 69 ≤ 1024 := hT.1 69
  have f70 : 0 ≤ m.1 70 ∧ m.1 70 ≤ 4000 := hT.1 70
  have f71 : 0 ≤ m.1 71 ∧ m.1 71 ≤ 1 := hT.1 71
  have f72 : (-9223372036854775808) ≤ m.1 72 ∧ m.1 72 ≤ 9223372036854775807 := hT.1 72
  have f73 : 0 ≤ m.1 73 ∧ m.1 73 ≤ 60 := hT.1 73
  have f74 : 0 ≤ m.1 74 ∧ m.1 74 ≤ 24 := hT.1 74
  have f75 : 0 ≤ m.1 75 ∧ m.1 75 ≤ 3 := hT.1 75
  have f25 : 0 ≤ m.1 25 ∧ m.1 25 ≤ 16 := hT.1 25
  have f22 : 0 ≤ m.1 22 ∧ m.1 22 ≤ 8 := hT.1 22
  have f19 : 0 ≤ m.1 19 ∧ m.1 19 ≤ 12 := hT.1 19
  have f20 : 0 ≤ m.1 20 ∧ m.1 20 ≤ 12 := hT.1 20
  have f21 : 0 ≤ m.1 21 ∧ m.1 21 ≤ 16 := hT.1 21
  have f13 : 0 ≤ m.1 13 ∧ m.1 13 ≤ 120 := hT.1 13
  have f6 : 0 ≤ m.1 6 ∧ m.1 6 ≤ 4000 := hT.1 6
  have f23 : 0 ≤ m.1 23 ∧ m.1 23 ≤ 16 := hT.1 23
  have f26 : 0 ≤ m.1 26 ∧ m.1 26 ≤ 8 := hT.1 26
  refine Tc_of rfl ?_
  show TT w D pm_274 (0, [(0, .ref 189), (1, .int (i32 s))], [], (mhp m c, N), 0, 0) (Q_takeIndex m c N s)
  rw [show (mhp m c, N) = (mhp (mO m [(7, (m.1 7)), (8, (m.1 8)), (9, (m.1 9)), (10, (m.1 10)), (11, (m.1 11)), (12, (m.1 12)), (28, (m.1 28)), (69, (m.1 69)), (70, (m.1 70)), (71, (m.1 71)), (72, (m.1 72)), (73, (m.1 73)), (74, (m.1 74)), (75, (m.1 75))] [(65, (m.2 65)), (66, (m.2 66)), (67, (m.2 67)), (68, (m.2 68)), (76, (m.2 76)), (77, (m.2 77)), (78, (m.2 78)), (79, (m.2 79)), (80, (m.2 80)), (81, (m.2 81)), (82, (m.2 82)), (83, (m.2 83)), (84, (m.2 84)), (85, (m.2 85)), (86, (m.2 86)), (87, (m.2 87)), (88, (m.2 88)), (89, (m.2 89)), (90, (m.2 90)), (91, (m.2 91)), (92, (m.2 92)), (105, (m.2 105)), (106, (m.2 106))]) c, N) from congrArg (fun M => (mhp M c, N)) (mO_pad m [7, 8, 9, 10, 11, 12, 28, 69, 70, 71, 72, 73, 74, 75] [65, 66, 67, 68, 76, 77, 78, 79, 80, 81, 82, 83, 84, 85, 86, 87, 88, 89, 90, 91, 92, 105, 106])]
  by_cases hf0 : m.1 10 = 0
  · skip
    obtain ⟨pPN, hCN⟩ := hC hf0
    have h7 := hLx (by omega)
    have J43_5 : ∀ (m4 : mR), (Ty m4) → (1 ≤ (m4.1 10)) → ((m4.1 10) ≤ 8) → TT w D pm_274 (43, [(0, .ref 189), (1, .int (i32 s))], [], (mhp (mO m [(7, (m4.1 7)), (8, (m4.1 8)), (9, (m4.1 9)), (10, (m4.1 10)), (11, (m4.1 11)), (12, (m4.1 12)), (28, (m4.1 28)), (69, (m4.1 69)), (70, (m4.1 70)), (71, (m4.1 71)), (72, (m4.1 72)), (73, (m4.1 73)), (74, (m4.1 74)), (75, (m4.1 75))] [(65, (m4.2 65)), (66, (m4.2 66)), (67, (m4.2 67)), (68, (m4.2 68)), (76, (m4.2 76)), (77, (m4.2 77)), (78, (m4.2 78)), (79, (m4.2 79)), (80, (m4.2 80)), (81, (m4.2 81)), (82, (m4.2 82)), (83, (m4.2 83)), (84, (m4.2 84)), (85, (m4.2 85)), (86, (m4.2 86)), (87, (m4.2 87)), (88, (m4.2 88)), (89, (m4.2 89)), (90, (m4.2 90)), (91, (m4.2 91)), (92, (m4.2 92)), (105, (m4.2 105)), (106, (m4.2 106))]) c, N), 0, 0) (Q_takeIndex m c N s) := by
      intro m4 q6 ic7 ic8
      have q6_7 : 0 ≤ m4.1 7 ∧ m4.1 7 ≤ 330 := q6.1 7
      have q6_8 : 0 ≤ m4.1 8 ∧ m4.1 8 ≤ 4000 := q6.1 8
      have q6_9 : 0 ≤ m4.1 9 ∧ m4.1 9 ≤ 4000 := q6.1 9
      have q6_10 : 0 ≤ m4.1 10 ∧ m4.1 10 ≤ 8 := q6.1 10
      have q6_11 : (-1) ≤ m4.1 11 ∧ m4.1 11 ≤ 4000 := q6.1 11
      have q6_12 : (-9223372036854775808) ≤ m4.1 12 ∧ m4.1 12 ≤ 9223372036854775807 := q6.1 12
      have q6_28 : 0 ≤ m4.1 28 ∧ m4.1 28 ≤ 800 := q6.1 28
      have q6_69 : 0 ≤ m4.1 69 ∧ m4.1 69 ≤ 1024 := q6.1 69
      have q6_70 : 0 ≤ m4.1 70 ∧ m4.1 70 ≤ 4000 := q6.1 70
      have q6_71 : 0 ≤ m4.1 71 ∧ m4.1 71 ≤ 1 := q6.1 71
      have q6_72 : (-9223372036854775808) ≤ m4.1 72 ∧ m4.1 72 ≤ 9223372036854775807 := q6.1 72
      have q6_73 : 0 ≤ m4.1 73 ∧ m4.1 73 ≤ 60 := q6.1 73
      have q6_74 : 0 ≤ m4.1 74 ∧ m4.1 74 ≤ 24 := q6.1 74
      have q6_75 : 0 ≤ m4.1 75 ∧ m4.1 75 ≤ 3 := q6.1 75
      refine T_ret rfl (fun _ => rfl) ?_
      exact ⟨(mO m [(7, (m4.1 7)), (8, (m4.1 8)), (9, (m4.1 9)), (10, (m4.1 10)), (11, (m4.1 11)), (12, (m4.1 12)), (28, (m4.1 28)), (69, (m4.1 69)), (70, (m4.1 70)), (71, (m4.1 71)), (72, (m4.1 72)), (73, (m4.1 73)), (74, (m4.1 74)), (75, (m4.1 75))] [(65, (m4.2 65)), (66, (m4.2 66)), (67, (m4.2 67)), (68, (m4.2 68)), (76, (m4.2 76)), (77, (m4.2 77)), (78, (m4.2 78)), (79, (m4.2 79)), (80, (m4.2 80)), (81, (m4.2 81)), (82, (m4.2 82)), (83, (m4.2 83)), (84, (m4.2 84)), (85, (m4.2 85)), (86, (m4.2 86)), (87, (m4.2 87)), (88, (m4.2 88)), (89, (m4.2 89)), (90, (m4.2 90)), (91, (m4.2 91)), (92, (m4.2 92)), (105, (m4.2 105)), (106, (m4.2 106))]), (Ty_mO hT rfl rfl ⟨(q6.1 7), (q6.1 8), (q6.1 9), (q6.1 10), (q6.1 11), (q6.1 12), (q6.1 28), (q6.1 69), (q6.1 70), (q6.1 71), (q6.1 72), (q6.1 73), (q6.1 74), (q6.1 75), trivial⟩ ⟨(q6.2.1 65), (q6.2.1 66), (q6.2.1 67), (q6.2.1 68), (q6.2.1 76), (q6.2.1 77), (q6.2.1 78), (q6.2.1 79), (q6.2.1 80), (q6.2.1 81), (q6.2.1 82), (q6.2.1 83), (q6.2.1 84), (q6.2.1 85), (q6.2.1 86), (q6.2.1 87), (q6.2.1 88), (q6.2.1 89), (q6.2.1 90), (q6.2.1 91), (q6.2.1 92), (q6.2.1 105), (q6.2.1 106), trivial⟩), (show (m4.1 10) = 0 → (m.1 10) = 0 by omega), (show LxP (m4.1 7) (m4.1 8) (m4.1 9) (m.1 6) (m4.1 10) by first | (first | exact hLx | exact (fun _ => hLx (by omega)) | (intro h9; exfalso; omega)) | (exfalso; omega)), (fun (h : (m4.1 10) = 0) => absurd h (by omega)), rfl⟩
    refine T_ld 1 (.ref 189) rfl (fun _ => rfl) ?_
    refine T_ld 3 (.int (i32 91)) rfl (fun _ => rfl) ?_
    refine T_call 6 232 [.ref 189, .int (i32 91)] [] rfl (fun _ => rfl) rfl (c_need w (mO m [(7, (m.1 7)), (8, (m.1 8)), (9, (m.1 9)), (10, (m.1 10)), (11, (m.1 11)), (12, (m.1 12)), (28, (m.1 28)), (69, (m.1 69)), (70, (m.1 70)), (71, (m.1 71)), (72, (m.1 72)), (73, (m.1 73)), (74, (m.1 74)), (75, (m.1 75))] [(65, (m.2 65)), (66, (m.2 66)), (67, (m.2 67)), (68, (m.2 68)), (76, (m.2 76)), (77, (m.2 77)), (78, (m.2 78)), (79, (m.2 79)), (80, (m.2 80)), (81, (m.2 81)), (82, (m.2 82)), (83, (m.2 83)), (84, (m.2 84)), (85, (m.2 85)), (86, (m.2 86)), (87, (m.2 87)), (88, (m.2 88)), (89, (m.2 89)), (90, (m.2 90)), (91, (m.2 91)), (92, (m.2 92)), (105, (m.2 105)), (106, (m.2 106))]) c N D (by omega) (Ty_mO hT rfl rfl ⟨f7, f8, f9, f10, f11, f12, f28, f69, f70, f71, f72, f73, f74, f75, trivial⟩ ⟨(hT.2.1 65), (hT.2.1 66), (hT.2.1 67), (hT.2.1 68), (hT.2.1 76), (hT.2.1 77), (hT.2.1 78), (hT.2.1 79), (hT.2.1 80), (hT.2.1 81), (hT.2.1 82), (hT.2.1 83), (hT.2.1 84), (hT.2.1 85), (hT.2.1 86), (hT.2.1 87), (hT.2.1 88), (hT.2.1 89), (hT.2.1 90), (hT.2.1 91), (hT.2.1 92), (hT.2.1 105), (hT.2.1 106), trivial⟩) 91 ⟨by decide, by decide⟩ (show 1 ≤ (91 : Int) by omega) (show LxP (m.1 7) (m.1 8) (m.1 9) (m.1 6) (m.1 10) by first | exact hLx | (intro h9; exfalso; omega) | (intro h9; have h8 := hLx (by omega); omega))) (fun rr10 k11 => ?_)
    obtain ⟨y12, y14, y16, y18, y20, y22, g13, g15, g17, g19, g21, g23, h24, h25, h26, h27, rfl⟩ := k11
    refine ⟨_, _, rfl, ?_⟩
    refine T_nf2 (st' := []) (l' := [(7, y12), (8, y14), (9, y16), (10, y18), (11, y20), (12, y22), (28, (m.1 28)), (69, (m.1 69)), (70, (m.1 70)), (71, (m.1 71)), (72, (m.1 72)), (73, (m.1 73)), (74, (m.1 74)), (75, (m.1 75))]) (a' := [(65, (m.2 65)), (66, (m.2 66)), (67, (m.2 67)), (68, (m.2 68)), (76, (m.2 76)), (77, (m.2 77)), (78, (m.2 78)), (79, (m.2 79)), (80, (m.2 80)), (81, (m.2 81)), (82, (m.2 82)), (83, (m.2 83)), (84, (m.2 84)), (85, (m.2 85)), (86, (m.2 86)), (87, (m.2 87)), (88, (m.2 88)), (89, (m.2 89)), (90, (m.2 90)), (91, (m.2 91)), (92, (m.2 92)), (105, (m.2 105)), (106, (m.2 106))]) [7, 8, 9, 10, 11, 12] [] rfl ⟨rfl, rfl, rfl, rfl, rfl, rfl, rfl, rfl, rfl, rfl, rfl, rfl, rfl, rfl, rfl, rfl, rfl, rfl, rfl, rfl, rfl, rfl, rfl, rfl, rfl, rfl, rfl, rfl, trivial⟩ ⟨rfl, rfl, rfl, rfl, rfl, rfl, rfl, rfl, rfl, rfl, rfl, rfl, rfl, rfl, rfl, rfl, rfl, rfl, rfl, rfl, rfl, rfl, rfl, rfl, rfl, rfl, rfl, rfl, rfl, rfl, rfl, rfl, rfl, rfl, rfl, rfl, rfl, rfl, rfl, rfl, rfl, rfl, rfl, rfl, rfl, rfl, trivial⟩ rfl rfl (by decide) (by decide) ?_
    by_cases hf28 : y18 = 0
    · skip
      subst hf28
      replace h24 : LxP y12 y14 y16 (m.1 6) (0 : Int) := h24
      have hLx := h24
      replace h25 : (m.1 10) = 0 ∧ (m.1 7) = (91 : Int) := h25 rfl
      replace h26 : (m.1 8) ≤ y14 := h26
      replace h27 : (m.1 8) + (m.1 9) ≤ y14 := h27 rfl
      have u29 : (m.1 8) + 1 ≤ y14 := by omega
      clear g19
      refine T_gf 10 (.ref 265) rfl rfl rfl rfl rfl rfl ?_
      refine T_ld 11 (.int (i32 s)) rfl (fun _ => rfl) ?_
      refine T_gf 15 (.int (i32 (m.1 28))) rfl rfl rfl rfl rfl rfl ?_
      have G30 : ∀ j, 0 ≤ (upI (m.2 105) s (m.1 28)) j ∧ (upI (m.2 105) s (m.1 28)) j ≤ 800 := upI_rg (hT.2.1 105) ⟨by omega, by omega⟩
      refine T_iast (a' := [(65, (m.2 65)), (66, (m.2 66)), (67, (m.2 67)), (68, (m.2 68)), (76, (m.2 76)), (77, (m.2 77)), (78, (m.2 78)), (79, (m.2 79)), (80, (m.2 80)), (81, (m.2 81)), (82, (m.2 82)), (83, (m.2 83)), (84, (m.2 84)), (85, (m.2 85)), (86, (m.2 86)), (87, (m.2 87)), (88, (m.2 88)), (89, (m.2 89)), (90, (m.2 90)), (91, (m.2 91)), (92, (m.2 92)), (105, upI (m.2 105) s (m.1 28)), (106, (m.2 106))]) 16 105 (m.2 105) rfl rfl rfl (by omega) (show s < (240 : Int) by omega) rfl rfl ?_
      refine T_gf 20 (.int (i32 0)) rfl rfl rfl rfl rfl rfl ?_
      refine T_if 27 23 rfl rfl rfl ⟨by decide, by decide⟩ (fun h31 => absurd (show (0 : Int) ≠ 0 from h31) (by decide)) (fun _ => ?_)
      refine T_ld 24 (.ref 189) rfl (fun _ => rfl) ?_
      refine T_call 27 244 [.ref 189] [] rfl (fun _ => rfl) rfl (c_readExpr w (mO m [(7, y12), (8, y14), (9, y16), (10, 0), (11, y20), (12, y22), (28, (m.1 28)), (69, (m.1 69)), (70, (m.1 70)), (71, (m.1 71)), (72, (m.1 72)), (73, (m.1 73)), (74, (m.1 74)), (75, (m.1 75))] [(65, (m.2 65)), (66, (m.2 66)), (67, (m.2 67)), (68, (m.2 68)), (76, (m.2 76)), (77, (m.2 77)), (78, (m.2 78)), (79, (m.2 79)), (80, (m.2 80)), (81, (m.2 81)), (82, (m.2 82)), (83, (m.2 83)), (84, (m.2 84)), (85, (m.2 85)), (86, (m.2 86)), (87, (m.2 87)), (88, (m.2 88)), (89, (m.2 89)), (90, (m.2 90)), (91, (m.2 91)), (92, (m.2 92)), (105, upI (m.2 105) s (m.1 28)), (106, (m.2 106))]) c N D (by omega) (Ty_mO hT rfl rfl ⟨g13, g15, g17, ⟨(by omega : (0 : Int) ≤ 0), (by omega : (0 : Int) ≤ 8)⟩, g21, g23, f28, f69, f70, f71, f72, f73, f74, f75, trivial⟩ ⟨(hT.2.1 65), (hT.2.1 66), (hT.2.1 67), (hT.2.1 68), (hT.2.1 76), (hT.2.1 77), (hT.2.1 78), (hT.2.1 79), (hT.2.1 80), (hT.2.1 81), (hT.2.1 82), (hT.2.1 83), (hT.2.1 84), (hT.2.1 85), (hT.2.1 86), (hT.2.1 87), (hT.2.1 88), (hT.2.1 89), (hT.2.1 90), (hT.2.1 91), (hT.2.1 92), G30, (hT.2.1 106), trivial⟩) (show LxP y12 y14 y16 (m.1 6) (0 : Int) by first | exact hLx | exact (fun _ => hLx (by omega)) | (intro h9; exfalso; omega)) (show ∀ k, (m.2 14) k + (m.2 15) k ≤ 4000 by assumption) (show ∀ k, (m.2 31) k + (m.2 32) k ≤ 4000 by assumption) (show ∀ k, (m.2 47) k + (m.2 48) k ≤ 4000 by assumption) (fun _ => ⟨(show PN (m.1 13) (m.1 19) (m.1 20) (m.1 21) (m.1 22) (m.1 23) (m.1 25) (m.1 26) (m.2 16) (m.2 17) by assumption), (show CN (m.2 65) (m.2 67) (m.1 28) by assumption)⟩)) (fun rr32 k33 => ?_)
      obtain ⟨m34, hT35, h36, h37, c38, rfl⟩ := k33
      refine ⟨_, _, rfl, ?_⟩
      refine T_nf2 (st' := []) (l' := [(7, (m34.1 7)), (8, (m34.1 8)), (9, (m34.1 9)), (10, (m34.1 10)), (11, (m34.1 11)), (12, (m34.1 12)), (28, (m34.1 28)), (69, (m34.1 69)), (70, (m34.1 70)), (71, (m34.1 71)), (72, (m34.1 72)), (73, (m34.1 73)), (74, (m34.1 74)), (75, (m34.1 75))]) (a' := [(65, (m34.2 65)), (66, (m34.2 66)), (67, (m34.2 67)), (68, (m34.2 68)), (76, (m34.2 76)), (77, (m34.2 77)), (78, (m34.2 78)), (79, (m34.2 79)), (80, (m34.2 80)), (81, (m34.2 81)), (82, (m34.2 82)), (83, (m34.2 83)), (84, (m34.2 84)), (85, (m34.2 85)), (86, (m34.2 86)), (87, (m34.2 87)), (88, (m34.2 88)), (89, (m34.2 89)), (90, (m34.2 90)), (91, (m34.2 91)), (92, (m34.2 92)), (105, upI (m.2 105) s (m.1 28)), (106, (m.2 106))]) [7, 8, 9, 10, 11, 12, 28, 69, 70, 71, 72, 73, 74, 75] [65, 66, 67, 68, 76, 77, 78, 79, 80, 81, 82, 83, 84, 85, 86, 87, 88, 89, 90, 91, 92] rfl ⟨rfl, rfl, rfl, rfl, rfl, rfl, rfl, rfl, rfl, rfl, rfl, rfl, rfl, rfl, rfl, rfl, rfl, rfl, rfl, rfl, rfl, rfl, rfl, rfl, rfl, rfl, rfl, rfl, trivial⟩ ⟨rfl, rfl, rfl, rfl, rfl, rfl, rfl, rfl, rfl, rfl, rfl, rfl, rfl, rfl, rfl, rfl, rfl, rfl, rfl, rfl, rfl, rfl, rfl, rfl, rfl, rfl, rfl, rfl, rfl, rfl, rfl, rfl, rfl, rfl, rfl, rfl, rfl, rfl, rfl, rfl, rfl, rfl, rfl, rfl, rfl, rfl, trivial⟩ rfl rfl (by decide) (by decide) ?_
      have g39 : 0 ≤ m34.1 7 ∧ m34.1 7 ≤ 330 := hT35.1 7
      have g40 : 0 ≤ m34.1 8 ∧ m34.1 8 ≤ 4000 := hT35.1 8
      have g41 : 0 ≤ m34.1 9 ∧ m34.1 9 ≤ 4000 := hT35.1 9
      have g42 : 0 ≤ m34.1 10 ∧ m34.1 10 ≤ 8 := hT35.1 10
      have g43 : (-1) ≤ m34.1 11 ∧ m34.1 11 ≤ 4000 := hT35.1 11
      have g44 : (-9223372036854775808) ≤ m34.1 12 ∧ m34.1 12 ≤ 9223372036854775807 := hT35.1 12
      have g45 : 0 ≤ m34.1 28 ∧ m34.1 28 ≤ 800 := hT35.1 28
      have g46 : 0 ≤ m34.1 69 ∧ m34.1 69 ≤ 1024 := hT35.1 69
      have g47 : 0 ≤ m34.1 70 ∧ m34.1 70 ≤ 4000 := hT35.1 70
      have g48 : 0 ≤ m34.1 71 ∧ m34.1 71 ≤ 1 := hT35.1 71
      have g49 : (-9223372036854775808) ≤ m34.1 72 ∧ m34.1 72 ≤ 9223372036854775807 := hT35.1 72
      have g50 : 0 ≤ m34.1 73 ∧ m34.1 73 ≤ 60 := hT35.1 73
      have g51 : 0 ≤ m34.1 74 ∧ m34.1 74 ≤ 24 := hT35.1 74
      have g52 : 0 ≤ m34.1 75 ∧ m34.1 75 ≤ 3 := hT35.1 75
      by_cases hf53 : (m34.1 10) = 0
      · skip
        replace h36 : (0 : Int) = 0 := h36 hf53
        replace h37 : LxP (m34.1 7) (m34.1 8) (m34.1 9) (m.1 6) (m34.1 10) := h37
        have hLx := h37
        obtain ⟨c54, c55, c56, c57, c58, c59⟩ := c38 hf53
        replace c54 : y14 + 1 ≤ (m34.1 8) := c54
        replace c55 : (m34.1 69) ≤ 64 := c55
        replace c56 : (m.1 28) ≤ (m34.1 28) := c56
        replace c57 : okc (m34.2 65) (m.1 28) (m34.1 28) := c57
        have hOk := c57
        replace c58 : CN (m34.2 65) (m34.2 67) (m34.1 28) := c58
        have hCN := c58
        replace c59 : agr (m.2 65) (m34.2 65) (m.1 28) := c59
        have hAg := c59
        clear c38
        have u60 : (m.1 8) + 1 ≤ (m34.1 8) := by omega
        have u61 : (m.1 28) ≤ (m34.1 28) := by omega
        clear g13 g15 g17 g21 g23 h24 h26 h27 u29 c54
        refine T_gf 31 (.ref 266) rfl rfl rfl rfl rfl rfl ?_
        refine T_ld 32 (.int (i32 s)) rfl (fun _ => rfl) ?_
        refine T_gf 36 (.int (i32 (m34.1 28))) rfl rfl rfl rfl rfl rfl ?_
        have G62 : ∀ j, 0 ≤ (upI (m.2 106) s (m34.1 28)) j ∧ (upI (m.2 106) s (m34.1 28)) j ≤ 800 := upI_rg (hT.2.1 106) ⟨by omega, by omega⟩
        refine T_iast (a' := [(65, (m34.2 65)), (66, (m34.2 66)), (67, (m34.2 67)), (68, (m34.2 68)), (76, (m34.2 76)), (77, (m34.2 77)), (78, (m34.2 78)), (79, (m34.2 79)), (80, (m34.2 80)), (81, (m34.2 81)), (82, (m34.2 82)), (83, (m34.2 83)), (84, (m34.2 84)), (85, (m34.2 85)), (86, (m34.2 86)), (87, (m34.2 87)), (88, (m34.2 88)), (89, (m34.2 89)), (90, (m34.2 90)), (91, (m34.2 91)), (92, (m34.2 92)), (105, upI (m.2 105) s (m.1 28)), (106, upI (m.2 106) s (m34.1 28))]) 37 106 (m.2 106) rfl rfl rfl (by omega) (show s < (240 : Int) by omega) rfl rfl ?_
        refine T_ld 38 (.ref 189) rfl (fun _ => rfl) ?_
        refine T_ld 40 (.int (i32 93)) rfl (fun _ => rfl) ?_
        refine T_call 43 232 [.ref 189, .int (i32 93)] [] rfl (fun _ => rfl) rfl (c_need w (mO m [(7, (m34.1 7)), (8, (m34.1 8)), (9, (m34.1 9)), (10, (m34.1 10)), (11, (m34.1 11)), (12, (m34.1 12)), (28, (m34.1 28)), (69, (m34.1 69)), (70, (m34.1 70)), (71, (m34.1 71)), (72, (m34.1 72)), (73, (m34.1 73)), (74, (m34.1 74)), (75, (m34.1 75))] [(65, (m34.2 65)), (66, (m34.2 66)), (67, (m34.2 67)), (68, (m34.2 68)), (76, (m34.2 76)), (77, (m34.2 77)), (78, (m34.2 78)), (79, (m34.2 79)), (80, (m34.2 80)), (81, (m34.2 81)), (82, (m34.2 82)), (83, (m34.2 83)), (84, (m34.2 84)), (85, (m34.2 85)), (86, (m34.2 86)), (87, (m34.2 87)), (88, (m34.2 88)), (89, (m34.2 89)), (90, (m34.2 90)), (91, (m34.2 91)), (92, (m34.2 92)), (105, upI (m.2 105) s (m.1 28)), (106, upI (m.2 106) s (m34.1 28))]) c N D (by omega) (Ty_mO hT rfl rfl ⟨(hT35.1 7), (hT35.1 8), (hT35.1 9), (hT35.1 10), (hT35.1 11), (hT35.1 12), (hT35.1 28), (hT35.1 69), (hT35.1 70), (hT35.1 71), (hT35.1 72), (hT35.1 73), (hT35.1 74), (hT35.1 75), trivial⟩ ⟨(hT35.2.1 65), (hT35.2.1 66), (hT35.2.1 67), (hT35.2.1 68), (hT35.2.1 76), (hT35.2.1 77), (hT35.2.1 78), (hT35.2.1 79), (hT35.2.1 80), (hT35.2.1 81), (hT35.2.1 82), (hT35.2.1 83), (hT35.2.1 84), (hT35.2.1 85), (hT35.2.1 86), (hT35.2.1 87), (hT35.2.1 88), (hT35.2.1 89), (hT35.2.1 90), (hT35.2.1 91), (hT35.2.1 92), G30, G62, trivial⟩) 93 ⟨by decide, by decide⟩ (show 1 ≤ (93 : Int) by omega) (show LxP (m34.1 7) (m34.1 8) (m34.1 9) (m.1 6) (m34.1 10) by first | exact hLx | (intro h9; exfalso; omega) | (intro h9; have h8 := hLx (by omega); omega))) (fun rr63 k64 => ?_)
        obtain ⟨y65, y67, y69, y71, y73, y75, g66, g68, g70, g72, g74, g76, h77, h78, h79, h80, rfl⟩ := k64
        refine ⟨_, _, rfl, ?_⟩
        refine T_nf2 (st' := []) (l' := [(7, y65), (8, y67), (9, y69), (10, y71), (11, y73), (12, y75), (28, (m34.1 28)), (69, (m34.1 69)), (70, (m34.1 70)), (71, (m34.1 71)), (72, (m34.1 72)), (73, (m34.1 73)), (74, (m34.1 74)), (75, (m34.1 75))]) (a' := [(65, (m34.2 65)), (66, (m34.2 66)), (67, (m34.2 67)), (68, (m34.2 68)), (76, (m34.2 76)), (77, (m34.2 77)), (78, (m34.2 78)), (79, (m34.2 79)), (80, (m34.2 80)), (81, (m34.2 81)), (82, (m34.2 82)), (83, (m34.2 83)), (84, (m34.2 84)), (85, (m34.2 85)), (86, (m34.2 86)), (87, (m34.2 87)), (88, (m34.2 88)), (89, (m34.2 89)), (90, (m34.2 90)), (91, (m34.2 91)), (92, (m34.2 92)), (105, upI (m.2 105) s (m.1 28)), (106, upI (m.2 106) s (m34.1 28))]) [7, 8, 9, 10, 11, 12] [] rfl ⟨rfl, rfl, rfl, rfl, rfl, rfl, rfl, rfl, rfl, rfl, rfl, rfl, rfl, rfl, rfl, rfl, rfl, rfl, rfl, rfl, rfl, rfl, rfl, rfl, rfl, rfl, rfl, rfl, trivial⟩ ⟨rfl, rfl, rfl, rfl, rfl, rfl, rfl, rfl, rfl, rfl, rfl, rfl, rfl, rfl, rfl, rfl, rfl, rfl, rfl, rfl, rfl, rfl, rfl, rfl, rfl, rfl, rfl, rfl, rfl, rfl, rfl, rfl, rfl, rfl, rfl, rfl, rfl, rfl, rfl, rfl, rfl, rfl, rfl, rfl, rfl, rfl, trivial⟩ rfl rfl (by decide) (by decide) ?_
        by_cases hf81 : y71 = 0
        · skip
          subst hf81
          replace h77 : LxP y65 y67 y69 (m.1 6) (0 : Int) := h77
          have hLx := h77
          replace h78 : (m34.1 10) = 0 ∧ (m34.1 7) = (93 : Int) := h78 rfl
          replace h79 : (m34.1 8) ≤ y67 := h79
          replace h80 : (m34.1 8) + (m34.1 9) ≤ y67 := h80 rfl
          have u82 : (m.1 8) + 1 ≤ y67 := by omega
          have u83 : (m.1 28) ≤ (m34.1 28) := by omega
          clear g39 g40 g41 g42 g43 g44 h37 u60 g72 h78 h79 h80
          refine T_ret rfl (fun _ => rfl) ?_
          exact ⟨(mO m [(7, y65), (8, y67), (9, y69), (10, 0), (11, y73), (12, y75), (28, (m34.1 28)), (69, (m34.1 69)), (70, (m34.1 70)), (71, (m34.1 71)), (72, (m34.1 72)), (73, (m34.1 73)), (74, (m34.1 74)), (75, (m34.1 75))] [(65, (m34.2 65)), (66, (m34.2 66)), (67, (m34.2 67)), (68, (m34.2 68)), (76, (m34.2 76)), (77, (m34.2 77)), (78, (m34.2 78)), (79, (m34.2 79)), (80, (m34.2 80)), (81, (m34.2 81)), (82, (m34.2 82)), (83, (m34.2 83)), (84, (m34.2 84)), (85, (m34.2 85)), (86, (m34.2 86)), (87, (m34.2 87)), (88, (m34.2 88)), (89, (m34.2 89)), (90, (m34.2 90)), (91, (m34.2 91)), (92, (m34.2 92)), (105, upI (m.2 105) s (m.1 28)), (106, upI (m.2 106) s (m34.1 28))]), (Ty_mO hT rfl rfl ⟨g66, g68, g70, ⟨(by omega : (0 : Int) ≤ 0), (by omega : (0 : Int) ≤ 8)⟩, g74, g76, (hT35.1 28), (hT35.1 69), (hT35.1 70), (hT35.1 71), (hT35.1 72), (hT35.1 73), (hT35.1 74), (hT35.1 75), trivial⟩ ⟨(hT35.2.1 65), (hT35.2.1 66), (hT35.2.1 67), (hT35.2.1 68), (hT35.2.1 76), (hT35.2.1 77), (hT35.2.1 78), (hT35.2.1 79), (hT35.2.1 80), (hT35.2.1 81), (hT35.2.1 82), (hT35.2.1 83), (hT35.2.1 84), (hT35.2.1 85), (hT35.2.1 86), (hT35.2.1 87), (hT35.2.1 88), (hT35.2.1 89), (hT35.2.1 90), (hT35.2.1 91), (hT35.2.1 92), G30, G62, trivial⟩), (show (0 : Int) = 0 → (m.1 10) = 0 by omega), (show LxP y65 y67 y69 (m.1 6) (0 : Int) by first | (first | exact hLx | exact (fun _ => hLx (by omega)) | (intro h9; exfalso; omega)) | (exfalso; omega)), (fun _ => ⟨(show (m.1 8) + 1 ≤ y67 by omega), (show CN (m34.2 65) (m34.2 67) (m34.1 28) by first | (exact hCN) | (exfalso; omega)), (show agr (m.2 65) (m34.2 65) (m.1 28) by first | (exact hAg) | (exfalso; omega)), (show (m.1 28) ≤ (m34.1 28) by omega), (show cdr (m34.2 65) (m34.1 28) ((upI (m.2 105) s (m.1 28)) s) ((upI (m.2 106) s (m34.1 28)) s) by first | (rw [upI_s, upI_s]; exact ⟨hOk, by omega⟩) | (exfalso; omega)), (show agr (m.2 105) (upI (m.2 105) s (m.1 28)) s by first | (exact agr_u (Int.le_refl _)) | (exfalso; omega)), (show agr (m.2 106) (upI (m.2 106) s (m34.1 28)) s by first | (exact agr_u (Int.le_refl _)) | (exfalso; omega))⟩), rfl⟩
        · skip
          replace h77 : LxP y65 y67 y69 (m.1 6) y71 := h77
          have hLx := h77
          clear h78
          replace h79 : (m34.1 8) ≤ y67 := h79
          clear h80
          have hf84 : 1 ≤ y71 := by omega
          clear g39 g40 g41 g42 g43 g44 h37 u60 h79
          exact J43_5 (mO m [(7, y65), (8, y67), (9, y69), (10, y71), (11, y73), (12, y75), (28, (m34.1 28)), (69, (m34.1 69)), (70, (m34.1 70)), (71, (m34.1 71)), (72, (m34.1 72)), (73, (m34.1 73)), (74, (m34.1 74)), (75, (m34.1 75))] [(65, (m34.2 65)), (66, (m34.2 66)), (67, (m34.2 67)), (68, (m34.2 68)), (76, (m34.2 76)), (77, (m34.2 77)), (78, (m34.2 78)), (79, (m34.2 79)), (80, (m34.2 80)), (81, (m34.2 81)), (82, (m34.2 82)), (83, (m34.2 83)), (84, (m34.2 84)), (85, (m34.2 85)), (86, (m34.2 86)), (87, (m34.2 87)), (88, (m34.2 88)), (89, (m34.2 89)), (90, (m34.2 90)), (91, (m34.2 91)), (92, (m34.2 92)), (105, upI (m.2 105) s (m.1 28)), (106, upI (m.2 106) s (m34.1 28))]) (Ty_mO hT rfl rfl ⟨g66, g68, g70, g72, g74, g76, (hT35.1 28), (hT35.1 69), (hT35.1 70), (hT35.1 71), (hT35.1 72), (hT35.1 73), (hT35.1 74), (hT35.1 75), trivial⟩ ⟨(hT35.2.1 65), (hT35.2.1 66), (hT35.2.1 67), (hT35.2.1 68), (hT35.2.1 76), (hT35.2.1 77), (hT35.2.1 78), (hT35.2.1 79), (hT35.2.1 80), (hT35.2.1 81), (hT35.2.1 82), (hT35.2.1 83), (hT35.2.1 84), (hT35.2.1 85), (hT35.2.1 86), (hT35.2.1 87), (hT35.2.1 88), (hT35.2.1 89), (hT35.2.1 90), (hT35.2.1 91), (hT35.2.1 92), G30, G62, trivial⟩) (show 1 ≤ y71 by omega) (show y71 ≤ 8 by omega)
      · skip
        clear c38
        clear h36
        replace h37 : LxP (m34.1 7) (m34.1 8) (m34.1 9) (m.1 6) (m34.1 10) := h37
        have hLx := h37
        have hf85 : 1 ≤ (m34.1 10) := by omega
        clear g13 g15 g17 g21 g23 h24 h26 h27 u29
        refine T_gf 31 (.ref 266) rfl rfl rfl rfl rfl rfl ?_
        refine T_ld 32 (.int (i32 s)) rfl (fun _ => rfl) ?_
        refine T_gf 36 (.int (i32 (m34.1 28))) rfl rfl rfl rfl rfl rfl ?_
        have G86 : ∀ j, 0 ≤ (upI (m.2 106) s (m34.1 28)) j ∧ (upI (m.2 106) s (m34.1 28)) j ≤ 800 := upI_rg (hT.2.1 106) ⟨by omega, by omega⟩
        refine T_iast (a' := [(65, (m34.2 65)), (66, (m34.2 66)), (67, (m34.2 67)), (68, (m34.2 68)), (76, (m34.2 76)), (77, (m34.2 77)), (78, (m34.2 78)), (79, (m34.2 79)), (80, (m34.2 80)), (81, (m34.2 81)), (82, (m34.2 82)), (83, (m34.2 83)), (84, (m34.2 84)), (85, (m34.2 85)), (86, (m34.2 86)), (87, (m34.2 87)), (88, (m34.2 88)), (89, (m34.2 89)), (90, (m34.2 90)), (91, (m34.2 91)), (92, (m34.2 92)), (105, upI (m.2 105) s (m.1 28)), (106, upI (m.2 106) s (m34.1 28))]) 37 106 (m.2 106) rfl rfl rfl (by omega) (show s < (240 : Int) by omega) rfl rfl ?_
        refine T_ld 38 (.ref 189) rfl (fun _ => rfl) ?_
        refine T_ld 40 (.int (i32 93)) rfl (fun _ => rfl) ?_
        refine T_call 43 232 [.ref 189, .int (i32 93)] [] rfl (fun _ => rfl) rfl (c_need w (mO m [(7, (m34.1 7)), (8, (m34.1 8)), (9, (m34.1 9)), (10, (m34.1 10)), (11, (m34.1 11)), (12, (m34.1 12)), (28, (m34.1 28)), (69, (m34.1 69)), (70, (m34.1 70)), (71, (m34.1 71)), (72, (m34.1 72)), (73, (m34.1 73)), (74, (m34.1 74)), (75, (m34.1 75))] [(65, (m34.2 65)), (66, (m34.2 66)), (67, (m34.2 67)), (68, (m34.2 68)), (76, (m34.2 76)), (77, (m34.2 77)), (78, (m34.2 78)), (79, (m34.2 79)), (80, (m34.2 80)), (81, (m34.2 81)), (82, (m34.2 82)), (83, (m34.2 83)), (84, (m34.2 84)), (85, (m34.2 85)), (86, (m34.2 86)), (87, (m34.2 87)), (88, (m34.2 88)), (89, (m34.2 89)), (90, (m34.2 90)), (91, (m34.2 91)), (92, (m34.2 92)), (105, upI (m.2 105) s (m.1 28)), (106, upI (m.2 106) s (m34.1 28))]) c N D (by omega) (Ty_mO hT rfl rfl ⟨(hT35.1 7), (hT35.1 8), (hT35.1 9), (hT35.1 10), (hT35.1 11), (hT35.1 12), (hT35.1 28), (hT35.1 69), (hT35.1 70), (hT35.1 71), (hT35.1 72), (hT35.1 73), (hT35.1 74), (hT35.1 75), trivial⟩ ⟨(hT35.2.1 65), (hT35.2.1 66), (hT35.2.1 67), (hT35.2.1 68), (hT35.2.1 76), (hT35.2.1 77), (hT35.2.1 78), (hT35.2.1 79), (hT35.2.1 80), (hT35.2.1 81), (hT35.2.1 82), (hT35.2.1 83), (hT35.2.1 84), (hT35.2.1 85), (hT35.2.1 86), (hT35.2.1 87), (hT35.2.1 88), (hT35.2.1 89), (hT35.2.1 90), (hT35.2.1 91), (hT35.2.1 92), G30, G86, trivial⟩) 93 ⟨by decide, by decide⟩ (show 1 ≤ (93 : Int) by omega) (show LxP (m34.1 7) (m34.1 8) (m34.1 9) (m.1 6) (m34.1 10) by first | exact hLx | (intro h9; exfalso; omega) | (intro h9; have h8 := hLx (by omega); omega))) (fun rr87 k88 => ?_)
        obtain ⟨y89, y91, y93, y95, y97, y99, g90, g92, g94, g96, g98, g100, h101, h102, h103, h104, rfl⟩ := k88
        refine ⟨_, _, rfl, ?_⟩
        refine T_nf2 (st' := []) (l' := [(7, y89), (8, y91), (9, y93), (10, y95), (11, y97), (12, y99), (28, (m34.1 28)), (69, (m34.1 69)), (70, (m34.1 70)), (71, (m34.1 71)), (72, (m34.1 72)), (73, (m34.1 73)), (74, (m34.1 74)), (75, (m34.1 75))]) (a' := [(65, (m34.2 65)), (66, (m34.2 66)), (67, (m34.2 67)), (68, (m34.2 68)), (76, (m34.2 76)), (77, (m34.2 77)), (78, (m34.2 78)), (79, (m34.2 79)), (80, (m34.2 80)), (81, (m34.2 81)), (82, (m34.2 82)), (83, (m34.2 83)), (84, (m34.2 84)), (85, (m34.2 85)), (86, (m34.2 86)), (87, (m34.2 87)), (88, (m34.2 88)), (89, (m34.2 89)), (90, (m34.2 90)), (91, (m34.2 91)), (92, (m34.2 92)), (105, upI (m.2 105) s (m.1 28)), (106, upI (m.2 106) s (m34.1 28))]) [7, 8, 9, 10, 11, 12] [] rfl ⟨rfl, rfl, rfl, rfl, rfl, rfl, rfl, rfl, rfl, rfl, rfl, rfl, rfl, rfl, rfl, rfl, rfl, rfl, rfl, rfl, rfl, rfl, rfl, rfl, rfl, rfl, rfl, rfl, trivial⟩ ⟨rfl, rfl, rfl, rfl, rfl, rfl, rfl, rfl, rfl, rfl, rfl, rfl, rfl, rfl, rfl, rfl, rfl, rfl, rfl, rfl, rfl, rfl, rfl, rfl, rfl, rfl, rfl, rfl, rfl, rfl, rfl, rfl, rfl, rfl, rfl, rfl, rfl, rfl, rfl, rfl, rfl, rfl, rfl, rfl, rfl, rfl, trivial⟩ rfl rfl (by decide) (by decide) ?_
        replace h101 : LxP y89 y91 y93 (m.1 6) y95 := h101
        replace h102 : y95 = 0 → (m34.1 10) = 0 ∧ (m34.1 7) = (93 : Int) := h102
        replace h103 : (m34.1 8) ≤ y91 := h103
        replace h104 : y95 = 0 → (m34.1 8) + (m34.1 9) ≤ y91 := h104
        have hf105 : 1 ≤ y95 := by omega
        clear h102
        clear h104
        have hLx := h101
        clear g39 g40 g41 g42 g43 g44 h37 hf85 h103
        exact J43_5 (mO m [(7, y89), (8, y91), (9, y93), (10, y95), (11, y97), (12, y99), (28, (m34.1 28)), (69, (m34.1 69)), (70, (m34.1 70)), (71, (m34.1 71)), (72, (m34.1 72)), (73, (m34.1 73)), (74, (m34.1 74)), (75, (m34.1 75))] [(65, (m34.2 65)), (66, (m34.2 66)), (67, (m34.2 67)), (68, (m34.2 68)), (76, (m34.2 76)), (77, (m34.2 77)), (78, (m34.2 78)), (79, (m34.2 79)), (80, (m34.2 80)), (81, (m34.2 81)), (82, (m34.2 82)), (83, (m34.2 83)), (84, (m34.2 84)), (85, (m34.2 85)), (86, (m34.2 86)), (87, (m34.2 87)), (88, (m34.2 88)), (89, (m34.2 89)), (90, (m34.2 90)), (91, (m34.2 91)), (92, (m34.2 92)), (105, upI (m.2 105) s (m.1 28)), (106, upI (m.2 106) s (m34.1 28))]) (Ty_mO hT rfl rfl ⟨g90, g92, g94, g96, g98, g100, (hT35.1 28), (hT35.1 69), (hT35.1 70), (hT35.1 71), (hT35.1 72), (hT35.1 73), (hT35.1 74), (hT35.1 75), trivial⟩ ⟨(hT35.2.1 65), (hT35.2.1 66), (hT35.2.1 67), (hT35.2.1 68), (hT35.2.1 76), (hT35.2.1 77), (hT35.2.1 78), (hT35.2.1 79), (hT35.2.1 80), (hT35.2.1 81), (hT35.2.1 82), (hT35.2.1 83), (hT35.2.1 84), (hT35.2.1 85), (hT35.2.1 86), (hT35.2.1 87), (hT35.2.1 88), (hT35.2.1 89), (hT35.2.1 90), (hT35.2.1 91), (hT35.2.1 92), G30, G86, trivial⟩) (show 1 ≤ y95 by omega) (show y95 ≤ 8 by omega)
    · skip
      replace h24 : LxP y12 y14 y16 (m.1 6) y18 := h24
      have hLx := h24
      clear h25
      replace h26 : (m.1 8) ≤ y14 := h26
      clear h27
      have hf106 : 1 ≤ y18 := by omega
      refine T_gf 10 (.ref 265) rfl rfl rfl rfl rfl rfl ?_
      refine T_ld 11 (.int (i32 s)) rfl (fun _ => rfl) ?_
      refine T_gf 15 (.int (i32 (m.1 28))) rfl rfl rfl rfl rfl rfl ?_
      have G107 : ∀ j, 0 ≤ (upI (m.2 105) s (m.1 28)) j ∧ (upI (m.2 105) s (m.1 28)) j ≤ 800 := upI_rg (hT.2.1 105) ⟨by omega, by omega⟩
      refine T_iast (a' := [(65, (m.2 65)), (66, (m.2 66)), (67, (m.2 67)), (68, (m.2 68)), (76, (m.2 76)), (77, (m.2 77)), (78, (m.2 78)), (79, (m.2 79)), (80, (m.2 80)), (81, (m.2 81)), (82, (m.2 82)), (83, (m.2 83)), (84, (m.2 84)), (85, (m.2 85)), (86, (m.2 86)), (87, (m.2 87)), (88, (m.2 88)), (89, (m.2 89)), (90, (m.2 90)), (91, (m.2 91)), (92, (m.2 92)), (105, upI (m.2 105) s (m.1 28)), (106, (m.2 106))]) 16 105 (m.2 105) rfl rfl rfl (by omega) (show s < (240 : Int) by omega) rfl rfl ?_
      refine T_gf 20 (.int (i32 y18)) rfl rfl rfl rfl rfl rfl ?_
      refine T_if 27 23 rfl rfl rfl (r32 (by omega) (by omega)) (fun (h108 : y18 ≠ 0) => ?_) (fun (h108 : ¬ (y18 ≠ 0)) => by exfalso; omega)
      refine T_gf 31 (.ref 266) rfl rfl rfl rfl rfl rfl ?_
      refine T_ld 32 (.int (i32 s)) rfl (fun _ => rfl) ?_
      refine T_gf 36 (.int (i32 (m.1 28))) rfl rfl rfl rfl rfl rfl ?_
      have G109 : ∀ j, 0 ≤ (upI (m.2 106) s (m.1 28)) j ∧ (upI (m.2 106) s (m.1 28)) j ≤ 800 := upI_rg (hT.2.1 106) ⟨by omega, by omega⟩
      refine T_iast (a' := [(65, (m.2 65)), (66, (m.2 66)), (67, (m.2 67)), (68, (m.2 68)), (76, (m.2 76)), (77, (m.2 77)), (78, (m.2 78)), (79, (m.2 79)), (80, (m.2 80)), (81, (m.2 81)), (82, (m.2 82)), (83, (m.2 83)), (84, (m.2 84)), (85, (m.2 85)), (86, (m.2 86)), (87, (m.2 87)), (88, (m.2 88)), (89, (m.2 89)), (90, (m.2 90)), (91, (m.2 91)), (92, (m.2 92)), (105, upI (m.2 105) s (m.1 28)), (106, upI (m.2 106) s (m.1 28))]) 37 106 (m.2 106) rfl rfl rfl (by omega) (show s < (240 : Int) by omega) rfl rfl ?_
      refine T_ld 38 (.ref 189) rfl (fun _ => rfl) ?_
      refine T_ld 40 (.int (i32 93)) rfl (fun _ => rfl) ?_
      refine T_call 43 232 [.ref 189, .int (i32 93)] [] rfl (fun _ => rfl) rfl (c_need w (mO m [(7, y12), (8, y14), (9, y16), (10, y18), (11, y20), (12, y22), (28, (m.1 28)), (69, (m.1 69)), (70, (m.1 70)), (71, (m.1 71)), (72, (m.1 72)), (73, (m.1 73)), (74, (m.1 74)), (75, (m.1 75))] [(65, (m.2 65)), (66, (m.2 66)), (67, (m.2 67)), (68, (m.2 68)), (76, (m.2 76)), (77, (m.2 77)), (78, (m.2 78)), (79, (m.2 79)), (80, (m.2 80)), (81, (m.2 81)), (82, (m.2 82)), (83, (m.2 83)), (84, (m.2 84)), (85, (m.2 85)), (86, (m.2 86)), (87, (m.2 87)), (88, (m.2 88)), (89, (m.2 89)), (90, (m.2 90)), (91, (m.2 91)), (92, (m.2 92)), (105, upI (m.2 105) s (m.1 28)), (106, upI (m.2 106) s (m.1 28))]) c N D (by omega) (Ty_mO hT rfl rfl ⟨g13, g15, g17, g19, g21, g23, f28, f69, f70, f71, f72, f73, f74, f75, trivial⟩ ⟨(hT.2.1 65), (hT.2.1 66), (hT.2.1 67), (hT.2.1 68), (hT.2.1 76), (hT.2.1 77), (hT.2.1 78), (hT.2.1 79), (hT.2.1 80), (hT.2.1 81), (hT.2.1 82), (hT.2.1 83), (hT.2.1 84), (hT.2.1 85), (hT.2.1 86), (hT.2.1 87), (hT.2.1 88), (hT.2.1 89), (hT.2.1 90), (hT.2.1 91), (hT.2.1 92), G107, G109, trivial⟩) 93 ⟨by decide, by decide⟩ (show 1 ≤ (93 : Int) by omega) (show LxP y12 y14 y16 (m.1 6) y18 by first | exact hLx | (intro h9; exfalso; omega) | (intro h9; have h8 := hLx (by omega); omega))) (fun rr110 k111 => ?_)
      obtain ⟨y112, y114, y116, y118, y120, y122, g113, g115, g117, g119, g121, g123, h124, h125, h126, h127, rfl⟩ := k111
      refine ⟨_, _, rfl, ?_⟩
      refine T_nf2 (st' := []) (l' := [(7, y112), (8, y114), (9, y116), (10, y118), (11, y120), (12, y122), (28, (m.1 28)), (69, (m.1 69)), (70, (m.1 70)), (71, (m.1 71)), (72, (m.1 72)), (73, (m.1 73)), (74, (m.1 74)), (75, (m.1 75))]) (a' := [(65, (m.2 65)), (66, (m.2 66)), (67, (m.2 67)), (68, (m.2 68)), (76, (m.2 76)), (77, (m.2 77)), (78, (m.2 78)), (79, (m.2 79)), (80, (m.2 80)), (81, (m.2 81)), (82, (m.2 82)), (83, (m.2 83)), (84, (m.2 84)), (85, (m.2 85)), (86, (m.2 86)), (87, (m.2 87)), (88, (m.2 88)), (89, (m.2 89)), (90, (m.2 90)), (91, (m.2 91)), (92, (m.2 92)), (105, upI (m.2 105) s (m.1 28)), (106, upI (m.2 106) s (m.1 28))]) [7, 8, 9, 10, 11, 12] [] rfl ⟨rfl, rfl, rfl, rfl, rfl, rfl, rfl, rfl, rfl, rfl, rfl, rfl, rfl, rfl, rfl, rfl, rfl, rfl, rfl, rfl, rfl, rfl, rfl, rfl, rfl, rfl, rfl, rfl, trivial⟩ ⟨rfl, rfl, rfl, rfl, rfl, rfl, rfl, rfl, rfl, rfl, rfl, rfl, rfl, rfl, rfl, rfl, rfl, rfl, rfl, rfl, rfl, rfl, rfl, rfl, rfl, rfl, rfl, rfl, rfl, rfl, rfl, rfl, rfl, rfl, rfl, rfl, rfl, rfl, rfl, rfl, rfl, rfl, rfl, rfl, rfl, rfl, trivial⟩ rfl rfl (by decide) (by decide) ?_
      replace h124 : LxP y112 y114 y116 (m.1 6) y118 := h124
      replace h125 : y118 = 0 → y18 = 0 ∧ y12 = (93 : Int) := h125
      replace h126 : y14 ≤ y114 := h126
      replace h127 : y118 = 0 → y14 + y16 ≤ y114 := h127
      have hf128 : 1 ≤ y118 := by omega
      clear h125
      clear h127
      have hLx := h124
      clear g13 g15 g17 g19 g21 g23 h24 h26 hf106 h108 h126
      exact J43_5 (mO m [(7, y112), (8, y114), (9, y116), (10, y118), (11, y120), (12, y122), (28, (m.1 28)), (69, (m.1 69)), (70, (m.1 70)), (71, (m.1 71)), (72, (m.1 72)), (73, (m.1 73)), (74, (m.1 74)), (75, (m.1 75))] [(65, (m.2 65)), (66, (m.2 66)), (67, (m.2 67)), (68, (m.2 68)), (76, (m.2 76)), (77, (m.2 77)), (78, (m.2 78)), (79, (m.2 79)), (80, (m.2 80)), (81, (m.2 81)), (82, (m.2 82)), (83, (m.2 83)), (84, (m.2 84)), (85, (m.2 85)), (86, (m.2 86)), (87, (m.2 87)), (88, (m.2 88)), (89, (m.2 89)), (90, (m.2 90)), (91, (m.2 91)), (92, (m.2 92)), (105, upI (m.2 105) s (m.1 28)), (106, upI (m.2 106) s (m.1 28))]) (Ty_mO hT rfl rfl ⟨g113, g115, g117, g119, g121, g123, f28, f69, f70, f71, f72, f73, f74, f75, trivial⟩ ⟨(hT.2.1 65), (hT.2.1 66), (hT.2.1 67), (hT.2.1 68), (hT.2.1 76), (hT.2.1 77), (hT.2.1 78), (hT.2.1 79), (hT.2.1 80), (hT.2.1 81), (hT.2.1 82), (hT.2.1 83), (hT.2.1 84), (hT.2.1 85), (hT.2.1 86), (hT.2.1 87), (hT.2.1 88), (hT.2.1 89), (hT.2.1 90), (hT.2.1 91), (hT.2.1 92), G107, G109, trivial⟩) (show 1 ≤ y118 by omega) (show y118 ≤ 8 by omega)
  · skip
    clear hC
    refine T_ld 1 (.ref 189) rfl (fun _ => rfl) ?_
    refine T_ld 3 (.int (i32 91)) rfl (fun _ => rfl) ?_
    refine T_call 6 232 [.ref 189, .int (i32 91)] [] rfl (fun _ => rfl) rfl (c_need w (mO m [(7, (m.1 7)), (8, (m.1 8)), (9, (m.1 9)), (10, (m.1 10)), (11, (m.1 11)), (12, (m.1 12)), (28, (m.1 28)), (69, (m.1 69)), (70, (m.1 70)), (71, (m.1 71)), (72, (m.1 72)), (73, (m.1 73)), (74, (m.1 74)), (75, (m.1 75))] [(65, (m.2 65)), (66, (m.2 66)), (67, (m.2 67)), (68, (m.2 68)), (76, (m.2 76)), (77, (m.2 77)), (78, (m.2 78)), (79, (m.2 79)), (80, (m.2 80)), (81, (m.2 81)), (82, (m.2 82)), (83, (m.2 83)), (84, (m.2 84)), (85, (m.2 85)), (86, (m.2 86)), (87, (m.2 87)), (88, (m.2 88)), (89, (m.2 89)), (90, (m.2 90)), (91, (m.2 91)), (92, (m.2 92)), (105, (m.2 105)), (106, (m.2 106))]) c N D (by omega) (Ty_mO hT rfl rfl ⟨f7, f8, f9, f10, f11, f12, f28, f69, f70, f71, f72, f73, f74, f75, trivial⟩ ⟨(hT.2.1 65), (hT.2.1 66), (hT.2.1 67), (hT.2.1 68), (hT.2.1 76), (hT.2.1 77), (hT.2.1 78), (hT.2.1 79), (hT.2.1 80), (hT.2.1 81), (hT.2.1 82), (hT.2.1 83), (hT.2.1 84), (hT.2.1 85), (hT.2.1 86), (hT.2.1 87), (hT.2.1 88), (hT.2.1 89), (hT.2.1 90), (hT.2.1 91), (hT.2.1 92), (hT.2.1 105), (hT.2.1 106), trivial⟩) 91 ⟨by decide, by decide⟩ (show 1 ≤ (91 : Int) by omega) (show LxP (m.1 7) (m.1 8) (m.1 9) (m.1 6) (m.1 10) by first | exact hLx | (intro h9; exfalso; omega) | (intro h9; have h8 := hLx (by omega); omega))) (fun rr129 k130 => ?_)
    obtain ⟨y131, y133, y135, y137, y139, y141, g132, g134, g136, g138, g140, g142, h143, h144, h145, h146, rfl⟩ := k130
    refine ⟨_, _, rfl, ?_⟩
    refine T_nf2 (st' := []) (l' := [(7, y131), (8, y133), (9, y135), (10, y137), (11, y139), (12, y141), (28, (m.1 28)), (69, (m.1 69)), (70, (m.1 70)), (71, (m.1 71)), (72, (m.1 72)), (73, (m.1 73)), (74, (m.1 74)), (75, (m.1 75))]) (a' := [(65, (m.2 65)), (66, (m.2 66)), (67, (m.2 67)), (68, (m.2 68)), (76, (m.2 76)), (77, (m.2 77)), (78, (m.2 78)), (79, (m.2 79)), (80, (m.2 80)), (81, (m.2 81)), (82, (m.2 82)), (83, (m.2 83)), (84, (m.2 84)), (85, (m.2 85)), (86, (m.2 86)), (87, (m.2 87)), (88, (m.2 88)), (89, (m.2 89)), (90, (m.2 90)), (91, (m.2 91)), (92, (m.2 92)), (105, (m.2 105)), (106, (m.2 106))]) [7, 8, 9, 10, 11, 12] [] rfl ⟨rfl, rfl, rfl, rfl, rfl, rfl, rfl, rfl, rfl, rfl, rfl, rfl, rfl, rfl, rfl, rfl, rfl, rfl, rfl, rfl, rfl, rfl, rfl, rfl, rfl, rfl, rfl, rfl, trivial⟩ ⟨rfl, rfl, rfl, rfl, rfl, rfl, rfl, rfl, rfl, rfl, rfl, rfl, rfl, rfl, rfl, rfl, rfl, rfl, rfl, rfl, rfl, rfl, rfl, rfl, rfl, rfl, rfl, rfl, rfl, rfl, rfl, rfl, rfl, rfl, rfl, rfl, rfl, rfl, rfl, rfl, rfl, rfl, rfl, rfl, rfl, rfl, trivial⟩ rfl rfl (by decide) (by decide) ?_
    replace h143 : LxP y131 y133 y135 (m.1 6) y137 := h143
    replace h144 : y137 = 0 → (m.1 10) = 0 ∧ (m.1 7) = (91 : Int) := h144
    replace h145 : (m.1 8) ≤ y133 := h145
    replace h146 : y137 = 0 → (m.1 8) + (m.1 9) ≤ y133 := h146
    have hf147 : 1 ≤ y137 := by omega
    clear h144
    clear h146
    have hLx := h143
    refine T_gf 10 (.ref 265) rfl rfl rfl rfl rfl rfl ?_
    refine T_ld 11 (.int (i32 s)) rfl (fun _ => rfl) ?_
    refine T_gf 15 (.int (i32 (m.1 28))) rfl rfl rfl rfl rfl rfl ?_
    have G148 : ∀ j, 0 ≤ (upI (m.2 105) s (m.1 28)) j ∧ (upI (m.2 105) s (m.1 28)) j ≤ 800 := upI_rg (hT.2.1 105) ⟨by omega, by omega⟩
    refine T_iast (a' := [(65, (m.2 65)), (66, (m.2 66)), (67, (m.2 67)), (68, (m.2 68)), (76, (m.2 76)), (77, (m.2 77)), (78, (m.2 78)), (79, (m.2 79)), (80, (m.2 80)), (81, (m.2 81)), (82, (m.2 82)), (83, (m.2 83)), (84, (m.2 84)), (85, (m.2 85)), (86, (m.2 86)), (87, (m.2 87)), (88, (m.2 88)), (89, (m.2 89)), (90, (m.2 90)), (91, (m.2 91)), (92, (m.2 92)), (105, upI (m.2 105) s (m.1 28)), (106, (m.2 106))]) 16 105 (m.2 105) rfl rfl rfl (by omega) (show s < (240 : Int) by omega) rfl rfl ?_
    refine T_gf 20 (.int (i32 y137)) rfl rfl rfl rfl rfl rfl ?_
    refine T_if 27 23 rfl rfl rfl (r32 (by omega) (by omega)) (fun (h149 : y137 ≠ 0) => ?_) (fun (h149 : ¬ (y137 ≠ 0)) => by exfalso; omega)
    refine T_gf 31 (.ref 266) rfl rfl rfl rfl rfl rfl ?_
    refine T_ld 32 (.int (i32 s)) rfl (fun _ => rfl) ?_
    refine T_gf 36 (.int (i32 (m.1 28))) rfl rfl rfl rfl rfl rfl ?_
    have G150 : ∀ j, 0 ≤ (upI (m.2 106) s (m.1 28)) j ∧ (upI (m.2 106) s (m.1 28)) j ≤ 800 := upI_rg (hT.2.1 106) ⟨by omega, by omega⟩
    refine T_iast (a' := [(65, (m.2 65)), (66, (m.2 66)), (67, (m.2 67)), (68, (m.2 68)), (76, (m.2 76)), (77, (m.2 77)), (78, (m.2 78)), (79, (m.2 79)), (80, (m.2 80)), (81, (m.2 81)), (82, (m.2 82)), (83, (m.2 83)), (84, (m.2 84)), (85, (m.2 85)), (86, (m.2 86)), (87, (m.2 87)), (88, (m.2 88)), (89, (m.2 89)), (90, (m.2 90)), (91, (m.2 91)), (92, (m.2 92)), (105, upI (m.2 105) s (m.1 28)), (106, upI (m.2 106) s (m.1 28))]) 37 106 (m.2 106) rfl rfl rfl (by omega) (show s < (240 : Int) by omega) rfl rfl ?_
    refine T_ld 38 (.ref 189) rfl (fun _ => rfl) ?_
    refine T_ld 40 (.int (i32 93)) rfl (fun _ => rfl) ?_
    refine T_call 43 232 [.ref 189, .int (i32 93)] [] rfl (fun _ => rfl) rfl (c_need w (mO m [(7, y131), (8, y133), (9, y135), (10, y137), (11, y139), (12, y141), (28, (m.1 28)), (69, (m.1 69)), (70, (m.1 70)), (71, (m.1 71)), (72, (m.1 72)), (73, (m.1 73)), (74, (m.1 74)), (75, (m.1 75))] [(65, (m.2 65)), (66, (m.2 66)), (67, (m.2 67)), (68, (m.2 68)), (76, (m.2 76)), (77, (m.2 77)), (78, (m.2 78)), (79, (m.2 79)), (80, (m.2 80)), (81, (m.2 81)), (82, (m.2 82)), (83, (m.2 83)), (84, (m.2 84)), (85, (m.2 85)), (86, (m.2 86)), (87, (m.2 87)), (88, (m.2 88)), (89, (m.2 89)), (90, (m.2 90)), (91, (m.2 91)), (92, (m.2 92)), (105, upI (m.2 105) s (m.1 28)), (106, upI (m.2 106) s (m.1 28))]) c N D (by omega) (Ty_mO hT rfl rfl ⟨g132, g134, g136, g138, g140, g142, f28, f69, f70, f71, f72, f73, f74, f75, trivial⟩ ⟨(hT.2.1 65), (hT.2.1 66), (hT.2.1 67), (hT.2.1 68), (hT.2.1 76), (hT.2.1 77), (hT.2.1 78), (hT.2.1 79), (hT.2.1 80), (hT.2.1 81), (hT.2.1 82), (hT.2.1 83), (hT.2.1 84), (hT.2.1 85), (hT.2.1 86), (hT.2.1 87), (hT.2.1 88), (hT.2.1 89), (hT.2.1 90), (hT.2.1 91), (hT.2.1 92), G148, G150, trivial⟩) 93 ⟨by decide, by decide⟩ (show 1 ≤ (93 : Int) by omega) (show LxP y131 y133 y135 (m.1 6) y137 by first | exact hLx | (intro h9; exfalso; omega) | (intro h9; have h8 := hLx (by omega); omega))) (fun rr151 k152 => ?_)
    obtain ⟨y153, y155, y157, y159, y161, y163, g154, g156, g158, g160, g162, g164, h165, h166, h167, h168, rfl⟩ := k152
    refine ⟨_, _, rfl, ?_⟩
    refine T_nf2 (st' := []) (l' := [(7, y153), (8, y155), (9, y157), (10, y159), (11, y161), (12, y163), (28, (m.1 28)), (69, (m.1 69)), (70, (m.1 70)), (71, (m.1 71)), (72, (m.1 72)), (73, (m.1 73)), (74, (m.1 74)), (75, (m.1 75))]) (a' := [(65, (m.2 65)), (66, (m.2 66)), (67, (m.2 67)), (68, (m.2 68)), (76, (m.2 76)), (77, (m.2 77)), (78, (m.2 78)), (79, (m.2 79)), (80, (m.2 80)), (81, (m.2 81)), (82, (m.2 82)), (83, (m.2 83)), (84, (m.2 84)), (85, (m.2 85)), (86, (m.2 86)), (87, (m.2 87)), (88, (m.2 88)), (89, (m.2 89)), (90, (m.2 90)), (91, (m.2 91)), (92, (m.2 92)), (105, upI (m.2 105) s (m.1 28)), (106, upI (m.2 106) s (m.1 28))]) [7, 8, 9, 10, 11, 12] [] rfl ⟨rfl, rfl, rfl, rfl, rfl, rfl, rfl, rfl, rfl, rfl, rfl, rfl, rfl, rfl, rfl, rfl, rfl, rfl, rfl, rfl, rfl, rfl, rfl, rfl, rfl, rfl, rfl, rfl, trivial⟩ ⟨rfl, rfl, rfl, rfl, rfl, rfl, rfl, rfl, rfl, rfl, rfl, rfl, rfl, rfl, rfl, rfl, rfl, rfl, rfl, rfl, rfl, rfl, rfl, rfl, rfl, rfl, rfl, rfl, rfl, rfl, rfl, rfl, rfl, rfl, rfl, rfl, rfl, rfl, rfl, rfl, rfl, rfl, rfl, rfl, rfl, rfl, trivial⟩ rfl rfl (by decide) (by decide) ?_
    replace h165 : LxP y153 y155 y157 (m.1 6) y159 := h165
    replace h166 : y159 = 0 → y137 = 0 ∧ y131 = (93 : Int) := h166
    replace h167 : y133 ≤ y155 := h167
    replace h168 : y159 = 0 → y133 + y135 ≤ y155 := h168
    have hf169 : 1 ≤ y159 := by omega
    clear h166
    clear h168
    have hLx := h165
    clear g132 g134 g136 g138 g140 g142 hf147 h143 h145 h149 h167
    refine T_ret rfl (fun _ => rfl) ?_
    exact ⟨(mO m [(7, y153), (8, y155), (9, y157), (10, y159), (11, y161), (12, y163), (28, (m.1 28)), (69, (m.1 69)), (70, (m.1 70)), (71, (m.1 71)), (72, (m.1 72)), (73, (m.1 73)), (74, (m.1 74)), (75, (m.1 75))] [(65, (m.2 65)), (66, (m.2 66)), (67, (m.2 67)), (68, (m.2 68)), (76, (m.2 76)), (77, (m.2 77)), (78, (m.2 78)), (79, (m.2 79)), (80, (m.2 80)), (81, (m.2 81)), (82, (m.2 82)), (83, (m.2 83)), (84, (m.2 84)), (85, (m.2 85)), (86, (m.2 86)), (87, (m.2 87)), (88, (m.2 88)), (89, (m.2 89)), (90, (m.2 90)), (91, (m.2 91)), (92, (m.2 92)), (105, upI (m.2 105) s (m.1 28)), (106, upI (m.2 106) s (m.1 28))]), (Ty_mO hT rfl rfl ⟨g154, g156, g158, g160, g162, g164, f28, f69, f70, f71, f72, f73, f74, f75, trivial⟩ ⟨(hT.2.1 65), (hT.2.1 66), (hT.2.1 67), (hT.2.1 68), (hT.2.1 76), (hT.2.1 77), (hT.2.1 78), (hT.2.1 79), (hT.2.1 80), (hT.2.1 81), (hT.2.1 82), (hT.2.1 83), (hT.2.1 84), (hT.2.1 85), (hT.2.1 86), (hT.2.1 87), (hT.2.1 88), (hT.2.1 89), (hT.2.1 90), (hT.2.1 91), (hT.2.1 92), G148, G150, trivial⟩), (show y159 = 0 → (m.1 10) = 0 by omega), (show LxP y153 y155 y157 (m.1 6) y159 by first | (first | exact hLx | exact (fun _ => hLx (by omega)) | (intro h9; exfalso; omega)) | (exfalso; omega)), (fun (h : y159 = 0) => absurd h (by omega)), rfl⟩
def Q_takeWorth (m : mR) (c : Nat → Option am_C) (N : Nat) (s : Int) (b : Int) : ag_Re af_T → Prop := fun R => ∃ (M : mR), Ty M ∧ ((M.1 10) = 0 → (m.1 10) = 0) ∧ (LxP (M.1 7) (M.1 8) (M.1 9) (m.1 6) (M.1 10)) ∧ (M.1 10 = 0 → ((m.1 8) + 1 ≤ (M.1 8)) ∧ (CN (M.2 65) (M.2 67) (M.1 28)) ∧ (agr (m.2 65) (M.2 65) (m.1 28)) ∧ ((m.1 28) ≤ (M.1 28)) ∧ (cdr (M.2 65) (M.1 28) ((M.2 107) s) ((M.2 108) s)) ∧ (agr (m.2 107) (M.2 107) s) ∧ (agr (m.2 108) (M.2 108) s)) ∧ R = (.inl (none), (mhp (mO m [(7, (M.1 7)), (8, (M.1 8)), (9, (M.1 9)), (10, (M.1 10)), (11, (M.1 11)), (12, (M.1 12)), (28, (M.1 28)), (69, (M.1 69)), (70, (M.1 70)), (71, (M.1 71)), (72, (M.1 72)), (73, (M.1 73)), (74, (M.1 74)), (75, (M.1 75))] [(65, (M.2 65)), (66, (M.2 66)), (67, (M.2 67)), (68, (M.2 68)), (76, (M.2 76)), (77, (M.2 77)), (78, (M.2 78)), (79, (M.2 79)), (80, (M.2 80)), (81, (M.2 81)), (82, (M.2 82)), (83, (M.2 83)), (84, (M.2 84)), (85, (M.2 85)), (86, (M.2 86)), (87, (M.2 87)), (88, (M.2 88)), (89, (M.2 89)), (90, (M.2 90)), (91, (M.2 91)), (92, (M.2 92)), (107, (M.2 107)), (108, (M.2 108))]) c, N), 0, 0)
set_option maxHeartbeats 8000000 in
theorem c_takeWorth (w : wX) (m : mR) (c : Nat → Option am_C) (N D : Nat) (hD : 12 ≤ D) (hT : Ty m) (s : Int) (b : Int) (qs : R32 s) (qb : R32 b) (hLx0 : LxP (m.1 7) (m.1 8) (m.1 9) (m.1 6) (m.1 10)) (hNM0 : ∀ k, (m.2 14) k + (m.2 15) k ≤ 4000) (hFA0 : ∀ k, (m.2 31) k + (m.2 32) k ≤ 4000) (hPA0 : ∀ k, (m.2 47) k + (m.2 48) k ≤ 4000) (p4 : 0 ≤ s ∧ s ≤ 239) (hC : m.1 10 = 0 → (PN (m.1 13) (m.1 19) (m.1 20) (m.1 21) (m.1 22) (m.1 23) (m.1 25) (m.1 26) (m.2 16) (m.2 17)) ∧ (CN (m.2 65) (m.2 67) (m.1 28))) : TC w D 272 [.ref 189, .int (i32 s), .int (i32 b)] (mhp m c, N) (Q_takeWorth m c N s b) := by
  obtain ⟨D, rfl⟩ : ∃ k, D = k + 1 := ⟨D - 1, by omega⟩
  obtain ⟨qsa, qsb⟩ := id qs
  obtain ⟨qba, qbb⟩ := id qb
  have hLx := hLx0
  have hNM := hNM0
  have hFA := hFA0
  have hPA := hPA0
  have f7 : 0 ≤ m.1 7 ∧ m.1 7 ≤ 330 := hT.1 7
  have f8 : 0 ≤ m.1 8 ∧ m.1 8 ≤ 4000 := hT.1 8
  have f9 : 0 ≤ m.1 9 ∧ m.1 9 ≤ 4000 := hT.1 9
  have f10 : 0 ≤ m.1 10 ∧ m.1 10 ≤ 8 := hT.1 10
  have f11 : (-1) ≤ m.1 11 ∧ m.1 11 ≤ 4000 := hT.1 11
  have f12 : (-9223372036854775808) ≤ m.1 12 ∧ m.1 12 ≤ 9223372036854775807 := hT.1 12
  have f28 : 0 ≤ m.1 28 ∧ m.1 28 ≤ 800 := hT.1 28
  have f69 : 0 ≤ m.1 69 ∧ m.1 69 ≤ 1024 := hT.1 69
  have f70 : 0 ≤ m.1 70 ∧ m.1 70 ≤ 4000 := hT.1 70
  have f71 : 0 ≤ m.1 71 ∧ m.1 71 ≤ 1 := hT.1 71
  have f72 : (-9223372036854775808) ≤ m.1 72 ∧ m.1 72 ≤ 9223372036854775807 := hT.1 72
  have f73 : 0 ≤ m.1 73 ∧ m.1 73 ≤ 60 := hT.1 73
  have f74 : 0 ≤ m.1 74 ∧ m.1 74 ≤ 24 := hT.1 74
  have f75 : 0 ≤ m.1 75 ∧ m.1 75 ≤ 3 := hT.1 75
  have f25 : 0 ≤ m.1 25 ∧ m.1 25 ≤ 16 := hT.1 25
  have f22 : 0 ≤ m.1 22 ∧ m.1 22 ≤ 8 := hT.1 22
  have f19 : 0 ≤ m.1 19 ∧ m.1 19 ≤ 12 := hT.1 19
  have f20 : 0 ≤ m.1 20 ∧ m.1 20 ≤ 12 := hT.1 20
  have f21 : 0 ≤ m.1 21 ∧ m.1 21 ≤ 16 := hT.1 21
  have f13 : 0 ≤ m.1 13 ∧ m.1 13 ≤ 120 := hT.1 13
  have f6 : 0 ≤ m.1 6 ∧ m.1 6 ≤ 4000 := hT.1 6
  have f23 : 0 ≤ m.1 23 ∧ m.1 23 ≤ 16 := hT.1 23
  have f26 : 0 ≤ m.1 26 ∧ m.1 26 ≤ 8 := hT.1 26
  refine Tc_of rfl ?_
  show TT w D pm_272 (0, [(0, .ref 189), (1, .int (i32 s)), (2, .int (i32 b))], [], (mhp m c, N), 0, 0) (Q_takeWorth m c N s b)
  rw [show (mhp m c, N) = (mhp (mO m [(7, (m.1 7)), (8, (m.1 8)), (9, (m.1 9)), (10, (m.1 10)), (11, (m.1 11)), (12, (m.1 12)), (28, (m.1 28)), (69, (m.1 69)), (70, (m.1 70)), (71, (m.1 71)), (72, (m.1 72)), (73, (m.1 73)), (74, (m.1 74)), (75, (m.1 75))] [(65, (m.2 65)), (66, (m.2 66)), (67, (m.2 67)), (68, (m.2 68)), (76, (m.2 76)), (77, (m.2 77)), (78, (m.2 78)), (79, (m.2 79)), (80, (m.2 80)), (81, (m.2 81)), (82, (m.2 82)), (83, (m.2 83)), (84, (m.2 84)), (85, (m.2 85)), (86, (m.2 86)), (87, (m.2 87)), (88, (m.2 88)), (89, (m.2 89)), (90, (m.2 90)), (91, (m.2 91)), (92, (m.2 92)), (107, (m.2 107)), (108, (m.2 108))]) c, N) from congrArg (fun M => (mhp M c, N)) (mO_pad m [7, 8, 9, 10, 11, 12, 28, 69, 70, 71, 72, 73, 74, 75] [65, 66, 67, 68, 76, 77, 78, 79, 80, 81, 82, 83, 84, 85, 86, 87, 88, 89, 90, 91, 92, 107, 108])]
  by_cases hf0 : m.1 10 = 0
  · skip
    obtain ⟨pPN, hCN⟩ := hC hf0
    have h7 := hLx (by omega)
    refine T_gf 4 (.ref 267) rfl rfl rfl rfl rfl rfl ?_
    refine T_ld 5 (.int (i32 s)) rfl (fun _ => rfl) ?_
    refine T_gf 9 (.int (i32 (m.1 28))) rfl rfl rfl rfl rfl rfl ?_
    have G2 : ∀ j, 0 ≤ (upI (m.2 107) s (m.1 28)) j ∧ (upI (m.2 107) s (m.1 28)) j ≤ 800 := upI_rg (hT.2.1 107) ⟨by omega, by omega⟩
    refine T_iast (a' := [(65, (m.2 65)), (66, (m.2 66)), (67, (m.2 67)), (68, (m.2 68)), (76, (m.2 76)), (77, (m.2 77)), (78, (m.2 78)), (79, (m.2 79)), (80, (m.2 80)), (81, (m.2 81)), (82, (m.2 82)), (83, (m.2 83)), (84, (m.2 84)), (85, (m.2 85)), (86, (m.2 86)), (87, (m.2 87)), (88, (m.2 88)), (89, (m.2 89)), (90, (m.2 90)), (91, (m.2 91)), (92, (m.2 92)), (107, upI (m.2 107) s (m.1 28)), (108, (m.2 108))]) 10 107 (m.2 107) rfl rfl rfl (by omega) (show s < (240 : Int) by omega) rfl rfl ?_
    refine T_gf 14 (.int (i32 (m.1 10))) rfl rfl rfl rfl rfl rfl ?_
    refine T_if 22 17 rfl rfl rfl (r32 (by omega) (by omega)) (fun (h3 : (m.1 10) ≠ 0) => by exfalso; omega) (fun (h3 : ¬ ((m.1 10) ≠ 0)) => ?_)
    refine T_ld 18 (.ref 189) rfl (fun _ => rfl) ?_
    refine T_ld 19 (.int (i32 b)) rfl (fun _ => rfl) ?_
    refine T_call 22 273 [.ref 189, .int (i32 b)] [] rfl (fun _ => rfl) rfl (c_exprOf w (mO m [(7, (m.1 7)), (8, (m.1 8)), (9, (m.1 9)), (10, (m.1 10)), (11, (m.1 11)), (12, (m.1 12)), (28, (m.1 28)), (69, (m.1 69)), (70, (m.1 70)), (71, (m.1 71)), (72, (m.1 72)), (73, (m.1 73)), (74, (m.1 74)), (75, (m.1 75))] [(65, (m.2 65)), (66, (m.2 66)), (67, (m.2 67)), (68, (m.2 68)), (76, (m.2 76)), (77, (m.2 77)), (78, (m.2 78)), (79, (m.2 79)), (80, (m.2 80)), (81, (m.2 81)), (82, (m.2 82)), (83, (m.2 83)), (84, (m.2 84)), (85, (m.2 85)), (86, (m.2 86)), (87, (m.2 87)), (88, (m.2 88)), (89, (m.2 89)), (90, (m.2 90)), (91, (m.2 91)), (92, (m.2 92)), (107, upI (m.2 107) s (m.1 28)), (108, (m.2 108))]) c N D (by omega) (Ty_mO hT rfl rfl ⟨f7, f8, f9, f10, f11, f12, f28, f69, f70, f71, f72, f73, f74, f75, trivial⟩ ⟨(hT.2.1 65), (hT.2.1 66), (hT.2.1 67), (hT.2.1 68), (hT.2.1 76), (hT.2.1 77), (hT.2.1 78), (hT.2.1 79), (hT.2.1 80), (hT.2.1 81), (hT.2.1 82), (hT.2.1 83), (hT.2.1 84), (hT.2.1 85), (hT.2.1 86), (hT.2.1 87), (hT.2.1 88), (hT.2.1 89), (hT.2.1 90), (hT.2.1 91), (hT.2.1 92), G2, (hT.2.1 108), trivial⟩) b (r32 (by omega) (by omega)) (show LxP (m.1 7) (m.1 8) (m.1 9) (m.1 6) (m.1 10) by first | exact hLx | exact (fun _ => hLx (by omega)) | (intro h9; exfalso; omega)) (show ∀ k, (m.2 14) k + (m.2 15) k ≤ 4000 by assumption) (show ∀ k, (m.2 31) k + (m.2 32) k ≤ 4000 by assumption) (show ∀ k, (m.2 47) k + (m.2 48) k ≤ 4000 by assumption) (fun _ => ⟨(show PN (m.1 13) (m.1 19) (m.1 20) (m.1 21) (m.1 22) (m.1 23) (m.1 25) (m.1 26) (m.2 16) (m.2 17) by assumption), (show CN (m.2 65) (m.2 67) (m.1 28) by assumption)⟩)) (fun rr4 k5 => ?_)
    obtain ⟨m6, hT7, h8, h9, c10, rfl⟩ := k5
    refine ⟨_, _, rfl, ?_⟩
    refine T_nf2 (st' := []) (l' := [(7, (m6.1 7)), (8, (m6.1 8)), (9, (m6.1 9)), (10, (m6.1 10)), (11, (m6.1 11)), (12, (m6.1 12)), (28, (m6.1 28)), (69, (m6.1 69)), (70, (m6.1 70)), (71, (m6.1 71)), (72, (m6.1 72)), (73, (m6.1 73)), (74, (m6.1 74)), (75, (m6.1 75))]) (a' := [(65, (m6.2 65)), (66, (m6.2 66)), (67, (m6.2 67)), (68, (m6.2 68)), (76, (m6.2 76)), (77, (m6.2 77)), (78, (m6.2 78)), (79, (m6.2 79)), (80, (m6.2 80)), (81, (m6.2 81)), (82, (m6.2 82)), (83, (m6.2 83)), (84, (m6.2 84)), (85, (m6.2 85)), (86, (m6.2 86)), (87, (m6.2 87)), (88, (m6.2 88)), (89, (m6.2 89)), (90, (m6.2 90)), (91, (m6.2 91)), (92, (m6.2 92)), (107, upI (m.2 107) s (m.1 28)), (108, (m.2 108))]) [7, 8, 9, 10, 11, 12, 28, 69, 70, 71, 72, 73, 74, 75] [65, 66, 67, 68, 76, 77, 78, 79, 80, 81, 82, 83, 84, 85, 86, 87, 88, 89, 90, 91, 92] rfl ⟨rfl, rfl, rfl, rfl, rfl, rfl, rfl, rfl, rfl, rfl, rfl, rfl, rfl, rfl, rfl, rfl, rfl, rfl, rfl, rfl, rfl, rfl, rfl, rfl, rfl, rfl, rfl, rfl, trivial⟩ ⟨rfl, rfl, rfl, rfl, rfl, rfl, rfl, rfl, rfl, rfl, rfl, rfl, rfl, rfl, rfl, rfl, rfl, rfl, rfl, rfl, rfl, rfl, rfl, rfl, rfl, rfl, rfl, rfl, rfl, rfl, rfl, rfl, rfl, rfl, rfl, rfl, rfl, rfl, rfl, rfl, rfl, rfl, rfl, rfl, rfl, rfl, trivial⟩ rfl rfl (by decide) (by decide) ?_
    have g11 : 0 ≤ m6.1 7 ∧ m6.1 7 ≤ 330 := hT7.1 7
    have g12 : 0 ≤ m6.1 8 ∧ m6.1 8 ≤ 4000 := hT7.1 8
    have g13 : 0 ≤ m6.1 9 ∧ m6.1 9 ≤ 4000 := hT7.1 9
    have g14 : 0 ≤ m6.1 10 ∧ m6.1 10 ≤ 8 := hT7.1 10
    have g15 : (-1) ≤ m6.1 11 ∧ m6.1 11 ≤ 4000 := hT7.1 11
    have g16 : (-9223372036854775808) ≤ m6.1 12 ∧ m6.1 12 ≤ 9223372036854775807 := hT7.1 12
    have g17 : 0 ≤ m6.1 28 ∧ m6.1 28 ≤ 800 := hT7.1 28
    have g18 : 0 ≤ m6.1 69 ∧ m6.1 69 ≤ 1024 := hT7.1 69
    have g19 : 0 ≤ m6.1 70 ∧ m6.1 70 ≤ 4000 := hT7.1 70
    have g20 : 0 ≤ m6.1 71 ∧ m6.1 71 ≤ 1 := hT7.1 71
    have g21 : (-9223372036854775808) ≤ m6.1 72 ∧ m6.1 72 ≤ 9223372036854775807 := hT7.1 72
    have g22 : 0 ≤ m6.1 73 ∧ m6.1 73 ≤ 60 := hT7.1 73
    have g23 : 0 ≤ m6.1 74 ∧ m6.1 74 ≤ 24 := hT7.1 74
    have g24 : 0 ≤ m6.1 75 ∧ m6.1 75 ≤ 3 := hT7.1 75
    by_cases hf25 : (m6.1 10) = 0
    · skip
      replace h8 : (m.1 10) = 0 := h8 hf25
      replace h9 : LxP (m6.1 7) (m6.1 8) (m6.1 9) (m.1 6) (m6.1 10) := h9
      have hLx := h9
      obtain ⟨c26, c27, c28, c29, c30, c31⟩ := c10 hf25
      replace c26 : (m.1 8) + 1 ≤ (m6.1 8) := c26
      replace c27 : (m6.1 69) ≤ 64 := c27
      replace c28 : (m.1 28) ≤ (m6.1 28) := c28
      replace c29 : okc (m6.2 65) (m.1 28) (m6.1 28) := c29
      have hOk := c29
      replace c30 : CN (m6.2 65) (m6.2 67) (m6.1 28) := c30
      have hCN := c30
      replace c31 : agr (m.2 65) (m6.2 65) (m.1 28) := c31
      have hAg := c31
      clear c10
      have u32 : (m.1 8) + 1 ≤ (m6.1 8) := by omega
      refine T_gf 26 (.ref 268) rfl rfl rfl rfl rfl rfl ?_
      refine T_ld 27 (.int (i32 s)) rfl (fun _ => rfl) ?_
      refine T_gf 31 (.int (i32 (m6.1 28))) rfl rfl rfl rfl rfl rfl ?_
      have G33 : ∀ j, 0 ≤ (upI (m.2 108) s (m6.1 28)) j ∧ (upI (m.2 108) s (m6.1 28)) j ≤ 800 := upI_rg (hT.2.1 108) ⟨by omega, by omega⟩
      refine T_iast (a' := [(65, (m6.2 65)), (66, (m6.2 66)), (67, (m6.2 67)), (68, (m6.2 68)), (76, (m6.2 76)), (77, (m6.2 77)), (78, (m6.2 78)), (79, (m6.2 79)), (80, (m6.2 80)), (81, (m6.2 81)), (82, (m6.2 82)), (83, (m6.2 83)), (84, (m6.2 84)), (85, (m6.2 85)), (86, (m6.2 86)), (87, (m6.2 87)), (88, (m6.2 88)), (89, (m6.2 89)), (90, (m6.2 90)), (91, (m6.2 91)), (92, (m6.2 92)), (107, upI (m.2 107) s (m.1 28)), (108, upI (m.2 108) s (m6.1 28))]) 32 108 (m.2 108) rfl rfl rfl (by omega) (show s < (240 : Int) by omega) rfl rfl ?_
      refine T_ret rfl (fun _ => rfl) ?_
      exact ⟨(mO m [(7, (m6.1 7)), (8, (m6.1 8)), (9, (m6.1 9)), (10, (m6.1 10)), (11, (m6.1 11)), (12, (m6.1 12)), (28, (m6.1 28)), (69, (m6.1 69)), (70, (m6.1 70)), (71, (m6.1 71)), (72, (m6.1 72)), (73, (m6.1 73)), (74, (m6.1 74)), (75, (m6.1 75))] [(65, (m6.2 65)), (66, (m6.2 66)), (67, (m6.2 67)), (68, (m6.2 68)), (76, (m6.2 76)), (77, (m6.2 77)), (78, (m6.2 78)), (79, (m6.2 79)), (80, (m6.2 80)), (81, (m6.2 81)), (82, (m6.2 82)), (83, (m6.2 83)), (84, (m6.2 84)), (85, (m6.2 85)), (86, (m6.2 86)), (87, (m6.2 87)), (88, (m6.2 88)), (89, (m6.2 89)), (90, (m6.2 90)), (91, (m6.2 91)), (92, (m6.2 92)), (107, upI (m.2 107) s (m.1 28)), (108, upI (m.2 108) s (m6.1 28))]), (Ty_mO hT rfl rfl ⟨(hT7.1 7), (hT7.1 8), (hT7.1 9), (hT7.1 10), (hT7.1 11), (hT7.1 12), (hT7.1 28), (hT7.1 69), (hT7.1 70), (hT7.1 71), (hT7.1 72), (hT7.1 73), (hT7.1 74), (hT7.1 75), trivial⟩ ⟨(hT7.2.1 65), (hT7.2.1 66), (hT7.2.1 67), (hT7.2.1 68), (hT7.2.1 76), (hT7.2.1 77), (hT7.2.1 78), (hT7.2.1 79), (hT7.2.1 80), (hT7.2.1 81), (hT7.2.1 82), (hT7.2.1 83), (hT7.2.1 84), (hT7.2.1 85), (hT7.2.1 86), (hT7.2.1 87), (hT7.2.1 88), (hT7.2.1 89), (hT7.2.1 90), (hT7.2.1 91), (hT7.2.1 92), G2, G33, trivial⟩), (show (m6.1 10) = 0 → (m.1 10) = 0 by omega), (show LxP (m6.1 7) (m6.1 8) (m6.1 9) (m.1 6) (m6.1 10) by first | (first | exact hLx | exact (fun _ => hLx (by omega)) | (intro h9; exfalso; omega)) | (exfalso; omega)), (fun _ => ⟨(show (m.1 8) + 1 ≤ (m6.1 8) by omega), (show CN (m6.2 65) (m6.2 67) (m6.1 28) by first | (exact hCN) | (exfalso; omega)), (show agr (m.2 65) (m6.2 65) (m.1 28) by first | (exact hAg) | (exfalso; omega)), (show (m.1 28) ≤ (m6.1 28) by omega), (show cdr (m6.2 65) (m6.1 28) ((upI (m.2 107) s (m.1 28)) s) ((upI (m.2 108) s (m6.1 28)) s) by first | (rw [upI_s, upI_s]; exact ⟨hOk, by omega⟩) | (exfalso; omega)), (show agr (m.2 107) (upI (m.2 107) s (m.1 28)) s by first | (exact agr_u (Int.le_refl _)) | (exfalso; omega)), (show agr (m.2 108) (upI (m.2 108) s (m6.1 28)) s by first | (exact agr_u (Int.le_refl _)) | (exfalso; omega))⟩), rfl⟩
    · skip
      clear c10
      clear h8
      replace h9 : LxP (m6.1 7) (m6.1 8) (m6.1 9) (m.1 6) (m6.1 10) := h9
      have hLx := h9
      have hf34 : 1 ≤ (m6.1 10) := by omega
      refine T_gf 26 (.ref 268) rfl rfl rfl rfl rfl rfl ?_
      refine T_ld 27 (.int (i32 s)) rfl (fun _ => rfl) ?_
      refine T_gf 31 (.int (i32 (m6.1 28))) rfl rfl rfl rfl rfl rfl ?_
      have G35 : ∀ j, 0 ≤ (upI (m.2 108) s (m6.1 28)) j ∧ (upI (m.2 108) s (m6.1 28)) j ≤ 800 := upI_rg (hT.2.1 108) ⟨by omega, by omega⟩
      refine T_iast (a' := [(65, (m6.2 65)), (66, (m6.2 66)), (67, (m6.2 67)), (68, (m6.2 68)), (76, (m6.2 76)), (77, (m6.2 77)), (78, (m6.2 78)), (79, (m6.2 79)), (80, (m6.2 80)), (81, (m6.2 81)), (82, (m6.2 82)), (83, (m6.2 83)), (84, (m6.2 84)), (85, (m6.2 85)), (86, (m6.2 86)), (87, (m6.2 87)), (88, (m6.2 88)), (89, (m6.2 89)), (90, (m6.2 90)), (91, (m6.2 91)), (92, (m6.2 92)), (107, upI (m.2 107) s (m.1 28)), (108, upI (m.2 108) s (m6.1 28))]) 32 108 (m.2 108) rfl rfl rfl (by omega) (show s < (240 : Int) by omega) rfl rfl ?_
      refine T_ret rfl (fun _ => rfl) ?_
      exact ⟨(mO m [(7, (m6.1 7)), (8, (m6.1 8)), (9, (m6.1 9)), (10, (m6.1 10)), (11, (m6.1 11)), (12, (m6.1 12)), (28, (m6.1 28)), (69, (m6.1 69)), (70, (m6.1 70)), (71, (m6.1 71)), (72, (m6.1 72)), (73, (m6.1 73)), (74, (m6.1 74)), (75, (m6.1 75))] [(65, (m6.2 65)), (66, (m6.2 66)), (67, (m6.2 67)), (68, (m6.2 68)), (76, (m6.2 76)), (77, (m6.2 77)), (78, (m6.2 78)), (79, (m6.2 79)), (80, (m6.2 80)), (81, (m6.2 81)), (82, (m6.2 82)), (83, (m6.2 83)), (84, (m6.2 84)), (85, (m6.2 85)), (86, (m6.2 86)), (87, (m6.2 87)), (88, (m6.2 88)), (89, (m6.2 89)), (90, (m6.2 90)), (91, (m6.2 91)), (92, (m6.2 92)), (107, upI (m.2 107) s (m.1 28)), (108, upI (m.2 108) s (m6.1 28))]), (Ty_mO hT rfl rfl ⟨(hT7.1 7), (hT7.1 8), (hT7.1 9), (hT7.1 10), (hT7.1 11), (hT7.1 12), (hT7.1 28), (hT7.1 69), (hT7.1 70), (hT7.1 71), (hT7.1 72), (hT7.1 73), (hT7.1 74), (hT7.1 75), trivial⟩ ⟨(hT7.2.1 65), (hT7.2.1 66), (hT7.2.1 67), (hT7.2.1 68), (hT7.2.1 76), (hT7.2.1 77), (hT7.2.1 78), (hT7.2.1 79), (hT7.2.1 80), (hT7.2.1 81), (hT7.2.1 82), (hT7.2.1 83), (hT7.2.1 84), (hT7.2.1 85), (hT7.2.1 86), (hT7.2.1 87), (hT7.2.1 88), (hT7.2.1 89), (hT7.2.1 90), (hT7.2.1 91), (hT7.2.1 92), G2, G35, trivial⟩), (show (m6.1 10) = 0 → (m.1 10) = 0 by omega), (show LxP (m6.1 7) (m6.1 8) (m6.1 9) (m.1 6) (m6.1 10) by first | (first | exact hLx | exact (fun _ => hLx (by omega)) | (intro h9; exfalso; omega)) | (exfalso; omega)), (fun (h : (m6.1 10) = 0) => absurd h (by omega)), rfl⟩
  · skip
    clear hC
    refine T_gf 4 (.ref 267) rfl rfl rfl rfl rfl rfl ?_
    refine T_ld 5 (.int (i32 s)) rfl (fun _ => rfl) ?_
    refine T_gf 9 (.int (i32 (m.1 28))) rfl rfl rfl rfl rfl rfl ?_
    have G36 : ∀ j, 0 ≤ (upI (m.2 107) s (m.1 28)) j ∧ (upI (m.2 107) s (m.1 28)) j ≤ 800 := upI_rg (hT.2.1 107) ⟨by omega, by omega⟩
    refine T_iast (a' := [(65, (m.2 65)), (66, (m.2 66)), (67, (m.2 67)), (68, (m.2 68)), (76, (m.2 76)), (77, (m.2 77)), (78, (m.2 78)), (79, (m.2 79)), (80, (m.2 80)), (81, (m.2 81)), (82, (m.2 82)), (83, (m.2 83)), (84, (m.2 84)), (85, (m.2 85)), (86, (m.2 86)), (87, (m.2 87)), (88, (m.2 88)), (89, (m.2 89)), (90, (m.2 90)), (91, (m.2 91)), (92, (m.2 92)), (107, upI (m.2 107) s (m.1 28)), (108, (m.2 108))]) 10 107 (m.2 107) rfl rfl rfl (by omega) (show s < (240 : Int) by omega) rfl rfl ?_
    refine T_gf 14 (.int (i32 (m.1 10))) rfl rfl rfl rfl rfl rfl ?_
    refine T_if 22 17 rfl rfl rfl (r32 (by omega) (by omega)) (fun (h37 : (m.1 10) ≠ 0) => ?_) (fun (h37 : ¬ ((m.1 10) ≠ 0)) => by exfalso; omega)
    refine T_gf 26 (.ref 268) rfl rfl rfl rfl rfl rfl ?_
    refine T_ld 27 (.int (i32 s)) rfl (fun _ => rfl) ?_
    refine T_gf 31 (.int (i32 (m.1 28))) rfl rfl rfl rfl rfl rfl ?_
    have G38 : ∀ j, 0 ≤ (upI (m.2 108) s (m.1 28)) j ∧ (upI (m.2 108) s (m.1 28)) j ≤ 800 := upI_rg (hT.2.1 108) ⟨by omega, by omega⟩
    refine T_iast (a' := [(65, (m.2 65)), (66, (m.2 66)), (67, (m.2 67)), (68, (m.2 68)), (76, (m.2 76)), (77, (m.2 77)), (78, (m.2 78)), (79, (m.2 79)), (80, (m.2 80)), (81, (m.2 81)), (82, (m.2 82)), (83, (m.2 83)), (84, (m.2 84)), (85, (m.2 85)), (86, (m.2 86)), (87, (m.2 87)), (88, (m.2 88)), (89, (m.2 89)), (90, (m.2 90)), (91, (m.2 91)), (92, (m.2 92)), (107, upI (m.2 107) s (m.1 28)), (108, upI (m.2 108) s (m.1 28))]) 32 108 (m.2 108) rfl rfl rfl (by omega) (show s < (240 : Int) by omega) rfl rfl ?_
    refine T_ret rfl (fun _ => rfl) ?_
    exact ⟨(mO m [(7, (m.1 7)), (8, (m.1 8)), (9, (m.1 9)), (10, (m.1 10)), (11, (m.1 11)), (12, (m.1 12)), (28, (m.1 28)), (69, (m.1 69)), (70, (m.1 70)), (71, (m.1 71)), (72, (m.1 72)), (73, (m.1 73)), (74, (m.1 74)), (75, (m.1 75))] [(65, (m.2 65)), (66, (m.2 66)), (67, (m.2 67)), (68, (m.2 68)), (76, (m.2 76)), (77, (m.2 77)), (78, (m.2 78)), (79, (m.2 79)), (80, (m.2 80)), (81, (m.2 81)), (82, (m.2 82)), (83, (m.2 83)), (84, (m.2 84)), (85, (m.2 85)), (86, (m.2 86)), (87, (m.2 87)), (88, (m.2 88)), (89, (m.2 89)), (90, (m.2 90)), (91, (m.2 91)), (92, (m.2 92)), (107, upI (m.2 107) s (m.1 28)), (108, upI (m.2 108) s (m.1 28))]), (Ty_mO hT rfl rfl ⟨f7, f8, f9, f10, f11, f12, f28, f69, f70, f71, f72, f73, f74, f75, trivial⟩ ⟨(hT.2.1 65), (hT.2.1 66), (hT.2.1 67), (hT.2.1 68), (hT.2.1 76), (hT.2.1 77), (hT.2.1 78), (hT.2.1 79), (hT.2.1 80), (hT.2.1 81), (hT.2.1 82), (hT.2.1 83), (hT.2.1 84), (hT.2.1 85), (hT.2.1 86), (hT.2.1 87), (hT.2.1 88), (hT.2.1 89), (hT.2.1 90), (hT.2.1 91), (hT.2.1 92), G36, G38, trivial⟩), (show (m.1 10) = 0 → (m.1 10) = 0 by omega), (show LxP (m.1 7) (m.1 8) (m.1 9) (m.1 6) (m.1 10) by first | (first | exact hLx | exact (fun _ => hLx (by omega)) | (intro h9; exfalso; omega)) | (exfalso; omega)), (fun (h : (m.1 10) = 0) => absurd h (by omega)), rfl⟩
def Q_takeStatement (m : mR) (c : Nat → Option am_C) (N : Nat) : ag_Re af_T → Prop := fun R => ∃ (M : mR), Ty M ∧ ((M.1 10) = 0 → (m.1 10) = 0) ∧ (LxP (M.1 7) (M.1 8) (M.1 9) (m.1 6) (M.1 10)) ∧ ((M.1 99) = (m.1 99) + 1) ∧ (M.1 10 = 0 → ((m.1 8) + 1 ≤ (M.1 8)) ∧ ((m.1 28) ≤ (M.1 28)) ∧ (CN (M.2 65) (M.2 67) (M.1 28)) ∧ (agr (m.2 65) (M.2 65) (m.1 28)) ∧ (TdP (M.2 65) (M.1 28) (m.1 22) (M.1 99) (M.2 101) (M.2 103) (M.2 105) (M.2 106) (M.2 107) (M.2 108))) ∧ R = (.inl (none), (mhp (mO m [(7, (M.1 7)), (8, (M.1 8)), (9, (M.1 9)), (10, (M.1 10)), (11, (M.1 11)), (12, (M.1 12)), (28, (M.1 28)), (69, (M.1 69)), (70, (M.1 70)), (71, (M.1 71)), (72, (M.1 72)), (73, (M.1 73)), (74, (M.1 74)), (75, (M.1 75)), (99, (M.1 99)), (100, (M.1 100))] [(65, (M.2 65)), (66, (M.2 66)), (67, (M.2 67)), (68, (M.2 68)), (76, (M.2 76)), (77, (M.2 77)), (78, (M.2 78)), (79, (M.2 79)), (80, (M.2 80)), (81, (M.2 81)), (82, (M.2 82)), (83, (M.2 83)), (84, (M.2 84)), (85, (M.2 85)), (86, (M.2 86)), (87, (M.2 87)), (88, (M.2 88)), (89, (M.2 89)), (90, (M.2 90)), (91, (M.2 91)), (92, (M.2 92)), (101, (M.2 101)), (102, (M.2 102)), (103, (M.2 103)), (104, (M.2 104)), (105, (M.2 105)), (106, (M.2 106)), (107, (M.2 107)), (108, (M.2 108))]) c, N), 0, 0)
set_option maxHeartbeats 8000000 in
theorem c_takeStatement (w : wX) (m : mR) (c : Nat → Option am_C) (N D : Nat) (hD : 13 ≤ D) (hT : Ty m) (hLx0 : LxP (m.1 7) (m.1 8) (m.1 9) (m.1 6) (m.1 10)) (hNM0 : ∀ k, (m.2 14) k + (m.2 15) k ≤ 4000) (hFA0 : ∀ k, (m.2 31) k + (m.2 32) k ≤ 4000) (hPA0 : ∀ k, (m.2 47) k + (m.2 48) k ≤ 4000) (p4 : (m.1 99) ≤ 239) (hf0 : m.1 10 = 0) (hC : (PN (m.1 13) (m.1 19) (m.1 20) (m.1 21) (m.1 22) (m.1 23) (m.1 25) (m.1 26) (m.2 16) (m.2 17)) ∧ (CN (m.2 65) (m.2 67) (m.1 28)) ∧ ((m.1 7) ≠ 0) ∧ (TdP (m.2 65) (m.1 28) (m.1 22) (m.1 99) (m.2 101) (m.2 103) (m.2 105) (m.2 106) (m.2 107) (m.2 108))) : TC w D 270 [.ref 189] (mhp m c, N) (Q_takeStatement m c N) := by
  obtain ⟨D, rfl⟩ : ∃ k, D = k + 1 := ⟨D - 1, by omega⟩
  have hLx := hLx0
  have hNM := hNM0
  have hFA := hFA0
  have hPA := hPA0
  have f7 : 0 ≤ m.1 7 ∧ m.1 7 ≤ 330 := hT.1 7
  have f8 : 0 ≤ m.1 8 ∧ m.1 8 ≤ 4000 := hT.1 8
  have f9 : 0 ≤ m.1 9 ∧ m.1 9 ≤ 4000 := hT.1 9
  have f10 : 0 ≤ m.1 10 ∧ m.1 10 ≤ 8 := hT.1 10
  have f11 : (-1) ≤ m.1 11 ∧ m.1 11 ≤ 4000 := hT.1 11
  have f12 : (-9223372036854775808) ≤ m.1 12 ∧ m.1 12 ≤ 9223372036854775807 := hT.1 12
  have f28 : 0 ≤ m.1 28 ∧ m.1 28 ≤ 800 := hT.1 28
  have f69 : 0 ≤ m.1 69 ∧ m.1 69 ≤ 1024 := hT.1 69
  have f70 : 0 ≤ m.1 70 ∧ m.1 70 ≤ 4000 := hT.1 70
  have f71 : 0 ≤ m.1 71 ∧ m.1 71 ≤ 1 := hT.1 71
  have f72 : (-9223372036854775808) ≤ m.1 72 ∧ m.1 72 ≤ 9223372036854775807 := hT.1 72
  have f73 : 0 ≤ m.1 73 ∧ m.1 73 ≤ 60 := hT.1 73
  have f74 : 0 ≤ m.1 74 ∧ m.1 74 ≤ 24 := hT.1 74
  have f75 : 0 ≤ m.1 75 ∧ m.1 75 ≤ 3 := hT.1 75
  have f99 : 0 ≤ m.1 99 ∧ m.1 99 ≤ 240 := hT.1 99
  have f100 : 0 ≤ m.1 100 ∧ m.1 100 ≤ 64 := hT.1 100
  have f25 : 0 ≤ m.1 25 ∧ m.1 25 ≤ 16 := hT.1 25
  have f22 : 0 ≤ m.1 22 ∧ m.1 22 ≤ 8 := hT.1 22
  have f19 : 0 ≤ m.1 19 ∧ m.1 19 ≤ 12 := hT.1 19
  have f20 : 0 ≤ m.1 20 ∧ m.1 20 ≤ 12 := hT.1 20
  have f21 : 0 ≤ m.1 21 ∧ m.1 21 ≤ 16 := hT.1 21
  have f13 : 0 ≤ m.1 13 ∧ m.1 13 ≤ 120 := hT.1 13
  have f6 : 0 ≤ m.1 6 ∧ m.1 6 ≤ 4000 := hT.1 6
  have f23 : 0 ≤ m.1 23 ∧ m.1 23 ≤ 16 := hT.1 23
  have f26 : 0 ≤ m.1 26 ∧ m.1 26 ≤ 8 := hT.1 26
  refine Tc_of rfl ?_
  show TT w D pm_270 (0, [(0, .ref 189)], [], (mhp m c, N), 0, 0) (Q_takeStatement m c N)
  rw [show (mhp m c, N) = (mhp (mO m [(7, (m.1 7)), (8, (m.1 8)), (9, (m.1 9)), (10, (m.1 10)), (11, (m.1 11)), (12, (m.1 12)), (28, (m.1 28)), (69, (m.1 69)), (70, (m.1 70)), (71, (m.1 71)), (72, (m.1 72)), (73, (m.1 73)), (74, (m.1 74)), (75, (m.1 75)), (99, (m.1 99)), (100, (m.1 100))] [(65, (m.2 65)), (66, (m.2 66)), (67, (m.2 67)), (68, (m.2 68)), (76, (m.2 76)), (77, (m.2 77)), (78, (m.2 78)), (79, (m.2 79)), (80, (m.2 80)), (81, (m.2 81)), (82, (m.2 82)), (83, (m.2 83)), (84, (m.2 84)), (85, (m.2 85)), (86, (m.2 86)), (87, (m.2 87)), (88, (m.2 88)), (89, (m.2 89)), (90, (m.2 90)), (91, (m.2 91)), (92, (m.2 92)), (101, (m.2 101)), (102, (m.2 102)), (103, (m.2 103)), (104, (m.2 104)), (105, (m.2 105)), (106, (m.2 106)), (107, (m.2 107)), (108, (m.2 108))]) c, N) from congrArg (fun M => (mhp M c, N)) (mO_pad m [7, 8, 9, 10, 11, 12, 28, 69, 70, 71, 72, 73, 74, 75, 99, 100] [65, 66, 67, 68, 76, 77, 78, 79, 80, 81, 82, 83, 84, 85, 86, 87, 88, 89, 90, 91, 92, 101, 102, 103, 104, 105, 106, 107, 108])]
  obtain ⟨pPN, hCN, c1, pTd⟩ := hC
  have h7 := hLx (by omega)
  have hAgC := agr_r (m.2 65) (m.1 28)
  have J235_28 : ∀ (m27 : mR), (Ty m27) → (1 ≤ (m27.1 10)) → ((m27.1 10) ≤ 8) → (0 ≤ ((m.1 99) + 1) ∧ ((m.1 99) + 1) ≤ 240) → (0 ≤ (m.1 99) ∧ (m.1 99) ≤ 240) → TT w D pm_270 (235, [(0, .ref 189), (1, .int (i32 (m.1 99)))], [], (mhp (mO m [(7, (m27.1 7)), (8, (m27.1 8)), (9, (m27.1 9)), (10, (m27.1 10)), (11, (m27.1 11)), (12, (m27.1 12)), (28, (m27.1 28)), (69, (m27.1 69)), (70, (m27.1 70)), (71, (m27.1 71)), (72, (m27.1 72)), (73, (m27.1 73)), (74, (m27.1 74)), (75, (m27.1 75)), (99, (m.1 99) + 1), (100, (m27.1 100))] [(65, (m27.2 65)), (66, (m27.2 66)), (67, (m27.2 67)), (68, (m27.2 68)), (76, (m27.2 76)), (77, (m27.2 77)), (78, (m27.2 78)), (79, (m27.2 79)), (80, (m27.2 80)), (81, (m27.2 81)), (82, (m27.2 82)), (83, (m27.2 83)), (84, (m27.2 84)), (85, (m27.2 85)), (86, (m27.2 86)), (87, (m27.2 87)), (88, (m27.2 88)), (89, (m27.2 89)), (90, (m27.2 90)), (91, (m27.2 91)), (92, (m27.2 92)), (101, (m27.2 101)), (102, (m27.2 102)), (103, (m27.2 103)), (104, (m27.2 104)), (105, (m27.2 105)), (106, (m27.2 106)), (107, (m27.2 107)), (108, (m27.2 108))]) c, N), 0, 0) (Q_takeStatement m c N) := by
    intro m27 q29 ic30 ic31 ic32 ic33
    have q29_7 : 0 ≤ m27.1 7 ∧ m27.1 7 ≤ 330 := q29.1 7
    have q29_8 : 0 ≤ m27.1 8 ∧ m27.1 8 ≤ 4000 := q29.1 8
    have q29_9 : 0 ≤ m27.1 9 ∧ m27.1 9 ≤ 4000 := q29.1 9
    have q29_10 : 0 ≤ m27.1 10 ∧ m27.1 10 ≤ 8 := q29.1 10
    have q29_11 : (-1) ≤ m27.1 11 ∧ m27.1 11 ≤ 4000 := q29.1 11
    have q29_12 : (-9223372036854775808) ≤ m27.1 12 ∧ m27.1 12 ≤ 9223372036854775807 := q29.1 12
    have q29_28 : 0 ≤ m27.1 28 ∧ m27.1 28 ≤ 800 := q29.1 28
    have q29_69 : 0 ≤ m27.1 69 ∧ m27.1 69 ≤ 1024 := q29.1 69
    have q29_70 : 0 ≤ m27.1 70 ∧ m27.1 70 ≤ 4000 := q29.1 70
    have q29_71 : 0 ≤ m27.1 71 ∧ m27.1 71 ≤ 1 := q29.1 71
    have q29_72 : (-9223372036854775808) ≤ m27.1 72 ∧ m27.1 72 ≤ 9223372036854775807 := q29.1 72
    have q29_73 : 0 ≤ m27.1 73 ∧ m27.1 73 ≤ 60 := q29.1 73
    have q29_74 : 0 ≤ m27.1 74 ∧ m27.1 74 ≤ 24 := q29.1 74
    have q29_75 : 0 ≤ m27.1 75 ∧ m27.1 75 ≤ 3 := q29.1 75
    have q29_100 : 0 ≤ m27.1 100 ∧ m27.1 100 ≤ 64 := q29.1 100
    refine T_ret rfl (fun _ => rfl) ?_
    exact ⟨(mO m [(7, (m27.1 7)), (8, (m27.1 8)), (9, (m27.1 9)), (10, (m27.1 10)), (11, (m27.1 11)), (12, (m27.1 12)), (28, (m27.1 28)), (69, (m27.1 69)), (70, (m27.1 70)), (71, (m27.1 71)), (72, (m27.1 72)), (73, (m27.1 73)), (74, (m27.1 74)), (75, (m27.1 75)), (99, (m.1 99) + 1), (100, (m27.1 100))] [(65, (m27.2 65)), (66, (m27.2 66)), (67, (m27.2 67)), (68, (m27.2 68)), (76, (m27.2 76)), (77, (m27.2 77)), (78, (m27.2 78)), (79, (m27.2 79)), (80, (m27.2 80)), (81, (m27.2 81)), (82, (m27.2 82)), (83, (m27.2 83)), (84, (m27.2 84)), (85, (m27.2 85)), (86, (m27.2 86)), (87, (m27.2 87)), (88, (m27.2 88)), (89, (m27.2 89)), (90, (m27.2 90)), (91, (m27.2 91)), (92, (m27.2 92)), (101, (m27.2 101)), (102, (m27.2 102)), (103, (m27.2 103)), (104, (m27.2 104)), (105, (m27.2 105)), (106, (m27.2 106)), (107, (m27.2 107)), (108, (m27.2 108))]), (Ty_mO hT rfl rfl ⟨(q29.1 7), (q29.1 8), (q29.1 9), (q29.1 10), (q29.1 11), (q29.1 12), (q29.1 28), (q29.1 69), (q29.1 70), (q29.1 71), (q29.1 72), (q29.1 73), (q29.1 74), (q29.1 75), ⟨(by omega : (0 : Int) ≤ (m.1 99) + 1), (by omega : ((m.1 99) + 1 : Int) ≤ 240)⟩, (q29.1 100), trivial⟩ ⟨(q29.2.1 65), (q29.2.1 66), (q29.2.1 67), (q29.2.1 68), (q29.2.1 76), (q29.2.1 77), (q29.2.1 78), (q29.2.1 79), (q29.2.1 80), (q29.2.1 81), (q29.2.1 82), (q29.2.1 83), (q29.2.1 84), (q29.2.1 85), (q29.2.1 86), (q29.2.1 87), (q29.2.1 88), (q29.2.1 89), (q29.2.1 90), (q29.2.1 91), (q29.2.1 92), (q29.2.1 101), (q29.2.1 102), (q29.2.1 103), (q29.2.1 104), (q29.2.1 105), (q29.2.1 106), (q29.2.1 107), (q29.2.1 108), trivial⟩), (show (m27.1 10) = 0 → (m.1 10) = 0 by omega), (show LxP (m27.1 7) (m27.1 8) (m27.1 9) (m.1 6) (m27.1 10) by first | (first | exact hLx | exact (fun _ => hLx (by omega)) | (intro h9; exfalso; omega)) | (exfalso; omega)), (show ((m.1 99) + 1) = (m.1 99) + 1 by omega), (fun (h : (m27.1 10) = 0) => absurd h (by omega)), rfl⟩
  have J228_37 : ∀ (s35 : Int) (m36 : mR), (R32 s35) → (Ty m36) → (0 ≤ s35) → (s35 ≤ 11) → (1 ≤ (m36.1 10)) → ((m36.1 10) ≤ 8) → (0 ≤ ((m.1 99) + 1) ∧ ((m.1 99) + 1) ≤ 240) → (0 ≤ (m.1 99) ∧ (m.1 99) ≤ 240) → (0 ≤ (m.1 99) ∧ (m.1 99) ≤ 240) → TT w D pm_270 (228, [(0, .ref 189), (1, .int (i32 (m.1 99)))], [.int (i32 s35), .int (i32 (m.1 99)), .ref 264], (mhp (mO m [(7, (m36.1 7)), (8, (m36.1 8)), (9, (m36.1 9)), (10, (m36.1 10)), (11, (m36.1 11)), (12, (m36.1 12)), (28, (m.1 28)), (69, (m.1 69)), (70, (m.1 70)), (71, (m.1 71)), (72, (m.1 72)), (73, (m.1 73)), (74, (m.1 74)), (75, (m.1 75)), (99, (m.1 99) + 1), (100, (m.1 100))] [(65, (m.2 65)), (66, (m.2 66)), (67, (m.2 67)), (68, (m.2 68)), (76, (m.2 76)), (77, (m.2 77)), (78, (m.2 78)), (79, (m.2 79)), (80, (m.2 80)), (81, (m.2 81)), (82, (m.2 82)), (83, (m.2 83)), (84, (m.2 84)), (85, (m.2 85)), (86, (m.2 86)), (87, (m.2 87)), (88, (m.2 88)), (89, (m.2 89)), (90, (m.2 90)), (91, (m.2 91)), (92, (m.2 92)), (101, (m36.2 101)), (102, (m.2 102)), (103, (m.2 103)), (104, (m.2 104)), (105, (m.2 105)), (106, (m.2 106)), (107, (m.2 107)), (108, (m.2 108))]) c, N), 0, 0) (Q_takeStatement m c N) := by
    intro s35 m36 q38 q39 ic40 ic41 ic42 ic43 ic44 ic45 ic46
    obtain ⟨q38a, q38b⟩ := id q38
    have q39_7 : 0 ≤ m36.1 7 ∧ m36.1 7 ≤ 330 := q39.1 7
    have q39_8 : 0 ≤ m36.1 8 ∧ m36.1 8 ≤ 4000 := q39.1 8
    have q39_9 : 0 ≤ m36.1 9 ∧ m36.1 9 ≤ 4000 := q39.1 9
    have q39_10 : 0 ≤ m36.1 10 ∧ m36.1 10 ≤ 8 := q39.1 10
    have q39_11 : (-1) ≤ m36.1 11 ∧ m36.1 11 ≤ 4000 := q39.1 11
    have q39_12 : (-9223372036854775808) ≤ m36.1 12 ∧ m36.1 12 ≤ 9223372036854775807 := q39.1 12
    have G48 : ∀ j, 0 ≤ (upI (m.2 104) (m.1 99) s35) j ∧ (upI (m.2 104) (m.1 99) s35) j ≤ 11 := upI_rg (hT.2.1 104) ⟨by omega, by omega⟩
    refine T_iast (a' := [(65, (m.2 65)), (66, (m.2 66)), (67, (m.2 67)), (68, (m.2 68)), (76, (m.2 76)), (77, (m.2 77)), (78, (m.2 78)), (79, (m.2 79)), (80, (m.2 80)), (81, (m.2 81)), (82, (m.2 82)), (83, (m.2 83)), (84, (m.2 84)), (85, (m.2 85)), (86, (m.2 86)), (87, (m.2 87)), (88, (m.2 88)), (89, (m.2 89)), (90, (m.2 90)), (91, (m.2 91)), (92, (m.2 92)), (101, (m36.2 101)), (102, (m.2 102)), (103, (m.2 103)), (104, upI (m.2 104) (m.1 99) s35), (105, (m.2 105)), (106, (m.2 106)), (107, (m.2 107)), (108, (m.2 108))]) 229 104 (m.2 104) rfl rfl rfl (by omega) (show (m.1 99) < (240 : Int) by omega) rfl rfl ?_
    refine T_ld 230 (.ref 189) rfl (fun _ => rfl) ?_
    refine T_ld 232 (.int (i32 59)) rfl (fun _ => rfl) ?_
    refine T_call 235 232 [.ref 189, .int (i32 59)] [] rfl (fun _ => rfl) rfl (c_need w (mO m [(7, (m36.1 7)), (8, (m36.1 8)), (9, (m36.1 9)), (10, (m36.1 10)), (11, (m36.1 11)), (12, (m36.1 12)), (28, (m.1 28)), (69, (m.1 69)), (70, (m.1 70)), (71, (m.1 71)), (72, (m.1 72)), (73, (m.1 73)), (74, (m.1 74)), (75, (m.1 75)), (99, (m.1 99) + 1), (100, (m.1 100))] [(65, (m.2 65)), (66, (m.2 66)), (67, (m.2 67)), (68, (m.2 68)), (76, (m.2 76)), (77, (m.2 77)), (78, (m.2 78)), (79, (m.2 79)), (80, (m.2 80)), (81, (m.2 81)), (82, (m.2 82)), (83, (m.2 83)), (84, (m.2 84)), (85, (m.2 85)), (86, (m.2 86)), (87, (m.2 87)), (88, (m.2 88)), (89, (m.2 89)), (90, (m.2 90)), (91, (m.2 91)), (92, (m.2 92)), (101, (m36.2 101)), (102, (m.2 102)), (103, (m.2 103)), (104, upI (m.2 104) (m.1 99) s35), (105, (m.2 105)), (106, (m.2 106)), (107, (m.2 107)), (108, (m.2 108))]) c N D (by omega) (Ty_mO hT rfl rfl ⟨(q39.1 7), (q39.1 8), (q39.1 9), (q39.1 10), (q39.1 11), (q39.1 12), f28, f69, f70, f71, f72, f73, f74, f75, ⟨(by omega : (0 : Int) ≤ (m.1 99) + 1), (by omega : ((m.1 99) + 1 : Int) ≤ 240)⟩, f100, trivial⟩ ⟨(hT.2.1 65), (hT.2.1 66), (hT.2.1 67), (hT.2.1 68), (hT.2.1 76), (hT.2.1 77), (hT.2.1 78), (hT.2.1 79), (hT.2.1 80), (hT.2.1 81), (hT.2.1 82), (hT.2.1 83), (hT.2.1 84), (hT.2.1 85), (hT.2.1 86), (hT.2.1 87), (hT.2.1 88), (hT.2.1 89), (hT.2.1 90), (hT.2.1 91), (hT.2.1 92), (q39.2.1 101), (hT.2.1 102), (hT.2.1 103), G48, (hT.2.1 105), (hT.2.1 106), (hT.2.1 107), (hT.2.1 108), trivial⟩) 59 ⟨by decide, by decide⟩ (show 1 ≤ (59 : Int) by omega) (show LxP (m36.1 7) (m36.1 8) (m36.1 9) (m.1 6) (m36.1 10) by first | exact hLx | (intro h9; exfalso; omega) | (intro h9; have h8 := hLx (by omega); omega))) (fun rr49 k50 => ?_)
    obtain ⟨y51, y53, y55, y57, y59, y61, g52, g54, g56, g58, g60, g62, h63, h64, h65, h66, rfl⟩ := k50
    refine ⟨_, _, rfl, ?_⟩
    refine T_nf2 (st' := []) (l' := [(7, y51), (8, y53), (9, y55), (10, y57), (11, y59), (12, y61), (28, (m.1 28)), (69, (m.1 69)), (70, (m.1 70)), (71, (m.1 71)), (72, (m.1 72)), (73, (m.1 73)), (74, (m.1 74)), (75, (m.1 75)), (99, (m.1 99) + 1), (100, (m.1 100))]) (a' := [(65, (m.2 65)), (66, (m.2 66)), (67, (m.2 67)), (68, (m.2 68)), (76, (m.2 76)), (77, (m.2 77)), (78, (m.2 78)), (79, (m.2 79)), (80, (m.2 80)), (81, (m.2 81)), (82, (m.2 82)), (83, (m.2 83)), (84, (m.2 84)), (85, (m.2 85)), (86, (m.2 86)), (87, (m.2 87)), (88, (m.2 88)), (89, (m.2 89)), (90, (m.2 90)), (91, (m.2 91)), (92, (m.2 92)), (101, (m36.2 101)), (102, (m.2 102)), (103, (m.2 103)), (104, upI (m.2 104) (m.1 99) s35), (105, (m.2 105)), (106, (m.2 106)), (107, (m.2 107)), (108, (m.2 108))]) [7, 8, 9, 10, 11, 12] [] rfl ⟨rfl, rfl, rfl, rfl, rfl, rfl, rfl, rfl, rfl, rfl, rfl, rfl, rfl, rfl, rfl, rfl, rfl, rfl, rfl, rfl, rfl, rfl, rfl, rfl, rfl, rfl, rfl, rfl, rfl, rfl, rfl, rfl, trivial⟩ ⟨rfl, rfl, rfl, rfl, rfl, rfl, rfl, rfl, rfl, rfl, rfl, rfl, rfl, rfl, rfl, rfl, rfl, rfl, rfl, rfl, rfl, rfl, rfl, rfl, rfl, rfl, rfl, rfl, rfl, rfl, rfl, rfl, rfl, rfl, rfl, rfl, rfl, rfl, rfl, rfl, rfl, rfl, rfl, rfl, rfl, rfl, rfl, rfl, rfl, rfl, rfl, rfl, rfl, rfl, rfl, rfl, rfl, rfl, trivial⟩ rfl rfl (by decide) (by decide) ?_
    replace h63 : LxP y51 y53 y55 (m.1 6) y57 := h63
    replace h64 : y57 = 0 → (m36.1 10) = 0 ∧ (m36.1 7) = (59 : Int) := h64
    replace h65 : (m36.1 8) ≤ y53 := h65
    replace h66 : y57 = 0 → (m36.1 8) + (m36.1 9) ≤ y53 := h66
    have hf67 : 1 ≤ y57 := by omega
    clear h64
    clear h66
    have hLx := h63
    clear q39_7 q39_8 q39_9 q39_10 q39_11 q39_12 ic42 ic43 h65
    exact J235_28 (mO m [(7, y51), (8, y53), (9, y55), (10, y57), (11, y59), (12, y61), (28, (m.1 28)), (69, (m.1 69)), (70, (m.1 70)), (71, (m.1 71)), (72, (m.1 72)), (73, (m.1 73)), (74, (m.1 74)), (75, (m.1 75)), (99, (m.1 99) + 1), (100, (m.1 100))] [(65, (m.2 65)), (66, (m.2 66)), (67, (m.2 67)), (68, (m.2 68)), (76, (m.2 76)), (77, (m.2 77)), (78, (m.2 78)), (79, (m.2 79)), (80, (m.2 80)), (81, (m.2 81)), (82, (m.2 82)), (83, (m.2 83)), (84, (m.2 84)), (85, (m.2 85)), (86, (m.2 86)), (87, (m.2 87)), (88, (m.2 88)), (89, (m.2 89)), (90, (m.2 90)), (91, (m.2 91)), (92, (m.2 92)), (101, (m36.2 101)), (102, (m.2 102)), (103, (m.2 103)), (104, upI (m.2 104) (m.1 99) s35), (105, (m.2 105)), (106, (m.2 106)), (107, (m.2 107)), (108, (m.2 108))]) (Ty_mO hT rfl rfl ⟨g52, g54, g56, g58, g60, g62, f28, f69, f70, f71, f72, f73, f74, f75, ⟨(by omega : (0 : Int) ≤ (m.1 99) + 1), (by omega : ((m.1 99) + 1 : Int) ≤ 240)⟩, f100, trivial⟩ ⟨(hT.2.1 65), (hT.2.1 66), (hT.2.1 67), (hT.2.1 68), (hT.2.1 76), (hT.2.1 77), (hT.2.1 78), (hT.2.1 79), (hT.2.1 80), (hT.2.1 81), (hT.2.1 82), (hT.2.1 83), (hT.2.1 84), (hT.2.1 85), (hT.2.1 86), (hT.2.1 87), (hT.2.1 88), (hT.2.1 89), (hT.2.1 90), (hT.2.1 91), (hT.2.1 92), (q39.2.1 101), (hT.2.1 102), (hT.2.1 103), G48, (hT.2.1 105), (hT.2.1 106), (hT.2.1 107), (hT.2.1 108), trivial⟩) (show 1 ≤ y57 by omega) (show y57 ≤ 8 by omega) (show 0 ≤ ((m.1 99) + 1) ∧ ((m.1 99) + 1) ≤ 240 by omega) (show 0 ≤ (m.1 99) ∧ (m.1 99) ≤ 240 by omega)
  have J176_69 : ∀ (m68 : mR), (Ty m68) → (1 ≤ (m68.1 10)) → ((m68.1 10) ≤ 8) → (0 ≤ ((m.1 99) + 1) ∧ ((m.1 99) + 1) ≤ 240) → (0 ≤ (m.1 99) ∧ (m.1 99) ≤ 240) → TT w D pm_270 (176, [(0, .ref 189), (1, .int (i32 (m.1 99)))], [], (mhp (mO m [(7, (m68.1 7)), (8, (m68.1 8)), (9, (m68.1 9)), (10, (m68.1 10)), (11, (m68.1 11)), (12, (m68.1 12)), (28, (m68.1 28)), (69, (m68.1 69)), (70, (m68.1 70)), (71, (m68.1 71)), (72, (m68.1 72)), (73, (m68.1 73)), (74, (m68.1 74)), (75, (m68.1 75)), (99, (m.1 99) + 1), (100, (m.1 100))] [(65, (m68.2 65)), (66, (m68.2 66)), (67, (m68.2 67)), (68, (m68.2 68)), (76, (m68.2 76)), (77, (m68.2 77)), (78, (m68.2 78)), (79, (m68.2 79)), (80, (m68.2 80)), (81, (m68.2 81)), (82, (m68.2 82)), (83, (m68.2 83)), (84, (m68.2 84)), (85, (m68.2 85)), (86, (m68.2 86)), (87, (m68.2 87)), (88, (m68.2 88)), (89, (m68.2 89)), (90, (m68.2 90)), (91, (m68.2 91)), (92, (m68.2 92)), (101, (m68.2 101)), (102, (m.2 102)), (103, (m68.2 103)), (104, (m.2 104)), (105, (m68.2 105)), (106, (m68.2 106)), (107, (m.2 107)), (108, (m.2 108))]) c, N), 0, 0) (Q_takeStatement m c N) := by
    intro m68 q70 ic71 ic72 ic73 ic74
    have q70_7 : 0 ≤ m68.1 7 ∧ m68.1 7 ≤ 330 := q70.1 7
    have q70_8 : 0 ≤ m68.1 8 ∧ m68.1 8 ≤ 4000 := q70.1 8
    have q70_9 : 0 ≤ m68.1 9 ∧ m68.1 9 ≤ 4000 := q70.1 9
    have q70_10 : 0 ≤ m68.1 10 ∧ m68.1 10 ≤ 8 := q70.1 10
    have q70_11 : (-1) ≤ m68.1 11 ∧ m68.1 11 ≤ 4000 := q70.1 11
    have q70_12 : (-9223372036854775808) ≤ m68.1 12 ∧ m68.1 12 ≤ 9223372036854775807 := q70.1 12
    have q70_28 : 0 ≤ m68.1 28 ∧ m68.1 28 ≤ 800 := q70.1 28
    have q70_69 : 0 ≤ m68.1 69 ∧ m68.1 69 ≤ 1024 := q70.1 69
    have q70_70 : 0 ≤ m68.1 70 ∧ m68.1 70 ≤ 4000 := q70.1 70
    have q70_71 : 0 ≤ m68.1 71 ∧ m68.1 71 ≤ 1 := q70.1 71
    have q70_72 : (-9223372036854775808) ≤ m68.1 72 ∧ m68.1 72 ≤ 9223372036854775807 := q70.1 72
    have q70_73 : 0 ≤ m68.1 73 ∧ m68.1 73 ≤ 60 := q70.1 73
    have q70_74 : 0 ≤ m68.1 74 ∧ m68.1 74 ≤ 24 := q70.1 74
    have q70_75 : 0 ≤ m68.1 75 ∧ m68.1 75 ≤ 3 := q70.1 75
    refine T_gf 180 (.int (i32 (m68.1 10))) rfl rfl rfl rfl rfl rfl ?_
    refine T_if 229 183 rfl rfl rfl (r32 (by omega) (by omega)) (fun (h76 : (m68.1 10) ≠ 0) => ?_) (fun (h76 : ¬ ((m68.1 10) ≠ 0)) => by exfalso; omega)
    refine T_ld 230 (.ref 189) rfl (fun _ => rfl) ?_
    refine T_ld 232 (.int (i32 59)) rfl (fun _ => rfl) ?_
    refine T_call 235 232 [.ref 189, .int (i32 59)] [] rfl (fun _ => rfl) rfl (c_need w (mO m [(7, (m68.1 7)), (8, (m68.1 8)), (9, (m68.1 9)), (10, (m68.1 10)), (11, (m68.1 11)), (12, (m68.1 12)), (28, (m68.1 28)), (69, (m68.1 69)), (70, (m68.1 70)), (71, (m68.1 71)), (72, (m68.1 72)), (73, (m68.1 73)), (74, (m68.1 74)), (75, (m68.1 75)), (99, (m.1 99) + 1), (100, (m.1 100))] [(65, (m68.2 65)), (66, (m68.2 66)), (67, (m68.2 67)), (68, (m68.2 68)), (76, (m68.2 76)), (77, (m68.2 77)), (78, (m68.2 78)), (79, (m68.2 79)), (80, (m68.2 80)), (81, (m68.2 81)), (82, (m68.2 82)), (83, (m68.2 83)), (84, (m68.2 84)), (85, (m68.2 85)), (86, (m68.2 86)), (87, (m68.2 87)), (88, (m68.2 88)), (89, (m68.2 89)), (90, (m68.2 90)), (91, (m68.2 91)), (92, (m68.2 92)), (101, (m68.2 101)), (102, (m.2 102)), (103, (m68.2 103)), (104, (m.2 104)), (105, (m68.2 105)), (106, (m68.2 106)), (107, (m.2 107)), (108, (m.2 108))]) c N D (by omega) (Ty_mO hT rfl rfl ⟨(q70.1 7), (q70.1 8), (q70.1 9), (q70.1 10), (q70.1 11), (q70.1 12), (q70.1 28), (q70.1 69), (q70.1 70), (q70.1 71), (q70.1 72), (q70.1 73), (q70.1 74), (q70.1 75), ⟨(by omega : (0 : Int) ≤ (m.1 99) + 1), (by omega : ((m.1 99) + 1 : Int) ≤ 240)⟩, f100, trivial⟩ ⟨(q70.2.1 65), (q70.2.1 66), (q70.2.1 67), (q70.2.1 68), (q70.2.1 76), (q70.2.1 77), (q70.2.1 78), (q70.2.1 79), (q70.2.1 80), (q70.2.1 81), (q70.2.1 82), (q70.2.1 83), (q70.2.1 84), (q70.2.1 85), (q70.2.1 86), (q70.2.1 87), (q70.2.1 88), (q70.2.1 89), (q70.2.1 90), (q70.2.1 91), (q70.2.1 92), (q70.2.1 101), (hT.2.1 102), (q70.2.1 103), (hT.2.1 104), (q70.2.1 105), (q70.2.1 106), (hT.2.1 107), (hT.2.1 108), trivial⟩) 59 ⟨by decide, by decide⟩ (show 1 ≤ (59 : Int) by omega) (show LxP (m68.1 7) (m68.1 8) (m68.1 9) (m.1 6) (m68.1 10) by first | exact hLx | (intro h9; exfalso; omega) | (intro h9; have h8 := hLx (by omega); omega))) (fun rr77 k78 => ?_)
    obtain ⟨y79, y81, y83, y85, y87, y89, g80, g82, g84, g86, g88, g90, h91, h92, h93, h94, rfl⟩ := k78
    refine ⟨_, _, rfl, ?_⟩
    refine T_nf2 (st' := []) (l' := [(7, y79), (8, y81), (9, y83), (10, y85), (11, y87), (12, y89), (28, (m68.1 28)), (69, (m68.1 69)), (70, (m68.1 70)), (71, (m68.1 71)), (72, (m68.1 72)), (73, (m68.1 73)), (74, (m68.1 74)), (75, (m68.1 75)), (99, (m.1 99) + 1), (100, (m.1 100))]) (a' := [(65, (m68.2 65)), (66, (m68.2 66)), (67, (m68.2 67)), (68, (m68.2 68)), (76, (m68.2 76)), (77, (m68.2 77)), (78, (m68.2 78)), (79, (m68.2 79)), (80, (m68.2 80)), (81, (m68.2 81)), (82, (m68.2 82)), (83, (m68.2 83)), (84, (m68.2 84)), (85, (m68.2 85)), (86, (m68.2 86)), (87, (m68.2 87)), (88, (m68.2 88)), (89, (m68.2 89)), (90, (m68.2 90)), (91, (m68.2 91)), (92, (m68.2 92)), (101, (m68.2 101)), (102, (m.2 102)), (103, (m68.2 103)), (104, (m.2 104)), (105, (m68.2 105)), (106, (m68.2 106)), (107, (m.2 107)), (108, (m.2 108))]) [7, 8, 9, 10, 11, 12] [] rfl ⟨rfl, rfl, rfl, rfl, rfl, rfl, rfl, rfl, rfl, rfl, rfl, rfl, rfl, rfl, rfl, rfl, rfl, rfl, rfl, rfl, rfl, rfl, rfl, rfl, rfl, rfl, rfl, rfl, rfl, rfl, rfl, rfl, trivial⟩ ⟨rfl, rfl, rfl, rfl, rfl, rfl, rfl, rfl, rfl, rfl, rfl, rfl, rfl, rfl, rfl, rfl, rfl, rfl, rfl, rfl, rfl, rfl, rfl, rfl, rfl, rfl, rfl, rfl, rfl, rfl, rfl, rfl, rfl, rfl, rfl, rfl, rfl, rfl, rfl, rfl, rfl, rfl, rfl, rfl, rfl, rfl, rfl, rfl, rfl, rfl, rfl, rfl, rfl, rfl, rfl, rfl, rfl, rfl, trivial⟩ rfl rfl (by decide) (by decide) ?_
    replace h91 : LxP y79 y81 y83 (m.1 6) y85 := h91
    replace h92 : y85 = 0 → (m68.1 10) = 0 ∧ (m68.1 7) = (59 : Int) := h92
    replace h93 : (m68.1 8) ≤ y81 := h93
    replace h94 : y85 = 0 → (m68.1 8) + (m68.1 9) ≤ y81 := h94
    have hf95 : 1 ≤ y85 := by omega
    clear h92
    clear h94
    have hLx := h91
    clear q70_7 q70_8 q70_9 q70_10 q70_11 q70_12 ic71 ic72 h76 h93
    exact J235_28 (mO m [(7, y79), (8, y81), (9, y83), (10, y85), (11, y87), (12, y89), (28, (m68.1 28)), (69, (m68.1 69)), (70, (m68.1 70)), (71, (m68.1 71)), (72, (m68.1 72)), (73, (m68.1 73)), (74, (m68.1 74)), (75, (m68.1 75)), (99, (m.1 99) + 1), (100, (m.1 100))] [(65, (m68.2 65)), (66, (m68.2 66)), (67, (m68.2 67)), (68, (m68.2 68)), (76, (m68.2 76)), (77, (m68.2 77)), (78, (m68.2 78)), (79, (m68.2 79)), (80, (m68.2 80)), (81, (m68.2 81)), (82, (m68.2 82)), (83, (m68.2 83)), (84, (m68.2 84)), (85, (m68.2 85)), (86, (m68.2 86)), (87, (m68.2 87)), (88, (m68.2 88)), (89, (m68.2 89)), (90, (m68.2 90)), (91, (m68.2 91)), (92, (m68.2 92)), (101, (m68.2 101)), (102, (m.2 102)), (103, (m68.2 103)), (104, (m.2 104)), (105, (m68.2 105)), (106, (m68.2 106)), (107, (m.2 107)), (108, (m.2 108))]) (Ty_mO hT rfl rfl ⟨g80, g82, g84, g86, g88, g90, (q70.1 28), (q70.1 69), (q70.1 70), (q70.1 71), (q70.1 72), (q70.1 73), (q70.1 74), (q70.1 75), ⟨(by omega : (0 : Int) ≤ (m.1 99) + 1), (by omega : ((m.1 99) + 1 : Int) ≤ 240)⟩, f100, trivial⟩ ⟨(q70.2.1 65), (q70.2.1 66), (q70.2.1 67), (q70.2.1 68), (q70.2.1 76), (q70.2.1 77), (q70.2.1 78), (q70.2.1 79), (q70.2.1 80), (q70.2.1 81), (q70.2.1 82), (q70.2.1 83), (q70.2.1 84), (q70.2.1 85), (q70.2.1 86), (q70.2.1 87), (q70.2.1 88), (q70.2.1 89), (q70.2.1 90), (q70.2.1 91), (q70.2.1 92), (q70.2.1 101), (hT.2.1 102), (q70.2.1 103), (hT.2.1 104), (q70.2.1 105), (q70.2.1 106), (hT.2.1 107), (hT.2.1 108), trivial⟩) (show 1 ≤ y85 by omega) (show y85 ≤ 8 by omega) (show 0 ≤ ((m.1 99) + 1) ∧ ((m.1 99) + 1) ≤ 240 by omega) (show 0 ≤ (m.1 99) ∧ (m.1 99) ≤ 240 by omega)
  have J170_98 : ∀ (s96 : Int) (m97 : mR), (R32 s96) → (Ty m97) → (0 ≤ s96) → (s96 ≤ 7) → (1 ≤ (m97.1 10)) → ((m97.1 10) ≤ 8) → (0 ≤ ((m.1 99) + 1) ∧ ((m.1 99) + 1) ≤ 240) → (0 ≤ (m.1 99) ∧ (m.1 99) ≤ 240) → (0 ≤ (m.1 99) ∧ (m.1 99) ≤ 240) → TT w D pm_270 (170, [(0, .ref 189), (1, .int (i32 (m.1 99)))], [.int (i32 s96), .int (i32 (m.1 99)), .ref 263], (mhp (mO m [(7, (m97.1 7)), (8, (m97.1 8)), (9, (m97.1 9)), (10, (m97.1 10)), (11, (m97.1 11)), (12, (m97.1 12)), (28, (m.1 28)), (69, (m.1 69)), (70, (m.1 70)), (71, (m.1 71)), (72, (m.1 72)), (73, (m.1 73)), (74, (m.1 74)), (75, (m.1 75)), (99, (m.1 99) + 1), (100, (m.1 100))] [(65, (m.2 65)), (66, (m.2 66)), (67, (m.2 67)), (68, (m.2 68)), (76, (m.2 76)), (77, (m.2 77)), (78, (m.2 78)), (79, (m.2 79)), (80, (m.2 80)), (81, (m.2 81)), (82, (m.2 82)), (83, (m.2 83)), (84, (m.2 84)), (85, (m.2 85)), (86, (m.2 86)), (87, (m.2 87)), (88, (m.2 88)), (89, (m.2 89)), (90, (m.2 90)), (91, (m.2 91)), (92, (m.2 92)), (101, (m97.2 101)), (102, (m.2 102)), (103, (m.2 103)), (104, (m.2 104)), (105, (m.2 105)), (106, (m.2 106)), (107, (m.2 107)), (108, (m.2 108))]) c, N), 0, 0) (Q_takeStatement m c N) := by
    intro s96 m97 q99 q100 ic101 ic102 ic103 ic104 ic105 ic106 ic107
    obtain ⟨q99a, q99b⟩ := id q99
    have q100_7 : 0 ≤ m97.1 7 ∧ m97.1 7 ≤ 330 := q100.1 7
    have q100_8 : 0 ≤ m97.1 8 ∧ m97.1 8 ≤ 4000 := q100.1 8
    have q100_9 : 0 ≤ m97.1 9 ∧ m97.1 9 ≤ 4000 := q100.1 9
    have q100_10 : 0 ≤ m97.1 10 ∧ m97.1 10 ≤ 8 := q100.1 10
    have q100_11 : (-1) ≤ m97.1 11 ∧ m97.1 11 ≤ 4000 := q100.1 11
    have q100_12 : (-9223372036854775808) ≤ m97.1 12 ∧ m97.1 12 ≤ 9223372036854775807 := q100.1 12
    have G109 : ∀ j, 0 ≤ (upI (m.2 103) (m.1 99) s96) j ∧ (upI (m.2 103) (m.1 99) s96) j ≤ 7 := upI_rg (hT.2.1 103) ⟨by omega, by omega⟩
    refine T_iast (a' := [(65, (m.2 65)), (66, (m.2 66)), (67, (m.2 67)), (68, (m.2 68)), (76, (m.2 76)), (77, (m.2 77)), (78, (m.2 78)), (79, (m.2 79)), (80, (m.2 80)), (81, (m.2 81)), (82, (m.2 82)), (83, (m.2 83)), (84, (m.2 84)), (85, (m.2 85)), (86, (m.2 86)), (87, (m.2 87)), (88, (m.2 88)), (89, (m.2 89)), (90, (m.2 90)), (91, (m.2 91)), (92, (m.2 92)), (101, (m97.2 101)), (102, (m.2 102)), (103, upI (m.2 103) (m.1 99) s96), (104, (m.2 104)), (105, (m.2 105)), (106, (m.2 106)), (107, (m.2 107)), (108, (m.2 108))]) 171 103 (m.2 103) rfl rfl rfl (by omega) (show (m.1 99) < (240 : Int) by omega) rfl rfl ?_
    refine T_ld 172 (.ref 189) rfl (fun _ => rfl) ?_
    refine T_ld 173 (.int (i32 (m.1 99))) rfl (fun _ => rfl) ?_
    refine T_call 176 274 [.ref 189, .int (i32 (m.1 99))] [] rfl (fun _ => rfl) rfl (c_takeIndex w (mO m [(7, (m97.1 7)), (8, (m97.1 8)), (9, (m97.1 9)), (10, (m97.1 10)), (11, (m97.1 11)), (12, (m97.1 12)), (28, (m.1 28)), (69, (m.1 69)), (70, (m.1 70)), (71, (m.1 71)), (72, (m.1 72)), (73, (m.1 73)), (74, (m.1 74)), (75, (m.1 75)), (99, (m.1 99) + 1), (100, (m.1 100))] [(65, (m.2 65)), (66, (m.2 66)), (67, (m.2 67)), (68, (m.2 68)), (76, (m.2 76)), (77, (m.2 77)), (78, (m.2 78)), (79, (m.2 79)), (80, (m.2 80)), (81, (m.2 81)), (82, (m.2 82)), (83, (m.2 83)), (84, (m.2 84)), (85, (m.2 85)), (86, (m.2 86)), (87, (m.2 87)), (88, (m.2 88)), (89, (m.2 89)), (90, (m.2 90)), (91, (m.2 91)), (92, (m.2 92)), (101, (m97.2 101)), (102, (m.2 102)), (103, upI (m.2 103) (m.1 99) s96), (104, (m.2 104)), (105, (m.2 105)), (106, (m.2 106)), (107, (m.2 107)), (108, (m.2 108))]) c N D (by omega) (Ty_mO hT rfl rfl ⟨(q100.1 7), (q100.1 8), (q100.1 9), (q100.1 10), (q100.1 11), (q100.1 12), f28, f69, f70, f71, f72, f73, f74, f75, ⟨(by omega : (0 : Int) ≤ (m.1 99) + 1), (by omega : ((m.1 99) + 1 : Int) ≤ 240)⟩, f100, trivial⟩ ⟨(hT.2.1 65), (hT.2.1 66), (hT.2.1 67), (hT.2.1 68), (hT.2.1 76), (hT.2.1 77), (hT.2.1 78), (hT.2.1 79), (hT.2.1 80), (hT.2.1 81), (hT.2.1 82), (hT.2.1 83), (hT.2.1 84), (hT.2.1 85), (hT.2.1 86), (hT.2.1 87), (hT.2.1 88), (hT.2.1 89), (hT.2.1 90), (hT.2.1 91), (hT.2.1 92), (q100.2.1 101), (hT.2.1 102), G109, (hT.2.1 104), (hT.2.1 105), (hT.2.1 106), (hT.2.1 107), (hT.2.1 108), trivial⟩) (m.1 99) (r32 (by omega) (by omega)) (show LxP (m97.1 7) (m97.1 8) (m97.1 9) (m.1 6) (m97.1 10) by first | exact hLx | exact (fun _ => hLx (by omega)) | (intro h9; exfalso; omega)) (show ∀ k, (m.2 14) k + (m.2 15) k ≤ 4000 by assumption) (show ∀ k, (m.2 31) k + (m.2 32) k ≤ 4000 by assumption) (show ∀ k, (m.2 47) k + (m.2 48) k ≤ 4000 by assumption) (show 0 ≤ (m.1 99) ∧ (m.1 99) ≤ 239 by omega) (fun (h : (m97.1 10) = 0) => absurd h (by omega))) (fun rr110 k111 => ?_)
    obtain ⟨m112, hT113, h114, h115, c116, rfl⟩ := k111
    refine ⟨_, _, rfl, ?_⟩
    refine T_nf2 (st' := []) (l' := [(7, (m112.1 7)), (8, (m112.1 8)), (9, (m112.1 9)), (10, (m112.1 10)), (11, (m112.1 11)), (12, (m112.1 12)), (28, (m112.1 28)), (69, (m112.1 69)), (70, (m112.1 70)), (71, (m112.1 71)), (72, (m112.1 72)), (73, (m112.1 73)), (74, (m112.1 74)), (75, (m112.1 75)), (99, (m.1 99) + 1), (100, (m.1 100))]) (a' := [(65, (m112.2 65)), (66, (m112.2 66)), (67, (m112.2 67)), (68, (m112.2 68)), (76, (m112.2 76)), (77, (m112.2 77)), (78, (m112.2 78)), (79, (m112.2 79)), (80, (m112.2 80)), (81, (m112.2 81)), (82, (m112.2 82)), (83, (m112.2 83)), (84, (m112.2 84)), (85, (m112.2 85)), (86, (m112.2 86)), (87, (m112.2 87)), (88, (m112.2 88)), (89, (m112.2 89)), (90, (m112.2 90)), (91, (m112.2 91)), (92, (m112.2 92)), (101, (m97.2 101)), (102, (m.2 102)), (103, upI (m.2 103) (m.1 99) s96), (104, (m.2 104)), (105, (m112.2 105)), (106, (m112.2 106)), (107, (m.2 107)), (108, (m.2 108))]) [7, 8, 9, 10, 11, 12, 28, 69, 70, 71, 72, 73, 74, 75] [65, 66, 67, 68, 76, 77, 78, 79, 80, 81, 82, 83, 84, 85, 86, 87, 88, 89, 90, 91, 92, 105, 106] rfl ⟨rfl, rfl, rfl, rfl, rfl, rfl, rfl, rfl, rfl, rfl, rfl, rfl, rfl, rfl, rfl, rfl, rfl, rfl, rfl, rfl, rfl, rfl, rfl, rfl, rfl, rfl, rfl, rfl, rfl, rfl, rfl, rfl, trivial⟩ ⟨rfl, rfl, rfl, rfl, rfl, rfl, rfl, rfl, rfl, rfl, rfl, rfl, rfl, rfl, rfl, rfl, rfl, rfl, rfl, rfl, rfl, rfl, rfl, rfl, rfl, rfl, rfl, rfl, rfl, rfl, rfl, rfl, rfl, rfl, rfl, rfl, rfl, rfl, rfl, rfl, rfl, rfl, rfl, rfl, rfl, rfl, rfl, rfl, rfl, rfl, rfl, rfl, rfl, rfl, rfl, rfl, rfl, rfl, rfl, rfl, rfl, rfl, trivial⟩ rfl rfl (by decide) (by decide) ?_
    have g117 : 0 ≤ m112.1 7 ∧ m112.1 7 ≤ 330 := hT113.1 7
    have g118 : 0 ≤ m112.1 8 ∧ m112.1 8 ≤ 4000 := hT113.1 8
    have g119 : 0 ≤ m112.1 9 ∧ m112.1 9 ≤ 4000 := hT113.1 9
    have g120 : 0 ≤ m112.1 10 ∧ m112.1 10 ≤ 8 := hT113.1 10
    have g121 : (-1) ≤ m112.1 11 ∧ m112.1 11 ≤ 4000 := hT113.1 11
    have g122 : (-9223372036854775808) ≤ m112.1 12 ∧ m112.1 12 ≤ 9223372036854775807 := hT113.1 12
    have g123 : 0 ≤ m112.1 28 ∧ m112.1 28 ≤ 800 := hT113.1 28
    have g124 : 0 ≤ m112.1 69 ∧ m112.1 69 ≤ 1024 := hT113.1 69
    have g125 : 0 ≤ m112.1 70 ∧ m112.1 70 ≤ 4000 := hT113.1 70
    have g126 : 0 ≤ m112.1 71 ∧ m112.1 71 ≤ 1 := hT113.1 71
    have g127 : (-9223372036854775808) ≤ m112.1 72 ∧ m112.1 72 ≤ 9223372036854775807 := hT113.1 72
    have g128 : 0 ≤ m112.1 73 ∧ m112.1 73 ≤ 60 := hT113.1 73
    have g129 : 0 ≤ m112.1 74 ∧ m112.1 74 ≤ 24 := hT113.1 74
    have g130 : 0 ≤ m112.1 75 ∧ m112.1 75 ≤ 3 := hT113.1 75
    replace h114 : (m112.1 10) = 0 → (m97.1 10) = 0 := h114
    replace h115 : LxP (m112.1 7) (m112.1 8) (m112.1 9) (m.1 6) (m112.1 10) := h115
    have hf131 : 1 ≤ (m112.1 10) := by omega
    clear c116
    clear h114
    have hLx := h115
    clear q100_7 q100_8 q100_9 q100_10 q100_11 q100_12 ic103 ic104
    exact J176_69 (mO m [(7, (m112.1 7)), (8, (m112.1 8)), (9, (m112.1 9)), (10, (m112.1 10)), (11, (m112.1 11)), (12, (m112.1 12)), (28, (m112.1 28)), (69, (m112.1 69)), (70, (m112.1 70)), (71, (m112.1 71)), (72, (m112.1 72)), (73, (m112.1 73)), (74, (m112.1 74)), (75, (m112.1 75)), (99, (m.1 99) + 1), (100, (m.1 100))] [(65, (m112.2 65)), (66, (m112.2 66)), (67, (m112.2 67)), (68, (m112.2 68)), (76, (m112.2 76)), (77, (m112.2 77)), (78, (m112.2 78)), (79, (m112.2 79)), (80, (m112.2 80)), (81, (m112.2 81)), (82, (m112.2 82)), (83, (m112.2 83)), (84, (m112.2 84)), (85, (m112.2 85)), (86, (m112.2 86)), (87, (m112.2 87)), (88, (m112.2 88)), (89, (m112.2 89)), (90, (m112.2 90)), (91, (m112.2 91)), (92, (m112.2 92)), (101, (m97.2 101)), (102, (m.2 102)), (103, upI (m.2 103) (m.1 99) s96), (104, (m.2 104)), (105, (m112.2 105)), (106, (m112.2 106)), (107, (m.2 107)), (108, (m.2 108))]) (Ty_mO hT rfl rfl ⟨(hT113.1 7), (hT113.1 8), (hT113.1 9), (hT113.1 10), (hT113.1 11), (hT113.1 12), (hT113.1 28), (hT113.1 69), (hT113.1 70), (hT113.1 71), (hT113.1 72), (hT113.1 73), (hT113.1 74), (hT113.1 75), ⟨(by omega : (0 : Int) ≤ (m.1 99) + 1), (by omega : ((m.1 99) + 1 : Int) ≤ 240)⟩, f100, trivial⟩ ⟨(hT113.2.1 65), (hT113.2.1 66), (hT113.2.1 67), (hT113.2.1 68), (hT113.2.1 76), (hT113.2.1 77), (hT113.2.1 78), (hT113.2.1 79), (hT113.2.1 80), (hT113.2.1 81), (hT113.2.1 82), (hT113.2.1 83), (hT113.2.1 84), (hT113.2.1 85), (hT113.2.1 86), (hT113.2.1 87), (hT113.2.1 88), (hT113.2.1 89), (hT113.2.1 90), (hT113.2.1 91), (hT113.2.1 92), (q100.2.1 101), (hT.2.1 102), G109, (hT.2.1 104), (hT113.2.1 105), (hT113.2.1 106), (hT.2.1 107), (hT.2.1 108), trivial⟩) (show 1 ≤ (m112.1 10) by omega) (show (m112.1 10) ≤ 8 by omega) (show 0 ≤ ((m.1 99) + 1) ∧ ((m.1 99) + 1) ≤ 240 by omega) (show 0 ≤ (m.1 99) ∧ (m.1 99) ≤ 240 by omega)
  have J143_134 : ∀ (v132 : Int) (m133 : mR), (R32 v132) → (Ty m133) → (0 ≤ v132) → (v132 ≤ 4000) → (1 ≤ (m133.1 10)) → ((m133.1 10) ≤ 8) → (0 ≤ ((m.1 99) + 1) ∧ ((m.1 99) + 1) ≤ 240) → (0 ≤ (m.1 99) ∧ (m.1 99) ≤ 240) → TT w D pm_270 (143, [(0, .ref 189), (1, .int (i32 (m.1 99))), (2, .int (i32 v132))], [], (mhp (mO m [(7, (m133.1 7)), (8, (m133.1 8)), (9, (m133.1 9)), (10, (m133.1 10)), (11, (m133.1 11)), (12, (m133.1 12)), (28, (m133.1 28)), (69, (m133.1 69)), (70, (m133.1 70)), (71, (m133.1 71)), (72, (m133.1 72)), (73, (m133.1 73)), (74, (m133.1 74)), (75, (m133.1 75)), (99, (m.1 99) + 1), (100, (m133.1 100))] [(65, (m133.2 65)), (66, (m133.2 66)), (67, (m133.2 67)), (68, (m133.2 68)), (76, (m133.2 76)), (77, (m133.2 77)), (78, (m133.2 78)), (79, (m133.2 79)), (80, (m133.2 80)), (81, (m133.2 81)), (82, (m133.2 82)), (83, (m133.2 83)), (84, (m133.2 84)), (85, (m133.2 85)), (86, (m133.2 86)), (87, (m133.2 87)), (88, (m133.2 88)), (89, (m133.2 89)), (90, (m133.2 90)), (91, (m133.2 91)), (92, (m133.2 92)), (101, (m133.2 101)), (102, (m133.2 102)), (103, (m133.2 103)), (104, (m.2 104)), (105, (m133.2 105)), (106, (m133.2 106)), (107, (m.2 107)), (108, (m.2 108))]) c, N), 0, 0) (Q_takeStatement m c N) := by
    intro v132 m133 q135 q136 ic137 ic138 ic139 ic140 ic141 ic142
    obtain ⟨q135a, q135b⟩ := id q135
    have q136_7 : 0 ≤ m133.1 7 ∧ m133.1 7 ≤ 330 := q136.1 7
    have q136_8 : 0 ≤ m133.1 8 ∧ m133.1 8 ≤ 4000 := q136.1 8
    have q136_9 : 0 ≤ m133.1 9 ∧ m133.1 9 ≤ 4000 := q136.1 9
    have q136_10 : 0 ≤ m133.1 10 ∧ m133.1 10 ≤ 8 := q136.1 10
    have q136_11 : (-1) ≤ m133.1 11 ∧ m133.1 11 ≤ 4000 := q136.1 11
    have q136_12 : (-9223372036854775808) ≤ m133.1 12 ∧ m133.1 12 ≤ 9223372036854775807 := q136.1 12
    have q136_28 : 0 ≤ m133.1 28 ∧ m133.1 28 ≤ 800 := q136.1 28
    have q136_69 : 0 ≤ m133.1 69 ∧ m133.1 69 ≤ 1024 := q136.1 69
    have q136_70 : 0 ≤ m133.1 70 ∧ m133.1 70 ≤ 4000 := q136.1 70
    have q136_71 : 0 ≤ m133.1 71 ∧ m133.1 71 ≤ 1 := q136.1 71
    have q136_72 : (-9223372036854775808) ≤ m133.1 72 ∧ m133.1 72 ≤ 9223372036854775807 := q136.1 72
    have q136_73 : 0 ≤ m133.1 73 ∧ m133.1 73 ≤ 60 := q136.1 73
    have q136_74 : 0 ≤ m133.1 74 ∧ m133.1 74 ≤ 24 := q136.1 74
    have q136_75 : 0 ≤ m133.1 75 ∧ m133.1 75 ≤ 3 := q136.1 75
    have q136_100 : 0 ≤ m133.1 100 ∧ m133.1 100 ≤ 64 := q136.1 100
    refine T_goto 229 rfl (fun _ => rfl) ?_
    refine T_ld 230 (.ref 189) rfl (fun _ => rfl) ?_
    refine T_ld 232 (.int (i32 59)) rfl (fun _ => rfl) ?_
    refine T_call 235 232 [.ref 189, .int (i32 59)] [] rfl (fun _ => rfl) rfl (c_need w (mO m [(7, (m133.1 7)), (8, (m133.1 8)), (9, (m133.1 9)), (10, (m133.1 10)), (11, (m133.1 11)), (12, (m133.1 12)), (28, (m133.1 28)), (69, (m133.1 69)), (70, (m133.1 70)), (71, (m133.1 71)), (72, (m133.1 72)), (73, (m133.1 73)), (74, (m133.1 74)), (75, (m133.1 75)), (99, (m.1 99) + 1), (100, (m133.1 100))] [(65, (m133.2 65)), (66, (m133.2 66)), (67, (m133.2 67)), (68, (m133.2 68)), (76, (m133.2 76)), (77, (m133.2 77)), (78, (m133.2 78)), (79, (m133.2 79)), (80, (m133.2 80)), (81, (m133.2 81)), (82, (m133.2 82)), (83, (m133.2 83)), (84, (m133.2 84)), (85, (m133.2 85)), (86, (m133.2 86)), (87, (m133.2 87)), (88, (m133.2 88)), (89, (m133.2 89)), (90, (m133.2 90)), (91, (m133.2 91)), (92, (m133.2 92)), (101, (m133.2 101)), (102, (m133.2 102)), (103, (m133.2 103)), (104, (m.2 104)), (105, (m133.2 105)), (106, (m133.2 106)), (107, (m.2 107)), (108, (m.2 108))]) c N D (by omega) (Ty_mO hT rfl rfl ⟨(q136.1 7), (q136.1 8), (q136.1 9), (q136.1 10), (q136.1 11), (q136.1 12), (q136.1 28), (q136.1 69), (q136.1 70), (q136.1 71), (q136.1 72), (q136.1 73), (q136.1 74), (q136.1 75), ⟨(by omega : (0 : Int) ≤ (m.1 99) + 1), (by omega : ((m.1 99) + 1 : Int) ≤ 240)⟩, (q136.1 100), trivial⟩ ⟨(q136.2.1 65), (q136.2.1 66), (q136.2.1 67), (q136.2.1 68), (q136.2.1 76), (q136.2.1 77), (q136.2.1 78), (q136.2.1 79), (q136.2.1 80), (q136.2.1 81), (q136.2.1 82), (q136.2.1 83), (q136.2.1 84), (q136.2.1 85), (q136.2.1 86), (q136.2.1 87), (q136.2.1 88), (q136.2.1 89), (q136.2.1 90), (q136.2.1 91), (q136.2.1 92), (q136.2.1 101), (q136.2.1 102), (q136.2.1 103), (hT.2.1 104), (q136.2.1 105), (q136.2.1 106), (hT.2.1 107), (hT.2.1 108), trivial⟩) 59 ⟨by decide, by decide⟩ (show 1 ≤ (59 : Int) by omega) (show LxP (m133.1 7) (m133.1 8) (m133.1 9) (m.1 6) (m133.1 10) by first | exact hLx | (intro h9; exfalso; omega) | (intro h9; have h8 := hLx (by omega); omega))) (fun rr144 k145 => ?_)
    obtain ⟨y146, y148, y150, y152, y154, y156, g147, g149, g151, g153, g155, g157, h158, h159, h160, h161, rfl⟩ := k145
    refine ⟨_, _, rfl, ?_⟩
    refine T_nf2 (st' := []) (l' := [(7, y146), (8, y148), (9, y150), (10, y152), (11, y154), (12, y156), (28, (m133.1 28)), (69, (m133.1 69)), (70, (m133.1 70)), (71, (m133.1 71)), (72, (m133.1 72)), (73, (m133.1 73)), (74, (m133.1 74)), (75, (m133.1 75)), (99, (m.1 99) + 1), (100, (m133.1 100))]) (a' := [(65, (m133.2 65)), (66, (m133.2 66)), (67, (m133.2 67)), (68, (m133.2 68)), (76, (m133.2 76)), (77, (m133.2 77)), (78, (m133.2 78)), (79, (m133.2 79)), (80, (m133.2 80)), (81, (m133.2 81)), (82, (m133.2 82)), (83, (m133.2 83)), (84, (m133.2 84)), (85, (m133.2 85)), (86, (m133.2 86)), (87, (m133.2 87)), (88, (m133.2 88)), (89, (m133.2 89)), (90, (m133.2 90)), (91, (m133.2 91)), (92, (m133.2 92)), (101, (m133.2 101)), (102, (m133.2 102)), (103, (m133.2 103)), (104, (m.2 104)), (105, (m133.2 105)), (106, (m133.2 106)), (107, (m.2 107)), (108, (m.2 108))]) [7, 8, 9, 10, 11, 12] [] rfl ⟨rfl, rfl, rfl, rfl, rfl, rfl, rfl, rfl, rfl, rfl, rfl, rfl, rfl, rfl, rfl, rfl, rfl, rfl, rfl, rfl, rfl, rfl, rfl, rfl, rfl, rfl, rfl, rfl, rfl, rfl, rfl, rfl, trivial⟩ ⟨rfl, rfl, rfl, rfl, rfl, rfl, rfl, rfl, rfl, rfl, rfl, rfl, rfl, rfl, rfl, rfl, rfl, rfl, rfl, rfl, rfl, rfl, rfl, rfl, rfl, rfl, rfl, rfl, rfl, rfl, rfl, rfl, rfl, rfl, rfl, rfl, rfl, rfl, rfl, rfl, rfl, rfl, rfl, rfl, rfl, rfl, rfl, rfl, rfl, rfl, rfl, rfl, rfl, rfl, rfl, rfl, rfl, rfl, trivial⟩ rfl rfl (by decide) (by decide) ?_
    replace h158 : LxP y146 y148 y150 (m.1 6) y152 := h158
    replace h159 : y152 = 0 → (m133.1 10) = 0 ∧ (m133.1 7) = (59 : Int) := h159
    replace h160 : (m133.1 8) ≤ y148 := h160
    replace h161 : y152 = 0 → (m133.1 8) + (m133.1 9) ≤ y148 := h161
    have hf162 : 1 ≤ y152 := by omega
    clear h159
    clear h161
    have hLx := h158
    clear q136_7 q136_8 q136_9 q136_10 q136_11 q136_12 ic139 ic140 h160
    refine Tm_lv (a := [(0, .ref 189), (1, .int (i32 (m.1 99)))]) rfl rfl ⟨rfl, rfl, trivial⟩ ?_
    exact J235_28 (mO m [(7, y146), (8, y148), (9, y150), (10, y152), (11, y154), (12, y156), (28, (m133.1 28)), (69, (m133.1 69)), (70, (m133.1 70)), (71, (m133.1 71)), (72, (m133.1 72)), (73, (m133.1 73)), (74, (m133.1 74)), (75, (m133.1 75)), (99, (m.1 99) + 1), (100, (m133.1 100))] [(65, (m133.2 65)), (66, (m133.2 66)), (67, (m133.2 67)), (68, (m133.2 68)), (76, (m133.2 76)), (77, (m133.2 77)), (78, (m133.2 78)), (79, (m133.2 79)), (80, (m133.2 80)), (81, (m133.2 81)), (82, (m133.2 82)), (83, (m133.2 83)), (84, (m133.2 84)), (85, (m133.2 85)), (86, (m133.2 86)), (87, (m133.2 87)), (88, (m133.2 88)), (89, (m133.2 89)), (90, (m133.2 90)), (91, (m133.2 91)), (92, (m133.2 92)), (101, (m133.2 101)), (102, (m133.2 102)), (103, (m133.2 103)), (104, (m.2 104)), (105, (m133.2 105)), (106, (m133.2 106)), (107, (m.2 107)), (108, (m.2 108))]) (Ty_mO hT rfl rfl ⟨g147, g149, g151, g153, g155, g157, (q136.1 28), (q136.1 69), (q136.1 70), (q136.1 71), (q136.1 72), (q136.1 73), (q136.1 74), (q136.1 75), ⟨(by omega : (0 : Int) ≤ (m.1 99) + 1), (by omega : ((m.1 99) + 1 : Int) ≤ 240)⟩, (q136.1 100), trivial⟩ ⟨(q136.2.1 65), (q136.2.1 66), (q136.2.1 67), (q136.2.1 68), (q136.2.1 76), (q136.2.1 77), (q136.2.1 78), (q136.2.1 79), (q136.2.1 80), (q136.2.1 81), (q136.2.1 82), (q136.2.1 83), (q136.2.1 84), (q136.2.1 85), (q136.2.1 86), (q136.2.1 87), (q136.2.1 88), (q136.2.1 89), (q136.2.1 90), (q136.2.1 91), (q136.2.1 92), (q136.2.1 101), (q136.2.1 102), (q136.2.1 103), (hT.2.1 104), (q136.2.1 105), (q136.2.1 106), (hT.2.1 107), (hT.2.1 108), trivial⟩) (show 1 ≤ y152 by omega) (show y152 ≤ 8 by omega) (show 0 ≤ ((m.1 99) + 1) ∧ ((m.1 99) + 1) ≤ 240 by omega) (show 0 ≤ (m.1 99) ∧ (m.1 99) ≤ 240 by omega)
  have J138_165 : ∀ (v163 : Int) (m164 : mR), (R32 v163) → (Ty m164) → (0 ≤ v163) → (v163 ≤ 4000) → (1 ≤ (m164.1 10)) → ((m164.1 10) ≤ 8) → (0 ≤ ((m.1 99) + 1) ∧ ((m.1 99) + 1) ≤ 240) → (0 ≤ (m.1 99) ∧ (m.1 99) ≤ 240) → TT w D pm_270 (138, [(0, .ref 189), (1, .int (i32 (m.1 99))), (2, .int (i32 v163))], [], (mhp (mO m [(7, (m164.1 7)), (8, (m164.1 8)), (9, (m164.1 9)), (10, (m164.1 10)), (11, (m164.1 11)), (12, (m164.1 12)), (28, (m.1 28)), (69, (m.1 69)), (70, (m.1 70)), (71, (m.1 71)), (72, (m.1 72)), (73, (m.1 73)), (74, (m.1 74)), (75, (m.1 75)), (99, (m.1 99) + 1), (100, (m164.1 100))] [(65, (m.2 65)), (66, (m.2 66)), (67, (m.2 67)), (68, (m.2 68)), (76, (m.2 76)), (77, (m.2 77)), (78, (m.2 78)), (79, (m.2 79)), (80, (m.2 80)), (81, (m.2 81)), (82, (m.2 82)), (83, (m.2 83)), (84, (m.2 84)), (85, (m.2 85)), (86, (m.2 86)), (87, (m.2 87)), (88, (m.2 88)), (89, (m.2 89)), (90, (m.2 90)), (91, (m.2 91)), (92, (m.2 92)), (101, (m164.2 101)), (102, (m164.2 102)), (103, (m164.2 103)), (104, (m.2 104)), (105, (m.2 105)), (106, (m.2 106)), (107, (m.2 107)), (108, (m.2 108))]) c, N), 0, 0) (Q_takeStatement m c N) := by
    intro v163 m164 q166 q167 ic168 ic169 ic170 ic171 ic172 ic173
    obtain ⟨q166a, q166b⟩ := id q166
    have q167_7 : 0 ≤ m164.1 7 ∧ m164.1 7 ≤ 330 := q167.1 7
    have q167_8 : 0 ≤ m164.1 8 ∧ m164.1 8 ≤ 4000 := q167.1 8
    have q167_9 : 0 ≤ m164.1 9 ∧ m164.1 9 ≤ 4000 := q167.1 9
    have q167_10 : 0 ≤ m164.1 10 ∧ m164.1 10 ≤ 8 := q167.1 10
    have q167_11 : (-1) ≤ m164.1 11 ∧ m164.1 11 ≤ 4000 := q167.1 11
    have q167_12 : (-9223372036854775808) ≤ m164.1 12 ∧ m164.1 12 ≤ 9223372036854775807 := q167.1 12
    have q167_100 : 0 ≤ m164.1 100 ∧ m164.1 100 ≤ 64 := q167.1 100
    refine T_ld 139 (.ref 189) rfl (fun _ => rfl) ?_
    refine T_ld 140 (.int (i32 (m.1 99))) rfl (fun _ => rfl) ?_
    refine T_call 143 274 [.ref 189, .int (i32 (m.1 99))] [] rfl (fun _ => rfl) rfl (c_takeIndex w (mO m [(7, (m164.1 7)), (8, (m164.1 8)), (9, (m164.1 9)), (10, (m164.1 10)), (11, (m164.1 11)), (12, (m164.1 12)), (28, (m.1 28)), (69, (m.1 69)), (70, (m.1 70)), (71, (m.1 71)), (72, (m.1 72)), (73, (m.1 73)), (74, (m.1 74)), (75, (m.1 75)), (99, (m.1 99) + 1), (100, (m164.1 100))] [(65, (m.2 65)), (66, (m.2 66)), (67, (m.2 67)), (68, (m.2 68)), (76, (m.2 76)), (77, (m.2 77)), (78, (m.2 78)), (79, (m.2 79)), (80, (m.2 80)), (81, (m.2 81)), (82, (m.2 82)), (83, (m.2 83)), (84, (m.2 84)), (85, (m.2 85)), (86, (m.2 86)), (87, (m.2 87)), (88, (m.2 88)), (89, (m.2 89)), (90, (m.2 90)), (91, (m.2 91)), (92, (m.2 92)), (101, (m164.2 101)), (102, (m164.2 102)), (103, (m164.2 103)), (104, (m.2 104)), (105, (m.2 105)), (106, (m.2 106)), (107, (m.2 107)), (108, (m.2 108))]) c N D (by omega) (Ty_mO hT rfl rfl ⟨(q167.1 7), (q167.1 8), (q167.1 9), (q167.1 10), (q167.1 11), (q167.1 12), f28, f69, f70, f71, f72, f73, f74, f75, ⟨(by omega : (0 : Int) ≤ (m.1 99) + 1), (by omega : ((m.1 99) + 1 : Int) ≤ 240)⟩, (q167.1 100), trivial⟩ ⟨(hT.2.1 65), (hT.2.1 66), (hT.2.1 67), (hT.2.1 68), (hT.2.1 76), (hT.2.1 77), (hT.2.1 78), (hT.2.1 79), (hT.2.1 80), (hT.2.1 81), (hT.2.1 82), (hT.2.1 83), (hT.2.1 84), (hT.2.1 85), (hT.2.1 86), (hT.2.1 87), (hT.2.1 88), (hT.2.1 89), (hT.2.1 90), (hT.2.1 91), (hT.2.1 92), (q167.2.1 101), (q167.2.1 102), (q167.2.1 103), (hT.2.1 104), (hT.2.1 105), (hT.2.1 106), (hT.2.1 107), (hT.2.1 108), trivial⟩) (m.1 99) (r32 (by omega) (by omega)) (show LxP (m164.1 7) (m164.1 8) (m164.1 9) (m.1 6) (m164.1 10) by first | exact hLx | exact (fun _ => hLx (by omega)) | (intro h9; exfalso; omega)) (show ∀ k, (m.2 14) k + (m.2 15) k ≤ 4000 by assumption) (show ∀ k, (m.2 31) k + (m.2 32) k ≤ 4000 by assumption) (show ∀ k, (m.2 47) k + (m.2 48) k ≤ 4000 by assumption) (show 0 ≤ (m.1 99) ∧ (m.1 99) ≤ 239 by omega) (fun (h : (m164.1 10) = 0) => absurd h (by omega))) (fun rr175 k176 => ?_)
    obtain ⟨m177, hT178, h179, h180, c181, rfl⟩ := k176
    refine ⟨_, _, rfl, ?_⟩
    refine T_nf2 (st' := []) (l' := [(7, (m177.1 7)), (8, (m177.1 8)), (9, (m177.1 9)), (10, (m177.1 10)), (11, (m177.1 11)), (12, (m177.1 12)), (28, (m177.1 28)), (69, (m177.1 69)), (70, (m177.1 70)), (71, (m177.1 71)), (72, (m177.1 72)), (73, (m177.1 73)), (74, (m177.1 74)), (75, (m177.1 75)), (99, (m.1 99) + 1), (100, (m164.1 100))]) (a' := [(65, (m177.2 65)), (66, (m177.2 66)), (67, (m177.2 67)), (68, (m177.2 68)), (76, (m177.2 76)), (77, (m177.2 77)), (78, (m177.2 78)), (79, (m177.2 79)), (80, (m177.2 80)), (81, (m177.2 81)), (82, (m177.2 82)), (83, (m177.2 83)), (84, (m177.2 84)), (85, (m177.2 85)), (86, (m177.2 86)), (87, (m177.2 87)), (88, (m177.2 88)), (89, (m177.2 89)), (90, (m177.2 90)), (91, (m177.2 91)), (92, (m177.2 92)), (101, (m164.2 101)), (102, (m164.2 102)), (103, (m164.2 103)), (104, (m.2 104)), (105, (m177.2 105)), (106, (m177.2 106)), (107, (m.2 107)), (108, (m.2 108))]) [7, 8, 9, 10, 11, 12, 28, 69, 70, 71, 72, 73, 74, 75] [65, 66, 67, 68, 76, 77, 78, 79, 80, 81, 82, 83, 84, 85, 86, 87, 88, 89, 90, 91, 92, 105, 106] rfl ⟨rfl, rfl, rfl, rfl, rfl, rfl, rfl, rfl, rfl, rfl, rfl, rfl, rfl, rfl, rfl, rfl, rfl, rfl, rfl, rfl, rfl, rfl, rfl, rfl, rfl, rfl, rfl, rfl, rfl, rfl, rfl, rfl, trivial⟩ ⟨rfl, rfl, rfl, rfl, rfl, rfl, rfl, rfl, rfl, rfl, rfl, rfl, rfl, rfl, rfl, rfl, rfl, rfl, rfl, rfl, rfl, rfl, rfl, rfl, rfl, rfl, rfl, rfl, rfl, rfl, rfl, rfl, rfl, rfl, rfl, rfl, rfl, rfl, rfl, rfl, rfl, rfl, rfl, rfl, rfl, rfl, rfl, rfl, rfl, rfl, rfl, rfl, rfl, rfl, rfl, rfl, rfl, rfl, rfl, rfl, rfl, rfl, trivial⟩ rfl rfl (by decide) (by decide) ?_
    have g182 : 0 ≤ m177.1 7 ∧ m177.1 7 ≤ 330 := hT178.1 7
    have g183 : 0 ≤ m177.1 8 ∧ m177.1 8 ≤ 4000 := hT178.1 8
    have g184 : 0 ≤ m177.1 9 ∧ m177.1 9 ≤ 4000 := hT178.1 9
    have g185 : 0 ≤ m177.1 10 ∧ m177.1 10 ≤ 8 := hT178.1 10
    have g186 : (-1) ≤ m177.1 11 ∧ m177.1 11 ≤ 4000 := hT178.1 11
    have g187 : (-9223372036854775808) ≤ m177.1 12 ∧ m177.1 12 ≤ 9223372036854775807 := hT178.1 12
    have g188 : 0 ≤ m177.1 28 ∧ m177.1 28 ≤ 800 := hT178.1 28
    have g189 : 0 ≤ m177.1 69 ∧ m177.1 69 ≤ 1024 := hT178.1 69
    have g190 : 0 ≤ m177.1 70 ∧ m177.1 70 ≤ 4000 := hT178.1 70
    have g191 : 0 ≤ m177.1 71 ∧ m177.1 71 ≤ 1 := hT178.1 71
    have g192 : (-9223372036854775808) ≤ m177.1 72 ∧ m177.1 72 ≤ 9223372036854775807 := hT178.1 72
    have g193 : 0 ≤ m177.1 73 ∧ m177.1 73 ≤ 60 := hT178.1 73
    have g194 : 0 ≤ m177.1 74 ∧ m177.1 74 ≤ 24 := hT178.1 74
    have g195 : 0 ≤ m177.1 75 ∧ m177.1 75 ≤ 3 := hT178.1 75
    replace h179 : (m177.1 10) = 0 → (m164.1 10) = 0 := h179
    replace h180 : LxP (m177.1 7) (m177.1 8) (m177.1 9) (m.1 6) (m177.1 10) := h180
    have hf196 : 1 ≤ (m177.1 10) := by omega
    clear c181
    clear h179
    have hLx := h180
    clear q167_7 q167_8 q167_9 q167_10 q167_11 q167_12 ic170 ic171
    exact J143_134 v163 (mO m [(7, (m177.1 7)), (8, (m177.1 8)), (9, (m177.1 9)), (10, (m177.1 10)), (11, (m177.1 11)), (12, (m177.1 12)), (28, (m177.1 28)), (69, (m177.1 69)), (70, (m177.1 70)), (71, (m177.1 71)), (72, (m177.1 72)), (73, (m177.1 73)), (74, (m177.1 74)), (75, (m177.1 75)), (99, (m.1 99) + 1), (100, (m164.1 100))] [(65, (m177.2 65)), (66, (m177.2 66)), (67, (m177.2 67)), (68, (m177.2 68)), (76, (m177.2 76)), (77, (m177.2 77)), (78, (m177.2 78)), (79, (m177.2 79)), (80, (m177.2 80)), (81, (m177.2 81)), (82, (m177.2 82)), (83, (m177.2 83)), (84, (m177.2 84)), (85, (m177.2 85)), (86, (m177.2 86)), (87, (m177.2 87)), (88, (m177.2 88)), (89, (m177.2 89)), (90, (m177.2 90)), (91, (m177.2 91)), (92, (m177.2 92)), (101, (m164.2 101)), (102, (m164.2 102)), (103, (m164.2 103)), (104, (m.2 104)), (105, (m177.2 105)), (106, (m177.2 106)), (107, (m.2 107)), (108, (m.2 108))]) (r32 (by omega) (by omega)) (Ty_mO hT rfl rfl ⟨(hT178.1 7), (hT178.1 8), (hT178.1 9), (hT178.1 10), (hT178.1 11), (hT178.1 12), (hT178.1 28), (hT178.1 69), (hT178.1 70), (hT178.1 71), (hT178.1 72), (hT178.1 73), (hT178.1 74), (hT178.1 75), ⟨(by omega : (0 : Int) ≤ (m.1 99) + 1), (by omega : ((m.1 99) + 1 : Int) ≤ 240)⟩, (q167.1 100), trivial⟩ ⟨(hT178.2.1 65), (hT178.2.1 66), (hT178.2.1 67), (hT178.2.1 68), (hT178.2.1 76), (hT178.2.1 77), (hT178.2.1 78), (hT178.2.1 79), (hT178.2.1 80), (hT178.2.1 81), (hT178.2.1 82), (hT178.2.1 83), (hT178.2.1 84), (hT178.2.1 85), (hT178.2.1 86), (hT178.2.1 87), (hT178.2.1 88), (hT178.2.1 89), (hT178.2.1 90), (hT178.2.1 91), (hT178.2.1 92), (q167.2.1 101), (q167.2.1 102), (q167.2.1 103), (hT.2.1 104), (hT178.2.1 105), (hT178.2.1 106), (hT.2.1 107), (hT.2.1 108), trivial⟩) (show 0 ≤ v163 by omega) (show v163 ≤ 4000 by omega) (show 1 ≤ (m177.1 10) by omega) (show (m177.1 10) ≤ 8 by omega) (show 0 ≤ ((m.1 99) + 1) ∧ ((m.1 99) + 1) ≤ 240 by omega) (show 0 ≤ (m.1 99) ∧ (m.1 99) ≤ 240 by omega)
  have J102_200 : ∀ (v197 : Int) (s198 : Int) (m199 : mR), (R32 v197) → (R32 s198) → (Ty m199) → (0 ≤ v197) → (v197 ≤ 4000) → (0 ≤ s198) → (s198 ≤ 7) → (1 ≤ (m199.1 10)) → ((m199.1 10) ≤ 8) → (0 ≤ ((m.1 99) + 1) ∧ ((m.1 99) + 1) ≤ 240) → (0 ≤ (m.1 99) ∧ (m.1 99) ≤ 240) → (0 ≤ (m.1 99) ∧ (m.1 99) ≤ 240) → TT w D pm_270 (102, [(0, .ref 189), (1, .int (i32 (m.1 99))), (2, .int (i32 v197))], [.int (i32 s198), .int (i32 (m.1 99)), .ref 263], (mhp (mO m [(7, (m199.1 7)), (8, (m199.1 8)), (9, (m199.1 9)), (10, (m199.1 10)), (11, (m199.1 11)), (12, (m199.1 12)), (28, (m.1 28)), (69, (m.1 69)), (70, (m.1 70)), (71, (m.1 71)), (72, (m.1 72)), (73, (m.1 73)), (74, (m.1 74)), (75, (m.1 75)), (99, (m.1 99) + 1), (100, (m199.1 100))] [(65, (m.2 65)), (66, (m.2 66)), (67, (m.2 67)), (68, (m.2 68)), (76, (m.2 76)), (77, (m.2 77)), (78, (m.2 78)), (79, (m.2 79)), (80, (m.2 80)), (81, (m.2 81)), (82, (m.2 82)), (83, (m.2 83)), (84, (m.2 84)), (85, (m.2 85)), (86, (m.2 86)), (87, (m.2 87)), (88, (m.2 88)), (89, (m.2 89)), (90, (m.2 90)), (91, (m.2 91)), (92, (m.2 92)), (101, (m199.2 101)), (102, (m199.2 102)), (103, (m.2 103)), (104, (m.2 104)), (105, (m.2 105)), (106, (m.2 106)), (107, (m.2 107)), (108, (m.2 108))]) c, N), 0, 0) (Q_takeStatement m c N) := by
    intro v197 s198 m199 q201 q202 q203 ic204 ic205 ic206 ic207 ic208 ic209 ic210 ic211 ic212
    obtain ⟨q201a, q201b⟩ := id q201
    obtain ⟨q202a, q202b⟩ := id q202
    have q203_7 : 0 ≤ m199.1 7 ∧ m199.1 7 ≤ 330 := q203.1 7
    have q203_8 : 0 ≤ m199.1 8 ∧ m199.1 8 ≤ 4000 := q203.1 8
    have q203_9 : 0 ≤ m199.1 9 ∧ m199.1 9 ≤ 4000 := q203.1 9
    have q203_10 : 0 ≤ m199.1 10 ∧ m199.1 10 ≤ 8 := q203.1 10
    have q203_11 : (-1) ≤ m199.1 11 ∧ m199.1 11 ≤ 4000 := q203.1 11
    have q203_12 : (-9223372036854775808) ≤ m199.1 12 ∧ m199.1 12 ≤ 9223372036854775807 := q203.1 12
    have q203_100 : 0 ≤ m199.1 100 ∧ m199.1 100 ≤ 64 := q203.1 100
    have G214 : ∀ j, 0 ≤ (upI (m.2 103) (m.1 99) s198) j ∧ (upI (m.2 103) (m.1 99) s198) j ≤ 7 := upI_rg (hT.2.1 103) ⟨by omega, by omega⟩
    refine T_iast (a' := [(65, (m.2 65)), (66, (m.2 66)), (67, (m.2 67)), (68, (m.2 68)), (76, (m.2 76)), (77, (m.2 77)), (78, (m.2 78)), (79, (m.2 79)), (80, (m.2 80)), (81, (m.2 81)), (82, (m.2 82)), (83, (m.2 83)), (84, (m.2 84)), (85, (m.2 85)), (86, (m.2 86)), (87, (m.2 87)), (88, (m.2 88)), (89, (m.2 89)), (90, (m.2 90)), (91, (m.2 91)), (92, (m.2 92)), (101, (m199.2 101)), (102, (m199.2 102)), (103, upI (m.2 103) (m.1 99) s198), (104, (m.2 104)), (105, (m.2 105)), (106, (m.2 106)), (107, (m.2 107)), (108, (m.2 108))]) 103 103 (m.2 103) rfl rfl rfl (by omega) (show (m.1 99) < (240 : Int) by omega) rfl rfl ?_
    refine T_gf 107 (.int (i32 (m199.1 10))) rfl rfl rfl rfl rfl rfl ?_
    refine T_if 138 110 rfl rfl rfl (r32 (by omega) (by omega)) (fun (h215 : (m199.1 10) ≠ 0) => ?_) (fun (h215 : ¬ ((m199.1 10) ≠ 0)) => by exfalso; omega)
    refine T_ld 139 (.ref 189) rfl (fun _ => rfl) ?_
    refine T_ld 140 (.int (i32 (m.1 99))) rfl (fun _ => rfl) ?_
    refine T_call 143 274 [.ref 189, .int (i32 (m.1 99))] [] rfl (fun _ => rfl) rfl (c_takeIndex w (mO m [(7, (m199.1 7)), (8, (m199.1 8)), (9, (m199.1 9)), (10, (m199.1 10)), (11, (m199.1 11)), (12, (m199.1 12)), (28, (m.1 28)), (69, (m.1 69)), (70, (m.1 70)), (71, (m.1 71)), (72, (m.1 72)), (73, (m.1 73)), (74, (m.1 74)), (75, (m.1 75)), (99, (m.1 99) + 1), (100, (m199.1 100))] [(65, (m.2 65)), (66, (m.2 66)), (67, (m.2 67)), (68, (m.2 68)), (76, (m.2 76)), (77, (m.2 77)), (78, (m.2 78)), (79, (m.2 79)), (80, (m.2 80)), (81, (m.2 81)), (82, (m.2 82)), (83, (m.2 83)), (84, (m.2 84)), (85, (m.2 85)), (86, (m.2 86)), (87, (m.2 87)), (88, (m.2 88)), (89, (m.2 89)), (90, (m.2 90)), (91, (m.2 91)), (92, (m.2 92)), (101, (m199.2 101)), (102, (m199.2 102)), (103, upI (m.2 103) (m.1 99) s198), (104, (m.2 104)), (105, (m.2 105)), (106, (m.2 106)), (107, (m.2 107)), (108, (m.2 108))]) c N D (by omega) (Ty_mO hT rfl rfl ⟨(q203.1 7), (q203.1 8), (q203.1 9), (q203.1 10), (q203.1 11), (q203.1 12), f28, f69, f70, f71, f72, f73, f74, f75, ⟨(by omega : (0 : Int) ≤ (m.1 99) + 1), (by omega : ((m.1 99) + 1 : Int) ≤ 240)⟩, (q203.1 100), trivial⟩ ⟨(hT.2.1 65), (hT.2.1 66), (hT.2.1 67), (hT.2.1 68), (hT.2.1 76), (hT.2.1 77), (hT.2.1 78), (hT.2.1 79), (hT.2.1 80), (hT.2.1 81), (hT.2.1 82), (hT.2.1 83), (hT.2.1 84), (hT.2.1 85), (hT.2.1 86), (hT.2.1 87), (hT.2.1 88), (hT.2.1 89), (hT.2.1 90), (hT.2.1 91), (hT.2.1 92), (q203.2.1 101), (q203.2.1 102), G214, (hT.2.1 104), (hT.2.1 105), (hT.2.1 106), (hT.2.1 107), (hT.2.1 108), trivial⟩) (m.1 99) (r32 (by omega) (by omega)) (show LxP (m199.1 7) (m199.1 8) (m199.1 9) (m.1 6) (m199.1 10) by first | exact hLx | exact (fun _ => hLx (by omega)) | (intro h9; exfalso; omega)) (show ∀ k, (m.2 14) k + (m.2 15) k ≤ 4000 by assumption) (show ∀ k, (m.2 31) k + (m.2 32) k ≤ 4000 by assumption) (show ∀ k, (m.2 47) k + (m.2 48) k ≤ 4000 by assumption) (show 0 ≤ (m.1 99) ∧ (m.1 99) ≤ 239 by omega) (fun (h : (m199.1 10) = 0) => absurd h (by omega))) (fun rr216 k217 => ?_)
    obtain ⟨m218, hT219, h220, h221, c222, rfl⟩ := k217
    refine ⟨_, _, rfl, ?_⟩
    refine T_nf2 (st' := []) (l' := [(7, (m218.1 7)), (8, (m218.1 8)), (9, (m218.1 9)), (10, (m218.1 10)), (11, (m218.1 11)), (12, (m218.1 12)), (28, (m218.1 28)), (69, (m218.1 69)), (70, (m218.1 70)), (71, (m218.1 71)), (72, (m218.1 72)), (73, (m218.1 73)), (74, (m218.1 74)), (75, (m218.1 75)), (99, (m.1 99) + 1), (100, (m199.1 100))]) (a' := [(65, (m218.2 65)), (66, (m218.2 66)), (67, (m218.2 67)), (68, (m218.2 68)), (76, (m218.2 76)), (77, (m218.2 77)), (78, (m218.2 78)), (79, (m218.2 79)), (80, (m218.2 80)), (81, (m218.2 81)), (82, (m218.2 82)), (83, (m218.2 83)), (84, (m218.2 84)), (85, (m218.2 85)), (86, (m218.2 86)), (87, (m218.2 87)), (88, (m218.2 88)), (89, (m218.2 89)), (90, (m218.2 90)), (91, (m218.2 91)), (92, (m218.2 92)), (101, (m199.2 101)), (102, (m199.2 102)), (103, upI (m.2 103) (m.1 99) s198), (104, (m.2 104)), (105, (m218.2 105)), (106, (m218.2 106)), (107, (m.2 107)), (108, (m.2 108))]) [7, 8, 9, 10, 11, 12, 28, 69, 70, 71, 72, 73, 74, 75] [65, 66, 67, 68, 76, 77, 78, 79, 80, 81, 82, 83, 84, 85, 86, 87, 88, 89, 90, 91, 92, 105, 106] rfl ⟨rfl, rfl, rfl, rfl, rfl, rfl, rfl, rfl, rfl, rfl, rfl, rfl, rfl, rfl, rfl, rfl, rfl, rfl, rfl, rfl, rfl, rfl, rfl, rfl, rfl, rfl, rfl, rfl, rfl, rfl, rfl, rfl, trivial⟩ ⟨rfl, rfl, rfl, rfl, rfl, rfl, rfl, rfl, rfl, rfl, rfl, rfl, rfl, rfl, rfl, rfl, rfl, rfl, rfl, rfl, rfl, rfl, rfl, rfl, rfl, rfl, rfl, rfl, rfl, rfl, rfl, rfl, rfl, rfl, rfl, rfl, rfl, rfl, rfl, rfl, rfl, rfl, rfl, rfl, rfl, rfl, rfl, rfl, rfl, rfl, rfl, rfl, rfl, rfl, rfl, rfl, rfl, rfl, rfl, rfl, rfl, rfl, trivial⟩ rfl rfl (by decide) (by decide) ?_
    have g223 : 0 ≤ m218.1 7 ∧ m218.1 7 ≤ 330 := hT219.1 7
    have g224 : 0 ≤ m218.1 8 ∧ m218.1 8 ≤ 4000 := hT219.1 8
    have g225 : 0 ≤ m218.1 9 ∧ m218.1 9 ≤ 4000 := hT219.1 9
    have g226 : 0 ≤ m218.1 10 ∧ m218.1 10 ≤ 8 := hT219.1 10
    have g227 : (-1) ≤ m218.1 11 ∧ m218.1 11 ≤ 4000 := hT219.1 11
    have g228 : (-9223372036854775808) ≤ m218.1 12 ∧ m218.1 12 ≤ 9223372036854775807 := hT219.1 12
    have g229 : 0 ≤ m218.1 28 ∧ m218.1 28 ≤ 800 := hT219.1 28
    have g230 : 0 ≤ m218.1 69 ∧ m218.1 69 ≤ 1024 := hT219.1 69
    have g231 : 0 ≤ m218.1 70 ∧ m218.1 70 ≤ 4000 := hT219.1 70
    have g232 : 0 ≤ m218.1 71 ∧ m218.1 71 ≤ 1 := hT219.1 71
    have g233 : (-9223372036854775808) ≤ m218.1 72 ∧ m218.1 72 ≤ 9223372036854775807 := hT219.1 72
    have g234 : 0 ≤ m218.1 73 ∧ m218.1 73 ≤ 60 := hT219.1 73
    have g235 : 0 ≤ m218.1 74 ∧ m218.1 74 ≤ 24 := hT219.1 74
    have g236 : 0 ≤ m218.1 75 ∧ m218.1 75 ≤ 3 := hT219.1 75
    replace h220 : (m218.1 10) = 0 → (m199.1 10) = 0 := h220
    replace h221 : LxP (m218.1 7) (m218.1 8) (m218.1 9) (m.1 6) (m218.1 10) := h221
    have hf237 : 1 ≤ (m218.1 10) := by omega
    clear c222
    clear h220
    have hLx := h221
    clear q203_7 q203_8 q203_9 q203_10 q203_11 q203_12 ic208 ic209 h215
    exact J143_134 v197 (mO m [(7, (m218.1 7)), (8, (m218.1 8)), (9, (m218.1 9)), (10, (m218.1 10)), (11, (m218.1 11)), (12, (m218.1 12)), (28, (m218.1 28)), (69, (m218.1 69)), (70, (m218.1 70)), (71, (m218.1 71)), (72, (m218.1 72)), (73, (m218.1 73)), (74, (m218.1 74)), (75, (m218.1 75)), (99, (m.1 99) + 1), (100, (m199.1 100))] [(65, (m218.2 65)), (66, (m218.2 66)), (67, (m218.2 67)), (68, (m218.2 68)), (76, (m218.2 76)), (77, (m218.2 77)), (78, (m218.2 78)), (79, (m218.2 79)), (80, (m218.2 80)), (81, (m218.2 81)), (82, (m218.2 82)), (83, (m218.2 83)), (84, (m218.2 84)), (85, (m218.2 85)), (86, (m218.2 86)), (87, (m218.2 87)), (88, (m218.2 88)), (89, (m218.2 89)), (90, (m218.2 90)), (91, (m218.2 91)), (92, (m218.2 92)), (101, (m199.2 101)), (102, (m199.2 102)), (103, upI (m.2 103) (m.1 99) s198), (104, (m.2 104)), (105, (m218.2 105)), (106, (m218.2 106)), (107, (m.2 107)), (108, (m.2 108))]) (r32 (by omega) (by omega)) (Ty_mO hT rfl rfl ⟨(hT219.1 7), (hT219.1 8), (hT219.1 9), (hT219.1 10), (hT219.1 11), (hT219.1 12), (hT219.1 28), (hT219.1 69), (hT219.1 70), (hT219.1 71), (hT219.1 72), (hT219.1 73), (hT219.1 74), (hT219.1 75), ⟨(by omega : (0 : Int) ≤ (m.1 99) + 1), (by omega : ((m.1 99) + 1 : Int) ≤ 240)⟩, (q203.1 100), trivial⟩ ⟨(hT219.2.1 65), (hT219.2.1 66), (hT219.2.1 67), (hT219.2.1 68), (hT219.2.1 76), (hT219.2.1 77), (hT219.2.1 78), (hT219.2.1 79), (hT219.2.1 80), (hT219.2.1 81), (hT219.2.1 82), (hT219.2.1 83), (hT219.2.1 84), (hT219.2.1 85), (hT219.2.1 86), (hT219.2.1 87), (hT219.2.1 88), (hT219.2.1 89), (hT219.2.1 90), (hT219.2.1 91), (hT219.2.1 92), (q203.2.1 101), (q203.2.1 102), G214, (hT.2.1 104), (hT219.2.1 105), (hT219.2.1 106), (hT.2.1 107), (hT.2.1 108), trivial⟩) (show 0 ≤ v197 by omega) (show v197 ≤ 4000 by omega) (show 1 ≤ (m218.1 10) by omega) (show (m218.1 10) ≤ 8 by omega) (show 0 ≤ ((m.1 99) + 1) ∧ ((m.1 99) + 1) ≤ 240 by omega) (show 0 ≤ (m.1 99) ∧ (m.1 99) ≤ 240 by omega)
  have J86_240 : ∀ (s238 : Int) (m239 : mR), (R32 s238) → (Ty m239) → (0 ≤ s238) → (s238 ≤ 207) → (1 ≤ (m239.1 10)) → ((m239.1 10) ≤ 8) → (0 ≤ ((m.1 99) + 1) ∧ ((m.1 99) + 1) ≤ 240) → (0 ≤ (m.1 99) ∧ (m.1 99) ≤ 240) → (0 ≤ (m.1 99) ∧ (m.1 99) ≤ 240) → TT w D pm_270 (86, [(0, .ref 189), (1, .int (i32 (m.1 99)))], [.int (i32 s238), .int (i32 (m.1 99)), .ref 262], (mhp (mO m [(7, (m239.1 7)), (8, (m239.1 8)), (9, (m239.1 9)), (10, (m239.1 10)), (11, (m239.1 11)), (12, (m239.1 12)), (28, (m.1 28)), (69, (m.1 69)), (70, (m.1 70)), (71, (m.1 71)), (72, (m.1 72)), (73, (m.1 73)), (74, (m.1 74)), (75, (m.1 75)), (99, (m.1 99) + 1), (100, (m239.1 100))] [(65, (m.2 65)), (66, (m.2 66)), (67, (m.2 67)), (68, (m.2 68)), (76, (m.2 76)), (77, (m.2 77)), (78, (m.2 78)), (79, (m.2 79)), (80, (m.2 80)), (81, (m.2 81)), (82, (m.2 82)), (83, (m.2 83)), (84, (m.2 84)), (85, (m.2 85)), (86, (m.2 86)), (87, (m.2 87)), (88, (m.2 88)), (89, (m.2 89)), (90, (m.2 90)), (91, (m.2 91)), (92, (m.2 92)), (101, (m239.2 101)), (102, (m.2 102)), (103, (m.2 103)), (104, (m.2 104)), (105, (m.2 105)), (106, (m.2 106)), (107, (m.2 107)), (108, (m.2 108))]) c, N), 0, 0) (Q_takeStatement m c N) := by
    intro s238 m239 q241 q242 ic243 ic244 ic245 ic246 ic247 ic248 ic249
    obtain ⟨q241a, q241b⟩ := id q241
    have q242_7 : 0 ≤ m239.1 7 ∧ m239.1 7 ≤ 330 := q242.1 7
    have q242_8 : 0 ≤ m239.1 8 ∧ m239.1 8 ≤ 4000 := q242.1 8
    have q242_9 : 0 ≤ m239.1 9 ∧ m239.1 9 ≤ 4000 := q242.1 9
    have q242_10 : 0 ≤ m239.1 10 ∧ m239.1 10 ≤ 8 := q242.1 10
    have q242_11 : (-1) ≤ m239.1 11 ∧ m239.1 11 ≤ 4000 := q242.1 11
    have q242_12 : (-9223372036854775808) ≤ m239.1 12 ∧ m239.1 12 ≤ 9223372036854775807 := q242.1 12
    have q242_100 : 0 ≤ m239.1 100 ∧ m239.1 100 ≤ 64 := q242.1 100
    have G251 : ∀ j, 0 ≤ (upI (m.2 102) (m.1 99) s238) j ∧ (upI (m.2 102) (m.1 99) s238) j ≤ 207 := upI_rg (hT.2.1 102) ⟨by omega, by omega⟩
    refine T_iast (a' := [(65, (m.2 65)), (66, (m.2 66)), (67, (m.2 67)), (68, (m.2 68)), (76, (m.2 76)), (77, (m.2 77)), (78, (m.2 78)), (79, (m.2 79)), (80, (m.2 80)), (81, (m.2 81)), (82, (m.2 82)), (83, (m.2 83)), (84, (m.2 84)), (85, (m.2 85)), (86, (m.2 86)), (87, (m.2 87)), (88, (m.2 88)), (89, (m.2 89)), (90, (m.2 90)), (91, (m.2 91)), (92, (m.2 92)), (101, (m239.2 101)), (102, upI (m.2 102) (m.1 99) s238), (103, (m.2 103)), (104, (m.2 104)), (105, (m.2 105)), (106, (m.2 106)), (107, (m.2 107)), (108, (m.2 108))]) 87 102 (m.2 102) rfl rfl rfl (by omega) (show (m.1 99) < (240 : Int) by omega) rfl rfl ?_
    refine T_gf 91 (.int (i32 (m239.1 8))) rfl rfl rfl rfl rfl rfl ?_
    refine T_sto 92 [(2, .int (i32 (m239.1 8))), (0, .ref 189), (1, .int (i32 (m.1 99)))] rfl (fun _ => rfl) ?_
    refine T_gf 96 (.ref 263) rfl rfl rfl rfl rfl rfl ?_
    refine T_ld 97 (.int (i32 (m.1 99))) rfl (fun _ => rfl) ?_
    refine T_ld 98 (.ref 189) rfl (fun _ => rfl) ?_
    refine T_ld 99 (.int (i32 4)) rfl (fun _ => rfl) ?_
    refine T_call 102 236 [.ref 189, .int (i32 4)] [.int (i32 (m.1 99)), .ref 263] rfl (fun _ => rfl) rfl (c_oldName w (mO m [(7, (m239.1 7)), (8, (m239.1 8)), (9, (m239.1 9)), (10, (m239.1 10)), (11, (m239.1 11)), (12, (m239.1 12)), (28, (m.1 28)), (69, (m.1 69)), (70, (m.1 70)), (71, (m.1 71)), (72, (m.1 72)), (73, (m.1 73)), (74, (m.1 74)), (75, (m.1 75)), (99, (m.1 99) + 1), (100, (m239.1 100))] [(65, (m.2 65)), (66, (m.2 66)), (67, (m.2 67)), (68, (m.2 68)), (76, (m.2 76)), (77, (m.2 77)), (78, (m.2 78)), (79, (m.2 79)), (80, (m.2 80)), (81, (m.2 81)), (82, (m.2 82)), (83, (m.2 83)), (84, (m.2 84)), (85, (m.2 85)), (86, (m.2 86)), (87, (m.2 87)), (88, (m.2 88)), (89, (m.2 89)), (90, (m.2 90)), (91, (m.2 91)), (92, (m.2 92)), (101, (m239.2 101)), (102, upI (m.2 102) (m.1 99) s238), (103, (m.2 103)), (104, (m.2 104)), (105, (m.2 105)), (106, (m.2 106)), (107, (m.2 107)), (108, (m.2 108))]) c N D (by omega) (Ty_mO hT rfl rfl ⟨(q242.1 7), (q242.1 8), (q242.1 9), (q242.1 10), (q242.1 11), (q242.1 12), f28, f69, f70, f71, f72, f73, f74, f75, ⟨(by omega : (0 : Int) ≤ (m.1 99) + 1), (by omega : ((m.1 99) + 1 : Int) ≤ 240)⟩, (q242.1 100), trivial⟩ ⟨(hT.2.1 65), (hT.2.1 66), (hT.2.1 67), (hT.2.1 68), (hT.2.1 76), (hT.2.1 77), (hT.2.1 78), (hT.2.1 79), (hT.2.1 80), (hT.2.1 81), (hT.2.1 82), (hT.2.1 83), (hT.2.1 84), (hT.2.1 85), (hT.2.1 86), (hT.2.1 87), (hT.2.1 88), (hT.2.1 89), (hT.2.1 90), (hT.2.1 91), (hT.2.1 92), (q242.2.1 101), G251, (hT.2.1 103), (hT.2.1 104), (hT.2.1 105), (hT.2.1 106), (hT.2.1 107), (hT.2.1 108), trivial⟩) 4 (m.1 22) ⟨by decide, by decide⟩ (show LxP (m239.1 7) (m239.1 8) (m239.1 9) (m.1 6) (m239.1 10) by first | exact hLx | (intro h9; exfalso; omega) | (intro h9; have h8 := hLx (by omega); omega)) (show ∀ k, (m.2 14) k + (m.2 15) k ≤ 4000 by first | exact p1 | exact hNM) (show 1 ≤ (4 : Int) ∧ (4 : Int) ≤ 7 ∧ (4 : Int) ≠ 5 by omega) (show (m.1 22) ≤ 16 by omega) (show (m239.1 10) = 0 → ∀ k, 0 ≤ k → k < (m.1 13) → (m.2 16) k = (4 : Int) → 0 ≤ (m.2 17) k ∧ (m.2 17) k < (m.1 22) by first | exact hOL | (intro h; exfalso; omega)) (show (4 : Int) = 3 → 3 ≤ (m.1 22) by omega)) (fun rr252 k253 => ?_)
    obtain ⟨y254, y256, y258, y260, y262, y264, oo, g255, g257, g259, g261, g263, g265, g266, h267, h268, h269, h270, h271, h272, rfl⟩ := k253
    refine ⟨_, _, rfl, ?_⟩
    refine T_nf2 (st' := [.int (i32 oo), .int (i32 (m.1 99)), .ref 263]) (l' := [(7, y254), (8, y256), (9, y258), (10, y260), (11, y262), (12, y264), (28, (m.1 28)), (69, (m.1 69)), (70, (m.1 70)), (71, (m.1 71)), (72, (m.1 72)), (73, (m.1 73)), (74, (m.1 74)), (75, (m.1 75)), (99, (m.1 99) + 1), (100, (m239.1 100))]) (a' := [(65, (m.2 65)), (66, (m.2 66)), (67, (m.2 67)), (68, (m.2 68)), (76, (m.2 76)), (77, (m.2 77)), (78, (m.2 78)), (79, (m.2 79)), (80, (m.2 80)), (81, (m.2 81)), (82, (m.2 82)), (83, (m.2 83)), (84, (m.2 84)), (85, (m.2 85)), (86, (m.2 86)), (87, (m.2 87)), (88, (m.2 88)), (89, (m.2 89)), (90, (m.2 90)), (91, (m.2 91)), (92, (m.2 92)), (101, (m239.2 101)), (102, upI (m.2 102) (m.1 99) s238), (103, (m.2 103)), (104, (m.2 104)), (105, (m.2 105)), (106, (m.2 106)), (107, (m.2 107)), (108, (m.2 108))]) [7, 8, 9, 10, 11, 12] [] rfl ⟨rfl, rfl, rfl, rfl, rfl, rfl, rfl, rfl, rfl, rfl, rfl, rfl, rfl, rfl, rfl, rfl, rfl, rfl, rfl, rfl, rfl, rfl, rfl, rfl, rfl, rfl, rfl, rfl, rfl, rfl, rfl, rfl, trivial⟩ ⟨rfl, rfl, rfl, rfl, rfl, rfl, rfl, rfl, rfl, rfl, rfl, rfl, rfl, rfl, rfl, rfl, rfl, rfl, rfl, rfl, rfl, rfl, rfl, rfl, rfl, rfl, rfl, rfl, rfl, rfl, rfl, rfl, rfl, rfl, rfl, rfl, rfl, rfl, rfl, rfl, rfl, rfl, rfl, rfl, rfl, rfl, rfl, rfl, rfl, rfl, rfl, rfl, rfl, rfl, rfl, rfl, rfl, rfl, trivial⟩ rfl rfl (by decide) (by decide) ?_
    obtain ⟨g266a, g266b⟩ := g266
    replace h267 : LxP y254 y256 y258 (m.1 6) y260 := h267
    replace h268 : (m239.1 8) ≤ y256 := h268
    replace h269 : y260 = 0 → (m239.1 10) = 0 ∧ (m239.1 8) + (m239.1 9) ≤ y256 := h269
    replace h270 : y260 = 0 → (m239.1 7) = 1 := h270
    replace h271 : 0 ≤ oo ∧ (oo < (m.1 22) ∨ oo = 0) := h271
    replace h272 : y260 = 0 → oo < (m.1 22) := h272
    have hf273 : 1 ≤ y260 := by omega
    clear h269
    clear h270
    clear h272
    have hLx := h267
    clear q242_7 q242_9 q242_10 q242_11 q242_12 ic245 ic246
    refine Tm_lv (a := [(0, .ref 189), (1, .int (i32 (m.1 99))), (2, .int (i32 (m239.1 8)))]) rfl rfl ⟨rfl, rfl, rfl, trivial⟩ ?_
    exact J102_200 (m239.1 8) oo (mO m [(7, y254), (8, y256), (9, y258), (10, y260), (11, y262), (12, y264), (28, (m.1 28)), (69, (m.1 69)), (70, (m.1 70)), (71, (m.1 71)), (72, (m.1 72)), (73, (m.1 73)), (74, (m.1 74)), (75, (m.1 75)), (99, (m.1 99) + 1), (100, (m239.1 100))] [(65, (m.2 65)), (66, (m.2 66)), (67, (m.2 67)), (68, (m.2 68)), (76, (m.2 76)), (77, (m.2 77)), (78, (m.2 78)), (79, (m.2 79)), (80, (m.2 80)), (81, (m.2 81)), (82, (m.2 82)), (83, (m.2 83)), (84, (m.2 84)), (85, (m.2 85)), (86, (m.2 86)), (87, (m.2 87)), (88, (m.2 88)), (89, (m.2 89)), (90, (m.2 90)), (91, (m.2 91)), (92, (m.2 92)), (101, (m239.2 101)), (102, upI (m.2 102) (m.1 99) s238), (103, (m.2 103)), (104, (m.2 104)), (105, (m.2 105)), (106, (m.2 106)), (107, (m.2 107)), (108, (m.2 108))]) (r32 (by omega) (by omega)) (r32 (by omega) (by omega)) (Ty_mO hT rfl rfl ⟨g255, g257, g259, g261, g263, g265, f28, f69, f70, f71, f72, f73, f74, f75, ⟨(by omega : (0 : Int) ≤ (m.1 99) + 1), (by omega : ((m.1 99) + 1 : Int) ≤ 240)⟩, (q242.1 100), trivial⟩ ⟨(hT.2.1 65), (hT.2.1 66), (hT.2.1 67), (hT.2.1 68), (hT.2.1 76), (hT.2.1 77), (hT.2.1 78), (hT.2.1 79), (hT.2.1 80), (hT.2.1 81), (hT.2.1 82), (hT.2.1 83), (hT.2.1 84), (hT.2.1 85), (hT.2.1 86), (hT.2.1 87), (hT.2.1 88), (hT.2.1 89), (hT.2.1 90), (hT.2.1 91), (hT.2.1 92), (q242.2.1 101), G251, (hT.2.1 103), (hT.2.1 104), (hT.2.1 105), (hT.2.1 106), (hT.2.1 107), (hT.2.1 108), trivial⟩) (show 0 ≤ (m239.1 8) by omega) (show (m239.1 8) ≤ 4000 by omega) (show 0 ≤ oo by omega) (show oo ≤ 7 by omega) (show 1 ≤ y260 by omega) (show y260 ≤ 8 by omega) (show 0 ≤ ((m.1 99) + 1) ∧ ((m.1 99) + 1) ≤ 240 by omega) (show 0 ≤ (m.1 99) ∧ (m.1 99) ≤ 240 by omega) (show 0 ≤ (m.1 99) ∧ (m.1 99) ≤ 240 by omega)
  have J60_276 : ∀ (v274 : Int) (m275 : mR), (R32 v274) → (Ty m275) → (0 ≤ v274) → (v274 ≤ 64) → (1 ≤ (m275.1 10)) → ((m275.1 10) ≤ 8) → (0 ≤ ((m.1 99) + 1) ∧ ((m.1 99) + 1) ≤ 240) → (0 ≤ (m.1 99) ∧ (m.1 99) ≤ 240) → TT w D pm_270 (60, [(0, .ref 189), (1, .int (i32 (m.1 99))), (2, .int (i32 v274))], [], (mhp (mO m [(7, (m275.1 7)), (8, (m275.1 8)), (9, (m275.1 9)), (10, (m275.1 10)), (11, (m275.1 11)), (12, (m275.1 12)), (28, (m275.1 28)), (69, (m275.1 69)), (70, (m275.1 70)), (71, (m275.1 71)), (72, (m275.1 72)), (73, (m275.1 73)), (74, (m275.1 74)), (75, (m275.1 75)), (99, (m.1 99) + 1), (100, (m275.1 100))] [(65, (m275.2 65)), (66, (m275.2 66)), (67, (m275.2 67)), (68, (m275.2 68)), (76, (m275.2 76)), (77, (m275.2 77)), (78, (m275.2 78)), (79, (m275.2 79)), (80, (m275.2 80)), (81, (m275.2 81)), (82, (m275.2 82)), (83, (m275.2 83)), (84, (m275.2 84)), (85, (m275.2 85)), (86, (m275.2 86)), (87, (m275.2 87)), (88, (m275.2 88)), (89, (m275.2 89)), (90, (m275.2 90)), (91, (m275.2 91)), (92, (m275.2 92)), (101, (m275.2 101)), (102, (m275.2 102)), (103, (m.2 103)), (104, (m.2 104)), (105, (m.2 105)), (106, (m.2 106)), (107, (m275.2 107)), (108, (m275.2 108))]) c, N), 0, 0) (Q_takeStatement m c N) := by
    intro v274 m275 q277 q278 ic279 ic280 ic281 ic282 ic283 ic284
    obtain ⟨q277a, q277b⟩ := id q277
    have q278_7 : 0 ≤ m275.1 7 ∧ m275.1 7 ≤ 330 := q278.1 7
    have q278_8 : 0 ≤ m275.1 8 ∧ m275.1 8 ≤ 4000 := q278.1 8
    have q278_9 : 0 ≤ m275.1 9 ∧ m275.1 9 ≤ 4000 := q278.1 9
    have q278_10 : 0 ≤ m275.1 10 ∧ m275.1 10 ≤ 8 := q278.1 10
    have q278_11 : (-1) ≤ m275.1 11 ∧ m275.1 11 ≤ 4000 := q278.1 11
    have q278_12 : (-9223372036854775808) ≤ m275.1 12 ∧ m275.1 12 ≤ 9223372036854775807 := q278.1 12
    have q278_28 : 0 ≤ m275.1 28 ∧ m275.1 28 ≤ 800 := q278.1 28
    have q278_69 : 0 ≤ m275.1 69 ∧ m275.1 69 ≤ 1024 := q278.1 69
    have q278_70 : 0 ≤ m275.1 70 ∧ m275.1 70 ≤ 4000 := q278.1 70
    have q278_71 : 0 ≤ m275.1 71 ∧ m275.1 71 ≤ 1 := q278.1 71
    have q278_72 : (-9223372036854775808) ≤ m275.1 72 ∧ m275.1 72 ≤ 9223372036854775807 := q278.1 72
    have q278_73 : 0 ≤ m275.1 73 ∧ m275.1 73 ≤ 60 := q278.1 73
    have q278_74 : 0 ≤ m275.1 74 ∧ m275.1 74 ≤ 24 := q278.1 74
    have q278_75 : 0 ≤ m275.1 75 ∧ m275.1 75 ≤ 3 := q278.1 75
    have q278_100 : 0 ≤ m275.1 100 ∧ m275.1 100 ≤ 64 := q278.1 100
    refine T_goto 229 rfl (fun _ => rfl) ?_
    refine T_ld 230 (.ref 189) rfl (fun _ => rfl) ?_
    refine T_ld 232 (.int (i32 59)) rfl (fun _ => rfl) ?_
    refine T_call 235 232 [.ref 189, .int (i32 59)] [] rfl (fun _ => rfl) rfl (c_need w (mO m [(7, (m275.1 7)), (8, (m275.1 8)), (9, (m275.1 9)), (10, (m275.1 10)), (11, (m275.1 11)), (12, (m275.1 12)), (28, (m275.1 28)), (69, (m275.1 69)), (70, (m275.1 70)), (71, (m275.1 71)), (72, (m275.1 72)), (73, (m275.1 73)), (74, (m275.1 74)), (75, (m275.1 75)), (99, (m.1 99) + 1), (100, (m275.1 100))] [(65, (m275.2 65)), (66, (m275.2 66)), (67, (m275.2 67)), (68, (m275.2 68)), (76, (m275.2 76)), (77, (m275.2 77)), (78, (m275.2 78)), (79, (m275.2 79)), (80, (m275.2 80)), (81, (m275.2 81)), (82, (m275.2 82)), (83, (m275.2 83)), (84, (m275.2 84)), (85, (m275.2 85)), (86, (m275.2 86)), (87, (m275.2 87)), (88, (m275.2 88)), (89, (m275.2 89)), (90, (m275.2 90)), (91, (m275.2 91)), (92, (m275.2 92)), (101, (m275.2 101)), (102, (m275.2 102)), (103, (m.2 103)), (104, (m.2 104)), (105, (m.2 105)), (106, (m.2 106)), (107, (m275.2 107)), (108, (m275.2 108))]) c N D (by omega) (Ty_mO hT rfl rfl ⟨(q278.1 7), (q278.1 8), (q278.1 9), (q278.1 10), (q278.1 11), (q278.1 12), (q278.1 28), (q278.1 69), (q278.1 70), (q278.1 71), (q278.1 72), (q278.1 73), (q278.1 74), (q278.1 75), ⟨(by omega : (0 : Int) ≤ (m.1 99) + 1), (by omega : ((m.1 99) + 1 : Int) ≤ 240)⟩, (q278.1 100), trivial⟩ ⟨(q278.2.1 65), (q278.2.1 66), (q278.2.1 67), (q278.2.1 68), (q278.2.1 76), (q278.2.1 77), (q278.2.1 78), (q278.2.1 79), (q278.2.1 80), (q278.2.1 81), (q278.2.1 82), (q278.2.1 83), (q278.2.1 84), (q278.2.1 85), (q278.2.1 86), (q278.2.1 87), (q278.2.1 88), (q278.2.1 89), (q278.2.1 90), (q278.2.1 91), (q278.2.1 92), (q278.2.1 101), (q278.2.1 102), (hT.2.1 103), (hT.2.1 104), (hT.2.1 105), (hT.2.1 106), (q278.2.1 107), (q278.2.1 108), trivial⟩) 59 ⟨by decide, by decide⟩ (show 1 ≤ (59 : Int) by omega) (show LxP (m275.1 7) (m275.1 8) (m275.1 9) (m.1 6) (m275.1 10) by first | exact hLx | (intro h9; exfalso; omega) | (intro h9; have h8 := hLx (by omega); omega))) (fun rr286 k287 => ?_)
    obtain ⟨y288, y290, y292, y294, y296, y298, g289, g291, g293, g295, g297, g299, h300, h301, h302, h303, rfl⟩ := k287
    refine ⟨_, _, rfl, ?_⟩
    refine T_nf2 (st' := []) (l' := [(7, y288), (8, y290), (9, y292), (10, y294), (11, y296), (12, y298), (28, (m275.1 28)), (69, (m275.1 69)), (70, (m275.1 70)), (71, (m275.1 71)), (72, (m275.1 72)), (73, (m275.1 73)), (74, (m275.1 74)), (75, (m275.1 75)), (99, (m.1 99) + 1), (100, (m275.1 100))]) (a' := [(65, (m275.2 65)), (66, (m275.2 66)), (67, (m275.2 67)), (68, (m275.2 68)), (76, (m275.2 76)), (77, (m275.2 77)), (78, (m275.2 78)), (79, (m275.2 79)), (80, (m275.2 80)), (81, (m275.2 81)), (82, (m275.2 82)), (83, (m275.2 83)), (84, (m275.2 84)), (85, (m275.2 85)), (86, (m275.2 86)), (87, (m275.2 87)), (88, (m275.2 88)), (89, (m275.2 89)), (90, (m275.2 90)), (91, (m275.2 91)), (92, (m275.2 92)), (101, (m275.2 101)), (102, (m275.2 102)), (103, (m.2 103)), (104, (m.2 104)), (105, (m.2 105)), (106, (m.2 106)), (107, (m275.2 107)), (108, (m275.2 108))]) [7, 8, 9, 10, 11, 12] [] rfl ⟨rfl, rfl, rfl, rfl, rfl, rfl, rfl, rfl, rfl, rfl, rfl, rfl, rfl, rfl, rfl, rfl, rfl, rfl, rfl, rfl, rfl, rfl, rfl, rfl, rfl, rfl, rfl, rfl, rfl, rfl, rfl, rfl, trivial⟩ ⟨rfl, rfl, rfl, rfl, rfl, rfl, rfl, rfl, rfl, rfl, rfl, rfl, rfl, rfl, rfl, rfl, rfl, rfl, rfl, rfl, rfl, rfl, rfl, rfl, rfl, rfl, rfl, rfl, rfl, rfl, rfl, rfl, rfl, rfl, rfl, rfl, rfl, rfl, rfl, rfl, rfl, rfl, rfl, rfl, rfl, rfl, rfl, rfl, rfl, rfl, rfl, rfl, rfl, rfl, rfl, rfl, rfl, rfl, trivial⟩ rfl rfl (by decide) (by decide) ?_
    replace h300 : LxP y288 y290 y292 (m.1 6) y294 := h300
    replace h301 : y294 = 0 → (m275.1 10) = 0 ∧ (m275.1 7) = (59 : Int) := h301
    replace h302 : (m275.1 8) ≤ y290 := h302
    replace h303 : y294 = 0 → (m275.1 8) + (m275.1 9) ≤ y290 := h303
    have hf304 : 1 ≤ y294 := by omega
    clear h301
    clear h303
    have hLx := h300
    clear q278_7 q278_8 q278_9 q278_10 q278_11 q278_12 ic281 ic282 h302
    refine Tm_lv (a := [(0, .ref 189), (1, .int (i32 (m.1 99)))]) rfl rfl ⟨rfl, rfl, trivial⟩ ?_
    exact J235_28 (mO m [(7, y288), (8, y290), (9, y292), (10, y294), (11, y296), (12, y298), (28, (m275.1 28)), (69, (m275.1 69)), (70, (m275.1 70)), (71, (m275.1 71)), (72, (m275.1 72)), (73, (m275.1 73)), (74, (m275.1 74)), (75, (m275.1 75)), (99, (m.1 99) + 1), (100, (m275.1 100))] [(65, (m275.2 65)), (66, (m275.2 66)), (67, (m275.2 67)), (68, (m275.2 68)), (76, (m275.2 76)), (77, (m275.2 77)), (78, (m275.2 78)), (79, (m275.2 79)), (80, (m275.2 80)), (81, (m275.2 81)), (82, (m275.2 82)), (83, (m275.2 83)), (84, (m275.2 84)), (85, (m275.2 85)), (86, (m275.2 86)), (87, (m275.2 87)), (88, (m275.2 88)), (89, (m275.2 89)), (90, (m275.2 90)), (91, (m275.2 91)), (92, (m275.2 92)), (101, (m275.2 101)), (102, (m275.2 102)), (103, (m.2 103)), (104, (m.2 104)), (105, (m.2 105)), (106, (m.2 106)), (107, (m275.2 107)), (108, (m275.2 108))]) (Ty_mO hT rfl rfl ⟨g289, g291, g293, g295, g297, g299, (q278.1 28), (q278.1 69), (q278.1 70), (q278.1 71), (q278.1 72), (q278.1 73), (q278.1 74), (q278.1 75), ⟨(by omega : (0 : Int) ≤ (m.1 99) + 1), (by omega : ((m.1 99) + 1 : Int) ≤ 240)⟩, (q278.1 100), trivial⟩ ⟨(q278.2.1 65), (q278.2.1 66), (q278.2.1 67), (q278.2.1 68), (q278.2.1 76), (q278.2.1 77), (q278.2.1 78), (q278.2.1 79), (q278.2.1 80), (q278.2.1 81), (q278.2.1 82), (q278.2.1 83), (q278.2.1 84), (q278.2.1 85), (q278.2.1 86), (q278.2.1 87), (q278.2.1 88), (q278.2.1 89), (q278.2.1 90), (q278.2.1 91), (q278.2.1 92), (q278.2.1 101), (q278.2.1 102), (hT.2.1 103), (hT.2.1 104), (hT.2.1 105), (hT.2.1 106), (q278.2.1 107), (q278.2.1 108), trivial⟩) (show 1 ≤ y294 by omega) (show y294 ≤ 8 by omega) (show 0 ≤ ((m.1 99) + 1) ∧ ((m.1 99) + 1) ≤ 240 by omega) (show 0 ≤ (m.1 99) ∧ (m.1 99) ≤ 240 by omega)
  have J54_307 : ∀ (v305 : Int) (m306 : mR), (R32 v305) → (Ty m306) → (0 ≤ v305) → (v305 ≤ 64) → (1 ≤ (m306.1 10)) → ((m306.1 10) ≤ 8) → (0 ≤ ((m.1 99) + 1) ∧ ((m.1 99) + 1) ≤ 240) → (0 ≤ (m.1 99) ∧ (m.1 99) ≤ 240) → TT w D pm_270 (54, [(0, .ref 189), (1, .int (i32 (m.1 99))), (2, .int (i32 v305))], [], (mhp (mO m [(7, (m306.1 7)), (8, (m306.1 8)), (9, (m306.1 9)), (10, (m306.1 10)), (11, (m306.1 11)), (12, (m306.1 12)), (28, (m.1 28)), (69, (m.1 69)), (70, (m.1 70)), (71, (m.1 71)), (72, (m.1 72)), (73, (m.1 73)), (74, (m.1 74)), (75, (m.1 75)), (99, (m.1 99) + 1), (100, (m306.1 100))] [(65, (m.2 65)), (66, (m.2 66)), (67, (m.2 67)), (68, (m.2 68)), (76, (m.2 76)), (77, (m.2 77)), (78, (m.2 78)), (79, (m.2 79)), (80, (m.2 80)), (81, (m.2 81)), (82, (m.2 82)), (83, (m.2 83)), (84, (m.2 84)), (85, (m.2 85)), (86, (m.2 86)), (87, (m.2 87)), (88, (m.2 88)), (89, (m.2 89)), (90, (m.2 90)), (91, (m.2 91)), (92, (m.2 92)), (101, (m306.2 101)), (102, (m306.2 102)), (103, (m.2 103)), (104, (m.2 104)), (105, (m.2 105)), (106, (m.2 106)), (107, (m.2 107)), (108, (m.2 108))]) c, N), 0, 0) (Q_takeStatement m c N) := by
    intro v305 m306 q308 q309 ic310 ic311 ic312 ic313 ic314 ic315
    obtain ⟨q308a, q308b⟩ := id q308
    have q309_7 : 0 ≤ m306.1 7 ∧ m306.1 7 ≤ 330 := q309.1 7
    have q309_8 : 0 ≤ m306.1 8 ∧ m306.1 8 ≤ 4000 := q309.1 8
    have q309_9 : 0 ≤ m306.1 9 ∧ m306.1 9 ≤ 4000 := q309.1 9
    have q309_10 : 0 ≤ m306.1 10 ∧ m306.1 10 ≤ 8 := q309.1 10
    have q309_11 : (-1) ≤ m306.1 11 ∧ m306.1 11 ≤ 4000 := q309.1 11
    have q309_12 : (-9223372036854775808) ≤ m306.1 12 ∧ m306.1 12 ≤ 9223372036854775807 := q309.1 12
    have q309_100 : 0 ≤ m306.1 100 ∧ m306.1 100 ≤ 64 := q309.1 100
    refine T_ld 55 (.ref 189) rfl (fun _ => rfl) ?_
    refine T_ld 56 (.int (i32 (m.1 99))) rfl (fun _ => rfl) ?_
    refine T_ld 57 (.int (i32 v305)) rfl (fun _ => rfl) ?_
    refine T_call 60 272 [.ref 189, .int (i32 (m.1 99)), .int (i32 v305)] [] rfl (fun _ => rfl) rfl (c_takeWorth w (mO m [(7, (m306.1 7)), (8, (m306.1 8)), (9, (m306.1 9)), (10, (m306.1 10)), (11, (m306.1 11)), (12, (m306.1 12)), (28, (m.1 28)), (69, (m.1 69)), (70, (m.1 70)), (71, (m.1 71)), (72, (m.1 72)), (73, (m.1 73)), (74, (m.1 74)), (75, (m.1 75)), (99, (m.1 99) + 1), (100, (m306.1 100))] [(65, (m.2 65)), (66, (m.2 66)), (67, (m.2 67)), (68, (m.2 68)), (76, (m.2 76)), (77, (m.2 77)), (78, (m.2 78)), (79, (m.2 79)), (80, (m.2 80)), (81, (m.2 81)), (82, (m.2 82)), (83, (m.2 83)), (84, (m.2 84)), (85, (m.2 85)), (86, (m.2 86)), (87, (m.2 87)), (88, (m.2 88)), (89, (m.2 89)), (90, (m.2 90)), (91, (m.2 91)), (92, (m.2 92)), (101, (m306.2 101)), (102, (m306.2 102)), (103, (m.2 103)), (104, (m.2 104)), (105, (m.2 105)), (106, (m.2 106)), (107, (m.2 107)), (108, (m.2 108))]) c N D (by omega) (Ty_mO hT rfl rfl ⟨(q309.1 7), (q309.1 8), (q309.1 9), (q309.1 10), (q309.1 11), (q309.1 12), f28, f69, f70, f71, f72, f73, f74, f75, ⟨(by omega : (0 : Int) ≤ (m.1 99) + 1), (by omega : ((m.1 99) + 1 : Int) ≤ 240)⟩, (q309.1 100), trivial⟩ ⟨(hT.2.1 65), (hT.2.1 66), (hT.2.1 67), (hT.2.1 68), (hT.2.1 76), (hT.2.1 77), (hT.2.1 78), (hT.2.1 79), (hT.2.1 80), (hT.2.1 81), (hT.2.1 82), (hT.2.1 83), (hT.2.1 84), (hT.2.1 85), (hT.2.1 86), (hT.2.1 87), (hT.2.1 88), (hT.2.1 89), (hT.2.1 90), (hT.2.1 91), (hT.2.1 92), (q309.2.1 101), (q309.2.1 102), (hT.2.1 103), (hT.2.1 104), (hT.2.1 105), (hT.2.1 106), (hT.2.1 107), (hT.2.1 108), trivial⟩) (m.1 99) v305 (r32 (by omega) (by omega)) (r32 (by omega) (by omega)) (show LxP (m306.1 7) (m306.1 8) (m306.1 9) (m.1 6) (m306.1 10) by first | exact hLx | exact (fun _ => hLx (by omega)) | (intro h9; exfalso; omega)) (show ∀ k, (m.2 14) k + (m.2 15) k ≤ 4000 by assumption) (show ∀ k, (m.2 31) k + (m.2 32) k ≤ 4000 by assumption) (show ∀ k, (m.2 47) k + (m.2 48) k ≤ 4000 by assumption) (show 0 ≤ (m.1 99) ∧ (m.1 99) ≤ 239 by omega) (fun (h : (m306.1 10) = 0) => absurd h (by omega))) (fun rr317 k318 => ?_)
    obtain ⟨m319, hT320, h321, h322, c323, rfl⟩ := k318
    refine ⟨_, _, rfl, ?_⟩
    refine T_nf2 (st' := []) (l' := [(7, (m319.1 7)), (8, (m319.1 8)), (9, (m319.1 9)), (10, (m319.1 10)), (11, (m319.1 11)), (12, (m319.1 12)), (28, (m319.1 28)), (69, (m319.1 69)), (70, (m319.1 70)), (71, (m319.1 71)), (72, (m319.1 72)), (73, (m319.1 73)), (74, (m319.1 74)), (75, (m319.1 75)), (99, (m.1 99) + 1), (100, (m306.1 100))]) (a' := [(65, (m319.2 65)), (66, (m319.2 66)), (67, (m319.2 67)), (68, (m319.2 68)), (76, (m319.2 76)), (77, (m319.2 77)), (78, (m319.2 78)), (79, (m319.2 79)), (80, (m319.2 80)), (81, (m319.2 81)), (82, (m319.2 82)), (83, (m319.2 83)), (84, (m319.2 84)), (85, (m319.2 85)), (86, (m319.2 86)), (87, (m319.2 87)), (88, (m319.2 88)), (89, (m319.2 89)), (90, (m319.2 90)), (91, (m319.2 91)), (92, (m319.2 92)), (101, (m306.2 101)), (102, (m306.2 102)), (103, (m.2 103)), (104, (m.2 104)), (105, (m.2 105)), (106, (m.2 106)), (107, (m319.2 107)), (108, (m319.2 108))]) [7, 8, 9, 10, 11, 12, 28, 69, 70, 71, 72, 73, 74, 75] [65, 66, 67, 68, 76, 77, 78, 79, 80, 81, 82, 83, 84, 85, 86, 87, 88, 89, 90, 91, 92, 107, 108] rfl ⟨rfl, rfl, rfl, rfl, rfl, rfl, rfl, rfl, rfl, rfl, rfl, rfl, rfl, rfl, rfl, rfl, rfl, rfl, rfl, rfl, rfl, rfl, rfl, rfl, rfl, rfl, rfl, rfl, rfl, rfl, rfl, rfl, trivial⟩ ⟨rfl, rfl, rfl, rfl, rfl, rfl, rfl, rfl, rfl, rfl, rfl, rfl, rfl, rfl, rfl, rfl, rfl, rfl, rfl, rfl, rfl, rfl, rfl, rfl, rfl, rfl, rfl, rfl, rfl, rfl, rfl, rfl, rfl, rfl, rfl, rfl, rfl, rfl, rfl, rfl, rfl, rfl, rfl, rfl, rfl, rfl, rfl, rfl, rfl, rfl, rfl, rfl, rfl, rfl, rfl, rfl, rfl, rfl, rfl, rfl, rfl, rfl, rfl, rfl, trivial⟩ rfl rfl (by decide) (by decide) ?_
    have g324 : 0 ≤ m319.1 7 ∧ m319.1 7 ≤ 330 := hT320.1 7
    have g325 : 0 ≤ m319.1 8 ∧ m319.1 8 ≤ 4000 := hT320.1 8
    have g326 : 0 ≤ m319.1 9 ∧ m319.1 9 ≤ 4000 := hT320.1 9
    have g327 : 0 ≤ m319.1 10 ∧ m319.1 10 ≤ 8 := hT320.1 10
    have g328 : (-1) ≤ m319.1 11 ∧ m319.1 11 ≤ 4000 := hT320.1 11
    have g329 : (-9223372036854775808) ≤ m319.1 12 ∧ m319.1 12 ≤ 9223372036854775807 := hT320.1 12
    have g330 : 0 ≤ m319.1 28 ∧ m319.1 28 ≤ 800 := hT320.1 28
    have g331 : 0 ≤ m319.1 69 ∧ m319.1 69 ≤ 1024 := hT320.1 69
    have g332 : 0 ≤ m319.1 70 ∧ m319.1 70 ≤ 4000 := hT320.1 70
    have g333 : 0 ≤ m319.1 71 ∧ m319.1 71 ≤ 1 := hT320.1 71
    have g334 : (-9223372036854775808) ≤ m319.1 72 ∧ m319.1 72 ≤ 9223372036854775807 := hT320.1 72
    have g335 : 0 ≤ m319.1 73 ∧ m319.1 73 ≤ 60 := hT320.1 73
    have g336 : 0 ≤ m319.1 74 ∧ m319.1 74 ≤ 24 := hT320.1 74
    have g337 : 0 ≤ m319.1 75 ∧ m319.1 75 ≤ 3 := hT320.1 75
    replace h321 : (m319.1 10) = 0 → (m306.1 10) = 0 := h321
    replace h322 : LxP (m319.1 7) (m319.1 8) (m319.1 9) (m.1 6) (m319.1 10) := h322
    have hf338 : 1 ≤ (m319.1 10) := by omega
    clear c323
    clear h321
    have hLx := h322
    clear q309_7 q309_8 q309_9 q309_10 q309_11 q309_12 ic312 ic313
    exact J60_276 v305 (mO m [(7, (m319.1 7)), (8, (m319.1 8)), (9, (m319.1 9)), (10, (m319.1 10)), (11, (m319.1 11)), (12, (m319.1 12)), (28, (m319.1 28)), (69, (m319.1 69)), (70, (m319.1 70)), (71, (m319.1 71)), (72, (m319.1 72)), (73, (m319.1 73)), (74, (m319.1 74)), (75, (m319.1 75)), (99, (m.1 99) + 1), (100, (m306.1 100))] [(65, (m319.2 65)), (66, (m319.2 66)), (67, (m319.2 67)), (68, (m319.2 68)), (76, (m319.2 76)), (77, (m319.2 77)), (78, (m319.2 78)), (79, (m319.2 79)), (80, (m319.2 80)), (81, (m319.2 81)), (82, (m319.2 82)), (83, (m319.2 83)), (84, (m319.2 84)), (85, (m319.2 85)), (86, (m319.2 86)), (87, (m319.2 87)), (88, (m319.2 88)), (89, (m319.2 89)), (90, (m319.2 90)), (91, (m319.2 91)), (92, (m319.2 92)), (101, (m306.2 101)), (102, (m306.2 102)), (103, (m.2 103)), (104, (m.2 104)), (105, (m.2 105)), (106, (m.2 106)), (107, (m319.2 107)), (108, (m319.2 108))]) (r32 (by omega) (by omega)) (Ty_mO hT rfl rfl ⟨(hT320.1 7), (hT320.1 8), (hT320.1 9), (hT320.1 10), (hT320.1 11), (hT320.1 12), (hT320.1 28), (hT320.1 69), (hT320.1 70), (hT320.1 71), (hT320.1 72), (hT320.1 73), (hT320.1 74), (hT320.1 75), ⟨(by omega : (0 : Int) ≤ (m.1 99) + 1), (by omega : ((m.1 99) + 1 : Int) ≤ 240)⟩, (q309.1 100), trivial⟩ ⟨(hT320.2.1 65), (hT320.2.1 66), (hT320.2.1 67), (hT320.2.1 68), (hT320.2.1 76), (hT320.2.1 77), (hT320.2.1 78), (hT320.2.1 79), (hT320.2.1 80), (hT320.2.1 81), (hT320.2.1 82), (hT320.2.1 83), (hT320.2.1 84), (hT320.2.1 85), (hT320.2.1 86), (hT320.2.1 87), (hT320.2.1 88), (hT320.2.1 89), (hT320.2.1 90), (hT320.2.1 91), (hT320.2.1 92), (q309.2.1 101), (q309.2.1 102), (hT.2.1 103), (hT.2.1 104), (hT.2.1 105), (hT.2.1 106), (hT320.2.1 107), (hT320.2.1 108), trivial⟩) (show 0 ≤ v305 by omega) (show v305 ≤ 64 by omega) (show 1 ≤ (m319.1 10) by omega) (show (m319.1 10) ≤ 8 by omega) (show 0 ≤ ((m.1 99) + 1) ∧ ((m.1 99) + 1) ≤ 240 by omega) (show 0 ≤ (m.1 99) ∧ (m.1 99) ≤ 240 by omega)
  refine T_gf 4 (.int (i32 (m.1 99))) rfl rfl rfl rfl rfl rfl ?_
  refine T_sto 5 [(1, .int (i32 (m.1 99))), (0, .ref 189)] rfl (fun _ => rfl) ?_
  refine T_ld 6 (.ref 189) rfl (fun _ => rfl) ?_
  refine T_ld 7 (.ref 189) rfl (fun _ => rfl) ?_
  refine T_gf1 10 (.int (i32 (m.1 99))) rfl rfl rfl rfl ?_
  refine T_ld 11 (.int (i32 1)) rfl (fun _ => rfl) ?_
  refine T_iadd 12 rfl rfl ?_
  refine T_pf (l' := [(7, (m.1 7)), (8, (m.1 8)), (9, (m.1 9)), (10, (m.1 10)), (11, (m.1 11)), (12, (m.1 12)), (28, (m.1 28)), (69, (m.1 69)), (70, (m.1 70)), (71, (m.1 71)), (72, (m.1 72)), (73, (m.1 73)), (74, (m.1 74)), (75, (m.1 75)), (99, (m.1 99) + 1), (100, (m.1 100))]) 15 ((m.1 99) + 1) rfl rfl rfl rfl rfl rfl ?_
  have g339 : 0 ≤ (m.1 99) + 1 ∧ (m.1 99) + 1 ≤ 240 := ⟨by omega, by omega⟩
  refine T_gf 19 (.ref 261) rfl rfl rfl rfl rfl rfl ?_
  refine T_ld 20 (.int (i32 (m.1 99))) rfl (fun _ => rfl) ?_
  refine T_gf 24 (.int (i32 (m.1 7))) rfl rfl rfl rfl rfl rfl ?_
  have G340 : ∀ j, 0 ≤ (upI (m.2 101) (m.1 99) (m.1 7)) j ∧ (upI (m.2 101) (m.1 99) (m.1 7)) j ≤ 330 := upI_rg (hT.2.1 101) ⟨by omega, by omega⟩
  refine T_iast (a' := [(65, (m.2 65)), (66, (m.2 66)), (67, (m.2 67)), (68, (m.2 68)), (76, (m.2 76)), (77, (m.2 77)), (78, (m.2 78)), (79, (m.2 79)), (80, (m.2 80)), (81, (m.2 81)), (82, (m.2 82)), (83, (m.2 83)), (84, (m.2 84)), (85, (m.2 85)), (86, (m.2 86)), (87, (m.2 87)), (88, (m.2 88)), (89, (m.2 89)), (90, (m.2 90)), (91, (m.2 91)), (92, (m.2 92)), (101, upI (m.2 101) (m.1 99) (m.1 7)), (102, (m.2 102)), (103, (m.2 103)), (104, (m.2 104)), (105, (m.2 105)), (106, (m.2 106)), (107, (m.2 107)), (108, (m.2 108))]) 25 101 (m.2 101) rfl rfl rfl (by omega) (show (m.1 99) < (240 : Int) by omega) rfl rfl ?_
  refine T_gf 29 (.int (i32 (m.1 7))) rfl rfl rfl rfl rfl rfl ?_
  refine T_ld 30 (.int (i32 1)) rfl (fun _ => rfl) ?_
  refine T_icmp 63 33 rfl rfl rfl (r32 (by omega) (by omega)) ⟨by decide, by decide⟩ (fun (h341 : (m.1 7) ≠ 1) => ?_) (fun (h341 : ¬ ((m.1 7) ≠ 1)) => ?_)
  · skip
    refine T_gf 67 (.int (i32 (m.1 7))) rfl rfl rfl rfl rfl rfl ?_
    refine T_ld 70 (.int (i32 327)) rfl (fun _ => rfl) ?_
    refine T_icmp 146 73 rfl rfl rfl (r32 (by omega) (by omega)) ⟨by decide, by decide⟩ (fun (h342 : (m.1 7) ≠ 327) => ?_) (fun (h342 : ¬ ((m.1 7) ≠ 327)) => ?_)
    · skip
      refine T_gf 150 (.int (i32 (m.1 7))) rfl rfl rfl rfl rfl rfl ?_
      refine T_ld 153 (.int (i32 328)) rfl (fun _ => rfl) ?_
      refine T_icmp 202 156 rfl rfl rfl (r32 (by omega) (by omega)) ⟨by decide, by decide⟩ (fun (h343 : (m.1 7) ≠ 328) => ?_) (fun (h343 : ¬ ((m.1 7) ≠ 328)) => ?_)
      · skip
        refine T_ld 203 (.ref 189) rfl (fun _ => rfl) ?_
        refine T_call 206 212 [.ref 189] [] rfl (fun _ => rfl) rfl (c_next w (mO m [(7, (m.1 7)), (8, (m.1 8)), (9, (m.1 9)), (10, (m.1 10)), (11, (m.1 11)), (12, (m.1 12)), (28, (m.1 28)), (69, (m.1 69)), (70, (m.1 70)), (71, (m.1 71)), (72, (m.1 72)), (73, (m.1 73)), (74, (m.1 74)), (75, (m.1 75)), (99, (m.1 99) + 1), (100, (m.1 100))] [(65, (m.2 65)), (66, (m.2 66)), (67, (m.2 67)), (68, (m.2 68)), (76, (m.2 76)), (77, (m.2 77)), (78, (m.2 78)), (79, (m.2 79)), (80, (m.2 80)), (81, (m.2 81)), (82, (m.2 82)), (83, (m.2 83)), (84, (m.2 84)), (85, (m.2 85)), (86, (m.2 86)), (87, (m.2 87)), (88, (m.2 88)), (89, (m.2 89)), (90, (m.2 90)), (91, (m.2 91)), (92, (m.2 92)), (101, upI (m.2 101) (m.1 99) (m.1 7)), (102, (m.2 102)), (103, (m.2 103)), (104, (m.2 104)), (105, (m.2 105)), (106, (m.2 106)), (107, (m.2 107)), (108, (m.2 108))]) c N D (by omega) (Ty_mO hT rfl rfl ⟨f7, f8, f9, f10, f11, f12, f28, f69, f70, f71, f72, f73, f74, f75, g339, f100, trivial⟩ ⟨(hT.2.1 65), (hT.2.1 66), (hT.2.1 67), (hT.2.1 68), (hT.2.1 76), (hT.2.1 77), (hT.2.1 78), (hT.2.1 79), (hT.2.1 80), (hT.2.1 81), (hT.2.1 82), (hT.2.1 83), (hT.2.1 84), (hT.2.1 85), (hT.2.1 86), (hT.2.1 87), (hT.2.1 88), (hT.2.1 89), (hT.2.1 90), (hT.2.1 91), (hT.2.1 92), G340, (hT.2.1 102), (hT.2.1 103), (hT.2.1 104), (hT.2.1 105), (hT.2.1 106), (hT.2.1 107), (hT.2.1 108), trivial⟩) (show (m.1 10) = 0 → (m.1 8) + (m.1 9) ≤ (m.1 6) by first | omega | (intro h9; have h8 := hLx h9; omega))) (fun rr344 k345 => ?_)
        obtain ⟨y346, y348, y350, y352, y354, y356, g347, g349, g351, g353, g355, g357, h358, h359, h360, h361, rfl⟩ := k345
        refine ⟨_, _, rfl, ?_⟩
        refine T_nf2 (st' := []) (l' := [(7, y346), (8, y348), (9, y350), (10, y352), (11, y354), (12, y356), (28, (m.1 28)), (69, (m.1 69)), (70, (m.1 70)), (71, (m.1 71)), (72, (m.1 72)), (73, (m.1 73)), (74, (m.1 74)), (75, (m.1 75)), (99, (m.1 99) + 1), (100, (m.1 100))]) (a' := [(65, (m.2 65)), (66, (m.2 66)), (67, (m.2 67)), (68, (m.2 68)), (76, (m.2 76)), (77, (m.2 77)), (78, (m.2 78)), (79, (m.2 79)), (80, (m.2 80)), (81, (m.2 81)), (82, (m.2 82)), (83, (m.2 83)), (84, (m.2 84)), (85, (m.2 85)), (86, (m.2 86)), (87, (m.2 87)), (88, (m.2 88)), (89, (m.2 89)), (90, (m.2 90)), (91, (m.2 91)), (92, (m.2 92)), (101, upI (m.2 101) (m.1 99) (m.1 7)), (102, (m.2 102)), (103, (m.2 103)), (104, (m.2 104)), (105, (m.2 105)), (106, (m.2 106)), (107, (m.2 107)), (108, (m.2 108))]) [7, 8, 9, 10, 11, 12] [] rfl ⟨rfl, rfl, rfl, rfl, rfl, rfl, rfl, rfl, rfl, rfl, rfl, rfl, rfl, rfl, rfl, rfl, rfl, rfl, rfl, rfl, rfl, rfl, rfl, rfl, rfl, rfl, rfl, rfl, rfl, rfl, rfl, rfl, trivial⟩ ⟨rfl, rfl, rfl, rfl, rfl, rfl, rfl, rfl, rfl, rfl, rfl, rfl, rfl, rfl, rfl, rfl, rfl, rfl, rfl, rfl, rfl, rfl, rfl, rfl, rfl, rfl, rfl, rfl, rfl, rfl, rfl, rfl, rfl, rfl, rfl, rfl, rfl, rfl, rfl, rfl, rfl, rfl, rfl, rfl, rfl, rfl, rfl, rfl, rfl, rfl, rfl, rfl, rfl, rfl, rfl, rfl, rfl, rfl, trivial⟩ rfl rfl (by decide) (by decide) ?_
        by_cases hf362 : y352 = 0
        · skip
          subst hf362
          replace h358 : LxP y346 y348 y350 (m.1 6) (0 : Int) := h358
          have hLx := h358
          replace h359 : (m.1 10) = 0 := h359 rfl
          replace h360 : (m.1 8) ≤ y348 := h360
          replace h361 : (m.1 8) + (m.1 9) ≤ y348 := h361 rfl
          have u363 : (m.1 8) + 1 ≤ y348 := by omega
          have hAgC : agr (m.2 65) (m.2 65) (m.1 28) := by first | exact agr_r _ _ | exact hAgC | exact agr_t hAgC hAg (by omega)
          have u364 : (m.1 28) ≤ (m.1 28) := by omega
          clear g353
          refine T_gf 210 (.ref 261) rfl rfl rfl rfl rfl rfl ?_
          refine T_ld 211 (.int (i32 (m.1 99))) rfl (fun _ => rfl) ?_
          refine T_iald 212 101 (upI (m.2 101) (m.1 99) (m.1 7)) rfl rfl rfl (by omega) (show (m.1 99) < (240 : Int) by omega) rfl ?_
          refine T_cast (m.1 7) upI_s ?_
          refine T_ld 215 (.int (i32 326)) rfl (fun _ => rfl) ?_
          refine T_icmp 229 218 rfl rfl rfl (r32 (by omega) (by omega)) ⟨by decide, by decide⟩ (fun (h365 : (m.1 7) = 326) => ?_) (fun (h365 : ¬ ((m.1 7) = 326)) => ?_)
          · skip
            have w1 : agr (m.2 101) (upI (m.2 101) (m.1 99) (m.1 7)) (m.1 99) := by first | exact agr_u (Int.le_refl _) | exact agr_r _ _
            have w2 : agr (m.2 103) (m.2 103) (m.1 99) := by first | exact agr_u (Int.le_refl _) | exact agr_r _ _
            have w3 : agr (m.2 105) (m.2 105) (m.1 99) := by first | exact hI1 | exact agr_u (Int.le_refl _) | exact agr_r _ _
            have w4 : agr (m.2 106) (m.2 106) (m.1 99) := by first | exact hI2 | exact agr_u (Int.le_refl _) | exact agr_r _ _
            have w5 : agr (m.2 107) (m.2 107) (m.1 99) := by first | exact hJ1 | exact agr_u (Int.le_refl _) | exact agr_r _ _
            have w6 : agr (m.2 108) (m.2 108) (m.1 99) := by first | exact hJ2 | exact agr_u (Int.le_refl _) | exact agr_r _ _
            have hR : TdR (m.2 65) (m.1 28) (m.1 22) (m.1 99) (upI (m.2 101) (m.1 99) (m.1 7)) (m.2 103) (m.2 105) (m.2 106) (m.2 107) (m.2 108) := by
              refine ⟨fun h => ?_, fun h => ?_⟩ <;> rw [upI_s] at h <;> first | exact hEc | exact ⟨hXc, by rw [upI_s]; omega⟩ | exact ⟨cdr_f hXc hAg (by omega), by rw [upI_s]; omega⟩ | omega
            have hTd2 : TdP (m.2 65) (m.1 28) (m.1 22) ((m.1 99) + 1) (upI (m.2 101) (m.1 99) (m.1 7)) (m.2 103) (m.2 105) (m.2 106) (m.2 107) (m.2 108) := TdP_add (TdP_f pTd hAgC (by omega) w1 w2 w3 w4 w5 w6) hR
            refine T_ld 230 (.ref 189) rfl (fun _ => rfl) ?_
            refine T_ld 232 (.int (i32 59)) rfl (fun _ => rfl) ?_
            refine T_call 235 232 [.ref 189, .int (i32 59)] [] rfl (fun _ => rfl) rfl (c_need w (mO m [(7, y346), (8, y348), (9, y350), (10, 0), (11, y354), (12, y356), (28, (m.1 28)), (69, (m.1 69)), (70, (m.1 70)), (71, (m.1 71)), (72, (m.1 72)), (73, (m.1 73)), (74, (m.1 74)), (75, (m.1 75)), (99, (m.1 99) + 1), (100, (m.1 100))] [(65, (m.2 65)), (66, (m.2 66)), (67, (m.2 67)), (68, (m.2 68)), (76, (m.2 76)), (77, (m.2 77)), (78, (m.2 78)), (79, (m.2 79)), (80, (m.2 80)), (81, (m.2 81)), (82, (m.2 82)), (83, (m.2 83)), (84, (m.2 84)), (85, (m.2 85)), (86, (m.2 86)), (87, (m.2 87)), (88, (m.2 88)), (89, (m.2 89)), (90, (m.2 90)), (91, (m.2 91)), (92, (m.2 92)), (101, upI (m.2 101) (m.1 99) (m.1 7)), (102, (m.2 102)), (103, (m.2 103)), (104, (m.2 104)), (105, (m.2 105)), (106, (m.2 106)), (107, (m.2 107)), (108, (m.2 108))]) c N D (by omega) (Ty_mO hT rfl rfl ⟨g347, g349, g351, ⟨(by omega : (0 : Int) ≤ 0), (by omega : (0 : Int) ≤ 8)⟩, g355, g357, f28, f69, f70, f71, f72, f73, f74, f75, g339, f100, trivial⟩ ⟨(hT.2.1 65), (hT.2.1 66), (hT.2.1 67), (hT.2.1 68), (hT.2.1 76), (hT.2.1 77), (hT.2.1 78), (hT.2.1 79), (hT.2.1 80), (hT.2.1 81), (hT.2.1 82), (hT.2.1 83), (hT.2.1 84), (hT.2.1 85), (hT.2.1 86), (hT.2.1 87), (hT.2.1 88), (hT.2.1 89), (hT.2.1 90), (hT.2.1 91), (hT.2.1 92), G340, (hT.2.1 102), (hT.2.1 103), (hT.2.1 104), (hT.2.1 105), (hT.2.1 106), (hT.2.1 107), (hT.2.1 108), trivial⟩) 59 ⟨by decide, by decide⟩ (show 1 ≤ (59 : Int) by omega) (show LxP y346 y348 y350 (m.1 6) (0 : Int) by first | exact hLx | (intro h9; exfalso; omega) | (intro h9; have h8 := hLx (by omega); omega))) (fun rr366 k367 => ?_)
            obtain ⟨y368, y370, y372, y374, y376, y378, g369, g371, g373, g375, g377, g379, h380, h381, h382, h383, rfl⟩ := k367
            refine ⟨_, _, rfl, ?_⟩
            refine T_nf2 (st' := []) (l' := [(7, y368), (8, y370), (9, y372), (10, y374), (11, y376), (12, y378), (28, (m.1 28)), (69, (m.1 69)), (70, (m.1 70)), (71, (m.1 71)), (72, (m.1 72)), (73, (m.1 73)), (74, (m.1 74)), (75, (m.1 75)), (99, (m.1 99) + 1), (100, (m.1 100))]) (a' := [(65, (m.2 65)), (66, (m.2 66)), (67, (m.2 67)), (68, (m.2 68)), (76, (m.2 76)), (77, (m.2 77)), (78, (m.2 78)), (79, (m.2 79)), (80, (m.2 80)), (81, (m.2 81)), (82, (m.2 82)), (83, (m.2 83)), (84, (m.2 84)), (85, (m.2 85)), (86, (m.2 86)), (87, (m.2 87)), (88, (m.2 88)), (89, (m.2 89)), (90, (m.2 90)), (91, (m.2 91)), (92, (m.2 92)), (101, upI (m.2 101) (m.1 99) (m.1 7)), (102, (m.2 102)), (103, (m.2 103)), (104, (m.2 104)), (105, (m.2 105)), (106, (m.2 106)), (107, (m.2 107)), (108, (m.2 108))]) [7, 8, 9, 10, 11, 12] [] rfl ⟨rfl, rfl, rfl, rfl, rfl, rfl, rfl, rfl, rfl, rfl, rfl, rfl, rfl, rfl, rfl, rfl, rfl, rfl, rfl, rfl, rfl, rfl, rfl, rfl, rfl, rfl, rfl, rfl, rfl, rfl, rfl, rfl, trivial⟩ ⟨rfl, rfl, rfl, rfl, rfl, rfl, rfl, rfl, rfl, rfl, rfl, rfl, rfl, rfl, rfl, rfl, rfl, rfl, rfl, rfl, rfl, rfl, rfl, rfl, rfl, rfl, rfl, rfl, rfl, rfl, rfl, rfl, rfl, rfl, rfl, rfl, rfl, rfl, rfl, rfl, rfl, rfl, rfl, rfl, rfl, rfl, rfl, rfl, rfl, rfl, rfl, rfl, rfl, rfl, rfl, rfl, rfl, rfl, trivial⟩ rfl rfl (by decide) (by decide) ?_
            by_cases hf384 : y374 = 0
            · skip
              subst hf384
              replace h380 : LxP y368 y370 y372 (m.1 6) (0 : Int) := h380
              have hLx := h380
              replace h381 : (0 : Int) = 0 ∧ y346 = (59 : Int) := h381 rfl
              replace h382 : y348 ≤ y370 := h382
              replace h383 : y348 + y350 ≤ y370 := h383 rfl
              have u385 : (m.1 8) + 1 ≤ y370 := by omega
              have hAgC : agr (m.2 65) (m.2 65) (m.1 28) := by first | exact agr_r _ _ | exact hAgC | exact agr_t hAgC hAg (by omega)
              have u386 : (m.1 28) ≤ (m.1 28) := by omega
              clear g347 g349 g351 g355 g357 h358 h360 h361 u363 g375 h381 h382 h383
              refine T_ret rfl (fun _ => rfl) ?_
              exact ⟨(mO m [(7, y368), (8, y370), (9, y372), (10, 0), (11, y376), (12, y378), (28, (m.1 28)), (69, (m.1 69)), (70, (m.1 70)), (71, (m.1 71)), (72, (m.1 72)), (73, (m.1 73)), (74, (m.1 74)), (75, (m.1 75)), (99, (m.1 99) + 1), (100, (m.1 100))] [(65, (m.2 65)), (66, (m.2 66)), (67, (m.2 67)), (68, (m.2 68)), (76, (m.2 76)), (77, (m.2 77)), (78, (m.2 78)), (79, (m.2 79)), (80, (m.2 80)), (81, (m.2 81)), (82, (m.2 82)), (83, (m.2 83)), (84, (m.2 84)), (85, (m.2 85)), (86, (m.2 86)), (87, (m.2 87)), (88, (m.2 88)), (89, (m.2 89)), (90, (m.2 90)), (91, (m.2 91)), (92, (m.2 92)), (101, upI (m.2 101) (m.1 99) (m.1 7)), (102, (m.2 102)), (103, (m.2 103)), (104, (m.2 104)), (105, (m.2 105)), (106, (m.2 106)), (107, (m.2 107)), (108, (m.2 108))]), (Ty_mO hT rfl rfl ⟨g369, g371, g373, ⟨(by omega : (0 : Int) ≤ 0), (by omega : (0 : Int) ≤ 8)⟩, g377, g379, f28, f69, f70, f71, f72, f73, f74, f75, g339, f100, trivial⟩ ⟨(hT.2.1 65), (hT.2.1 66), (hT.2.1 67), (hT.2.1 68), (hT.2.1 76), (hT.2.1 77), (hT.2.1 78), (hT.2.1 79), (hT.2.1 80), (hT.2.1 81), (hT.2.1 82), (hT.2.1 83), (hT.2.1 84), (hT.2.1 85), (hT.2.1 86), (hT.2.1 87), (hT.2.1 88), (hT.2.1 89), (hT.2.1 90), (hT.2.1 91), (hT.2.1 92), G340, (hT.2.1 102), (hT.2.1 103), (hT.2.1 104), (hT.2.1 105), (hT.2.1 106), (hT.2.1 107), (hT.2.1 108), trivial⟩), (show (0 : Int) = 0 → (m.1 10) = 0 by omega), (show LxP y368 y370 y372 (m.1 6) (0 : Int) by first | (first | exact hLx | exact (fun _ => hLx (by omega)) | (intro h9; exfalso; omega)) | (exfalso; omega)), (show ((m.1 99) + 1) = (m.1 99) + 1 by omega), (fun _ => ⟨(show (m.1 8) + 1 ≤ y370 by omega), (show (m.1 28) ≤ (m.1 28) by omega), (show CN (m.2 65) (m.2 67) (m.1 28) by first | (exact hCN) | (exfalso; omega)), (show agr (m.2 65) (m.2 65) (m.1 28) by first | (exact hAgC) | (exfalso; omega)), (show TdP (m.2 65) (m.1 28) (m.1 22) ((m.1 99) + 1) (upI (m.2 101) (m.1 99) (m.1 7)) (m.2 103) (m.2 105) (m.2 106) (m.2 107) (m.2 108) by first | (exact hTd2) | (exfalso; omega))⟩), rfl⟩
            · skip
              replace h380 : LxP y368 y370 y372 (m.1 6) y374 := h380
              have hLx := h380
              clear h381
              replace h382 : y348 ≤ y370 := h382
              clear h383
              have hf387 : 1 ≤ y374 := by omega
              clear g347 g349 g351 g355 g357 h358 h360 h361 u363 h382
              refine Tm_lv (a := [(0, .ref 189), (1, .int (i32 (m.1 99)))]) rfl rfl ⟨rfl, rfl, trivial⟩ ?_
              exact J235_28 (mO m [(7, y368), (8, y370), (9, y372), (10, y374), (11, y376), (12, y378), (28, (m.1 28)), (69, (m.1 69)), (70, (m.1 70)), (71, (m.1 71)), (72, (m.1 72)), (73, (m.1 73)), (74, (m.1 74)), (75, (m.1 75)), (99, (m.1 99) + 1), (100, (m.1 100))] [(65, (m.2 65)), (66, (m.2 66)), (67, (m.2 67)), (68, (m.2 68)), (76, (m.2 76)), (77, (m.2 77)), (78, (m.2 78)), (79, (m.2 79)), (80, (m.2 80)), (81, (m.2 81)), (82, (m.2 82)), (83, (m.2 83)), (84, (m.2 84)), (85, (m.2 85)), (86, (m.2 86)), (87, (m.2 87)), (88, (m.2 88)), (89, (m.2 89)), (90, (m.2 90)), (91, (m.2 91)), (92, (m.2 92)), (101, upI (m.2 101) (m.1 99) (m.1 7)), (102, (m.2 102)), (103, (m.2 103)), (104, (m.2 104)), (105, (m.2 105)), (106, (m.2 106)), (107, (m.2 107)), (108, (m.2 108))]) (Ty_mO hT rfl rfl ⟨g369, g371, g373, g375, g377, g379, f28, f69, f70, f71, f72, f73, f74, f75, g339, f100, trivial⟩ ⟨(hT.2.1 65), (hT.2.1 66), (hT.2.1 67), (hT.2.1 68), (hT.2.1 76), (hT.2.1 77), (hT.2.1 78), (hT.2.1 79), (hT.2.1 80), (hT.2.1 81), (hT.2.1 82), (hT.2.1 83), (hT.2.1 84), (hT.2.1 85), (hT.2.1 86), (hT.2.1 87), (hT.2.1 88), (hT.2.1 89), (hT.2.1 90), (hT.2.1 91), (hT.2.1 92), G340, (hT.2.1 102), (hT.2.1 103), (hT.2.1 104), (hT.2.1 105), (hT.2.1 106), (hT.2.1 107), (hT.2.1 108), trivial⟩) (show 1 ≤ y374 by omega) (show y374 ≤ 8 by omega) (show 0 ≤ ((m.1 99) + 1) ∧ ((m.1 99) + 1) ≤ 240 by omega) (show 0 ≤ (m.1 99) ∧ (m.1 99) ≤ 240 by omega)
          · skip
            refine T_gf 222 (.ref 264) rfl rfl rfl rfl rfl rfl ?_
            refine T_ld 223 (.int (i32 (m.1 99))) rfl (fun _ => rfl) ?_
            refine T_ld 224 (.ref 189) rfl (fun _ => rfl) ?_
            refine T_ld 225 (.int (i32 2)) rfl (fun _ => rfl) ?_
            have hOL : (0 : Int) = 0 → ∀ k, 0 ≤ k → k < (m.1 13) → (m.2 16) k = 2 → 0 ≤ (m.2 17) k ∧ (m.2 17) k < 12 := fun _ k h1 h2 h3 => by
              have h4 := PNl_2 pPN k h1 h2 h3
              omega
            refine T_call 228 236 [.ref 189, .int (i32 2)] [.int (i32 (m.1 99)), .ref 264] rfl (fun _ => rfl) rfl (c_oldName w (mO m [(7, y346), (8, y348), (9, y350), (10, 0), (11, y354), (12, y356), (28, (m.1 28)), (69, (m.1 69)), (70, (m.1 70)), (71, (m.1 71)), (72, (m.1 72)), (73, (m.1 73)), (74, (m.1 74)), (75, (m.1 75)), (99, (m.1 99) + 1), (100, (m.1 100))] [(65, (m.2 65)), (66, (m.2 66)), (67, (m.2 67)), (68, (m.2 68)), (76, (m.2 76)), (77, (m.2 77)), (78, (m.2 78)), (79, (m.2 79)), (80, (m.2 80)), (81, (m.2 81)), (82, (m.2 82)), (83, (m.2 83)), (84, (m.2 84)), (85, (m.2 85)), (86, (m.2 86)), (87, (m.2 87)), (88, (m.2 88)), (89, (m.2 89)), (90, (m.2 90)), (91, (m.2 91)), (92, (m.2 92)), (101, upI (m.2 101) (m.1 99) (m.1 7)), (102, (m.2 102)), (103, (m.2 103)), (104, (m.2 104)), (105, (m.2 105)), (106, (m.2 106)), (107, (m.2 107)), (108, (m.2 108))]) c N D (by omega) (Ty_mO hT rfl rfl ⟨g347, g349, g351, ⟨(by omega : (0 : Int) ≤ 0), (by omega : (0 : Int) ≤ 8)⟩, g355, g357, f28, f69, f70, f71, f72, f73, f74, f75, g339, f100, trivial⟩ ⟨(hT.2.1 65), (hT.2.1 66), (hT.2.1 67), (hT.2.1 68), (hT.2.1 76), (hT.2.1 77), (hT.2.1 78), (hT.2.1 79), (hT.2.1 80), (hT.2.1 81), (hT.2.1 82), (hT.2.1 83), (hT.2.1 84), (hT.2.1 85), (hT.2.1 86), (hT.2.1 87), (hT.2.1 88), (hT.2.1 89), (hT.2.1 90), (hT.2.1 91), (hT.2.1 92), G340, (hT.2.1 102), (hT.2.1 103), (hT.2.1 104), (hT.2.1 105), (hT.2.1 106), (hT.2.1 107), (hT.2.1 108), trivial⟩) 2 12 ⟨by decide, by decide⟩ (show LxP y346 y348 y350 (m.1 6) (0 : Int) by first | exact hLx | (intro h9; exfalso; omega) | (intro h9; have h8 := hLx (by omega); omega)) (show ∀ k, (m.2 14) k + (m.2 15) k ≤ 4000 by first | exact p1 | exact hNM) (show 1 ≤ (2 : Int) ∧ (2 : Int) ≤ 7 ∧ (2 : Int) ≠ 5 by omega) (show 12 ≤ 16 by omega) (show (0 : Int) = 0 → ∀ k, 0 ≤ k → k < (m.1 13) → (m.2 16) k = (2 : Int) → 0 ≤ (m.2 17) k ∧ (m.2 17) k < 12 by first | exact hOL | (intro h; exfalso; omega)) (show (2 : Int) = 3 → 3 ≤ 12 by omega)) (fun rr388 k389 => ?_)
            obtain ⟨y390, y392, y394, y396, y398, y400, oo, g391, g393, g395, g397, g399, g401, g402, h403, h404, h405, h406, h407, h408, rfl⟩ := k389
            refine ⟨_, _, rfl, ?_⟩
            refine T_nf2 (st' := [.int (i32 oo), .int (i32 (m.1 99)), .ref 264]) (l' := [(7, y390), (8, y392), (9, y394), (10, y396), (11, y398), (12, y400), (28, (m.1 28)), (69, (m.1 69)), (70, (m.1 70)), (71, (m.1 71)), (72, (m.1 72)), (73, (m.1 73)), (74, (m.1 74)), (75, (m.1 75)), (99, (m.1 99) + 1), (100, (m.1 100))]) (a' := [(65, (m.2 65)), (66, (m.2 66)), (67, (m.2 67)), (68, (m.2 68)), (76, (m.2 76)), (77, (m.2 77)), (78, (m.2 78)), (79, (m.2 79)), (80, (m.2 80)), (81, (m.2 81)), (82, (m.2 82)), (83, (m.2 83)), (84, (m.2 84)), (85, (m.2 85)), (86, (m.2 86)), (87, (m.2 87)), (88, (m.2 88)), (89, (m.2 89)), (90, (m.2 90)), (91, (m.2 91)), (92, (m.2 92)), (101, upI (m.2 101) (m.1 99) (m.1 7)), (102, (m.2 102)), (103, (m.2 103)), (104, (m.2 104)), (105, (m.2 105)), (106, (m.2 106)), (107, (m.2 107)), (108, (m.2 108))]) [7, 8, 9, 10, 11, 12] [] rfl ⟨rfl, rfl, rfl, rfl, rfl, rfl, rfl, rfl, rfl, rfl, rfl, rfl, rfl, rfl, rfl, rfl, rfl, rfl, rfl, rfl, rfl, rfl, rfl, rfl, rfl, rfl, rfl, rfl, rfl, rfl, rfl, rfl, trivial⟩ ⟨rfl, rfl, rfl, rfl, rfl, rfl, rfl, rfl, rfl, rfl, rfl, rfl, rfl, rfl, rfl, rfl, rfl, rfl, rfl, rfl, rfl, rfl, rfl, rfl, rfl, rfl, rfl, rfl, rfl, rfl, rfl, rfl, rfl, rfl, rfl, rfl, rfl, rfl, rfl, rfl, rfl, rfl, rfl, rfl, rfl, rfl, rfl, rfl, rfl, rfl, rfl, rfl, rfl, rfl, rfl, rfl, rfl, rfl, trivial⟩ rfl rfl (by decide) (by decide) ?_
            obtain ⟨g402a, g402b⟩ := g402
            by_cases hf409 : y396 = 0
            · skip
              subst hf409
              replace h403 : LxP y390 y392 y394 (m.1 6) (0 : Int) := h403
              have hLx := h403
              replace h404 : y348 ≤ y392 := h404
              replace h405 : (0 : Int) = 0 ∧ y348 + y350 ≤ y392 := h405 rfl
              replace h406 : y346 = 1 := h406 rfl
              replace h407 : 0 ≤ oo ∧ (oo < 12 ∨ oo = 0) := h407
              replace h408 : oo < 12 := h408 rfl
              have u410 : (m.1 8) + 1 ≤ y392 := by omega
              have hAgC : agr (m.2 65) (m.2 65) (m.1 28) := by first | exact agr_r _ _ | exact hAgC | exact agr_t hAgC hAg (by omega)
              have u411 : (m.1 28) ≤ (m.1 28) := by omega
              clear g347 g349 g351 g355 g357 h358 h360 h361 u363 g397 h404 h405 h406
              have G412 : ∀ j, 0 ≤ (upI (m.2 104) (m.1 99) oo) j ∧ (upI (m.2 104) (m.1 99) oo) j ≤ 11 := upI_rg (hT.2.1 104) ⟨by omega, by omega⟩
              refine T_iast (a' := [(65, (m.2 65)), (66, (m.2 66)), (67, (m.2 67)), (68, (m.2 68)), (76, (m.2 76)), (77, (m.2 77)), (78, (m.2 78)), (79, (m.2 79)), (80, (m.2 80)), (81, (m.2 81)), (82, (m.2 82)), (83, (m.2 83)), (84, (m.2 84)), (85, (m.2 85)), (86, (m.2 86)), (87, (m.2 87)), (88, (m.2 88)), (89, (m.2 89)), (90, (m.2 90)), (91, (m.2 91)), (92, (m.2 92)), (101, upI (m.2 101) (m.1 99) (m.1 7)), (102, (m.2 102)), (103, (m.2 103)), (104, upI (m.2 104) (m.1 99) oo), (105, (m.2 105)), (106, (m.2 106)), (107, (m.2 107)), (108, (m.2 108))]) 229 104 (m.2 104) rfl rfl rfl (by omega) (show (m.1 99) < (240 : Int) by omega) rfl rfl ?_
              have w1 : agr (m.2 101) (upI (m.2 101) (m.1 99) (m.1 7)) (m.1 99) := by first | exact agr_u (Int.le_refl _) | exact agr_r _ _
              have w2 : agr (m.2 103) (m.2 103) (m.1 99) := by first | exact agr_u (Int.le_refl _) | exact agr_r _ _
              have w3 : agr (m.2 105) (m.2 105) (m.1 99) := by first | exact hI1 | exact agr_u (Int.le_refl _) | exact agr_r _ _
              have w4 : agr (m.2 106) (m.2 106) (m.1 99) := by first | exact hI2 | exact agr_u (Int.le_refl _) | exact agr_r _ _
              have w5 : agr (m.2 107) (m.2 107) (m.1 99) := by first | exact hJ1 | exact agr_u (Int.le_refl _) | exact agr_r _ _
              have w6 : agr (m.2 108) (m.2 108) (m.1 99) := by first | exact hJ2 | exact agr_u (Int.le_refl _) | exact agr_r _ _
              have hR : TdR (m.2 65) (m.1 28) (m.1 22) (m.1 99) (upI (m.2 101) (m.1 99) (m.1 7)) (m.2 103) (m.2 105) (m.2 106) (m.2 107) (m.2 108) := by
                refine ⟨fun h => ?_, fun h => ?_⟩ <;> rw [upI_s] at h <;> first | exact hEc | exact ⟨hXc, by rw [upI_s]; omega⟩ | exact ⟨cdr_f hXc hAg (by omega), by rw [upI_s]; omega⟩ | omega
              have hTd2 : TdP (m.2 65) (m.1 28) (m.1 22) ((m.1 99) + 1) (upI (m.2 101) (m.1 99) (m.1 7)) (m.2 103) (m.2 105) (m.2 106) (m.2 107) (m.2 108) := TdP_add (TdP_f pTd hAgC (by omega) w1 w2 w3 w4 w5 w6) hR
              refine T_ld 230 (.ref 189) rfl (fun _ => rfl) ?_
              refine T_ld 232 (.int (i32 59)) rfl (fun _ => rfl) ?_
              refine T_call 235 232 [.ref 189, .int (i32 59)] [] rfl (fun _ => rfl) rfl (c_need w (mO m [(7, y390), (8, y392), (9, y394), (10, 0), (11, y398), (12, y400), (28, (m.1 28)), (69, (m.1 69)), (70, (m.1 70)), (71, (m.1 71)), (72, (m.1 72)), (73, (m.1 73)), (74, (m.1 74)), (75, (m.1 75)), (99, (m.1 99) + 1), (100, (m.1 100))] [(65, (m.2 65)), (66, (m.2 66)), (67, (m.2 67)), (68, (m.2 68)), (76, (m.2 76)), (77, (m.2 77)), (78, (m.2 78)), (79, (m.2 79)), (80, (m.2 80)), (81, (m.2 81)), (82, (m.2 82)), (83, (m.2 83)), (84, (m.2 84)), (85, (m.2 85)), (86, (m.2 86)), (87, (m.2 87)), (88, (m.2 88)), (89, (m.2 89)), (90, (m.2 90)), (91, (m.2 91)), (92, (m.2 92)), (101, upI (m.2 101) (m.1 99) (m.1 7)), (102, (m.2 102)), (103, (m.2 103)), (104, upI (m.2 104) (m.1 99) oo), (105, (m.2 105)), (106, (m.2 106)), (107, (m.2 107)), (108, (m.2 108))]) c N D (by omega) (Ty_mO hT rfl rfl ⟨g391, g393, g395, ⟨(by omega : (0 : Int) ≤ 0), (by omega : (0 : Int) ≤ 8)⟩, g399, g401, f28, f69, f70, f71, f72, f73, f74, f75, g339, f100, trivial⟩ ⟨(hT.2.1 65), (hT.2.1 66), (hT.2.1 67), (hT.2.1 68), (hT.2.1 76), (hT.2.1 77), (hT.2.1 78), (hT.2.1 79), (hT.2.1 80), (hT.2.1 81), (hT.2.1 82), (hT.2.1 83), (hT.2.1 84), (hT.2.1 85), (hT.2.1 86), (hT.2.1 87), (hT.2.1 88), (hT.2.1 89), (hT.2.1 90), (hT.2.1 91), (hT.2.1 92), G340, (hT.2.1 102), (hT.2.1 103), G412, (hT.2.1 105), (hT.2.1 106), (hT.2.1 107), (hT.2.1 108), trivial⟩) 59 ⟨by decide, by decide⟩ (show 1 ≤ (59 : Int) by omega) (show LxP y390 y392 y394 (m.1 6) (0 : Int) by first | exact hLx | (intro h9; exfalso; omega) | (intro h9; have h8 := hLx (by omega); omega))) (fun rr413 k414 => ?_)
              obtain ⟨y415, y417, y419, y421, y423, y425, g416, g418, g420, g422, g424, g426, h427, h428, h429, h430, rfl⟩ := k414
              refine ⟨_, _, rfl, ?_⟩
              refine T_nf2 (st' := []) (l' := [(7, y415), (8, y417), (9, y419), (10, y421), (11, y423), (12, y425), (28, (m.1 28)), (69, (m.1 69)), (70, (m.1 70)), (71, (m.1 71)), (72, (m.1 72)), (73, (m.1 73)), (74, (m.1 74)), (75, (m.1 75)), (99, (m.1 99) + 1), (100, (m.1 100))]) (a' := [(65, (m.2 65)), (66, (m.2 66)), (67, (m.2 67)), (68, (m.2 68)), (76, (m.2 76)), (77, (m.2 77)), (78, (m.2 78)), (79, (m.2 79)), (80, (m.2 80)), (81, (m.2 81)), (82, (m.2 82)), (83, (m.2 83)), (84, (m.2 84)), (85, (m.2 85)), (86, (m.2 86)), (87, (m.2 87)), (88, (m.2 88)), (89, (m.2 89)), (90, (m.2 90)), (91, (m.2 91)), (92, (m.2 92)), (101, upI (m.2 101) (m.1 99) (m.1 7)), (102, (m.2 102)), (103, (m.2 103)), (104, upI (m.2 104) (m.1 99) oo), (105, (m.2 105)), (106, (m.2 106)), (107, (m.2 107)), (108, (m.2 108))]) [7, 8, 9, 10, 11, 12] [] rfl ⟨rfl, rfl, rfl, rfl, rfl, rfl, rfl, rfl, rfl, rfl, rfl, rfl, rfl, rfl, rfl, rfl, rfl, rfl, rfl, rfl, rfl, rfl, rfl, rfl, rfl, rfl, rfl, rfl, rfl, rfl, rfl, rfl, trivial⟩ ⟨rfl, rfl, rfl, rfl, rfl, rfl, rfl, rfl, rfl, rfl, rfl, rfl, rfl, rfl, rfl, rfl, rfl, rfl, rfl, rfl, rfl, rfl, rfl, rfl, rfl, rfl, rfl, rfl, rfl, rfl, rfl, rfl, rfl, rfl, rfl, rfl, rfl, rfl, rfl, rfl, rfl, rfl, rfl, rfl, rfl, rfl, rfl, rfl, rfl, rfl, rfl, rfl, rfl, rfl, rfl, rfl, rfl, rfl, trivial⟩ rfl rfl (by decide) (by decide) ?_
              by_cases hf431 : y421 = 0
              · skip
                subst hf431
                replace h427 : LxP y415 y417 y419 (m.1 6) (0 : Int) := h427
                have hLx := h427
                replace h428 : (0 : Int) = 0 ∧ y390 = (59 : Int) := h428 rfl
                replace h429 : y392 ≤ y417 := h429
                replace h430 : y392 + y394 ≤ y417 := h430 rfl
                have u432 : (m.1 8) + 1 ≤ y417 := by omega
                have hAgC : agr (m.2 65) (m.2 65) (m.1 28) := by first | exact agr_r _ _ | exact hAgC | exact agr_t hAgC hAg (by omega)
                have u433 : (m.1 28) ≤ (m.1 28) := by omega
                clear g391 g393 g395 g399 g401 h403 u410 g422 h428 h429 h430
                refine T_ret rfl (fun _ => rfl) ?_
                exact ⟨(mO m [(7, y415), (8, y417), (9, y419), (10, 0), (11, y423), (12, y425), (28, (m.1 28)), (69, (m.1 69)), (70, (m.1 70)), (71, (m.1 71)), (72, (m.1 72)), (73, (m.1 73)), (74, (m.1 74)), (75, (m.1 75)), (99, (m.1 99) + 1), (100, (m.1 100))] [(65, (m.2 65)), (66, (m.2 66)), (67, (m.2 67)), (68, (m.2 68)), (76, (m.2 76)), (77, (m.2 77)), (78, (m.2 78)), (79, (m.2 79)), (80, (m.2 80)), (81, (m.2 81)), (82, (m.2 82)), (83, (m.2 83)), (84, (m.2 84)), (85, (m.2 85)), (86, (m.2 86)), (87, (m.2 87)), (88, (m.2 88)), (89, (m.2 89)), (90, (m.2 90)), (91, (m.2 91)), (92, (m.2 92)), (101, upI (m.2 101) (m.1 99) (m.1 7)), (102, (m.2 102)), (103, (m.2 103)), (104, upI (m.2 104) (m.1 99) oo), (105, (m.2 105)), (106, (m.2 106)), (107, (m.2 107)), (108, (m.2 108))]), (Ty_mO hT rfl rfl ⟨g416, g418, g420, ⟨(by omega : (0 : Int) ≤ 0), (by omega : (0 : Int) ≤ 8)⟩, g424, g426, f28, f69, f70, f71, f72, f73, f74, f75, g339, f100, trivial⟩ ⟨(hT.2.1 65), (hT.2.1 66), (hT.2.1 67), (hT.2.1 68), (hT.2.1 76), (hT.2.1 77), (hT.2.1 78), (hT.2.1 79), (hT.2.1 80), (hT.2.1 81), (hT.2.1 82), (hT.2.1 83), (hT.2.1 84), (hT.2.1 85), (hT.2.1 86), (hT.2.1 87), (hT.2.1 88), (hT.2.1 89), (hT.2.1 90), (hT.2.1 91), (hT.2.1 92), G340, (hT.2.1 102), (hT.2.1 103), G412, (hT.2.1 105), (hT.2.1 106), (hT.2.1 107), (hT.2.1 108), trivial⟩), (show (0 : Int) = 0 → (m.1 10) = 0 by omega), (show LxP y415 y417 y419 (m.1 6) (0 : Int) by first | (first | exact hLx | exact (fun _ => hLx (by omega)) | (intro h9; exfalso; omega)) | (exfalso; omega)), (show ((m.1 99) + 1) = (m.1 99) + 1 by omega), (fun _ => ⟨(show (m.1 8) + 1 ≤ y417 by omega), (show (m.1 28) ≤ (m.1 28) by omega), (show CN (m.2 65) (m.2 67) (m.1 28) by first | (exact hCN) | (exfalso; omega)), (show agr (m.2 65) (m.2 65) (m.1 28) by first | (exact hAgC) | (exfalso; omega)), (show TdP (m.2 65) (m.1 28) (m.1 22) ((m.1 99) + 1) (upI (m.2 101) (m.1 99) (m.1 7)) (m.2 103) (m.2 105) (m.2 106) (m.2 107) (m.2 108) by first | (exact hTd2) | (exfalso; omega))⟩), rfl⟩
              · skip
                replace h427 : LxP y415 y417 y419 (m.1 6) y421 := h427
                have hLx := h427
                clear h428
                replace h429 : y392 ≤ y417 := h429
                clear h430
                have hf434 : 1 ≤ y421 := by omega
                clear g391 g393 g395 g399 g401 h403 u410 h429
                refine Tm_lv (a := [(0, .ref 189), (1, .int (i32 (m.1 99)))]) rfl rfl ⟨rfl, rfl, trivial⟩ ?_
                exact J235_28 (mO m [(7, y415), (8, y417), (9, y419), (10, y421), (11, y423), (12, y425), (28, (m.1 28)), (69, (m.1 69)), (70, (m.1 70)), (71, (m.1 71)), (72, (m.1 72)), (73, (m.1 73)), (74, (m.1 74)), (75, (m.1 75)), (99, (m.1 99) + 1), (100, (m.1 100))] [(65, (m.2 65)), (66, (m.2 66)), (67, (m.2 67)), (68, (m.2 68)), (76, (m.2 76)), (77, (m.2 77)), (78, (m.2 78)), (79, (m.2 79)), (80, (m.2 80)), (81, (m.2 81)), (82, (m.2 82)), (83, (m.2 83)), (84, (m.2 84)), (85, (m.2 85)), (86, (m.2 86)), (87, (m.2 87)), (88, (m.2 88)), (89, (m.2 89)), (90, (m.2 90)), (91, (m.2 91)), (92, (m.2 92)), (101, upI (m.2 101) (m.1 99) (m.1 7)), (102, (m.2 102)), (103, (m.2 103)), (104, upI (m.2 104) (m.1 99) oo), (105, (m.2 105)), (106, (m.2 106)), (107, (m.2 107)), (108, (m.2 108))]) (Ty_mO hT rfl rfl ⟨g416, g418, g420, g422, g424, g426, f28, f69, f70, f71, f72, f73, f74, f75, g339, f100, trivial⟩ ⟨(hT.2.1 65), (hT.2.1 66), (hT.2.1 67), (hT.2.1 68), (hT.2.1 76), (hT.2.1 77), (hT.2.1 78), (hT.2.1 79), (hT.2.1 80), (hT.2.1 81), (hT.2.1 82), (hT.2.1 83), (hT.2.1 84), (hT.2.1 85), (hT.2.1 86), (hT.2.1 87), (hT.2.1 88), (hT.2.1 89), (hT.2.1 90), (hT.2.1 91), (hT.2.1 92), G340, (hT.2.1 102), (hT.2.1 103), G412, (hT.2.1 105), (hT.2.1 106), (hT.2.1 107), (hT.2.1 108), trivial⟩) (show 1 ≤ y421 by omega) (show y421 ≤ 8 by omega) (show 0 ≤ ((m.1 99) + 1) ∧ ((m.1 99) + 1) ≤ 240 by omega) (show 0 ≤ (m.1 99) ∧ (m.1 99) ≤ 240 by omega)
            · skip
              replace h403 : LxP y390 y392 y394 (m.1 6) y396 := h403
              have hLx := h403
              replace h404 : y348 ≤ y392 := h404
              clear h405
              clear h406
              replace h407 : 0 ≤ oo ∧ (oo < 12 ∨ oo = 0) := h407
              clear h408
              have hf435 : 1 ≤ y396 := by omega
              clear g347 g349 g351 g355 g357 h358 h360 h361 u363 h404
              refine Tm_lv (a := [(0, .ref 189), (1, .int (i32 (m.1 99)))]) rfl rfl ⟨rfl, rfl, trivial⟩ ?_
              exact J228_37 oo (mO m [(7, y390), (8, y392), (9, y394), (10, y396), (11, y398), (12, y400), (28, (m.1 28)), (69, (m.1 69)), (70, (m.1 70)), (71, (m.1 71)), (72, (m.1 72)), (73, (m.1 73)), (74, (m.1 74)), (75, (m.1 75)), (99, (m.1 99) + 1), (100, (m.1 100))] [(65, (m.2 65)), (66, (m.2 66)), (67, (m.2 67)), (68, (m.2 68)), (76, (m.2 76)), (77, (m.2 77)), (78, (m.2 78)), (79, (m.2 79)), (80, (m.2 80)), (81, (m.2 81)), (82, (m.2 82)), (83, (m.2 83)), (84, (m.2 84)), (85, (m.2 85)), (86, (m.2 86)), (87, (m.2 87)), (88, (m.2 88)), (89, (m.2 89)), (90, (m.2 90)), (91, (m.2 91)), (92, (m.2 92)), (101, upI (m.2 101) (m.1 99) (m.1 7)), (102, (m.2 102)), (103, (m.2 103)), (104, (m.2 104)), (105, (m.2 105)), (106, (m.2 106)), (107, (m.2 107)), (108, (m.2 108))]) (r32 (by omega) (by omega)) (Ty_mO hT rfl rfl ⟨g391, g393, g395, g397, g399, g401, f28, f69, f70, f71, f72, f73, f74, f75, g339, f100, trivial⟩ ⟨(hT.2.1 65), (hT.2.1 66), (hT.2.1 67), (hT.2.1 68), (hT.2.1 76), (hT.2.1 77), (hT.2.1 78), (hT.2.1 79), (hT.2.1 80), (hT.2.1 81), (hT.2.1 82), (hT.2.1 83), (hT.2.1 84), (hT.2.1 85), (hT.2.1 86), (hT.2.1 87), (hT.2.1 88), (hT.2.1 89), (hT.2.1 90), (hT.2.1 91), (hT.2.1 92), G340, (hT.2.1 102), (hT.2.1 103), (hT.2.1 104), (hT.2.1 105), (hT.2.1 106), (hT.2.1 107), (hT.2.1 108), trivial⟩) (show 0 ≤ oo by omega) (show oo ≤ 11 by omega) (show 1 ≤ y396 by omega) (show y396 ≤ 8 by omega) (show 0 ≤ ((m.1 99) + 1) ∧ ((m.1 99) + 1) ≤ 240 by omega) (show 0 ≤ (m.1 99) ∧ (m.1 99) ≤ 240 by omega) (show 0 ≤ (m.1 99) ∧ (m.1 99) ≤ 240 by omega)
        · skip
          replace h358 : LxP y346 y348 y350 (m.1 6) y352 := h358
          have hLx := h358
          clear h359
          replace h360 : (m.1 8) ≤ y348 := h360
          clear h361
          have hf436 : 1 ≤ y352 := by omega
          refine T_gf 210 (.ref 261) rfl rfl rfl rfl rfl rfl ?_
          refine T_ld 211 (.int (i32 (m.1 99))) rfl (fun _ => rfl) ?_
          refine T_iald 212 101 (upI (m.2 101) (m.1 99) (m.1 7)) rfl rfl rfl (by omega) (show (m.1 99) < (240 : Int) by omega) rfl ?_
          refine T_cast (m.1 7) upI_s ?_
          refine T_ld 215 (.int (i32 326)) rfl (fun _ => rfl) ?_
          refine T_icmp 229 218 rfl rfl rfl (r32 (by omega) (by omega)) ⟨by decide, by decide⟩ (fun (h437 : (m.1 7) = 326) => ?_) (fun (h437 : ¬ ((m.1 7) = 326)) => ?_)
          · skip
            refine T_ld 230 (.ref 189) rfl (fun _ => rfl) ?_
            refine T_ld 232 (.int (i32 59)) rfl (fun _ => rfl) ?_
            refine T_call 235 232 [.ref 189, .int (i32 59)] [] rfl (fun _ => rfl) rfl (c_need w (mO m [(7, y346), (8, y348), (9, y350), (10, y352), (11, y354), (12, y356), (28, (m.1 28)), (69, (m.1 69)), (70, (m.1 70)), (71, (m.1 71)), (72, (m.1 72)), (73, (m.1 73)), (74, (m.1 74)), (75, (m.1 75)), (99, (m.1 99) + 1), (100, (m.1 100))] [(65, (m.2 65)), (66, (m.2 66)), (67, (m.2 67)), (68, (m.2 68)), (76, (m.2 76)), (77, (m.2 77)), (78, (m.2 78)), (79, (m.2 79)), (80, (m.2 80)), (81, (m.2 81)), (82, (m.2 82)), (83, (m.2 83)), (84, (m.2 84)), (85, (m.2 85)), (86, (m.2 86)), (87, (m.2 87)), (88, (m.2 88)), (89, (m.2 89)), (90, (m.2 90)), (91, (m.2 91)), (92, (m.2 92)), (101, upI (m.2 101) (m.1 99) (m.1 7)), (102, (m.2 102)), (103, (m.2 103)), (104, (m.2 104)), (105, (m.2 105)), (106, (m.2 106)), (107, (m.2 107)), (108, (m.2 108))]) c N D (by omega) (Ty_mO hT rfl rfl ⟨g347, g349, g351, g353, g355, g357, f28, f69, f70, f71, f72, f73, f74, f75, g339, f100, trivial⟩ ⟨(hT.2.1 65), (hT.2.1 66), (hT.2.1 67), (hT.2.1 68), (hT.2.1 76), (hT.2.1 77), (hT.2.1 78), (hT.2.1 79), (hT.2.1 80), (hT.2.1 81), (hT.2.1 82), (hT.2.1 83), (hT.2.1 84), (hT.2.1 85), (hT.2.1 86), (hT.2.1 87), (hT.2.1 88), (hT.2.1 89), (hT.2.1 90), (hT.2.1 91), (hT.2.1 92), G340, (hT.2.1 102), (hT.2.1 103), (hT.2.1 104), (hT.2.1 105), (hT.2.1 106), (hT.2.1 107), (hT.2.1 108), trivial⟩) 59 ⟨by decide, by decide⟩ (show 1 ≤ (59 : Int) by omega) (show LxP y346 y348 y350 (m.1 6) y352 by first | exact hLx | (intro h9; exfalso; omega) | (intro h9; have h8 := hLx (by omega); omega))) (fun rr438 k439 => ?_)
            obtain ⟨y440, y442, y444, y446, y448, y450, g441, g443, g445, g447, g449, g451, h452, h453, h454, h455, rfl⟩ := k439
            refine ⟨_, _, rfl, ?_⟩
            refine T_nf2 (st' := []) (l' := [(7, y440), (8, y442), (9, y444), (10, y446), (11, y448), (12, y450), (28, (m.1 28)), (69, (m.1 69)), (70, (m.1 70)), (71, (m.1 71)), (72, (m.1 72)), (73, (m.1 73)), (74, (m.1 74)), (75, (m.1 75)), (99, (m.1 99) + 1), (100, (m.1 100))]) (a' := [(65, (m.2 65)), (66, (m.2 66)), (67, (m.2 67)), (68, (m.2 68)), (76, (m.2 76)), (77, (m.2 77)), (78, (m.2 78)), (79, (m.2 79)), (80, (m.2 80)), (81, (m.2 81)), (82, (m.2 82)), (83, (m.2 83)), (84, (m.2 84)), (85, (m.2 85)), (86, (m.2 86)), (87, (m.2 87)), (88, (m.2 88)), (89, (m.2 89)), (90, (m.2 90)), (91, (m.2 91)), (92, (m.2 92)), (101, upI (m.2 101) (m.1 99) (m.1 7)), (102, (m.2 102)), (103, (m.2 103)), (104, (m.2 104)), (105, (m.2 105)), (106, (m.2 106)), (107, (m.2 107)), (108, (m.2 108))]) [7, 8, 9, 10, 11, 12] [] rfl ⟨rfl, rfl, rfl, rfl, rfl, rfl, rfl, rfl, rfl, rfl, rfl, rfl, rfl, rfl, rfl, rfl, rfl, rfl, rfl, rfl, rfl, rfl, rfl, rfl, rfl, rfl, rfl, rfl, rfl, rfl, rfl, rfl, trivial⟩ ⟨rfl, rfl, rfl, rfl, rfl, rfl, rfl, rfl, rfl, rfl, rfl, rfl, rfl, rfl, rfl, rfl, rfl, rfl, rfl, rfl, rfl, rfl, rfl, rfl, rfl, rfl, rfl, rfl, rfl, rfl, rfl, rfl, rfl, rfl, rfl, rfl, rfl, rfl, rfl, rfl, rfl, rfl, rfl, rfl, rfl, rfl, rfl, rfl, rfl, rfl, rfl, rfl, rfl, rfl, rfl, rfl, rfl, rfl, trivial⟩ rfl rfl (by decide) (by decide) ?_
            replace h452 : LxP y440 y442 y444 (m.1 6) y446 := h452
            replace h453 : y446 = 0 → y352 = 0 ∧ y346 = (59 : Int) := h453
            replace h454 : y348 ≤ y442 := h454
            replace h455 : y446 = 0 → y348 + y350 ≤ y442 := h455
            have hf456 : 1 ≤ y446 := by omega
            clear h453
            clear h455
            have hLx := h452
            clear g347 g349 g351 g353 g355 g357 h358 h360 hf436 h454
            refine Tm_lv (a := [(0, .ref 189), (1, .int (i32 (m.1 99)))]) rfl rfl ⟨rfl, rfl, trivial⟩ ?_
            exact J235_28 (mO m [(7, y440), (8, y442), (9, y444), (10, y446), (11, y448), (12, y450), (28, (m.1 28)), (69, (m.1 69)), (70, (m.1 70)), (71, (m.1 71)), (72, (m.1 72)), (73, (m.1 73)), (74, (m.1 74)), (75, (m.1 75)), (99, (m.1 99) + 1), (100, (m.1 100))] [(65, (m.2 65)), (66, (m.2 66)), (67, (m.2 67)), (68, (m.2 68)), (76, (m.2 76)), (77, (m.2 77)), (78, (m.2 78)), (79, (m.2 79)), (80, (m.2 80)), (81, (m.2 81)), (82, (m.2 82)), (83, (m.2 83)), (84, (m.2 84)), (85, (m.2 85)), (86, (m.2 86)), (87, (m.2 87)), (88, (m.2 88)), (89, (m.2 89)), (90, (m.2 90)), (91, (m.2 91)), (92, (m.2 92)), (101, upI (m.2 101) (m.1 99) (m.1 7)), (102, (m.2 102)), (103, (m.2 103)), (104, (m.2 104)), (105, (m.2 105)), (106, (m.2 106)), (107, (m.2 107)), (108, (m.2 108))]) (Ty_mO hT rfl rfl ⟨g441, g443, g445, g447, g449, g451, f28, f69, f70, f71, f72, f73, f74, f75, g339, f100, trivial⟩ ⟨(hT.2.1 65), (hT.2.1 66), (hT.2.1 67), (hT.2.1 68), (hT.2.1 76), (hT.2.1 77), (hT.2.1 78), (hT.2.1 79), (hT.2.1 80), (hT.2.1 81), (hT.2.1 82), (hT.2.1 83), (hT.2.1 84), (hT.2.1 85), (hT.2.1 86), (hT.2.1 87), (hT.2.1 88), (hT.2.1 89), (hT.2.1 90), (hT.2.1 91), (hT.2.1 92), G340, (hT.2.1 102), (hT.2.1 103), (hT.2.1 104), (hT.2.1 105), (hT.2.1 106), (hT.2.1 107), (hT.2.1 108), trivial⟩) (show 1 ≤ y446 by omega) (show y446 ≤ 8 by omega) (show 0 ≤ ((m.1 99) + 1) ∧ ((m.1 99) + 1) ≤ 240 by omega) (show 0 ≤ (m.1 99) ∧ (m.1 99) ≤ 240 by omega)
          · skip
            refine T_gf 222 (.ref 264) rfl rfl rfl rfl rfl rfl ?_
            refine T_ld 223 (.int (i32 (m.1 99))) rfl (fun _ => rfl) ?_
            refine T_ld 224 (.ref 189) rfl (fun _ => rfl) ?_
            refine T_ld 225 (.int (i32 2)) rfl (fun _ => rfl) ?_
            refine T_call 228 236 [.ref 189, .int (i32 2)] [.int (i32 (m.1 99)), .ref 264] rfl (fun _ => rfl) rfl (c_oldName w (mO m [(7, y346), (8, y348), (9, y350), (10, y352), (11, y354), (12, y356), (28, (m.1 28)), (69, (m.1 69)), (70, (m.1 70)), (71, (m.1 71)), (72, (m.1 72)), (73, (m.1 73)), (74, (m.1 74)), (75, (m.1 75)), (99, (m.1 99) + 1), (100, (m.1 100))] [(65, (m.2 65)), (66, (m.2 66)), (67, (m.2 67)), (68, (m.2 68)), (76, (m.2 76)), (77, (m.2 77)), (78, (m.2 78)), (79, (m.2 79)), (80, (m.2 80)), (81, (m.2 81)), (82, (m.2 82)), (83, (m.2 83)), (84, (m.2 84)), (85, (m.2 85)), (86, (m.2 86)), (87, (m.2 87)), (88, (m.2 88)), (89, (m.2 89)), (90, (m.2 90)), (91, (m.2 91)), (92, (m.2 92)), (101, upI (m.2 101) (m.1 99) (m.1 7)), (102, (m.2 102)), (103, (m.2 103)), (104, (m.2 104)), (105, (m.2 105)), (106, (m.2 106)), (107, (m.2 107)), (108, (m.2 108))]) c N D (by omega) (Ty_mO hT rfl rfl ⟨g347, g349, g351, g353, g355, g357, f28, f69, f70, f71, f72, f73, f74, f75, g339, f100, trivial⟩ ⟨(hT.2.1 65), (hT.2.1 66), (hT.2.1 67), (hT.2.1 68), (hT.2.1 76), (hT.2.1 77), (hT.2.1 78), (hT.2.1 79), (hT.2.1 80), (hT.2.1 81), (hT.2.1 82), (hT.2.1 83), (hT.2.1 84), (hT.2.1 85), (hT.2.1 86), (hT.2.1 87), (hT.2.1 88), (hT.2.1 89), (hT.2.1 90), (hT.2.1 91), (hT.2.1 92), G340, (hT.2.1 102), (hT.2.1 103), (hT.2.1 104), (hT.2.1 105), (hT.2.1 106), (hT.2.1 107), (hT.2.1 108), trivial⟩) 2 12 ⟨by decide, by decide⟩ (show LxP y346 y348 y350 (m.1 6) y352 by first | exact hLx | (intro h9; exfalso; omega) | (intro h9; have h8 := hLx (by omega); omega)) (show ∀ k, (m.2 14) k + (m.2 15) k ≤ 4000 by first | exact p1 | exact hNM) (show 1 ≤ (2 : Int) ∧ (2 : Int) ≤ 7 ∧ (2 : Int) ≠ 5 by omega) (show 12 ≤ 16 by omega) (show y352 = 0 → ∀ k, 0 ≤ k → k < (m.1 13) → (m.2 16) k = (2 : Int) → 0 ≤ (m.2 17) k ∧ (m.2 17) k < 12 by first | exact hOL | (intro h; exfalso; omega)) (show (2 : Int) = 3 → 3 ≤ 12 by omega)) (fun rr457 k458 => ?_)
            obtain ⟨y459, y461, y463, y465, y467, y469, oo, g460, g462, g464, g466, g468, g470, g471, h472, h473, h474, h475, h476, h477, rfl⟩ := k458
            refine ⟨_, _, rfl, ?_⟩
            refine T_nf2 (st' := [.int (i32 oo), .int (i32 (m.1 99)), .ref 264]) (l' := [(7, y459), (8, y461), (9, y463), (10, y465), (11, y467), (12, y469), (28, (m.1 28)), (69, (m.1 69)), (70, (m.1 70)), (71, (m.1 71)), (72, (m.1 72)), (73, (m.1 73)), (74, (m.1 74)), (75, (m.1 75)), (99, (m.1 99) + 1), (100, (m.1 100))]) (a' := [(65, (m.2 65)), (66, (m.2 66)), (67, (m.2 67)), (68, (m.2 68)), (76, (m.2 76)), (77, (m.2 77)), (78, (m.2 78)), (79, (m.2 79)), (80, (m.2 80)), (81, (m.2 81)), (82, (m.2 82)), (83, (m.2 83)), (84, (m.2 84)), (85, (m.2 85)), (86, (m.2 86)), (87, (m.2 87)), (88, (m.2 88)), (89, (m.2 89)), (90, (m.2 90)), (91, (m.2 91)), (92, (m.2 92)), (101, upI (m.2 101) (m.1 99) (m.1 7)), (102, (m.2 102)), (103, (m.2 103)), (104, (m.2 104)), (105, (m.2 105)), (106, (m.2 106)), (107, (m.2 107)), (108, (m.2 108))]) [7, 8, 9, 10, 11, 12] [] rfl ⟨rfl, rfl, rfl, rfl, rfl, rfl, rfl, rfl, rfl, rfl, rfl, rfl, rfl, rfl, rfl, rfl, rfl, rfl, rfl, rfl, rfl, rfl, rfl, rfl, rfl, rfl, rfl, rfl, rfl, rfl, rfl, rfl, trivial⟩ ⟨rfl, rfl, rfl, rfl, rfl, rfl, rfl, rfl, rfl, rfl, rfl, rfl, rfl, rfl, rfl, rfl, rfl, rfl, rfl, rfl, rfl, rfl, rfl, rfl, rfl, rfl, rfl, rfl, rfl, rfl, rfl, rfl, rfl, rfl, rfl, rfl, rfl, rfl, rfl, rfl, rfl, rfl, rfl, rfl, rfl, rfl, rfl, rfl, rfl, rfl, rfl, rfl, rfl, rfl, rfl, rfl, rfl, rfl, trivial⟩ rfl rfl (by decide) (by decide) ?_
            obtain ⟨g471a, g471b⟩ := g471
            replace h472 : LxP y459 y461 y463 (m.1 6) y465 := h472
            replace h473 : y348 ≤ y461 := h473
            replace h474 : y465 = 0 → y352 = 0 ∧ y348 + y350 ≤ y461 := h474
            replace h475 : y465 = 0 → y346 = 1 := h475
            replace h476 : 0 ≤ oo ∧ (oo < 12 ∨ oo = 0) := h476
            replace h477 : y465 = 0 → oo < 12 := h477
            have hf478 : 1 ≤ y465 := by omega
            clear h474
            clear h475
            clear h477
            have hLx := h472
            clear g347 g349 g351 g353 g355 g357 h358 h360 hf436 h473
            refine Tm_lv (a := [(0, .ref 189), (1, .int (i32 (m.1 99)))]) rfl rfl ⟨rfl, rfl, trivial⟩ ?_
            exact J228_37 oo (mO m [(7, y459), (8, y461), (9, y463), (10, y465), (11, y467), (12, y469), (28, (m.1 28)), (69, (m.1 69)), (70, (m.1 70)), (71, (m.1 71)), (72, (m.1 72)), (73, (m.1 73)), (74, (m.1 74)), (75, (m.1 75)), (99, (m.1 99) + 1), (100, (m.1 100))] [(65, (m.2 65)), (66, (m.2 66)), (67, (m.2 67)), (68, (m.2 68)), (76, (m.2 76)), (77, (m.2 77)), (78, (m.2 78)), (79, (m.2 79)), (80, (m.2 80)), (81, (m.2 81)), (82, (m.2 82)), (83, (m.2 83)), (84, (m.2 84)), (85, (m.2 85)), (86, (m.2 86)), (87, (m.2 87)), (88, (m.2 88)), (89, (m.2 89)), (90, (m.2 90)), (91, (m.2 91)), (92, (m.2 92)), (101, upI (m.2 101) (m.1 99) (m.1 7)), (102, (m.2 102)), (103, (m.2 103)), (104, (m.2 104)), (105, (m.2 105)), (106, (m.2 106)), (107, (m.2 107)), (108, (m.2 108))]) (r32 (by omega) (by omega)) (Ty_mO hT rfl rfl ⟨g460, g462, g464, g466, g468, g470, f28, f69, f70, f71, f72, f73, f74, f75, g339, f100, trivial⟩ ⟨(hT.2.1 65), (hT.2.1 66), (hT.2.1 67), (hT.2.1 68), (hT.2.1 76), (hT.2.1 77), (hT.2.1 78), (hT.2.1 79), (hT.2.1 80), (hT.2.1 81), (hT.2.1 82), (hT.2.1 83), (hT.2.1 84), (hT.2.1 85), (hT.2.1 86), (hT.2.1 87), (hT.2.1 88), (hT.2.1 89), (hT.2.1 90), (hT.2.1 91), (hT.2.1 92), G340, (hT.2.1 102), (hT.2.1 103), (hT.2.1 104), (hT.2.1 105), (hT.2.1 106), (hT.2.1 107), (hT.2.1 108), trivial⟩) (show 0 ≤ oo by omega) (show oo ≤ 11 by omega) (show 1 ≤ y465 by omega) (show y465 ≤ 8 by omega) (show 0 ≤ ((m.1 99) + 1) ∧ ((m.1 99) + 1) ≤ 240 by omega) (show 0 ≤ (m.1 99) ∧ (m.1 99) ≤ 240 by omega) (show 0 ≤ (m.1 99) ∧ (m.1 99) ≤ 240 by omega)
      · skip
        refine T_ld 157 (.ref 189) rfl (fun _ => rfl) ?_
        refine T_call 160 212 [.ref 189] [] rfl (fun _ => rfl) rfl (c_next w (mO m [(7, (m.1 7)), (8, (m.1 8)), (9, (m.1 9)), (10, (m.1 10)), (11, (m.1 11)), (12, (m.1 12)), (28, (m.1 28)), (69, (m.1 69)), (70, (m.1 70)), (71, (m.1 71)), (72, (m.1 72)), (73, (m.1 73)), (74, (m.1 74)), (75, (m.1 75)), (99, (m.1 99) + 1), (100, (m.1 100))] [(65, (m.2 65)), (66, (m.2 66)), (67, (m.2 67)), (68, (m.2 68)), (76, (m.2 76)), (77, (m.2 77)), (78, (m.2 78)), (79, (m.2 79)), (80, (m.2 80)), (81, (m.2 81)), (82, (m.2 82)), (83, (m.2 83)), (84, (m.2 84)), (85, (m.2 85)), (86, (m.2 86)), (87, (m.2 87)), (88, (m.2 88)), (89, (m.2 89)), (90, (m.2 90)), (91, (m.2 91)), (92, (m.2 92)), (101, upI (m.2 101) (m.1 99) (m.1 7)), (102, (m.2 102)), (103, (m.2 103)), (104, (m.2 104)), (105, (m.2 105)), (106, (m.2 106)), (107, (m.2 107)), (108, (m.2 108))]) c N D (by omega) (Ty_mO hT rfl rfl ⟨f7, f8, f9, f10, f11, f12, f28, f69, f70, f71, f72, f73, f74, f75, g339, f100, trivial⟩ ⟨(hT.2.1 65), (hT.2.1 66), (hT.2.1 67), (hT.2.1 68), (hT.2.1 76), (hT.2.1 77), (hT.2.1 78), (hT.2.1 79), (hT.2.1 80), (hT.2.1 81), (hT.2.1 82), (hT.2.1 83), (hT.2.1 84), (hT.2.1 85), (hT.2.1 86), (hT.2.1 87), (hT.2.1 88), (hT.2.1 89), (hT.2.1 90), (hT.2.1 91), (hT.2.1 92), G340, (hT.2.1 102), (hT.2.1 103), (hT.2.1 104), (hT.2.1 105), (hT.2.1 106), (hT.2.1 107), (hT.2.1 108), trivial⟩) (show (m.1 10) = 0 → (m.1 8) + (m.1 9) ≤ (m.1 6) by first | omega | (intro h9; have h8 := hLx h9; omega))) (fun rr479 k480 => ?_)
        obtain ⟨y481, y483, y485, y487, y489, y491, g482, g484, g486, g488, g490, g492, h493, h494, h495, h496, rfl⟩ := k480
        refine ⟨_, _, rfl, ?_⟩
        refine T_nf2 (st' := []) (l' := [(7, y481), (8, y483), (9, y485), (10, y487), (11, y489), (12, y491), (28, (m.1 28)), (69, (m.1 69)), (70, (m.1 70)), (71, (m.1 71)), (72, (m.1 72)), (73, (m.1 73)), (74, (m.1 74)), (75, (m.1 75)), (99, (m.1 99) + 1), (100, (m.1 100))]) (a' := [(65, (m.2 65)), (66, (m.2 66)), (67, (m.2 67)), (68, (m.2 68)), (76, (m.2 76)), (77, (m.2 77)), (78, (m.2 78)), (79, (m.2 79)), (80, (m.2 80)), (81, (m.2 81)), (82, (m.2 82)), (83, (m.2 83)), (84, (m.2 84)), (85, (m.2 85)), (86, (m.2 86)), (87, (m.2 87)), (88, (m.2 88)), (89, (m.2 89)), (90, (m.2 90)), (91, (m.2 91)), (92, (m.2 92)), (101, upI (m.2 101) (m.1 99) (m.1 7)), (102, (m.2 102)), (103, (m.2 103)), (104, (m.2 104)), (105, (m.2 105)), (106, (m.2 106)), (107, (m.2 107)), (108, (m.2 108))]) [7, 8, 9, 10, 11, 12] [] rfl ⟨rfl, rfl, rfl, rfl, rfl, rfl, rfl, rfl, rfl, rfl, rfl, rfl, rfl, rfl, rfl, rfl, rfl, rfl, rfl, rfl, rfl, rfl, rfl, rfl, rfl, rfl, rfl, rfl, rfl, rfl, rfl, rfl, trivial⟩ ⟨rfl, rfl, rfl, rfl, rfl, rfl, rfl, rfl, rfl, rfl, rfl, rfl, rfl, rfl, rfl, rfl, rfl, rfl, rfl, rfl, rfl, rfl, rfl, rfl, rfl, rfl, rfl, rfl, rfl, rfl, rfl, rfl, rfl, rfl, rfl, rfl, rfl, rfl, rfl, rfl, rfl, rfl, rfl, rfl, rfl, rfl, rfl, rfl, rfl, rfl, rfl, rfl, rfl, rfl, rfl, rfl, rfl, rfl, trivial⟩ rfl rfl (by decide) (by decide) ?_
        by_cases hf497 : y487 = 0
        · skip
          subst hf497
          replace h493 : LxP y481 y483 y485 (m.1 6) (0 : Int) := h493
          have hLx := h493
          replace h494 : (m.1 10) = 0 := h494 rfl
          replace h495 : (m.1 8) ≤ y483 := h495
          replace h496 : (m.1 8) + (m.1 9) ≤ y483 := h496 rfl
          have u498 : (m.1 8) + 1 ≤ y483 := by omega
          have hAgC : agr (m.2 65) (m.2 65) (m.1 28) := by first | exact agr_r _ _ | exact hAgC | exact agr_t hAgC hAg (by omega)
          have u499 : (m.1 28) ≤ (m.1 28) := by omega
          clear g488
          refine T_gf 164 (.ref 263) rfl rfl rfl rfl rfl rfl ?_
          refine T_ld 165 (.int (i32 (m.1 99))) rfl (fun _ => rfl) ?_
          refine T_ld 166 (.ref 189) rfl (fun _ => rfl) ?_
          refine T_ld 167 (.int (i32 4)) rfl (fun _ => rfl) ?_
          have hOL : (0 : Int) = 0 → ∀ k, 0 ≤ k → k < (m.1 13) → (m.2 16) k = 4 → 0 ≤ (m.2 17) k ∧ (m.2 17) k < (m.1 22) := fun _ k h1 h2 h3 => by
            have h4 := PNl_4 pPN k h1 h2 h3
            omega
          refine T_call 170 236 [.ref 189, .int (i32 4)] [.int (i32 (m.1 99)), .ref 263] rfl (fun _ => rfl) rfl (c_oldName w (mO m [(7, y481), (8, y483), (9, y485), (10, 0), (11, y489), (12, y491), (28, (m.1 28)), (69, (m.1 69)), (70, (m.1 70)), (71, (m.1 71)), (72, (m.1 72)), (73, (m.1 73)), (74, (m.1 74)), (75, (m.1 75)), (99, (m.1 99) + 1), (100, (m.1 100))] [(65, (m.2 65)), (66, (m.2 66)), (67, (m.2 67)), (68, (m.2 68)), (76, (m.2 76)), (77, (m.2 77)), (78, (m.2 78)), (79, (m.2 79)), (80, (m.2 80)), (81, (m.2 81)), (82, (m.2 82)), (83, (m.2 83)), (84, (m.2 84)), (85, (m.2 85)), (86, (m.2 86)), (87, (m.2 87)), (88, (m.2 88)), (89, (m.2 89)), (90, (m.2 90)), (91, (m.2 91)), (92, (m.2 92)), (101, upI (m.2 101) (m.1 99) (m.1 7)), (102, (m.2 102)), (103, (m.2 103)), (104, (m.2 104)), (105, (m.2 105)), (106, (m.2 106)), (107, (m.2 107)), (108, (m.2 108))]) c N D (by omega) (Ty_mO hT rfl rfl ⟨g482, g484, g486, ⟨(by omega : (0 : Int) ≤ 0), (by omega : (0 : Int) ≤ 8)⟩, g490, g492, f28, f69, f70, f71, f72, f73, f74, f75, g339, f100, trivial⟩ ⟨(hT.2.1 65), (hT.2.1 66), (hT.2.1 67), (hT.2.1 68), (hT.2.1 76), (hT.2.1 77), (hT.2.1 78), (hT.2.1 79), (hT.2.1 80), (hT.2.1 81), (hT.2.1 82), (hT.2.1 83), (hT.2.1 84), (hT.2.1 85), (hT.2.1 86), (hT.2.1 87), (hT.2.1 88), (hT.2.1 89), (hT.2.1 90), (hT.2.1 91), (hT.2.1 92), G340, (hT.2.1 102), (hT.2.1 103), (hT.2.1 104), (hT.2.1 105), (hT.2.1 106), (hT.2.1 107), (hT.2.1 108), trivial⟩) 4 (m.1 22) ⟨by decide, by decide⟩ (show LxP y481 y483 y485 (m.1 6) (0 : Int) by first | exact hLx | (intro h9; exfalso; omega) | (intro h9; have h8 := hLx (by omega); omega)) (show ∀ k, (m.2 14) k + (m.2 15) k ≤ 4000 by first | exact p1 | exact hNM) (show 1 ≤ (4 : Int) ∧ (4 : Int) ≤ 7 ∧ (4 : Int) ≠ 5 by omega) (show (m.1 22) ≤ 16 by omega) (show (0 : Int) = 0 → ∀ k, 0 ≤ k → k < (m.1 13) → (m.2 16) k = (4 : Int) → 0 ≤ (m.2 17) k ∧ (m.2 17) k < (m.1 22) by first | exact hOL | (intro h; exfalso; omega)) (show (4 : Int) = 3 → 3 ≤ (m.1 22) by omega)) (fun rr500 k501 => ?_)
          obtain ⟨y502, y504, y506, y508, y510, y512, oo, g503, g505, g507, g509, g511, g513, g514, h515, h516, h517, h518, h519, h520, rfl⟩ := k501
          refine ⟨_, _, rfl, ?_⟩
          refine T_nf2 (st' := [.int (i32 oo), .int (i32 (m.1 99)), .ref 263]) (l' := [(7, y502), (8, y504), (9, y506), (10, y508), (11, y510), (12, y512), (28, (m.1 28)), (69, (m.1 69)), (70, (m.1 70)), (71, (m.1 71)), (72, (m.1 72)), (73, (m.1 73)), (74, (m.1 74)), (75, (m.1 75)), (99, (m.1 99) + 1), (100, (m.1 100))]) (a' := [(65, (m.2 65)), (66, (m.2 66)), (67, (m.2 67)), (68, (m.2 68)), (76, (m.2 76)), (77, (m.2 77)), (78, (m.2 78)), (79, (m.2 79)), (80, (m.2 80)), (81, (m.2 81)), (82, (m.2 82)), (83, (m.2 83)), (84, (m.2 84)), (85, (m.2 85)), (86, (m.2 86)), (87, (m.2 87)), (88, (m.2 88)), (89, (m.2 89)), (90, (m.2 90)), (91, (m.2 91)), (92, (m.2 92)), (101, upI (m.2 101) (m.1 99) (m.1 7)), (102, (m.2 102)), (103, (m.2 103)), (104, (m.2 104)), (105, (m.2 105)), (106, (m.2 106)), (107, (m.2 107)), (108, (m.2 108))]) [7, 8, 9, 10, 11, 12] [] rfl ⟨rfl, rfl, rfl, rfl, rfl, rfl, rfl, rfl, rfl, rfl, rfl, rfl, rfl, rfl, rfl, rfl, rfl, rfl, rfl, rfl, rfl, rfl, rfl, rfl, rfl, rfl, rfl, rfl, rfl, rfl, rfl, rfl, trivial⟩ ⟨rfl, rfl, rfl, rfl, rfl, rfl, rfl, rfl, rfl, rfl, rfl, rfl, rfl, rfl, rfl, rfl, rfl, rfl, rfl, rfl, rfl, rfl, rfl, rfl, rfl, rfl, rfl, rfl, rfl, rfl, rfl, rfl, rfl, rfl, rfl, rfl, rfl, rfl, rfl, rfl, rfl, rfl, rfl, rfl, rfl, rfl, rfl, rfl, rfl, rfl, rfl, rfl, rfl, rfl, rfl, rfl, rfl, rfl, trivial⟩ rfl rfl (by decide) (by decide) ?_
          obtain ⟨g514a, g514b⟩ := g514
          by_cases hf521 : y508 = 0
          · skip
            subst hf521
            replace h515 : LxP y502 y504 y506 (m.1 6) (0 : Int) := h515
            have hLx := h515
            replace h516 : y483 ≤ y504 := h516
            replace h517 : (0 : Int) = 0 ∧ y483 + y485 ≤ y504 := h517 rfl
            replace h518 : y481 = 1 := h518 rfl
            replace h519 : 0 ≤ oo ∧ (oo < (m.1 22) ∨ oo = 0) := h519
            replace h520 : oo < (m.1 22) := h520 rfl
            have u522 : (m.1 8) + 1 ≤ y504 := by omega
            have hAgC : agr (m.2 65) (m.2 65) (m.1 28) := by first | exact agr_r _ _ | exact hAgC | exact agr_t hAgC hAg (by omega)
            have u523 : (m.1 28) ≤ (m.1 28) := by omega
            clear g482 g484 g486 g490 g492 h493 h495 h496 u498 g509 h516 h517 h518
            have G524 : ∀ j, 0 ≤ (upI (m.2 103) (m.1 99) oo) j ∧ (upI (m.2 103) (m.1 99) oo) j ≤ 7 := upI_rg (hT.2.1 103) ⟨by omega, by omega⟩
            refine T_iast (a' := [(65, (m.2 65)), (66, (m.2 66)), (67, (m.2 67)), (68, (m.2 68)), (76, (m.2 76)), (77, (m.2 77)), (78, (m.2 78)), (79, (m.2 79)), (80, (m.2 80)), (81, (m.2 81)), (82, (m.2 82)), (83, (m.2 83)), (84, (m.2 84)), (85, (m.2 85)), (86, (m.2 86)), (87, (m.2 87)), (88, (m.2 88)), (89, (m.2 89)), (90, (m.2 90)), (91, (m.2 91)), (92, (m.2 92)), (101, upI (m.2 101) (m.1 99) (m.1 7)), (102, (m.2 102)), (103, upI (m.2 103) (m.1 99) oo), (104, (m.2 104)), (105, (m.2 105)), (106, (m.2 106)), (107, (m.2 107)), (108, (m.2 108))]) 171 103 (m.2 103) rfl rfl rfl (by omega) (show (m.1 99) < (240 : Int) by omega) rfl rfl ?_
            refine T_ld 172 (.ref 189) rfl (fun _ => rfl) ?_
            refine T_ld 173 (.int (i32 (m.1 99))) rfl (fun _ => rfl) ?_
            refine T_call 176 274 [.ref 189, .int (i32 (m.1 99))] [] rfl (fun _ => rfl) rfl (c_takeIndex w (mO m [(7, y502), (8, y504), (9, y506), (10, 0), (11, y510), (12, y512), (28, (m.1 28)), (69, (m.1 69)), (70, (m.1 70)), (71, (m.1 71)), (72, (m.1 72)), (73, (m.1 73)), (74, (m.1 74)), (75, (m.1 75)), (99, (m.1 99) + 1), (100, (m.1 100))] [(65, (m.2 65)), (66, (m.2 66)), (67, (m.2 67)), (68, (m.2 68)), (76, (m.2 76)), (77, (m.2 77)), (78, (m.2 78)), (79, (m.2 79)), (80, (m.2 80)), (81, (m.2 81)), (82, (m.2 82)), (83, (m.2 83)), (84, (m.2 84)), (85, (m.2 85)), (86, (m.2 86)), (87, (m.2 87)), (88, (m.2 88)), (89, (m.2 89)), (90, (m.2 90)), (91, (m.2 91)), (92, (m.2 92)), (101, upI (m.2 101) (m.1 99) (m.1 7)), (102, (m.2 102)), (103, upI (m.2 103) (m.1 99) oo), (104, (m.2 104)), (105, (m.2 105)), (106, (m.2 106)), (107, (m.2 107)), (108, (m.2 108))]) c N D (by omega) (Ty_mO hT rfl rfl ⟨g503, g505, g507, ⟨(by omega : (0 : Int) ≤ 0), (by omega : (0 : Int) ≤ 8)⟩, g511, g513, f28, f69, f70, f71, f72, f73, f74, f75, g339, f100, trivial⟩ ⟨(hT.2.1 65), (hT.2.1 66), (hT.2.1 67), (hT.2.1 68), (hT.2.1 76), (hT.2.1 77), (hT.2.1 78), (hT.2.1 79), (hT.2.1 80), (hT.2.1 81), (hT.2.1 82), (hT.2.1 83), (hT.2.1 84), (hT.2.1 85), (hT.2.1 86), (hT.2.1 87), (hT.2.1 88), (hT.2.1 89), (hT.2.1 90), (hT.2.1 91), (hT.2.1 92), G340, (hT.2.1 102), G524, (hT.2.1 104), (hT.2.1 105), (hT.2.1 106), (hT.2.1 107), (hT.2.1 108), trivial⟩) (m.1 99) (r32 (by omega) (by omega)) (show LxP y502 y504 y506 (m.1 6) (0 : Int) by first | exact hLx | exact (fun _ => hLx (by omega)) | (intro h9; exfalso; omega)) (show ∀ k, (m.2 14) k + (m.2 15) k ≤ 4000 by assumption) (show ∀ k, (m.2 31) k + (m.2 32) k ≤ 4000 by assumption) (show ∀ k, (m.2 47) k + (m.2 48) k ≤ 4000 by assumption) (show 0 ≤ (m.1 99) ∧ (m.1 99) ≤ 239 by omega) (fun _ => ⟨(show PN (m.1 13) (m.1 19) (m.1 20) (m.1 21) (m.1 22) (m.1 23) (m.1 25) (m.1 26) (m.2 16) (m.2 17) by assumption), (show CN (m.2 65) (m.2 67) (m.1 28) by assumption)⟩)) (fun rr525 k526 => ?_)
            obtain ⟨m527, hT528, h529, h530, c531, rfl⟩ := k526
            refine ⟨_, _, rfl, ?_⟩
            refine T_nf2 (st' := []) (l' := [(7, (m527.1 7)), (8, (m527.1 8)), (9, (m527.1 9)), (10, (m527.1 10)), (11, (m527.1 11)), (12, (m527.1 12)), (28, (m527.1 28)), (69, (m527.1 69)), (70, (m527.1 70)), (71, (m527.1 71)), (72, (m527.1 72)), (73, (m527.1 73)), (74, (m527.1 74)), (75, (m527.1 75)), (99, (m.1 99) + 1), (100, (m.1 100))]) (a' := [(65, (m527.2 65)), (66, (m527.2 66)), (67, (m527.2 67)), (68, (m527.2 68)), (76, (m527.2 76)), (77, (m527.2 77)), (78, (m527.2 78)), (79, (m527.2 79)), (80, (m527.2 80)), (81, (m527.2 81)), (82, (m527.2 82)), (83, (m527.2 83)), (84, (m527.2 84)), (85, (m527.2 85)), (86, (m527.2 86)), (87, (m527.2 87)), (88, (m527.2 88)), (89, (m527.2 89)), (90, (m527.2 90)), (91, (m527.2 91)), (92, (m527.2 92)), (101, upI (m.2 101) (m.1 99) (m.1 7)), (102, (m.2 102)), (103, upI (m.2 103) (m.1 99) oo), (104, (m.2 104)), (105, (m527.2 105)), (106, (m527.2 106)), (107, (m.2 107)), (108, (m.2 108))]) [7, 8, 9, 10, 11, 12, 28, 69, 70, 71, 72, 73, 74, 75] [65, 66, 67, 68, 76, 77, 78, 79, 80, 81, 82, 83, 84, 85, 86, 87, 88, 89, 90, 91, 92, 105, 106] rfl ⟨rfl, rfl, rfl, rfl, rfl, rfl, rfl, rfl, rfl, rfl, rfl, rfl, rfl, rfl, rfl, rfl, rfl, rfl, rfl, rfl, rfl, rfl, rfl, rfl, rfl, rfl, rfl, rfl, rfl, rfl, rfl, rfl, trivial⟩ ⟨rfl, rfl, rfl, rfl, rfl, rfl, rfl, rfl, rfl, rfl, rfl, rfl, rfl, rfl, rfl, rfl, rfl, rfl, rfl, rfl, rfl, rfl, rfl, rfl, rfl, rfl, rfl, rfl, rfl, rfl, rfl, rfl, rfl, rfl, rfl, rfl, rfl, rfl, rfl, rfl, rfl, rfl, rfl, rfl, rfl, rfl, rfl, rfl, rfl, rfl, rfl, rfl, rfl, rfl, rfl, rfl, rfl, rfl, rfl, rfl, rfl, rfl, trivial⟩ rfl rfl (by decide) (by decide) ?_
            have g532 : 0 ≤ m527.1 7 ∧ m527.1 7 ≤ 330 := hT528.1 7
            have g533 : 0 ≤ m527.1 8 ∧ m527.1 8 ≤ 4000 := hT528.1 8
            have g534 : 0 ≤ m527.1 9 ∧ m527.1 9 ≤ 4000 := hT528.1 9
            have g535 : 0 ≤ m527.1 10 ∧ m527.1 10 ≤ 8 := hT528.1 10
            have g536 : (-1) ≤ m527.1 11 ∧ m527.1 11 ≤ 4000 := hT528.1 11
            have g537 : (-9223372036854775808) ≤ m527.1 12 ∧ m527.1 12 ≤ 9223372036854775807 := hT528.1 12
            have g538 : 0 ≤ m527.1 28 ∧ m527.1 28 ≤ 800 := hT528.1 28
            have g539 : 0 ≤ m527.1 69 ∧ m527.1 69 ≤ 1024 := hT528.1 69
            have g540 : 0 ≤ m527.1 70 ∧ m527.1 70 ≤ 4000 := hT528.1 70
            have g541 : 0 ≤ m527.1 71 ∧ m527.1 71 ≤ 1 := hT528.1 71
            have g542 : (-9223372036854775808) ≤ m527.1 72 ∧ m527.1 72 ≤ 9223372036854775807 := hT528.1 72
            have g543 : 0 ≤ m527.1 73 ∧ m527.1 73 ≤ 60 := hT528.1 73
            have g544 : 0 ≤ m527.1 74 ∧ m527.1 74 ≤ 24 := hT528.1 74
            have g545 : 0 ≤ m527.1 75 ∧ m527.1 75 ≤ 3 := hT528.1 75
            by_cases hf546 : (m527.1 10) = 0
            · skip
              replace h529 : (0 : Int) = 0 := h529 hf546
              replace h530 : LxP (m527.1 7) (m527.1 8) (m527.1 9) (m.1 6) (m527.1 10) := h530
              have hLx := h530
              obtain ⟨c547, c548, c549, c550, c551, c552, c553⟩ := c531 hf546
              replace c547 : y504 + 1 ≤ (m527.1 8) := c547
              replace c548 : CN (m527.2 65) (m527.2 67) (m527.1 28) := c548
              have hCN := c548
              replace c549 : agr (m.2 65) (m527.2 65) (m.1 28) := c549
              have hAg := c549
              replace c550 : (m.1 28) ≤ (m527.1 28) := c550
              replace c551 : cdr (m527.2 65) (m527.1 28) ((m527.2 105) (m.1 99)) ((m527.2 106) (m.1 99)) := c551
              have hXc := c551
              replace c552 : agr (m.2 105) (m527.2 105) (m.1 99) := c552
              have hI1 := c552
              replace c553 : agr (m.2 106) (m527.2 106) (m.1 99) := c553
              have hI2 := c553
              clear c531
              have u554 : (m.1 8) + 1 ≤ (m527.1 8) := by omega
              have hAgC : agr (m.2 65) (m527.2 65) (m.1 28) := by first | exact agr_r _ _ | exact hAgC | exact agr_t hAgC hAg (by omega)
              have u555 : (m.1 28) ≤ (m527.1 28) := by omega
              clear g503 g505 g507 g511 g513 h515 u522 c547
              refine T_gf 180 (.int (i32 (m527.1 10))) rfl rfl rfl rfl rfl rfl ?_
              refine T_if 229 183 rfl rfl rfl (r32 (by omega) (by omega)) (fun (h556 : (m527.1 10) ≠ 0) => by exfalso; omega) (fun (h556 : ¬ ((m527.1 10) ≠ 0)) => ?_)
              refine T_ld 184 (.ref 189) rfl (fun _ => rfl) ?_
              refine T_ld 185 (.int (i32 (m.1 99))) rfl (fun _ => rfl) ?_
              refine T_gf 189 (.ref 206) rfl rfl rfl rfl rfl rfl ?_
              refine T_gf 193 (.ref 263) rfl rfl rfl rfl rfl rfl ?_
              refine T_ld 194 (.int (i32 (m.1 99))) rfl (fun _ => rfl) ?_
              refine T_iald 195 103 (upI (m.2 103) (m.1 99) oo) rfl rfl rfl (by omega) (show (m.1 99) < (240 : Int) by omega) rfl ?_
              refine T_cast oo upI_s ?_
              refine T_iald 196 36 (m.2 36) rfl rfl rfl (by omega) (show oo < (8 : Int) by omega) rfl ?_
              have e557 : 0 ≤ m.2 36 oo ∧ m.2 36 oo ≤ 64 := hT.2.1 36 oo
              refine T_call 199 272 [.ref 189, .int (i32 (m.1 99)), .int (i32 ((m.2 36) oo))] [] rfl (fun _ => rfl) rfl (c_takeWorth w (mO m [(7, (m527.1 7)), (8, (m527.1 8)), (9, (m527.1 9)), (10, (m527.1 10)), (11, (m527.1 11)), (12, (m527.1 12)), (28, (m527.1 28)), (69, (m527.1 69)), (70, (m527.1 70)), (71, (m527.1 71)), (72, (m527.1 72)), (73, (m527.1 73)), (74, (m527.1 74)), (75, (m527.1 75)), (99, (m.1 99) + 1), (100, (m.1 100))] [(65, (m527.2 65)), (66, (m527.2 66)), (67, (m527.2 67)), (68, (m527.2 68)), (76, (m527.2 76)), (77, (m527.2 77)), (78, (m527.2 78)), (79, (m527.2 79)), (80, (m527.2 80)), (81, (m527.2 81)), (82, (m527.2 82)), (83, (m527.2 83)), (84, (m527.2 84)), (85, (m527.2 85)), (86, (m527.2 86)), (87, (m527.2 87)), (88, (m527.2 88)), (89, (m527.2 89)), (90, (m527.2 90)), (91, (m527.2 91)), (92, (m527.2 92)), (101, upI (m.2 101) (m.1 99) (m.1 7)), (102, (m.2 102)), (103, upI (m.2 103) (m.1 99) oo), (104, (m.2 104)), (105, (m527.2 105)), (106, (m527.2 106)), (107, (m.2 107)), (108, (m.2 108))]) c N D (by omega) (Ty_mO hT rfl rfl ⟨(hT528.1 7), (hT528.1 8), (hT528.1 9), (hT528.1 10), (hT528.1 11), (hT528.1 12), (hT528.1 28), (hT528.1 69), (hT528.1 70), (hT528.1 71), (hT528.1 72), (hT528.1 73), (hT528.1 74), (hT528.1 75), g339, f100, trivial⟩ ⟨(hT528.2.1 65), (hT528.2.1 66), (hT528.2.1 67), (hT528.2.1 68), (hT528.2.1 76), (hT528.2.1 77), (hT528.2.1 78), (hT528.2.1 79), (hT528.2.1 80), (hT528.2.1 81), (hT528.2.1 82), (hT528.2.1 83), (hT528.2.1 84), (hT528.2.1 85), (hT528.2.1 86), (hT528.2.1 87), (hT528.2.1 88), (hT528.2.1 89), (hT528.2.1 90), (hT528.2.1 91), (hT528.2.1 92), G340, (hT.2.1 102), G524, (hT.2.1 104), (hT528.2.1 105), (hT528.2.1 106), (hT.2.1 107), (hT.2.1 108), trivial⟩) (m.1 99) ((m.2 36) oo) (r32 (by omega) (by omega)) (r32 (by omega) (by omega)) (show LxP (m527.1 7) (m527.1 8) (m527.1 9) (m.1 6) (m527.1 10) by first | exact hLx | exact (fun _ => hLx (by omega)) | (intro h9; exfalso; omega)) (show ∀ k, (m.2 14) k + (m.2 15) k ≤ 4000 by assumption) (show ∀ k, (m.2 31) k + (m.2 32) k ≤ 4000 by assumption) (show ∀ k, (m.2 47) k + (m.2 48) k ≤ 4000 by assumption) (show 0 ≤ (m.1 99) ∧ (m.1 99) ≤ 239 by omega) (fun _ => ⟨(show PN (m.1 13) (m.1 19) (m.1 20) (m.1 21) (m.1 22) (m.1 23) (m.1 25) (m.1 26) (m.2 16) (m.2 17) by assumption), (show CN (m527.2 65) (m527.2 67) (m527.1 28) by assumption)⟩)) (fun rr558 k559 => ?_)
              obtain ⟨m560, hT561, h562, h563, c564, rfl⟩ := k559
              refine ⟨_, _, rfl, ?_⟩
              refine T_nf2 (st' := []) (l' := [(7, (m560.1 7)), (8, (m560.1 8)), (9, (m560.1 9)), (10, (m560.1 10)), (11, (m560.1 11)), (12, (m560.1 12)), (28, (m560.1 28)), (69, (m560.1 69)), (70, (m560.1 70)), (71, (m560.1 71)), (72, (m560.1 72)), (73, (m560.1 73)), (74, (m560.1 74)), (75, (m560.1 75)), (99, (m.1 99) + 1), (100, (m.1 100))]) (a' := [(65, (m560.2 65)), (66, (m560.2 66)), (67, (m560.2 67)), (68, (m560.2 68)), (76, (m560.2 76)), (77, (m560.2 77)), (78, (m560.2 78)), (79, (m560.2 79)), (80, (m560.2 80)), (81, (m560.2 81)), (82, (m560.2 82)), (83, (m560.2 83)), (84, (m560.2 84)), (85, (m560.2 85)), (86, (m560.2 86)), (87, (m560.2 87)), (88, (m560.2 88)), (89, (m560.2 89)), (90, (m560.2 90)), (91, (m560.2 91)), (92, (m560.2 92)), (101, upI (m.2 101) (m.1 99) (m.1 7)), (102, (m.2 102)), (103, upI (m.2 103) (m.1 99) oo), (104, (m.2 104)), (105, (m527.2 105)), (106, (m527.2 106)), (107, (m560.2 107)), (108, (m560.2 108))]) [7, 8, 9, 10, 11, 12, 28, 69, 70, 71, 72, 73, 74, 75] [65, 66, 67, 68, 76, 77, 78, 79, 80, 81, 82, 83, 84, 85, 86, 87, 88, 89, 90, 91, 92, 107, 108] rfl ⟨rfl, rfl, rfl, rfl, rfl, rfl, rfl, rfl, rfl, rfl, rfl, rfl, rfl, rfl, rfl, rfl, rfl, rfl, rfl, rfl, rfl, rfl, rfl, rfl, rfl, rfl, rfl, rfl, rfl, rfl, rfl, rfl, trivial⟩ ⟨rfl, rfl, rfl, rfl, rfl, rfl, rfl, rfl, rfl, rfl, rfl, rfl, rfl, rfl, rfl, rfl, rfl, rfl, rfl, rfl, rfl, rfl, rfl, rfl, rfl, rfl, rfl, rfl, rfl, rfl, rfl, rfl, rfl, rfl, rfl, rfl, rfl, rfl, rfl, rfl, rfl, rfl, rfl, rfl, rfl, rfl, rfl, rfl, rfl, rfl, rfl, rfl, rfl, rfl, rfl, rfl, rfl, rfl, rfl, rfl, rfl, rfl, rfl, rfl, trivial⟩ rfl rfl (by decide) (by decide) ?_
              have g565 : 0 ≤ m560.1 7 ∧ m560.1 7 ≤ 330 := hT561.1 7
              have g566 : 0 ≤ m560.1 8 ∧ m560.1 8 ≤ 4000 := hT561.1 8
              have g567 : 0 ≤ m560.1 9 ∧ m560.1 9 ≤ 4000 := hT561.1 9
              have g568 : 0 ≤ m560.1 10 ∧ m560.1 10 ≤ 8 := hT561.1 10
              have g569 : (-1) ≤ m560.1 11 ∧ m560.1 11 ≤ 4000 := hT561.1 11
              have g570 : (-9223372036854775808) ≤ m560.1 12 ∧ m560.1 12 ≤ 9223372036854775807 := hT561.1 12
              have g571 : 0 ≤ m560.1 28 ∧ m560.1 28 ≤ 800 := hT561.1 28
              have g572 : 0 ≤ m560.1 69 ∧ m560.1 69 ≤ 1024 := hT561.1 69
              have g573 : 0 ≤ m560.1 70 ∧ m560.1 70 ≤ 4000 := hT561.1 70
              have g574 : 0 ≤ m560.1 71 ∧ m560.1 71 ≤ 1 := hT561.1 71
              have g575 : (-9223372036854775808) ≤ m560.1 72 ∧ m560.1 72 ≤ 9223372036854775807 := hT561.1 72
              have g576 : 0 ≤ m560.1 73 ∧ m560.1 73 ≤ 60 := hT561.1 73
              have g577 : 0 ≤ m560.1 74 ∧ m560.1 74 ≤ 24 := hT561.1 74
              have g578 : 0 ≤ m560.1 75 ∧ m560.1 75 ≤ 3 := hT561.1 75
              by_cases hf579 : (m560.1 10) = 0
              · skip
                replace h562 : (m527.1 10) = 0 := h562 hf579
                replace h563 : LxP (m560.1 7) (m560.1 8) (m560.1 9) (m.1 6) (m560.1 10) := h563
                have hLx := h563
                obtain ⟨c580, c581, c582, c583, c584, c585, c586⟩ := c564 hf579
                replace c580 : (m527.1 8) + 1 ≤ (m560.1 8) := c580
                replace c581 : CN (m560.2 65) (m560.2 67) (m560.1 28) := c581
                have hCN := c581
                replace c582 : agr (m527.2 65) (m560.2 65) (m527.1 28) := c582
                have hAg := c582
                replace c583 : (m527.1 28) ≤ (m560.1 28) := c583
                replace c584 : cdr (m560.2 65) (m560.1 28) ((m560.2 107) (m.1 99)) ((m560.2 108) (m.1 99)) := c584
                have hEc := c584
                replace c585 : agr (m.2 107) (m560.2 107) (m.1 99) := c585
                have hJ1 := c585
                replace c586 : agr (m.2 108) (m560.2 108) (m.1 99) := c586
                have hJ2 := c586
                clear c564
                have u587 : (m.1 8) + 1 ≤ (m560.1 8) := by omega
                have hAgC : agr (m.2 65) (m560.2 65) (m.1 28) := by first | exact agr_r _ _ | exact hAgC | exact agr_t hAgC hAg (by omega)
                have u588 : (m.1 28) ≤ (m560.1 28) := by omega
                clear g532 g533 g534 g535 g536 g537 g538 g539 g540 g541 g542 g543 g544 g545 h530 c548 c549 c550 c551 u554 u555 h556 h562 c580 c582 c583
                refine T_goto 229 rfl (fun _ => rfl) ?_
                have w1 : agr (m.2 101) (upI (m.2 101) (m.1 99) (m.1 7)) (m.1 99) := by first | exact agr_u (Int.le_refl _) | exact agr_r _ _
                have w2 : agr (m.2 103) (upI (m.2 103) (m.1 99) oo) (m.1 99) := by first | exact agr_u (Int.le_refl _) | exact agr_r _ _
                have w3 : agr (m.2 105) (m527.2 105) (m.1 99) := by first | exact hI1 | exact agr_u (Int.le_refl _) | exact agr_r _ _
                have w4 : agr (m.2 106) (m527.2 106) (m.1 99) := by first | exact hI2 | exact agr_u (Int.le_refl _) | exact agr_r _ _
                have w5 : agr (m.2 107) (m560.2 107) (m.1 99) := by first | exact hJ1 | exact agr_u (Int.le_refl _) | exact agr_r _ _
                have w6 : agr (m.2 108) (m560.2 108) (m.1 99) := by first | exact hJ2 | exact agr_u (Int.le_refl _) | exact agr_r _ _
                have hR : TdR (m560.2 65) (m560.1 28) (m.1 22) (m.1 99) (upI (m.2 101) (m.1 99) (m.1 7)) (upI (m.2 103) (m.1 99) oo) (m527.2 105) (m527.2 106) (m560.2 107) (m560.2 108) := by
                  refine ⟨fun h => ?_, fun h => ?_⟩ <;> rw [upI_s] at h <;> first | exact hEc | exact ⟨hXc, by rw [upI_s]; omega⟩ | exact ⟨cdr_f hXc hAg (by omega), by rw [upI_s]; omega⟩ | omega
                have hTd2 : TdP (m560.2 65) (m560.1 28) (m.1 22) ((m.1 99) + 1) (upI (m.2 101) (m.1 99) (m.1 7)) (upI (m.2 103) (m.1 99) oo) (m527.2 105) (m527.2 106) (m560.2 107) (m560.2 108) := TdP_add (TdP_f pTd hAgC (by omega) w1 w2 w3 w4 w5 w6) hR
                refine T_ld 230 (.ref 189) rfl (fun _ => rfl) ?_
                refine T_ld 232 (.int (i32 59)) rfl (fun _ => rfl) ?_
                refine T_call 235 232 [.ref 189, .int (i32 59)] [] rfl (fun _ => rfl) rfl (c_need w (mO m [(7, (m560.1 7)), (8, (m560.1 8)), (9, (m560.1 9)), (10, (m560.1 10)), (11, (m560.1 11)), (12, (m560.1 12)), (28, (m560.1 28)), (69, (m560.1 69)), (70, (m560.1 70)), (71, (m560.1 71)), (72, (m560.1 72)), (73, (m560.1 73)), (74, (m560.1 74)), (75, (m560.1 75)), (99, (m.1 99) + 1), (100, (m.1 100))] [(65, (m560.2 65)), (66, (m560.2 66)), (67, (m560.2 67)), (68, (m560.2 68)), (76, (m560.2 76)), (77, (m560.2 77)), (78, (m560.2 78)), (79, (m560.2 79)), (80, (m560.2 80)), (81, (m560.2 81)), (82, (m560.2 82)), (83, (m560.2 83)), (84, (m560.2 84)), (85, (m560.2 85)), (86, (m560.2 86)), (87, (m560.2 87)), (88, (m560.2 88)), (89, (m560.2 89)), (90, (m560.2 90)), (91, (m560.2 91)), (92, (m560.2 92)), (101, upI (m.2 101) (m.1 99) (m.1 7)), (102, (m.2 102)), (103, upI (m.2 103) (m.1 99) oo), (104, (m.2 104)), (105, (m527.2 105)), (106, (m527.2 106)), (107, (m560.2 107)), (108, (m560.2 108))]) c N D (by omega) (Ty_mO hT rfl rfl ⟨(hT561.1 7), (hT561.1 8), (hT561.1 9), (hT561.1 10), (hT561.1 11), (hT561.1 12), (hT561.1 28), (hT561.1 69), (hT561.1 70), (hT561.1 71), (hT561.1 72), (hT561.1 73), (hT561.1 74), (hT561.1 75), g339, f100, trivial⟩ ⟨(hT561.2.1 65), (hT561.2.1 66), (hT561.2.1 67), (hT561.2.1 68), (hT561.2.1 76), (hT561.2.1 77), (hT561.2.1 78), (hT561.2.1 79), (hT561.2.1 80), (hT561.2.1 81), (hT561.2.1 82), (hT561.2.1 83), (hT561.2.1 84), (hT561.2.1 85), (hT561.2.1 86), (hT561.2.1 87), (hT561.2.1 88), (hT561.2.1 89), (hT561.2.1 90), (hT561.2.1 91), (hT561.2.1 92), G340, (hT.2.1 102), G524, (hT.2.1 104), (hT528.2.1 105), (hT528.2.1 106), (hT561.2.1 107), (hT561.2.1 108), trivial⟩) 59 ⟨by decide, by decide⟩ (show 1 ≤ (59 : Int) by omega) (show LxP (m560.1 7) (m560.1 8) (m560.1 9) (m.1 6) (m560.1 10) by first | exact hLx | (intro h9; exfalso; omega) | (intro h9; have h8 := hLx (by omega); omega))) (fun rr589 k590 => ?_)
                obtain ⟨y591, y593, y595, y597, y599, y601, g592, g594, g596, g598, g600, g602, h603, h604, h605, h606, rfl⟩ := k590
                refine ⟨_, _, rfl, ?_⟩
                refine T_nf2 (st' := []) (l' := [(7, y591), (8, y593), (9, y595), (10, y597), (11, y599), (12, y601), (28, (m560.1 28)), (69, (m560.1 69)), (70, (m560.1 70)), (71, (m560.1 71)), (72, (m560.1 72)), (73, (m560.1 73)), (74, (m560.1 74)), (75, (m560.1 75)), (99, (m.1 99) + 1), (100, (m.1 100))]) (a' := [(65, (m560.2 65)), (66, (m560.2 66)), (67, (m560.2 67)), (68, (m560.2 68)), (76, (m560.2 76)), (77, (m560.2 77)), (78, (m560.2 78)), (79, (m560.2 79)), (80, (m560.2 80)), (81, (m560.2 81)), (82, (m560.2 82)), (83, (m560.2 83)), (84, (m560.2 84)), (85, (m560.2 85)), (86, (m560.2 86)), (87, (m560.2 87)), (88, (m560.2 88)), (89, (m560.2 89)), (90, (m560.2 90)), (91, (m560.2 91)), (92, (m560.2 92)), (101, upI (m.2 101) (m.1 99) (m.1 7)), (102, (m.2 102)), (103, upI (m.2 103) (m.1 99) oo), (104, (m.2 104)), (105, (m527.2 105)), (106, (m527.2 106)), (107, (m560.2 107)), (108, (m560.2 108))]) [7, 8, 9, 10, 11, 12] [] rfl ⟨rfl, rfl, rfl, rfl, rfl, rfl, rfl, rfl, rfl, rfl, rfl, rfl, rfl, rfl, rfl, rfl, rfl, rfl, rfl, rfl, rfl, rfl, rfl, rfl, rfl, rfl, rfl, rfl, rfl, rfl, rfl, rfl, trivial⟩ ⟨rfl, rfl, rfl, rfl, rfl, rfl, rfl, rfl, rfl, rfl, rfl, rfl, rfl, rfl, rfl, rfl, rfl, rfl, rfl, rfl, rfl, rfl, rfl, rfl, rfl, rfl, rfl, rfl, rfl, rfl, rfl, rfl, rfl, rfl, rfl, rfl, rfl, rfl, rfl, rfl, rfl, rfl, rfl, rfl, rfl, rfl, rfl, rfl, rfl, rfl, rfl, rfl, rfl, rfl, rfl, rfl, rfl, rfl, trivial⟩ rfl rfl (by decide) (by decide) ?_
                by_cases hf607 : y597 = 0
                · skip
                  subst hf607
                  replace h603 : LxP y591 y593 y595 (m.1 6) (0 : Int) := h603
                  have hLx := h603
                  replace h604 : (m560.1 10) = 0 ∧ (m560.1 7) = (59 : Int) := h604 rfl
                  replace h605 : (m560.1 8) ≤ y593 := h605
                  replace h606 : (m560.1 8) + (m560.1 9) ≤ y593 := h606 rfl
                  have u608 : (m.1 8) + 1 ≤ y593 := by omega
                  have hAgC : agr (m.2 65) (m560.2 65) (m.1 28) := by first | exact agr_r _ _ | exact hAgC | exact agr_t hAgC hAg (by omega)
                  have u609 : (m.1 28) ≤ (m560.1 28) := by omega
                  clear g565 g566 g567 g568 g569 g570 h563 u587 g598 h604 h605 h606
                  refine T_ret rfl (fun _ => rfl) ?_
                  exact ⟨(mO m [(7, y591), (8, y593), (9, y595), (10, 0), (11, y599), (12, y601), (28, (m560.1 28)), (69, (m560.1 69)), (70, (m560.1 70)), (71, (m560.1 71)), (72, (m560.1 72)), (73, (m560.1 73)), (74, (m560.1 74)), (75, (m560.1 75)), (99, (m.1 99) + 1), (100, (m.1 100))] [(65, (m560.2 65)), (66, (m560.2 66)), (67, (m560.2 67)), (68, (m560.2 68)), (76, (m560.2 76)), (77, (m560.2 77)), (78, (m560.2 78)), (79, (m560.2 79)), (80, (m560.2 80)), (81, (m560.2 81)), (82, (m560.2 82)), (83, (m560.2 83)), (84, (m560.2 84)), (85, (m560.2 85)), (86, (m560.2 86)), (87, (m560.2 87)), (88, (m560.2 88)), (89, (m560.2 89)), (90, (m560.2 90)), (91, (m560.2 91)), (92, (m560.2 92)), (101, upI (m.2 101) (m.1 99) (m.1 7)), (102, (m.2 102)), (103, upI (m.2 103) (m.1 99) oo), (104, (m.2 104)), (105, (m527.2 105)), (106, (m527.2 106)), (107, (m560.2 107)), (108, (m560.2 108))]), (Ty_mO hT rfl rfl ⟨g592, g594, g596, ⟨(by omega : (0 : Int) ≤ 0), (by omega : (0 : Int) ≤ 8)⟩, g600, g602, (hT561.1 28), (hT561.1 69), (hT561.1 70), (hT561.1 71), (hT561.1 72), (hT561.1 73), (hT561.1 74), (hT561.1 75), g339, f100, trivial⟩ ⟨(hT561.2.1 65), (hT561.2.1 66), (hT561.2.1 67), (hT561.2.1 68), (hT561.2.1 76), (hT561.2.1 77), (hT561.2.1 78), (hT561.2.1 79), (hT561.2.1 80), (hT561.2.1 81), (hT561.2.1 82), (hT561.2.1 83), (hT561.2.1 84), (hT561.2.1 85), (hT561.2.1 86), (hT561.2.1 87), (hT561.2.1 88), (hT561.2.1 89), (hT561.2.1 90), (hT561.2.1 91), (hT561.2.1 92), G340, (hT.2.1 102), G524, (hT.2.1 104), (hT528.2.1 105), (hT528.2.1 106), (hT561.2.1 107), (hT561.2.1 108), trivial⟩), (show (0 : Int) = 0 → (m.1 10) = 0 by omega), (show LxP y591 y593 y595 (m.1 6) (0 : Int) by first | (first | exact hLx | exact (fun _ => hLx (by omega)) | (intro h9; exfalso; omega)) | (exfalso; omega)), (show ((m.1 99) + 1) = (m.1 99) + 1 by omega), (fun _ => ⟨(show (m.1 8) + 1 ≤ y593 by omega), (show (m.1 28) ≤ (m560.1 28) by omega), (show CN (m560.2 65) (m560.2 67) (m560.1 28) by first | (exact hCN) | (exfalso; omega)), (show agr (m.2 65) (m560.2 65) (m.1 28) by first | (exact hAgC) | (exfalso; omega)), (show TdP (m560.2 65) (m560.1 28) (m.1 22) ((m.1 99) + 1) (upI (m.2 101) (m.1 99) (m.1 7)) (upI (m.2 103) (m.1 99) oo) (m527.2 105) (m527.2 106) (m560.2 107) (m560.2 108) by first | (exact hTd2) | (exfalso; omega))⟩), rfl⟩
                · skip
                  replace h603 : LxP y591 y593 y595 (m.1 6) y597 := h603
                  have hLx := h603
                  clear h604
                  replace h605 : (m560.1 8) ≤ y593 := h605
                  clear h606
                  have hf610 : 1 ≤ y597 := by omega
                  clear g565 g566 g567 g568 g569 g570 h563 u587 h605
                  refine Tm_lv (a := [(0, .ref 189), (1, .int (i32 (m.1 99)))]) rfl rfl ⟨rfl, rfl, trivial⟩ ?_
                  exact J235_28 (mO m [(7, y591), (8, y593), (9, y595), (10, y597), (11, y599), (12, y601), (28, (m560.1 28)), (69, (m560.1 69)), (70, (m560.1 70)), (71, (m560.1 71)), (72, (m560.1 72)), (73, (m560.1 73)), (74, (m560.1 74)), (75, (m560.1 75)), (99, (m.1 99) + 1), (100, (m.1 100))] [(65, (m560.2 65)), (66, (m560.2 66)), (67, (m560.2 67)), (68, (m560.2 68)), (76, (m560.2 76)), (77, (m560.2 77)), (78, (m560.2 78)), (79, (m560.2 79)), (80, (m560.2 80)), (81, (m560.2 81)), (82, (m560.2 82)), (83, (m560.2 83)), (84, (m560.2 84)), (85, (m560.2 85)), (86, (m560.2 86)), (87, (m560.2 87)), (88, (m560.2 88)), (89, (m560.2 89)), (90, (m560.2 90)), (91, (m560.2 91)), (92, (m560.2 92)), (101, upI (m.2 101) (m.1 99) (m.1 7)), (102, (m.2 102)), (103, upI (m.2 103) (m.1 99) oo), (104, (m.2 104)), (105, (m527.2 105)), (106, (m527.2 106)), (107, (m560.2 107)), (108, (m560.2 108))]) (Ty_mO hT rfl rfl ⟨g592, g594, g596, g598, g600, g602, (hT561.1 28), (hT561.1 69), (hT561.1 70), (hT561.1 71), (hT561.1 72), (hT561.1 73), (hT561.1 74), (hT561.1 75), g339, f100, trivial⟩ ⟨(hT561.2.1 65), (hT561.2.1 66), (hT561.2.1 67), (hT561.2.1 68), (hT561.2.1 76), (hT561.2.1 77), (hT561.2.1 78), (hT561.2.1 79), (hT561.2.1 80), (hT561.2.1 81), (hT561.2.1 82), (hT561.2.1 83), (hT561.2.1 84), (hT561.2.1 85), (hT561.2.1 86), (hT561.2.1 87), (hT561.2.1 88), (hT561.2.1 89), (hT561.2.1 90), (hT561.2.1 91), (hT561.2.1 92), G340, (hT.2.1 102), G524, (hT.2.1 104), (hT528.2.1 105), (hT528.2.1 106), (hT561.2.1 107), (hT561.2.1 108), trivial⟩) (show 1 ≤ y597 by omega) (show y597 ≤ 8 by omega) (show 0 ≤ ((m.1 99) + 1) ∧ ((m.1 99) + 1) ≤ 240 by omega) (show 0 ≤ (m.1 99) ∧ (m.1 99) ≤ 240 by omega)
              · skip
                clear c564
                clear h562
                replace h563 : LxP (m560.1 7) (m560.1 8) (m560.1 9) (m.1 6) (m560.1 10) := h563
                have hLx := h563
                have hf611 : 1 ≤ (m560.1 10) := by omega
                clear g532 g533 g534 g535 g536 g537 g538 g539 g540 g541 g542 g543 g544 g545 h530 c548 c549 c550 c551 u554 u555 h556
                refine T_goto 229 rfl (fun _ => rfl) ?_
                refine T_ld 230 (.ref 189) rfl (fun _ => rfl) ?_
                refine T_ld 232 (.int (i32 59)) rfl (fun _ => rfl) ?_
                refine T_call 235 232 [.ref 189, .int (i32 59)] [] rfl (fun _ => rfl) rfl (c_need w (mO m [(7, (m560.1 7)), (8, (m560.1 8)), (9, (m560.1 9)), (10, (m560.1 10)), (11, (m560.1 11)), (12, (m560.1 12)), (28, (m560.1 28)), (69, (m560.1 69)), (70, (m560.1 70)), (71, (m560.1 71)), (72, (m560.1 72)), (73, (m560.1 73)), (74, (m560.1 74)), (75, (m560.1 75)), (99, (m.1 99) + 1), (100, (m.1 100))] [(65, (m560.2 65)), (66, (m560.2 66)), (67, (m560.2 67)), (68, (m560.2 68)), (76, (m560.2 76)), (77, (m560.2 77)), (78, (m560.2 78)), (79, (m560.2 79)), (80, (m560.2 80)), (81, (m560.2 81)), (82, (m560.2 82)), (83, (m560.2 83)), (84, (m560.2 84)), (85, (m560.2 85)), (86, (m560.2 86)), (87, (m560.2 87)), (88, (m560.2 88)), (89, (m560.2 89)), (90, (m560.2 90)), (91, (m560.2 91)), (92, (m560.2 92)), (101, upI (m.2 101) (m.1 99) (m.1 7)), (102, (m.2 102)), (103, upI (m.2 103) (m.1 99) oo), (104, (m.2 104)), (105, (m527.2 105)), (106, (m527.2 106)), (107, (m560.2 107)), (108, (m560.2 108))]) c N D (by omega) (Ty_mO hT rfl rfl ⟨(hT561.1 7), (hT561.1 8), (hT561.1 9), (hT561.1 10), (hT561.1 11), (hT561.1 12), (hT561.1 28), (hT561.1 69), (hT561.1 70), (hT561.1 71), (hT561.1 72), (hT561.1 73), (hT561.1 74), (hT561.1 75), g339, f100, trivial⟩ ⟨(hT561.2.1 65), (hT561.2.1 66), (hT561.2.1 67), (hT561.2.1 68), (hT561.2.1 76), (hT561.2.1 77), (hT561.2.1 78), (hT561.2.1 79), (hT561.2.1 80), (hT561.2.1 81), (hT561.2.1 82), (hT561.2.1 83), (hT561.2.1 84), (hT561.2.1 85), (hT561.2.1 86), (hT561.2.1 87), (hT561.2.1 88), (hT561.2.1 89), (hT561.2.1 90), (hT561.2.1 91), (hT561.2.1 92), G340, (hT.2.1 102), G524, (hT.2.1 104), (hT528.2.1 105), (hT528.2.1 106), (hT561.2.1 107), (hT561.2.1 108), trivial⟩) 59 ⟨by decide, by decide⟩ (show 1 ≤ (59 : Int) by omega) (show LxP (m560.1 7) (m560.1 8) (m560.1 9) (m.1 6) (m560.1 10) by first | exact hLx | (intro h9; exfalso; omega) | (intro h9; have h8 := hLx (by omega); omega))) (fun rr612 k613 => ?_)
                obtain ⟨y614, y616, y618, y620, y622, y624, g615, g617, g619, g621, g623, g625, h626, h627, h628, h629, rfl⟩ := k613
                refine ⟨_, _, rfl, ?_⟩
                refine T_nf2 (st' := []) (l' := [(7, y614), (8, y616), (9, y618), (10, y620), (11, y622), (12, y624), (28, (m560.1 28)), (69, (m560.1 69)), (70, (m560.1 70)), (71, (m560.1 71)), (72, (m560.1 72)), (73, (m560.1 73)), (74, (m560.1 74)), (75, (m560.1 75)), (99, (m.1 99) + 1), (100, (m.1 100))]) (a' := [(65, (m560.2 65)), (66, (m560.2 66)), (67, (m560.2 67)), (68, (m560.2 68)), (76, (m560.2 76)), (77, (m560.2 77)), (78, (m560.2 78)), (79, (m560.2 79)), (80, (m560.2 80)), (81, (m560.2 81)), (82, (m560.2 82)), (83, (m560.2 83)), (84, (m560.2 84)), (85, (m560.2 85)), (86, (m560.2 86)), (87, (m560.2 87)), (88, (m560.2 88)), (89, (m560.2 89)), (90, (m560.2 90)), (91, (m560.2 91)), (92, (m560.2 92)), (101, upI (m.2 101) (m.1 99) (m.1 7)), (102, (m.2 102)), (103, upI (m.2 103) (m.1 99) oo), (104, (m.2 104)), (105, (m527.2 105)), (106, (m527.2 106)), (107, (m560.2 107)), (108, (m560.2 108))]) [7, 8, 9, 10, 11, 12] [] rfl ⟨rfl, rfl, rfl, rfl, rfl, rfl, rfl, rfl, rfl, rfl, rfl, rfl, rfl, rfl, rfl, rfl, rfl, rfl, rfl, rfl, rfl, rfl, rfl, rfl, rfl, rfl, rfl, rfl, rfl, rfl, rfl, rfl, trivial⟩ ⟨rfl, rfl, rfl, rfl, rfl, rfl, rfl, rfl, rfl, rfl, rfl, rfl, rfl, rfl, rfl, rfl, rfl, rfl, rfl, rfl, rfl, rfl, rfl, rfl, rfl, rfl, rfl, rfl, rfl, rfl, rfl, rfl, rfl, rfl, rfl, rfl, rfl, rfl, rfl, rfl, rfl, rfl, rfl, rfl, rfl, rfl, rfl, rfl, rfl, rfl, rfl, rfl, rfl, rfl, rfl, rfl, rfl, rfl, trivial⟩ rfl rfl (by decide) (by decide) ?_
                replace h626 : LxP y614 y616 y618 (m.1 6) y620 := h626
                replace h627 : y620 = 0 → (m560.1 10) = 0 ∧ (m560.1 7) = (59 : Int) := h627
                replace h628 : (m560.1 8) ≤ y616 := h628
                replace h629 : y620 = 0 → (m560.1 8) + (m560.1 9) ≤ y616 := h629
                have hf630 : 1 ≤ y620 := by omega
                clear h627
                clear h629
                have hLx := h626
                clear g565 g566 g567 g568 g569 g570 h563 hf611 h628
                refine Tm_lv (a := [(0, .ref 189), (1, .int (i32 (m.1 99)))]) rfl rfl ⟨rfl, rfl, trivial⟩ ?_
                exact J235_28 (mO m [(7, y614), (8, y616), (9, y618), (10, y620), (11, y622), (12, y624), (28, (m560.1 28)), (69, (m560.1 69)), (70, (m560.1 70)), (71, (m560.1 71)), (72, (m560.1 72)), (73, (m560.1 73)), (74, (m560.1 74)), (75, (m560.1 75)), (99, (m.1 99) + 1), (100, (m.1 100))] [(65, (m560.2 65)), (66, (m560.2 66)), (67, (m560.2 67)), (68, (m560.2 68)), (76, (m560.2 76)), (77, (m560.2 77)), (78, (m560.2 78)), (79, (m560.2 79)), (80, (m560.2 80)), (81, (m560.2 81)), (82, (m560.2 82)), (83, (m560.2 83)), (84, (m560.2 84)), (85, (m560.2 85)), (86, (m560.2 86)), (87, (m560.2 87)), (88, (m560.2 88)), (89, (m560.2 89)), (90, (m560.2 90)), (91, (m560.2 91)), (92, (m560.2 92)), (101, upI (m.2 101) (m.1 99) (m.1 7)), (102, (m.2 102)), (103, upI (m.2 103) (m.1 99) oo), (104, (m.2 104)), (105, (m527.2 105)), (106, (m527.2 106)), (107, (m560.2 107)), (108, (m560.2 108))]) (Ty_mO hT rfl rfl ⟨g615, g617, g619, g621, g623, g625, (hT561.1 28), (hT561.1 69), (hT561.1 70), (hT561.1 71), (hT561.1 72), (hT561.1 73), (hT561.1 74), (hT561.1 75), g339, f100, trivial⟩ ⟨(hT561.2.1 65), (hT561.2.1 66), (hT561.2.1 67), (hT561.2.1 68), (hT561.2.1 76), (hT561.2.1 77), (hT561.2.1 78), (hT561.2.1 79), (hT561.2.1 80), (hT561.2.1 81), (hT561.2.1 82), (hT561.2.1 83), (hT561.2.1 84), (hT561.2.1 85), (hT561.2.1 86), (hT561.2.1 87), (hT561.2.1 88), (hT561.2.1 89), (hT561.2.1 90), (hT561.2.1 91), (hT561.2.1 92), G340, (hT.2.1 102), G524, (hT.2.1 104), (hT528.2.1 105), (hT528.2.1 106), (hT561.2.1 107), (hT561.2.1 108), trivial⟩) (show 1 ≤ y620 by omega) (show y620 ≤ 8 by omega) (show 0 ≤ ((m.1 99) + 1) ∧ ((m.1 99) + 1) ≤ 240 by omega) (show 0 ≤ (m.1 99) ∧ (m.1 99) ≤ 240 by omega)
            · skip
              clear c531
              clear h529
              replace h530 : LxP (m527.1 7) (m527.1 8) (m527.1 9) (m.1 6) (m527.1 10) := h530
              have hLx := h530
              have hf631 : 1 ≤ (m527.1 10) := by omega
              clear g503 g505 g507 g511 g513 h515 u522
              refine Tm_lv (a := [(0, .ref 189), (1, .int (i32 (m.1 99)))]) rfl rfl ⟨rfl, rfl, trivial⟩ ?_
              exact J176_69 (mO m [(7, (m527.1 7)), (8, (m527.1 8)), (9, (m527.1 9)), (10, (m527.1 10)), (11, (m527.1 11)), (12, (m527.1 12)), (28, (m527.1 28)), (69, (m527.1 69)), (70, (m527.1 70)), (71, (m527.1 71)), (72, (m527.1 72)), (73, (m527.1 73)), (74, (m527.1 74)), (75, (m527.1 75)), (99, (m.1 99) + 1), (100, (m.1 100))] [(65, (m527.2 65)), (66, (m527.2 66)), (67, (m527.2 67)), (68, (m527.2 68)), (76, (m527.2 76)), (77, (m527.2 77)), (78, (m527.2 78)), (79, (m527.2 79)), (80, (m527.2 80)), (81, (m527.2 81)), (82, (m527.2 82)), (83, (m527.2 83)), (84, (m527.2 84)), (85, (m527.2 85)), (86, (m527.2 86)), (87, (m527.2 87)), (88, (m527.2 88)), (89, (m527.2 89)), (90, (m527.2 90)), (91, (m527.2 91)), (92, (m527.2 92)), (101, upI (m.2 101) (m.1 99) (m.1 7)), (102, (m.2 102)), (103, upI (m.2 103) (m.1 99) oo), (104, (m.2 104)), (105, (m527.2 105)), (106, (m527.2 106)), (107, (m.2 107)), (108, (m.2 108))]) (Ty_mO hT rfl rfl ⟨(hT528.1 7), (hT528.1 8), (hT528.1 9), (hT528.1 10), (hT528.1 11), (hT528.1 12), (hT528.1 28), (hT528.1 69), (hT528.1 70), (hT528.1 71), (hT528.1 72), (hT528.1 73), (hT528.1 74), (hT528.1 75), g339, f100, trivial⟩ ⟨(hT528.2.1 65), (hT528.2.1 66), (hT528.2.1 67), (hT528.2.1 68), (hT528.2.1 76), (hT528.2.1 77), (hT528.2.1 78), (hT528.2.1 79), (hT528.2.1 80), (hT528.2.1 81), (hT528.2.1 82), (hT528.2.1 83), (hT528.2.1 84), (hT528.2.1 85), (hT528.2.1 86), (hT528.2.1 87), (hT528.2.1 88), (hT528.2.1 89), (hT528.2.1 90), (hT528.2.1 91), (hT528.2.1 92), G340, (hT.2.1 102), G524, (hT.2.1 104), (hT528.2.1 105), (hT528.2.1 106), (hT.2.1 107), (hT.2.1 108), trivial⟩) (show 1 ≤ (m527.1 10) by omega) (show (m527.1 10) ≤ 8 by omega) (show 0 ≤ ((m.1 99) + 1) ∧ ((m.1 99) + 1) ≤ 240 by omega) (show 0 ≤ (m.1 99) ∧ (m.1 99) ≤ 240 by omega)
          · skip
            replace h515 : LxP y502 y504 y506 (m.1 6) y508 := h515
            have hLx := h515
            replace h516 : y483 ≤ y504 := h516
            clear h517
            clear h518
            replace h519 : 0 ≤ oo ∧ (oo < (m.1 22) ∨ oo = 0) := h519
            clear h520
            have hf632 : 1 ≤ y508 := by omega
            clear g482 g484 g486 g490 g492 h493 h495 h496 u498 h516
            refine Tm_lv (a := [(0, .ref 189), (1, .int (i32 (m.1 99)))]) rfl rfl ⟨rfl, rfl, trivial⟩ ?_
            exact J170_98 oo (mO m [(7, y502), (8, y504), (9, y506), (10, y508), (11, y510), (12, y512), (28, (m.1 28)), (69, (m.1 69)), (70, (m.1 70)), (71, (m.1 71)), (72, (m.1 72)), (73, (m.1 73)), (74, (m.1 74)), (75, (m.1 75)), (99, (m.1 99) + 1), (100, (m.1 100))] [(65, (m.2 65)), (66, (m.2 66)), (67, (m.2 67)), (68, (m.2 68)), (76, (m.2 76)), (77, (m.2 77)), (78, (m.2 78)), (79, (m.2 79)), (80, (m.2 80)), (81, (m.2 81)), (82, (m.2 82)), (83, (m.2 83)), (84, (m.2 84)), (85, (m.2 85)), (86, (m.2 86)), (87, (m.2 87)), (88, (m.2 88)), (89, (m.2 89)), (90, (m.2 90)), (91, (m.2 91)), (92, (m.2 92)), (101, upI (m.2 101) (m.1 99) (m.1 7)), (102, (m.2 102)), (103, (m.2 103)), (104, (m.2 104)), (105, (m.2 105)), (106, (m.2 106)), (107, (m.2 107)), (108, (m.2 108))]) (r32 (by omega) (by omega)) (Ty_mO hT rfl rfl ⟨g503, g505, g507, g509, g511, g513, f28, f69, f70, f71, f72, f73, f74, f75, g339, f100, trivial⟩ ⟨(hT.2.1 65), (hT.2.1 66), (hT.2.1 67), (hT.2.1 68), (hT.2.1 76), (hT.2.1 77), (hT.2.1 78), (hT.2.1 79), (hT.2.1 80), (hT.2.1 81), (hT.2.1 82), (hT.2.1 83), (hT.2.1 84), (hT.2.1 85), (hT.2.1 86), (hT.2.1 87), (hT.2.1 88), (hT.2.1 89), (hT.2.1 90), (hT.2.1 91), (hT.2.1 92), G340, (hT.2.1 102), (hT.2.1 103), (hT.2.1 104), (hT.2.1 105), (hT.2.1 106), (hT.2.1 107), (hT.2.1 108), trivial⟩) (show 0 ≤ oo by omega) (show oo ≤ 7 by omega) (show 1 ≤ y508 by omega) (show y508 ≤ 8 by omega) (show 0 ≤ ((m.1 99) + 1) ∧ ((m.1 99) + 1) ≤ 240 by omega) (show 0 ≤ (m.1 99) ∧ (m.1 99) ≤ 240 by omega) (show 0 ≤ (m.1 99) ∧ (m.1 99) ≤ 240 by omega)
        · skip
          replace h493 : LxP y481 y483 y485 (m.1 6) y487 := h493
          have hLx := h493
          clear h494
          replace h495 : (m.1 8) ≤ y483 := h495
          clear h496
          have hf633 : 1 ≤ y487 := by omega
          refine T_gf 164 (.ref 263) rfl rfl rfl rfl rfl rfl ?_
          refine T_ld 165 (.int (i32 (m.1 99))) rfl (fun _ => rfl) ?_
          refine T_ld 166 (.ref 189) rfl (fun _ => rfl) ?_
          refine T_ld 167 (.int (i32 4)) rfl (fun _ => rfl) ?_
          refine T_call 170 236 [.ref 189, .int (i32 4)] [.int (i32 (m.1 99)), .ref 263] rfl (fun _ => rfl) rfl (c_oldName w (mO m [(7, y481), (8, y483), (9, y485), (10, y487), (11, y489), (12, y491), (28, (m.1 28)), (69, (m.1 69)), (70, (m.1 70)), (71, (m.1 71)), (72, (m.1 72)), (73, (m.1 73)), (74, (m.1 74)), (75, (m.1 75)), (99, (m.1 99) + 1), (100, (m.1 100))] [(65, (m.2 65)), (66, (m.2 66)), (67, (m.2 67)), (68, (m.2 68)), (76, (m.2 76)), (77, (m.2 77)), (78, (m.2 78)), (79, (m.2 79)), (80, (m.2 80)), (81, (m.2 81)), (82, (m.2 82)), (83, (m.2 83)), (84, (m.2 84)), (85, (m.2 85)), (86, (m.2 86)), (87, (m.2 87)), (88, (m.2 88)), (89, (m.2 89)), (90, (m.2 90)), (91, (m.2 91)), (92, (m.2 92)), (101, upI (m.2 101) (m.1 99) (m.1 7)), (102, (m.2 102)), (103, (m.2 103)), (104, (m.2 104)), (105, (m.2 105)), (106, (m.2 106)), (107, (m.2 107)), (108, (m.2 108))]) c N D (by omega) (Ty_mO hT rfl rfl ⟨g482, g484, g486, g488, g490, g492, f28, f69, f70, f71, f72, f73, f74, f75, g339, f100, trivial⟩ ⟨(hT.2.1 65), (hT.2.1 66), (hT.2.1 67), (hT.2.1 68), (hT.2.1 76), (hT.2.1 77), (hT.2.1 78), (hT.2.1 79), (hT.2.1 80), (hT.2.1 81), (hT.2.1 82), (hT.2.1 83), (hT.2.1 84), (hT.2.1 85), (hT.2.1 86), (hT.2.1 87), (hT.2.1 88), (hT.2.1 89), (hT.2.1 90), (hT.2.1 91), (hT.2.1 92), G340, (hT.2.1 102), (hT.2.1 103), (hT.2.1 104), (hT.2.1 105), (hT.2.1 106), (hT.2.1 107), (hT.2.1 108), trivial⟩) 4 (m.1 22) ⟨by decide, by decide⟩ (show LxP y481 y483 y485 (m.1 6) y487 by first | exact hLx | (intro h9; exfalso; omega) | (intro h9; have h8 := hLx (by omega); omega)) (show ∀ k, (m.2 14) k + (m.2 15) k ≤ 4000 by first | exact p1 | exact hNM) (show 1 ≤ (4 : Int) ∧ (4 : Int) ≤ 7 ∧ (4 : Int) ≠ 5 by omega) (show (m.1 22) ≤ 16 by omega) (show y487 = 0 → ∀ k, 0 ≤ k → k < (m.1 13) → (m.2 16) k = (4 : Int) → 0 ≤ (m.2 17) k ∧ (m.2 17) k < (m.1 22) by first | exact hOL | (intro h; exfalso; omega)) (show (4 : Int) = 3 → 3 ≤ (m.1 22) by omega)) (fun rr634 k635 => ?_)
          obtain ⟨y636, y638, y640, y642, y644, y646, oo, g637, g639, g641, g643, g645, g647, g648, h649, h650, h651, h652, h653, h654, rfl⟩ := k635
          refine ⟨_, _, rfl, ?_⟩
          refine T_nf2 (st' := [.int (i32 oo), .int (i32 (m.1 99)), .ref 263]) (l' := [(7, y636), (8, y638), (9, y640), (10, y642), (11, y644), (12, y646), (28, (m.1 28)), (69, (m.1 69)), (70, (m.1 70)), (71, (m.1 71)), (72, (m.1 72)), (73, (m.1 73)), (74, (m.1 74)), (75, (m.1 75)), (99, (m.1 99) + 1), (100, (m.1 100))]) (a' := [(65, (m.2 65)), (66, (m.2 66)), (67, (m.2 67)), (68, (m.2 68)), (76, (m.2 76)), (77, (m.2 77)), (78, (m.2 78)), (79, (m.2 79)), (80, (m.2 80)), (81, (m.2 81)), (82, (m.2 82)), (83, (m.2 83)), (84, (m.2 84)), (85, (m.2 85)), (86, (m.2 86)), (87, (m.2 87)), (88, (m.2 88)), (89, (m.2 89)), (90, (m.2 90)), (91, (m.2 91)), (92, (m.2 92)), (101, upI (m.2 101) (m.1 99) (m.1 7)), (102, (m.2 102)), (103, (m.2 103)), (104, (m.2 104)), (105, (m.2 105)), (106, (m.2 106)), (107, (m.2 107)), (108, (m.2 108))]) [7, 8, 9, 10, 11, 12] [] rfl ⟨rfl, rfl, rfl, rfl, rfl, rfl, rfl, rfl, rfl, rfl, rfl, rfl, rfl, rfl, rfl, rfl, rfl, rfl, rfl, rfl, rfl, rfl, rfl, rfl, rfl, rfl, rfl, rfl, rfl, rfl, rfl, rfl, trivial⟩ ⟨rfl, rfl, rfl, rfl, rfl, rfl, rfl, rfl, rfl, rfl, rfl, rfl, rfl, rfl, rfl, rfl, rfl, rfl, rfl, rfl, rfl, rfl, rfl, rfl, rfl, rfl, rfl, rfl, rfl, rfl, rfl, rfl, rfl, rfl, rfl, rfl, rfl, rfl, rfl, rfl, rfl, rfl, rfl, rfl, rfl, rfl, rfl, rfl, rfl, rfl, rfl, rfl, rfl, rfl, rfl, rfl, rfl, rfl, trivial⟩ rfl rfl (by decide) (by decide) ?_
          obtain ⟨g648a, g648b⟩ := g648
          replace h649 : LxP y636 y638 y640 (m.1 6) y642 := h649
          replace h650 : y483 ≤ y638 := h650
          replace h651 : y642 = 0 → y487 = 0 ∧ y483 + y485 ≤ y638 := h651
          replace h652 : y642 = 0 → y481 = 1 := h652
          replace h653 : 0 ≤ oo ∧ (oo < (m.1 22) ∨ oo = 0) := h653
          replace h654 : y642 = 0 → oo < (m.1 22) := h654
          have hf655 : 1 ≤ y642 := by omega
          clear h651
          clear h652
          clear h654
          have hLx := h649
          clear g482 g484 g486 g488 g490 g492 h493 h495 hf633 h650
          refine Tm_lv (a := [(0, .ref 189), (1, .int (i32 (m.1 99)))]) rfl rfl ⟨rfl, rfl, trivial⟩ ?_
          exact J170_98 oo (mO m [(7, y636), (8, y638), (9, y640), (10, y642), (11, y644), (12, y646), (28, (m.1 28)), (69, (m.1 69)), (70, (m.1 70)), (71, (m.1 71)), (72, (m.1 72)), (73, (m.1 73)), (74, (m.1 74)), (75, (m.1 75)), (99, (m.1 99) + 1), (100, (m.1 100))] [(65, (m.2 65)), (66, (m.2 66)), (67, (m.2 67)), (68, (m.2 68)), (76, (m.2 76)), (77, (m.2 77)), (78, (m.2 78)), (79, (m.2 79)), (80, (m.2 80)), (81, (m.2 81)), (82, (m.2 82)), (83, (m.2 83)), (84, (m.2 84)), (85, (m.2 85)), (86, (m.2 86)), (87, (m.2 87)), (88, (m.2 88)), (89, (m.2 89)), (90, (m.2 90)), (91, (m.2 91)), (92, (m.2 92)), (101, upI (m.2 101) (m.1 99) (m.1 7)), (102, (m.2 102)), (103, (m.2 103)), (104, (m.2 104)), (105, (m.2 105)), (106, (m.2 106)), (107, (m.2 107)), (108, (m.2 108))]) (r32 (by omega) (by omega)) (Ty_mO hT rfl rfl ⟨g637, g639, g641, g643, g645, g647, f28, f69, f70, f71, f72, f73, f74, f75, g339, f100, trivial⟩ ⟨(hT.2.1 65), (hT.2.1 66), (hT.2.1 67), (hT.2.1 68), (hT.2.1 76), (hT.2.1 77), (hT.2.1 78), (hT.2.1 79), (hT.2.1 80), (hT.2.1 81), (hT.2.1 82), (hT.2.1 83), (hT.2.1 84), (hT.2.1 85), (hT.2.1 86), (hT.2.1 87), (hT.2.1 88), (hT.2.1 89), (hT.2.1 90), (hT.2.1 91), (hT.2.1 92), G340, (hT.2.1 102), (hT.2.1 103), (hT.2.1 104), (hT.2.1 105), (hT.2.1 106), (hT.2.1 107), (hT.2.1 108), trivial⟩) (show 0 ≤ oo by omega) (show oo ≤ 7 by omega) (show 1 ≤ y642 by omega) (show y642 ≤ 8 by omega) (show 0 ≤ ((m.1 99) + 1) ∧ ((m.1 99) + 1) ≤ 240 by omega) (show 0 ≤ (m.1 99) ∧ (m.1 99) ≤ 240 by omega) (show 0 ≤ (m.1 99) ∧ (m.1 99) ≤ 240 by omega)
    · skip
      refine T_ld 74 (.ref 189) rfl (fun _ => rfl) ?_
      refine T_call 77 212 [.ref 189] [] rfl (fun _ => rfl) rfl (c_next w (mO m [(7, (m.1 7)), (8, (m.1 8)), (9, (m.1 9)), (10, (m.1 10)), (11, (m.1 11)), (12, (m.1 12)), (28, (m.1 28)), (69, (m.1 69)), (70, (m.1 70)), (71, (m.1 71)), (72, (m.1 72)), (73, (m.1 73)), (74, (m.1 74)), (75, (m.1 75)), (99, (m.1 99) + 1), (100, (m.1 100))] [(65, (m.2 65)), (66, (m.2 66)), (67, (m.2 67)), (68, (m.2 68)), (76, (m.2 76)), (77, (m.2 77)), (78, (m.2 78)), (79, (m.2 79)), (80, (m.2 80)), (81, (m.2 81)), (82, (m.2 82)), (83, (m.2 83)), (84, (m.2 84)), (85, (m.2 85)), (86, (m.2 86)), (87, (m.2 87)), (88, (m.2 88)), (89, (m.2 89)), (90, (m.2 90)), (91, (m.2 91)), (92, (m.2 92)), (101, upI (m.2 101) (m.1 99) (m.1 7)), (102, (m.2 102)), (103, (m.2 103)), (104, (m.2 104)), (105, (m.2 105)), (106, (m.2 106)), (107, (m.2 107)), (108, (m.2 108))]) c N D (by omega) (Ty_mO hT rfl rfl ⟨f7, f8, f9, f10, f11, f12, f28, f69, f70, f71, f72, f73, f74, f75, g339, f100, trivial⟩ ⟨(hT.2.1 65), (hT.2.1 66), (hT.2.1 67), (hT.2.1 68), (hT.2.1 76), (hT.2.1 77), (hT.2.1 78), (hT.2.1 79), (hT.2.1 80), (hT.2.1 81), (hT.2.1 82), (hT.2.1 83), (hT.2.1 84), (hT.2.1 85), (hT.2.1 86), (hT.2.1 87), (hT.2.1 88), (hT.2.1 89), (hT.2.1 90), (hT.2.1 91), (hT.2.1 92), G340, (hT.2.1 102), (hT.2.1 103), (hT.2.1 104), (hT.2.1 105), (hT.2.1 106), (hT.2.1 107), (hT.2.1 108), trivial⟩) (show (m.1 10) = 0 → (m.1 8) + (m.1 9) ≤ (m.1 6) by first | omega | (intro h9; have h8 := hLx h9; omega))) (fun rr656 k657 => ?_)
      obtain ⟨y658, y660, y662, y664, y666, y668, g659, g661, g663, g665, g667, g669, h670, h671, h672, h673, rfl⟩ := k657
      refine ⟨_, _, rfl, ?_⟩
      refine T_nf2 (st' := []) (l' := [(7, y658), (8, y660), (9, y662), (10, y664), (11, y666), (12, y668), (28, (m.1 28)), (69, (m.1 69)), (70, (m.1 70)), (71, (m.1 71)), (72, (m.1 72)), (73, (m.1 73)), (74, (m.1 74)), (75, (m.1 75)), (99, (m.1 99) + 1), (100, (m.1 100))]) (a' := [(65, (m.2 65)), (66, (m.2 66)), (67, (m.2 67)), (68, (m.2 68)), (76, (m.2 76)), (77, (m.2 77)), (78, (m.2 78)), (79, (m.2 79)), (80, (m.2 80)), (81, (m.2 81)), (82, (m.2 82)), (83, (m.2 83)), (84, (m.2 84)), (85, (m.2 85)), (86, (m.2 86)), (87, (m.2 87)), (88, (m.2 88)), (89, (m.2 89)), (90, (m.2 90)), (91, (m.2 91)), (92, (m.2 92)), (101, upI (m.2 101) (m.1 99) (m.1 7)), (102, (m.2 102)), (103, (m.2 103)), (104, (m.2 104)), (105, (m.2 105)), (106, (m.2 106)), (107, (m.2 107)), (108, (m.2 108))]) [7, 8, 9, 10, 11, 12] [] rfl ⟨rfl, rfl, rfl, rfl, rfl, rfl, rfl, rfl, rfl, rfl, rfl, rfl, rfl, rfl, rfl, rfl, rfl, rfl, rfl, rfl, rfl, rfl, rfl, rfl, rfl, rfl, rfl, rfl, rfl, rfl, rfl, rfl, trivial⟩ ⟨rfl, rfl, rfl, rfl, rfl, rfl, rfl, rfl, rfl, rfl, rfl, rfl, rfl, rfl, rfl, rfl, rfl, rfl, rfl, rfl, rfl, rfl, rfl, rfl, rfl, rfl, rfl, rfl, rfl, rfl, rfl, rfl, rfl, rfl, rfl, rfl, rfl, rfl, rfl, rfl, rfl, rfl, rfl, rfl, rfl, rfl, rfl, rfl, rfl, rfl, rfl, rfl, rfl, rfl, rfl, rfl, rfl, rfl, trivial⟩ rfl rfl (by decide) (by decide) ?_
      by_cases hf674 : y664 = 0
      · skip
        subst hf674
        replace h670 : LxP y658 y660 y662 (m.1 6) (0 : Int) := h670
        have hLx := h670
        replace h671 : (m.1 10) = 0 := h671 rfl
        replace h672 : (m.1 8) ≤ y660 := h672
        replace h673 : (m.1 8) + (m.1 9) ≤ y660 := h673 rfl
        have u675 : (m.1 8) + 1 ≤ y660 := by omega
        have hAgC : agr (m.2 65) (m.2 65) (m.1 28) := by first | exact agr_r _ _ | exact hAgC | exact agr_t hAgC hAg (by omega)
        have u676 : (m.1 28) ≤ (m.1 28) := by omega
        clear g665
        refine T_gf 81 (.ref 262) rfl rfl rfl rfl rfl rfl ?_
        refine T_ld 82 (.int (i32 (m.1 99))) rfl (fun _ => rfl) ?_
        refine T_ld 83 (.ref 189) rfl (fun _ => rfl) ?_
        refine T_call 86 271 [.ref 189] [.int (i32 (m.1 99)), .ref 262] rfl (fun _ => rfl) rfl (c_takePlace w (mO m [(7, y658), (8, y660), (9, y662), (10, 0), (11, y666), (12, y668), (28, (m.1 28)), (69, (m.1 69)), (70, (m.1 70)), (71, (m.1 71)), (72, (m.1 72)), (73, (m.1 73)), (74, (m.1 74)), (75, (m.1 75)), (99, (m.1 99) + 1), (100, (m.1 100))] [(65, (m.2 65)), (66, (m.2 66)), (67, (m.2 67)), (68, (m.2 68)), (76, (m.2 76)), (77, (m.2 77)), (78, (m.2 78)), (79, (m.2 79)), (80, (m.2 80)), (81, (m.2 81)), (82, (m.2 82)), (83, (m.2 83)), (84, (m.2 84)), (85, (m.2 85)), (86, (m.2 86)), (87, (m.2 87)), (88, (m.2 88)), (89, (m.2 89)), (90, (m.2 90)), (91, (m.2 91)), (92, (m.2 92)), (101, upI (m.2 101) (m.1 99) (m.1 7)), (102, (m.2 102)), (103, (m.2 103)), (104, (m.2 104)), (105, (m.2 105)), (106, (m.2 106)), (107, (m.2 107)), (108, (m.2 108))]) c N D (by omega) (Ty_mO hT rfl rfl ⟨g659, g661, g663, ⟨(by omega : (0 : Int) ≤ 0), (by omega : (0 : Int) ≤ 8)⟩, g667, g669, f28, f69, f70, f71, f72, f73, f74, f75, g339, f100, trivial⟩ ⟨(hT.2.1 65), (hT.2.1 66), (hT.2.1 67), (hT.2.1 68), (hT.2.1 76), (hT.2.1 77), (hT.2.1 78), (hT.2.1 79), (hT.2.1 80), (hT.2.1 81), (hT.2.1 82), (hT.2.1 83), (hT.2.1 84), (hT.2.1 85), (hT.2.1 86), (hT.2.1 87), (hT.2.1 88), (hT.2.1 89), (hT.2.1 90), (hT.2.1 91), (hT.2.1 92), G340, (hT.2.1 102), (hT.2.1 103), (hT.2.1 104), (hT.2.1 105), (hT.2.1 106), (hT.2.1 107), (hT.2.1 108), trivial⟩) (show LxP y658 y660 y662 (m.1 6) (0 : Int) by first | exact hLx | exact (fun _ => hLx (by omega)) | (intro h9; exfalso; omega)) (show ∀ k, (m.2 14) k + (m.2 15) k ≤ 4000 by assumption) (show ∀ k, (m.2 31) k + (m.2 32) k ≤ 4000 by assumption) (fun _ => (show PN (m.1 13) (m.1 19) (m.1 20) (m.1 21) (m.1 22) (m.1 23) (m.1 25) (m.1 26) (m.2 16) (m.2 17) by assumption))) (fun rr677 k678 => ?_)
        obtain ⟨m679, tp, hT680, g681, h682, h683, c684, rfl⟩ := k678
        refine ⟨_, _, rfl, ?_⟩
        refine T_nf2 (st' := [.int (i32 tp), .int (i32 (m.1 99)), .ref 262]) (l' := [(7, (m679.1 7)), (8, (m679.1 8)), (9, (m679.1 9)), (10, (m679.1 10)), (11, (m679.1 11)), (12, (m679.1 12)), (28, (m.1 28)), (69, (m.1 69)), (70, (m.1 70)), (71, (m.1 71)), (72, (m.1 72)), (73, (m.1 73)), (74, (m.1 74)), (75, (m.1 75)), (99, (m.1 99) + 1), (100, (m679.1 100))]) (a' := [(65, (m.2 65)), (66, (m.2 66)), (67, (m.2 67)), (68, (m.2 68)), (76, (m.2 76)), (77, (m.2 77)), (78, (m.2 78)), (79, (m.2 79)), (80, (m.2 80)), (81, (m.2 81)), (82, (m.2 82)), (83, (m.2 83)), (84, (m.2 84)), (85, (m.2 85)), (86, (m.2 86)), (87, (m.2 87)), (88, (m.2 88)), (89, (m.2 89)), (90, (m.2 90)), (91, (m.2 91)), (92, (m.2 92)), (101, upI (m.2 101) (m.1 99) (m.1 7)), (102, (m.2 102)), (103, (m.2 103)), (104, (m.2 104)), (105, (m.2 105)), (106, (m.2 106)), (107, (m.2 107)), (108, (m.2 108))]) [7, 8, 9, 10, 11, 12, 100] [] rfl ⟨rfl, rfl, rfl, rfl, rfl, rfl, rfl, rfl, rfl, rfl, rfl, rfl, rfl, rfl, rfl, rfl, rfl, rfl, rfl, rfl, rfl, rfl, rfl, rfl, rfl, rfl, rfl, rfl, rfl, rfl, rfl, rfl, rfl, rfl, rfl, rfl, rfl, rfl, rfl, rfl, rfl, trivial⟩ ⟨rfl, rfl, rfl, rfl, rfl, rfl, rfl, rfl, rfl, rfl, rfl, rfl, rfl, rfl, rfl, rfl, rfl, rfl, rfl, rfl, rfl, rfl, rfl, rfl, rfl, rfl, rfl, rfl, rfl, rfl, rfl, rfl, rfl, rfl, rfl, rfl, rfl, rfl, rfl, rfl, rfl, rfl, rfl, rfl, rfl, rfl, rfl, rfl, rfl, rfl, rfl, rfl, rfl, rfl, rfl, rfl, rfl, rfl, trivial⟩ rfl rfl (by decide) (by decide) ?_
        obtain ⟨g681a, g681b⟩ := g681
        have g685 : 0 ≤ m679.1 7 ∧ m679.1 7 ≤ 330 := hT680.1 7
        have g686 : 0 ≤ m679.1 8 ∧ m679.1 8 ≤ 4000 := hT680.1 8
        have g687 : 0 ≤ m679.1 9 ∧ m679.1 9 ≤ 4000 := hT680.1 9
        have g688 : 0 ≤ m679.1 10 ∧ m679.1 10 ≤ 8 := hT680.1 10
        have g689 : (-1) ≤ m679.1 11 ∧ m679.1 11 ≤ 4000 := hT680.1 11
        have g690 : (-9223372036854775808) ≤ m679.1 12 ∧ m679.1 12 ≤ 9223372036854775807 := hT680.1 12
        have g691 : 0 ≤ m679.1 100 ∧ m679.1 100 ≤ 64 := hT680.1 100
        by_cases hf692 : (m679.1 10) = 0
        · skip
          replace h682 : (0 : Int) = 0 := h682 hf692
          replace h683 : LxP (m679.1 7) (m679.1 8) (m679.1 9) (m.1 6) (m679.1 10) := h683
          have hLx := h683
          have c693 := c684 hf692
          replace c693 : y660 + 1 ≤ (m679.1 8) := c693
          clear c684
          have u694 : (m.1 8) + 1 ≤ (m679.1 8) := by omega
          have hAgC : agr (m.2 65) (m.2 65) (m.1 28) := by first | exact agr_r _ _ | exact hAgC | exact agr_t hAgC hAg (by omega)
          have u695 : (m.1 28) ≤ (m.1 28) := by omega
          clear g659 g661 g663 g667 g669 h670 h672 h673 u675 c693
          have G696 : ∀ j, 0 ≤ (upI (m.2 102) (m.1 99) tp) j ∧ (upI (m.2 102) (m.1 99) tp) j ≤ 207 := upI_rg (hT.2.1 102) ⟨by omega, by omega⟩
          refine T_iast (a' := [(65, (m.2 65)), (66, (m.2 66)), (67, (m.2 67)), (68, (m.2 68)), (76, (m.2 76)), (77, (m.2 77)), (78, (m.2 78)), (79, (m.2 79)), (80, (m.2 80)), (81, (m.2 81)), (82, (m.2 82)), (83, (m.2 83)), (84, (m.2 84)), (85, (m.2 85)), (86, (m.2 86)), (87, (m.2 87)), (88, (m.2 88)), (89, (m.2 89)), (90, (m.2 90)), (91, (m.2 91)), (92, (m.2 92)), (101, upI (m.2 101) (m.1 99) (m.1 7)), (102, upI (m.2 102) (m.1 99) tp), (103, (m.2 103)), (104, (m.2 104)), (105, (m.2 105)), (106, (m.2 106)), (107, (m.2 107)), (108, (m.2 108))]) 87 102 (m.2 102) rfl rfl rfl (by omega) (show (m.1 99) < (240 : Int) by omega) rfl rfl ?_
          refine T_gf 91 (.int (i32 (m679.1 8))) rfl rfl rfl rfl rfl rfl ?_
          refine T_sto 92 [(2, .int (i32 (m679.1 8))), (1, .int (i32 (m.1 99))), (0, .ref 189)] rfl (fun _ => rfl) ?_
          refine T_gf 96 (.ref 263) rfl rfl rfl rfl rfl rfl ?_
          refine T_ld 97 (.int (i32 (m.1 99))) rfl (fun _ => rfl) ?_
          refine T_ld 98 (.ref 189) rfl (fun _ => rfl) ?_
          refine T_ld 99 (.int (i32 4)) rfl (fun _ => rfl) ?_
          have hOL : (m679.1 10) = 0 → ∀ k, 0 ≤ k → k < (m.1 13) → (m.2 16) k = 4 → 0 ≤ (m.2 17) k ∧ (m.2 17) k < (m.1 22) := fun _ k h1 h2 h3 => by
            have h4 := PNl_4 pPN k h1 h2 h3
            omega
          refine T_call 102 236 [.ref 189, .int (i32 4)] [.int (i32 (m.1 99)), .ref 263] rfl (fun _ => rfl) rfl (c_oldName w (mO m [(7, (m679.1 7)), (8, (m679.1 8)), (9, (m679.1 9)), (10, (m679.1 10)), (11, (m679.1 11)), (12, (m679.1 12)), (28, (m.1 28)), (69, (m.1 69)), (70, (m.1 70)), (71, (m.1 71)), (72, (m.1 72)), (73, (m.1 73)), (74, (m.1 74)), (75, (m.1 75)), (99, (m.1 99) + 1), (100, (m679.1 100))] [(65, (m.2 65)), (66, (m.2 66)), (67, (m.2 67)), (68, (m.2 68)), (76, (m.2 76)), (77, (m.2 77)), (78, (m.2 78)), (79, (m.2 79)), (80, (m.2 80)), (81, (m.2 81)), (82, (m.2 82)), (83, (m.2 83)), (84, (m.2 84)), (85, (m.2 85)), (86, (m.2 86)), (87, (m.2 87)), (88, (m.2 88)), (89, (m.2 89)), (90, (m.2 90)), (91, (m.2 91)), (92, (m.2 92)), (101, upI (m.2 101) (m.1 99) (m.1 7)), (102, upI (m.2 102) (m.1 99) tp), (103, (m.2 103)), (104, (m.2 104)), (105, (m.2 105)), (106, (m.2 106)), (107, (m.2 107)), (108, (m.2 108))]) c N D (by omega) (Ty_mO hT rfl rfl ⟨(hT680.1 7), (hT680.1 8), (hT680.1 9), (hT680.1 10), (hT680.1 11), (hT680.1 12), f28, f69, f70, f71, f72, f73, f74, f75, g339, (hT680.1 100), trivial⟩ ⟨(hT.2.1 65), (hT.2.1 66), (hT.2.1 67), (hT.2.1 68), (hT.2.1 76), (hT.2.1 77), (hT.2.1 78), (hT.2.1 79), (hT.2.1 80), (hT.2.1 81), (hT.2.1 82), (hT.2.1 83), (hT.2.1 84), (hT.2.1 85), (hT.2.1 86), (hT.2.1 87), (hT.2.1 88), (hT.2.1 89), (hT.2.1 90), (hT.2.1 91), (hT.2.1 92), G340, G696, (hT.2.1 103), (hT.2.1 104), (hT.2.1 105), (hT.2.1 106), (hT.2.1 107), (hT.2.1 108), trivial⟩) 4 (m.1 22) ⟨by decide, by decide⟩ (show LxP (m679.1 7) (m679.1 8) (m679.1 9) (m.1 6) (m679.1 10) by first | exact hLx | (intro h9; exfalso; omega) | (intro h9; have h8 := hLx (by omega); omega)) (show ∀ k, (m.2 14) k + (m.2 15) k ≤ 4000 by first | exact p1 | exact hNM) (show 1 ≤ (4 : Int) ∧ (4 : Int) ≤ 7 ∧ (4 : Int) ≠ 5 by omega) (show (m.1 22) ≤ 16 by omega) (show (m679.1 10) = 0 → ∀ k, 0 ≤ k → k < (m.1 13) → (m.2 16) k = (4 : Int) → 0 ≤ (m.2 17) k ∧ (m.2 17) k < (m.1 22) by first | exact hOL | (intro h; exfalso; omega)) (show (4 : Int) = 3 → 3 ≤ (m.1 22) by omega)) (fun rr697 k698 => ?_)
          obtain ⟨y699, y701, y703, y705, y707, y709, oo, g700, g702, g704, g706, g708, g710, g711, h712, h713, h714, h715, h716, h717, rfl⟩ := k698
          refine ⟨_, _, rfl, ?_⟩
          refine T_nf2 (st' := [.int (i32 oo), .int (i32 (m.1 99)), .ref 263]) (l' := [(7, y699), (8, y701), (9, y703), (10, y705), (11, y707), (12, y709), (28, (m.1 28)), (69, (m.1 69)), (70, (m.1 70)), (71, (m.1 71)), (72, (m.1 72)), (73, (m.1 73)), (74, (m.1 74)), (75, (m.1 75)), (99, (m.1 99) + 1), (100, (m679.1 100))]) (a' := [(65, (m.2 65)), (66, (m.2 66)), (67, (m.2 67)), (68, (m.2 68)), (76, (m.2 76)), (77, (m.2 77)), (78, (m.2 78)), (79, (m.2 79)), (80, (m.2 80)), (81, (m.2 81)), (82, (m.2 82)), (83, (m.2 83)), (84, (m.2 84)), (85, (m.2 85)), (86, (m.2 86)), (87, (m.2 87)), (88, (m.2 88)), (89, (m.2 89)), (90, (m.2 90)), (91, (m.2 91)), (92, (m.2 92)), (101, upI (m.2 101) (m.1 99) (m.1 7)), (102, upI (m.2 102) (m.1 99) tp), (103, (m.2 103)), (104, (m.2 104)), (105, (m.2 105)), (106, (m.2 106)), (107, (m.2 107)), (108, (m.2 108))]) [7, 8, 9, 10, 11, 12] [] rfl ⟨rfl, rfl, rfl, rfl, rfl, rfl, rfl, rfl, rfl, rfl, rfl, rfl, rfl, rfl, rfl, rfl, rfl, rfl, rfl, rfl, rfl, rfl, rfl, rfl, rfl, rfl, rfl, rfl, rfl, rfl, rfl, rfl, trivial⟩ ⟨rfl, rfl, rfl, rfl, rfl, rfl, rfl, rfl, rfl, rfl, rfl, rfl, rfl, rfl, rfl, rfl, rfl, rfl, rfl, rfl, rfl, rfl, rfl, rfl, rfl, rfl, rfl, rfl, rfl, rfl, rfl, rfl, rfl, rfl, rfl, rfl, rfl, rfl, rfl, rfl, rfl, rfl, rfl, rfl, rfl, rfl, rfl, rfl, rfl, rfl, rfl, rfl, rfl, rfl, rfl, rfl, rfl, rfl, trivial⟩ rfl rfl (by decide) (by decide) ?_
          obtain ⟨g711a, g711b⟩ := g711
          by_cases hf718 : y705 = 0
          · skip
            subst hf718
            replace h712 : LxP y699 y701 y703 (m.1 6) (0 : Int) := h712
            have hLx := h712
            replace h713 : (m679.1 8) ≤ y701 := h713
            replace h714 : (m679.1 10) = 0 ∧ (m679.1 8) + (m679.1 9) ≤ y701 := h714 rfl
            replace h715 : (m679.1 7) = 1 := h715 rfl
            replace h716 : 0 ≤ oo ∧ (oo < (m.1 22) ∨ oo = 0) := h716
            replace h717 : oo < (m.1 22) := h717 rfl
            have u719 : (m.1 8) + 1 ≤ y701 := by omega
            have hAgC : agr (m.2 65) (m.2 65) (m.1 28) := by first | exact agr_r _ _ | exact hAgC | exact agr_t hAgC hAg (by omega)
            have u720 : (m.1 28) ≤ (m.1 28) := by omega
            clear g685 g687 g688 g689 g690 h683 g706 h714 h715
            have G721 : ∀ j, 0 ≤ (upI (m.2 103) (m.1 99) oo) j ∧ (upI (m.2 103) (m.1 99) oo) j ≤ 7 := upI_rg (hT.2.1 103) ⟨by omega, by omega⟩
            refine T_iast (a' := [(65, (m.2 65)), (66, (m.2 66)), (67, (m.2 67)), (68, (m.2 68)), (76, (m.2 76)), (77, (m.2 77)), (78, (m.2 78)), (79, (m.2 79)), (80, (m.2 80)), (81, (m.2 81)), (82, (m.2 82)), (83, (m.2 83)), (84, (m.2 84)), (85, (m.2 85)), (86, (m.2 86)), (87, (m.2 87)), (88, (m.2 88)), (89, (m.2 89)), (90, (m.2 90)), (91, (m.2 91)), (92, (m.2 92)), (101, upI (m.2 101) (m.1 99) (m.1 7)), (102, upI (m.2 102) (m.1 99) tp), (103, upI (m.2 103) (m.1 99) oo), (104, (m.2 104)), (105, (m.2 105)), (106, (m.2 106)), (107, (m.2 107)), (108, (m.2 108))]) 103 103 (m.2 103) rfl rfl rfl (by omega) (show (m.1 99) < (240 : Int) by omega) rfl rfl ?_
            refine T_gf 107 (.int (i32 0)) rfl rfl rfl rfl rfl rfl ?_
            refine T_if 138 110 rfl rfl rfl ⟨by decide, by decide⟩ (fun h722 => absurd (show (0 : Int) ≠ 0 from h722) (by decide)) (fun _ => ?_)
            refine T_ld 111 (.ref 189) rfl (fun _ => rfl) ?_
            refine T_gf 115 (.ref 206) rfl rfl rfl rfl rfl rfl ?_
            refine T_gf 119 (.ref 263) rfl rfl rfl rfl rfl rfl ?_
            refine T_ld 120 (.int (i32 (m.1 99))) rfl (fun _ => rfl) ?_
            refine T_iald 121 103 (upI (m.2 103) (m.1 99) oo) rfl rfl rfl (by omega) (show (m.1 99) < (240 : Int) by omega) rfl ?_
            refine T_cast oo upI_s ?_
            refine T_iald 122 36 (m.2 36) rfl rfl rfl (by omega) (show oo < (8 : Int) by omega) rfl ?_
            have e723 : 0 ≤ m.2 36 oo ∧ m.2 36 oo ≤ 64 := hT.2.1 36 oo
            refine T_gf 126 (.int (i32 (m679.1 100))) rfl rfl rfl rfl rfl rfl ?_
            refine T_icmp 133 129 rfl rfl rfl (r32 (by omega) (by omega)) (r32 (by omega) (by omega)) (fun (h724 : (m.2 36) oo ≠ (m679.1 100)) => ?_) (fun (h724 : ¬ ((m.2 36) oo ≠ (m679.1 100))) => ?_)
            · skip
              refine T_ld 134 (.int (i32 0)) rfl (fun _ => rfl) ?_
              refine T_ld 135 (.int (i32 (m679.1 8))) rfl (fun _ => rfl) ?_
              refine T_call 138 256 [.ref 189, .int (i32 0), .int (i32 (m679.1 8))] [] rfl (fun _ => rfl) rfl (c_want w (mO m [(7, y699), (8, y701), (9, y703), (10, 0), (11, y707), (12, y709), (28, (m.1 28)), (69, (m.1 69)), (70, (m.1 70)), (71, (m.1 71)), (72, (m.1 72)), (73, (m.1 73)), (74, (m.1 74)), (75, (m.1 75)), (99, (m.1 99) + 1), (100, (m679.1 100))] [(65, (m.2 65)), (66, (m.2 66)), (67, (m.2 67)), (68, (m.2 68)), (76, (m.2 76)), (77, (m.2 77)), (78, (m.2 78)), (79, (m.2 79)), (80, (m.2 80)), (81, (m.2 81)), (82, (m.2 82)), (83, (m.2 83)), (84, (m.2 84)), (85, (m.2 85)), (86, (m.2 86)), (87, (m.2 87)), (88, (m.2 88)), (89, (m.2 89)), (90, (m.2 90)), (91, (m.2 91)), (92, (m.2 92)), (101, upI (m.2 101) (m.1 99) (m.1 7)), (102, upI (m.2 102) (m.1 99) tp), (103, upI (m.2 103) (m.1 99) oo), (104, (m.2 104)), (105, (m.2 105)), (106, (m.2 106)), (107, (m.2 107)), (108, (m.2 108))]) c N D (by omega) (Ty_mO hT rfl rfl ⟨g700, g702, g704, ⟨(by omega : (0 : Int) ≤ 0), (by omega : (0 : Int) ≤ 8)⟩, g708, g710, f28, f69, f70, f71, f72, f73, f74, f75, g339, (hT680.1 100), trivial⟩ ⟨(hT.2.1 65), (hT.2.1 66), (hT.2.1 67), (hT.2.1 68), (hT.2.1 76), (hT.2.1 77), (hT.2.1 78), (hT.2.1 79), (hT.2.1 80), (hT.2.1 81), (hT.2.1 82), (hT.2.1 83), (hT.2.1 84), (hT.2.1 85), (hT.2.1 86), (hT.2.1 87), (hT.2.1 88), (hT.2.1 89), (hT.2.1 90), (hT.2.1 91), (hT.2.1 92), G340, G696, G721, (hT.2.1 104), (hT.2.1 105), (hT.2.1 106), (hT.2.1 107), (hT.2.1 108), trivial⟩) 0 (m679.1 8) ⟨by decide, by decide⟩ (r32 (by omega) (by omega)) (show 0 ≤ (m679.1 8) ∧ (m679.1 8) ≤ 4000 by omega) (fun _ => trivial)) (fun rr725 k726 => ?_)
              obtain ⟨m727, hT728, h729, c730, rfl⟩ := k726
              refine ⟨_, _, rfl, ?_⟩
              refine T_nf2 (st' := []) (l' := [(7, y699), (8, y701), (9, y703), (10, (m727.1 10)), (11, (m727.1 11)), (12, y709), (28, (m.1 28)), (69, (m.1 69)), (70, (m.1 70)), (71, (m.1 71)), (72, (m.1 72)), (73, (m.1 73)), (74, (m.1 74)), (75, (m.1 75)), (99, (m.1 99) + 1), (100, (m679.1 100))]) (a' := [(65, (m.2 65)), (66, (m.2 66)), (67, (m.2 67)), (68, (m.2 68)), (76, (m.2 76)), (77, (m.2 77)), (78, (m.2 78)), (79, (m.2 79)), (80, (m.2 80)), (81, (m.2 81)), (82, (m.2 82)), (83, (m.2 83)), (84, (m.2 84)), (85, (m.2 85)), (86, (m.2 86)), (87, (m.2 87)), (88, (m.2 88)), (89, (m.2 89)), (90, (m.2 90)), (91, (m.2 91)), (92, (m.2 92)), (101, upI (m.2 101) (m.1 99) (m.1 7)), (102, upI (m.2 102) (m.1 99) tp), (103, upI (m.2 103) (m.1 99) oo), (104, (m.2 104)), (105, (m.2 105)), (106, (m.2 106)), (107, (m.2 107)), (108, (m.2 108))]) [10, 11] [] rfl ⟨rfl, rfl, rfl, rfl, rfl, rfl, rfl, rfl, rfl, rfl, rfl, rfl, rfl, rfl, rfl, rfl, rfl, rfl, rfl, rfl, rfl, rfl, rfl, rfl, rfl, rfl, rfl, rfl, rfl, rfl, rfl, rfl, rfl, rfl, rfl, trivial⟩ ⟨rfl, rfl, rfl, rfl, rfl, rfl, rfl, rfl, rfl, rfl, rfl, rfl, rfl, rfl, rfl, rfl, rfl, rfl, rfl, rfl, rfl, rfl, rfl, rfl, rfl, rfl, rfl, rfl, rfl, rfl, rfl, rfl, rfl, rfl, rfl, rfl, rfl, rfl, rfl, rfl, rfl, rfl, rfl, rfl, rfl, rfl, rfl, rfl, rfl, rfl, rfl, rfl, rfl, rfl, rfl, rfl, rfl, rfl, trivial⟩ rfl rfl (by decide) (by decide) ?_
              have g731 : 0 ≤ m727.1 10 ∧ m727.1 10 ≤ 8 := hT728.1 10
              have g732 : (-1) ≤ m727.1 11 ∧ m727.1 11 ≤ 4000 := hT728.1 11
              by_cases hf733 : (m727.1 10) = 0
              · skip
                replace h729 : (0 : Int) = 0 := h729 hf733
                have c734 := c730 hf733
                replace c734 : (0 : Int) ≠ 0 := c734
                clear c730
                have u735 : (m.1 8) + 1 ≤ y701 := by omega
                have hAgC : agr (m.2 65) (m.2 65) (m.1 28) := by first | exact agr_r _ _ | exact hAgC | exact agr_t hAgC hAg (by omega)
                have u736 : (m.1 28) ≤ (m.1 28) := by omega
                clear g708
                refine T_ld 139 (.ref 189) rfl (fun _ => rfl) ?_
                refine T_ld 140 (.int (i32 (m.1 99))) rfl (fun _ => rfl) ?_
                refine T_call 143 274 [.ref 189, .int (i32 (m.1 99))] [] rfl (fun _ => rfl) rfl (c_takeIndex w (mO m [(7, y699), (8, y701), (9, y703), (10, (m727.1 10)), (11, (m727.1 11)), (12, y709), (28, (m.1 28)), (69, (m.1 69)), (70, (m.1 70)), (71, (m.1 71)), (72, (m.1 72)), (73, (m.1 73)), (74, (m.1 74)), (75, (m.1 75)), (99, (m.1 99) + 1), (100, (m679.1 100))] [(65, (m.2 65)), (66, (m.2 66)), (67, (m.2 67)), (68, (m.2 68)), (76, (m.2 76)), (77, (m.2 77)), (78, (m.2 78)), (79, (m.2 79)), (80, (m.2 80)), (81, (m.2 81)), (82, (m.2 82)), (83, (m.2 83)), (84, (m.2 84)), (85, (m.2 85)), (86, (m.2 86)), (87, (m.2 87)), (88, (m.2 88)), (89, (m.2 89)), (90, (m.2 90)), (91, (m.2 91)), (92, (m.2 92)), (101, upI (m.2 101) (m.1 99) (m.1 7)), (102, upI (m.2 102) (m.1 99) tp), (103, upI (m.2 103) (m.1 99) oo), (104, (m.2 104)), (105, (m.2 105)), (106, (m.2 106)), (107, (m.2 107)), (108, (m.2 108))]) c N D (by omega) (Ty_mO hT rfl rfl ⟨g700, g702, g704, (hT728.1 10), (hT728.1 11), g710, f28, f69, f70, f71, f72, f73, f74, f75, g339, (hT680.1 100), trivial⟩ ⟨(hT.2.1 65), (hT.2.1 66), (hT.2.1 67), (hT.2.1 68), (hT.2.1 76), (hT.2.1 77), (hT.2.1 78), (hT.2.1 79), (hT.2.1 80), (hT.2.1 81), (hT.2.1 82), (hT.2.1 83), (hT.2.1 84), (hT.2.1 85), (hT.2.1 86), (hT.2.1 87), (hT.2.1 88), (hT.2.1 89), (hT.2.1 90), (hT.2.1 91), (hT.2.1 92), G340, G696, G721, (hT.2.1 104), (hT.2.1 105), (hT.2.1 106), (hT.2.1 107), (hT.2.1 108), trivial⟩) (m.1 99) (r32 (by omega) (by omega)) (show LxP y699 y701 y703 (m.1 6) (m727.1 10) by first | exact hLx | exact (fun _ => hLx (by omega)) | (intro h9; exfalso; omega)) (show ∀ k, (m.2 14) k + (m.2 15) k ≤ 4000 by assumption) (show ∀ k, (m.2 31) k + (m.2 32) k ≤ 4000 by assumption) (show ∀ k, (m.2 47) k + (m.2 48) k ≤ 4000 by assumption) (show 0 ≤ (m.1 99) ∧ (m.1 99) ≤ 239 by omega) (fun _ => ⟨(show PN (m.1 13) (m.1 19) (m.1 20) (m.1 21) (m.1 22) (m.1 23) (m.1 25) (m.1 26) (m.2 16) (m.2 17) by assumption), (show CN (m.2 65) (m.2 67) (m.1 28) by assumption)⟩)) (fun rr737 k738 => ?_)
                obtain ⟨m739, hT740, h741, h742, c743, rfl⟩ := k738
                refine ⟨_, _, rfl, ?_⟩
                refine T_nf2 (st' := []) (l' := [(7, (m739.1 7)), (8, (m739.1 8)), (9, (m739.1 9)), (10, (m739.1 10)), (11, (m739.1 11)), (12, (m739.1 12)), (28, (m739.1 28)), (69, (m739.1 69)), (70, (m739.1 70)), (71, (m739.1 71)), (72, (m739.1 72)), (73, (m739.1 73)), (74, (m739.1 74)), (75, (m739.1 75)), (99, (m.1 99) + 1), (100, (m679.1 100))]) (a' := [(65, (m739.2 65)), (66, (m739.2 66)), (67, (m739.2 67)), (68, (m739.2 68)), (76, (m739.2 76)), (77, (m739.2 77)), (78, (m739.2 78)), (79, (m739.2 79)), (80, (m739.2 80)), (81, (m739.2 81)), (82, (m739.2 82)), (83, (m739.2 83)), (84, (m739.2 84)), (85, (m739.2 85)), (86, (m739.2 86)), (87, (m739.2 87)), (88, (m739.2 88)), (89, (m739.2 89)), (90, (m739.2 90)), (91, (m739.2 91)), (92, (m739.2 92)), (101, upI (m.2 101) (m.1 99) (m.1 7)), (102, upI (m.2 102) (m.1 99) tp), (103, upI (m.2 103) (m.1 99) oo), (104, (m.2 104)), (105, (m739.2 105)), (106, (m739.2 106)), (107, (m.2 107)), (108, (m.2 108))]) [7, 8, 9, 10, 11, 12, 28, 69, 70, 71, 72, 73, 74, 75] [65, 66, 67, 68, 76, 77, 78, 79, 80, 81, 82, 83, 84, 85, 86, 87, 88, 89, 90, 91, 92, 105, 106] rfl ⟨rfl, rfl, rfl, rfl, rfl, rfl, rfl, rfl, rfl, rfl, rfl, rfl, rfl, rfl, rfl, rfl, rfl, rfl, rfl, rfl, rfl, rfl, rfl, rfl, rfl, rfl, rfl, rfl, rfl, rfl, rfl, rfl, trivial⟩ ⟨rfl, rfl, rfl, rfl, rfl, rfl, rfl, rfl, rfl, rfl, rfl, rfl, rfl, rfl, rfl, rfl, rfl, rfl, rfl, rfl, rfl, rfl, rfl, rfl, rfl, rfl, rfl, rfl, rfl, rfl, rfl, rfl, rfl, rfl, rfl, rfl, rfl, rfl, rfl, rfl, rfl, rfl, rfl, rfl, rfl, rfl, rfl, rfl, rfl, rfl, rfl, rfl, rfl, rfl, rfl, rfl, rfl, rfl, rfl, rfl, rfl, rfl, trivial⟩ rfl rfl (by decide) (by decide) ?_
                have g744 : 0 ≤ m739.1 7 ∧ m739.1 7 ≤ 330 := hT740.1 7
                have g745 : 0 ≤ m739.1 8 ∧ m739.1 8 ≤ 4000 := hT740.1 8
                have g746 : 0 ≤ m739.1 9 ∧ m739.1 9 ≤ 4000 := hT740.1 9
                have g747 : 0 ≤ m739.1 10 ∧ m739.1 10 ≤ 8 := hT740.1 10
                have g748 : (-1) ≤ m739.1 11 ∧ m739.1 11 ≤ 4000 := hT740.1 11
                have g749 : (-9223372036854775808) ≤ m739.1 12 ∧ m739.1 12 ≤ 9223372036854775807 := hT740.1 12
                have g750 : 0 ≤ m739.1 28 ∧ m739.1 28 ≤ 800 := hT740.1 28
                have g751 : 0 ≤ m739.1 69 ∧ m739.1 69 ≤ 1024 := hT740.1 69
                have g752 : 0 ≤ m739.1 70 ∧ m739.1 70 ≤ 4000 := hT740.1 70
                have g753 : 0 ≤ m739.1 71 ∧ m739.1 71 ≤ 1 := hT740.1 71
                have g754 : (-9223372036854775808) ≤ m739.1 72 ∧ m739.1 72 ≤ 9223372036854775807 := hT740.1 72
                have g755 : 0 ≤ m739.1 73 ∧ m739.1 73 ≤ 60 := hT740.1 73
                have g756 : 0 ≤ m739.1 74 ∧ m739.1 74 ≤ 24 := hT740.1 74
                have g757 : 0 ≤ m739.1 75 ∧ m739.1 75 ≤ 3 := hT740.1 75
                by_cases hf758 : (m739.1 10) = 0
                · skip
                  replace h741 : (m727.1 10) = 0 := h741 hf758
                  replace h742 : LxP (m739.1 7) (m739.1 8) (m739.1 9) (m.1 6) (m739.1 10) := h742
                  have hLx := h742
                  obtain ⟨c759, c760, c761, c762, c763, c764, c765⟩ := c743 hf758
                  replace c759 : y701 + 1 ≤ (m739.1 8) := c759
                  replace c760 : CN (m739.2 65) (m739.2 67) (m739.1 28) := c760
                  have hCN := c760
                  replace c761 : agr (m.2 65) (m739.2 65) (m.1 28) := c761
                  have hAg := c761
                  replace c762 : (m.1 28) ≤ (m739.1 28) := c762
                  replace c763 : cdr (m739.2 65) (m739.1 28) ((m739.2 105) (m.1 99)) ((m739.2 106) (m.1 99)) := c763
                  have hXc := c763
                  replace c764 : agr (m.2 105) (m739.2 105) (m.1 99) := c764
                  have hI1 := c764
                  replace c765 : agr (m.2 106) (m739.2 106) (m.1 99) := c765
                  have hI2 := c765
                  clear c743
                  have u766 : (m.1 8) + 1 ≤ (m739.1 8) := by omega
                  have hAgC : agr (m.2 65) (m739.2 65) (m.1 28) := by first | exact agr_r _ _ | exact hAgC | exact agr_t hAgC hAg (by omega)
                  have u767 : (m.1 28) ≤ (m739.1 28) := by omega
                  clear g700 g702 g704 g710 h712 h713 u719 g731 g732 u735 h741 c759
                  refine T_goto 229 rfl (fun _ => rfl) ?_
                  have w1 : agr (m.2 101) (upI (m.2 101) (m.1 99) (m.1 7)) (m.1 99) := by first | exact agr_u (Int.le_refl _) | exact agr_r _ _
                  have w2 : agr (m.2 103) (upI (m.2 103) (m.1 99) oo) (m.1 99) := by first | exact agr_u (Int.le_refl _) | exact agr_r _ _
                  have w3 : agr (m.2 105) (m739.2 105) (m.1 99) := by first | exact hI1 | exact agr_u (Int.le_refl _) | exact agr_r _ _
                  have w4 : agr (m.2 106) (m739.2 106) (m.1 99) := by first | exact hI2 | exact agr_u (Int.le_refl _) | exact agr_r _ _
                  have w5 : agr (m.2 107) (m.2 107) (m.1 99) := by first | exact hJ1 | exact agr_u (Int.le_refl _) | exact agr_r _ _
                  have w6 : agr (m.2 108) (m.2 108) (m.1 99) := by first | exact hJ2 | exact agr_u (Int.le_refl _) | exact agr_r _ _
                  have hR : TdR (m739.2 65) (m739.1 28) (m.1 22) (m.1 99) (upI (m.2 101) (m.1 99) (m.1 7)) (upI (m.2 103) (m.1 99) oo) (m739.2 105) (m739.2 106) (m.2 107) (m.2 108) := by
                    refine ⟨fun h => ?_, fun h => ?_⟩ <;> rw [upI_s] at h <;> first | exact hEc | exact ⟨hXc, by rw [upI_s]; omega⟩ | exact ⟨cdr_f hXc hAg (by omega), by rw [upI_s]; omega⟩ | omega
                  have hTd2 : TdP (m739.2 65) (m739.1 28) (m.1 22) ((m.1 99) + 1) (upI (m.2 101) (m.1 99) (m.1 7)) (upI (m.2 103) (m.1 99) oo) (m739.2 105) (m739.2 106) (m.2 107) (m.2 108) := TdP_add (TdP_f pTd hAgC (by omega) w1 w2 w3 w4 w5 w6) hR
                  refine T_ld 230 (.ref 189) rfl (fun _ => rfl) ?_
                  refine T_ld 232 (.int (i32 59)) rfl (fun _ => rfl) ?_
                  refine T_call 235 232 [.ref 189, .int (i32 59)] [] rfl (fun _ => rfl) rfl (c_need w (mO m [(7, (m739.1 7)), (8, (m739.1 8)), (9, (m739.1 9)), (10, (m739.1 10)), (11, (m739.1 11)), (12, (m739.1 12)), (28, (m739.1 28)), (69, (m739.1 69)), (70, (m739.1 70)), (71, (m739.1 71)), (72, (m739.1 72)), (73, (m739.1 73)), (74, (m739.1 74)), (75, (m739.1 75)), (99, (m.1 99) + 1), (100, (m679.1 100))] [(65, (m739.2 65)), (66, (m739.2 66)), (67, (m739.2 67)), (68, (m739.2 68)), (76, (m739.2 76)), (77, (m739.2 77)), (78, (m739.2 78)), (79, (m739.2 79)), (80, (m739.2 80)), (81, (m739.2 81)), (82, (m739.2 82)), (83, (m739.2 83)), (84, (m739.2 84)), (85, (m739.2 85)), (86, (m739.2 86)), (87, (m739.2 87)), (88, (m739.2 88)), (89, (m739.2 89)), (90, (m739.2 90)), (91, (m739.2 91)), (92, (m739.2 92)), (101, upI (m.2 101) (m.1 99) (m.1 7)), (102, upI (m.2 102) (m.1 99) tp), (103, upI (m.2 103) (m.1 99) oo), (104, (m.2 104)), (105, (m739.2 105)), (106, (m739.2 106)), (107, (m.2 107)), (108, (m.2 108))]) c N D (by omega) (Ty_mO hT rfl rfl ⟨(hT740.1 7), (hT740.1 8), (hT740.1 9), (hT740.1 10), (hT740.1 11), (hT740.1 12), (hT740.1 28), (hT740.1 69), (hT740.1 70), (hT740.1 71), (hT740.1 72), (hT740.1 73), (hT740.1 74), (hT740.1 75), g339, (hT680.1 100), trivial⟩ ⟨(hT740.2.1 65), (hT740.2.1 66), (hT740.2.1 67), (hT740.2.1 68), (hT740.2.1 76), (hT740.2.1 77), (hT740.2.1 78), (hT740.2.1 79), (hT740.2.1 80), (hT740.2.1 81), (hT740.2.1 82), (hT740.2.1 83), (hT740.2.1 84), (hT740.2.1 85), (hT740.2.1 86), (hT740.2.1 87), (hT740.2.1 88), (hT740.2.1 89), (hT740.2.1 90), (hT740.2.1 91), (hT740.2.1 92), G340, G696, G721, (hT.2.1 104), (hT740.2.1 105), (hT740.2.1 106), (hT.2.1 107), (hT.2.1 108), trivial⟩) 59 ⟨by decide, by decide⟩ (show 1 ≤ (59 : Int) by omega) (show LxP (m739.1 7) (m739.1 8) (m739.1 9) (m.1 6) (m739.1 10) by first | exact hLx | (intro h9; exfalso; omega) | (intro h9; have h8 := hLx (by omega); omega))) (fun rr768 k769 => ?_)
                  obtain ⟨y770, y772, y774, y776, y778, y780, g771, g773, g775, g777, g779, g781, h782, h783, h784, h785, rfl⟩ := k769
                  refine ⟨_, _, rfl, ?_⟩
                  refine T_nf2 (st' := []) (l' := [(7, y770), (8, y772), (9, y774), (10, y776), (11, y778), (12, y780), (28, (m739.1 28)), (69, (m739.1 69)), (70, (m739.1 70)), (71, (m739.1 71)), (72, (m739.1 72)), (73, (m739.1 73)), (74, (m739.1 74)), (75, (m739.1 75)), (99, (m.1 99) + 1), (100, (m679.1 100))]) (a' := [(65, (m739.2 65)), (66, (m739.2 66)), (67, (m739.2 67)), (68, (m739.2 68)), (76, (m739.2 76)), (77, (m739.2 77)), (78, (m739.2 78)), (79, (m739.2 79)), (80, (m739.2 80)), (81, (m739.2 81)), (82, (m739.2 82)), (83, (m739.2 83)), (84, (m739.2 84)), (85, (m739.2 85)), (86, (m739.2 86)), (87, (m739.2 87)), (88, (m739.2 88)), (89, (m739.2 89)), (90, (m739.2 90)), (91, (m739.2 91)), (92, (m739.2 92)), (101, upI (m.2 101) (m.1 99) (m.1 7)), (102, upI (m.2 102) (m.1 99) tp), (103, upI (m.2 103) (m.1 99) oo), (104, (m.2 104)), (105, (m739.2 105)), (106, (m739.2 106)), (107, (m.2 107)), (108, (m.2 108))]) [7, 8, 9, 10, 11, 12] [] rfl ⟨rfl, rfl, rfl, rfl, rfl, rfl, rfl, rfl, rfl, rfl, rfl, rfl, rfl, rfl, rfl, rfl, rfl, rfl, rfl, rfl, rfl, rfl, rfl, rfl, rfl, rfl, rfl, rfl, rfl, rfl, rfl, rfl, trivial⟩ ⟨rfl, rfl, rfl, rfl, rfl, rfl, rfl, rfl, rfl, rfl, rfl, rfl, rfl, rfl, rfl, rfl, rfl, rfl, rfl, rfl, rfl, rfl, rfl, rfl, rfl, rfl, rfl, rfl, rfl, rfl, rfl, rfl, rfl, rfl, rfl, rfl, rfl, rfl, rfl, rfl, rfl, rfl, rfl, rfl, rfl, rfl, rfl, rfl, rfl, rfl, rfl, rfl, rfl, rfl, rfl, rfl, rfl, rfl, trivial⟩ rfl rfl (by decide) (by decide) ?_
                  by_cases hf786 : y776 = 0
                  · skip
                    subst hf786
                    replace h782 : LxP y770 y772 y774 (m.1 6) (0 : Int) := h782
                    have hLx := h782
                    replace h783 : (m739.1 10) = 0 ∧ (m739.1 7) = (59 : Int) := h783 rfl
                    replace h784 : (m739.1 8) ≤ y772 := h784
                    replace h785 : (m739.1 8) + (m739.1 9) ≤ y772 := h785 rfl
                    have u787 : (m.1 8) + 1 ≤ y772 := by omega
                    have hAgC : agr (m.2 65) (m739.2 65) (m.1 28) := by first | exact agr_r _ _ | exact hAgC | exact agr_t hAgC hAg (by omega)
                    have u788 : (m.1 28) ≤ (m739.1 28) := by omega
                    clear g744 g745 g746 g747 g748 g749 h742 u766 g777 h783 h784 h785
                    refine T_ret rfl (fun _ => rfl) ?_
                    exact ⟨(mO m [(7, y770), (8, y772), (9, y774), (10, 0), (11, y778), (12, y780), (28, (m739.1 28)), (69, (m739.1 69)), (70, (m739.1 70)), (71, (m739.1 71)), (72, (m739.1 72)), (73, (m739.1 73)), (74, (m739.1 74)), (75, (m739.1 75)), (99, (m.1 99) + 1), (100, (m679.1 100))] [(65, (m739.2 65)), (66, (m739.2 66)), (67, (m739.2 67)), (68, (m739.2 68)), (76, (m739.2 76)), (77, (m739.2 77)), (78, (m739.2 78)), (79, (m739.2 79)), (80, (m739.2 80)), (81, (m739.2 81)), (82, (m739.2 82)), (83, (m739.2 83)), (84, (m739.2 84)), (85, (m739.2 85)), (86, (m739.2 86)), (87, (m739.2 87)), (88, (m739.2 88)), (89, (m739.2 89)), (90, (m739.2 90)), (91, (m739.2 91)), (92, (m739.2 92)), (101, upI (m.2 101) (m.1 99) (m.1 7)), (102, upI (m.2 102) (m.1 99) tp), (103, upI (m.2 103) (m.1 99) oo), (104, (m.2 104)), (105, (m739.2 105)), (106, (m739.2 106)), (107, (m.2 107)), (108, (m.2 108))]), (Ty_mO hT rfl rfl ⟨g771, g773, g775, ⟨(by omega : (0 : Int) ≤ 0), (by omega : (0 : Int) ≤ 8)⟩, g779, g781, (hT740.1 28), (hT740.1 69), (hT740.1 70), (hT740.1 71), (hT740.1 72), (hT740.1 73), (hT740.1 74), (hT740.1 75), g339, (hT680.1 100), trivial⟩ ⟨(hT740.2.1 65), (hT740.2.1 66), (hT740.2.1 67), (hT740.2.1 68), (hT740.2.1 76), (hT740.2.1 77), (hT740.2.1 78), (hT740.2.1 79), (hT740.2.1 80), (hT740.2.1 81), (hT740.2.1 82), (hT740.2.1 83), (hT740.2.1 84), (hT740.2.1 85), (hT740.2.1 86), (hT740.2.1 87), (hT740.2.1 88), (hT740.2.1 89), (hT740.2.1 90), (hT740.2.1 91), (hT740.2.1 92), G340, G696, G721, (hT.2.1 104), (hT740.2.1 105), (hT740.2.1 106), (hT.2.1 107), (hT.2.1 108), trivial⟩), (show (0 : Int) = 0 → (m.1 10) = 0 by omega), (show LxP y770 y772 y774 (m.1 6) (0 : Int) by first | (first | exact hLx | exact (fun _ => hLx (by omega)) | (intro h9; exfalso; omega)) | (exfalso; omega)), (show ((m.1 99) + 1) = (m.1 99) + 1 by omega), (fun _ => ⟨(show (m.1 8) + 1 ≤ y772 by omega), (show (m.1 28) ≤ (m739.1 28) by omega), (show CN (m739.2 65) (m739.2 67) (m739.1 28) by first | (exact hCN) | (exfalso; omega)), (show agr (m.2 65) (m739.2 65) (m.1 28) by first | (exact hAgC) | (exfalso; omega)), (show TdP (m739.2 65) (m739.1 28) (m.1 22) ((m.1 99) + 1) (upI (m.2 101) (m.1 99) (m.1 7)) (upI (m.2 103) (m.1 99) oo) (m739.2 105) (m739.2 106) (m.2 107) (m.2 108) by first | (exact hTd2) | (exfalso; omega))⟩), rfl⟩
                  · skip
                    replace h782 : LxP y770 y772 y774 (m.1 6) y776 := h782
                    have hLx := h782
                    clear h783
                    replace h784 : (m739.1 8) ≤ y772 := h784
                    clear h785
                    have hf789 : 1 ≤ y776 := by omega
                    clear g744 g745 g746 g747 g748 g749 h742 u766 h784
                    refine Tm_lv (a := [(0, .ref 189), (1, .int (i32 (m.1 99)))]) rfl rfl ⟨rfl, rfl, trivial⟩ ?_
                    exact J235_28 (mO m [(7, y770), (8, y772), (9, y774), (10, y776), (11, y778), (12, y780), (28, (m739.1 28)), (69, (m739.1 69)), (70, (m739.1 70)), (71, (m739.1 71)), (72, (m739.1 72)), (73, (m739.1 73)), (74, (m739.1 74)), (75, (m739.1 75)), (99, (m.1 99) + 1), (100, (m679.1 100))] [(65, (m739.2 65)), (66, (m739.2 66)), (67, (m739.2 67)), (68, (m739.2 68)), (76, (m739.2 76)), (77, (m739.2 77)), (78, (m739.2 78)), (79, (m739.2 79)), (80, (m739.2 80)), (81, (m739.2 81)), (82, (m739.2 82)), (83, (m739.2 83)), (84, (m739.2 84)), (85, (m739.2 85)), (86, (m739.2 86)), (87, (m739.2 87)), (88, (m739.2 88)), (89, (m739.2 89)), (90, (m739.2 90)), (91, (m739.2 91)), (92, (m739.2 92)), (101, upI (m.2 101) (m.1 99) (m.1 7)), (102, upI (m.2 102) (m.1 99) tp), (103, upI (m.2 103) (m.1 99) oo), (104, (m.2 104)), (105, (m739.2 105)), (106, (m739.2 106)), (107, (m.2 107)), (108, (m.2 108))]) (Ty_mO hT rfl rfl ⟨g771, g773, g775, g777, g779, g781, (hT740.1 28), (hT740.1 69), (hT740.1 70), (hT740.1 71), (hT740.1 72), (hT740.1 73), (hT740.1 74), (hT740.1 75), g339, (hT680.1 100), trivial⟩ ⟨(hT740.2.1 65), (hT740.2.1 66), (hT740.2.1 67), (hT740.2.1 68), (hT740.2.1 76), (hT740.2.1 77), (hT740.2.1 78), (hT740.2.1 79), (hT740.2.1 80), (hT740.2.1 81), (hT740.2.1 82), (hT740.2.1 83), (hT740.2.1 84), (hT740.2.1 85), (hT740.2.1 86), (hT740.2.1 87), (hT740.2.1 88), (hT740.2.1 89), (hT740.2.1 90), (hT740.2.1 91), (hT740.2.1 92), G340, G696, G721, (hT.2.1 104), (hT740.2.1 105), (hT740.2.1 106), (hT.2.1 107), (hT.2.1 108), trivial⟩) (show 1 ≤ y776 by omega) (show y776 ≤ 8 by omega) (show 0 ≤ ((m.1 99) + 1) ∧ ((m.1 99) + 1) ≤ 240 by omega) (show 0 ≤ (m.1 99) ∧ (m.1 99) ≤ 240 by omega)
                · skip
                  clear c743
                  clear h741
                  replace h742 : LxP (m739.1 7) (m739.1 8) (m739.1 9) (m.1 6) (m739.1 10) := h742
                  have hLx := h742
                  have hf790 : 1 ≤ (m739.1 10) := by omega
                  clear g700 g702 g704 g710 h712 h713 u719 g731 g732 u735
                  refine Tm_lv (a := [(0, .ref 189), (1, .int (i32 (m.1 99))), (2, .int (i32 (m679.1 8)))]) rfl rfl ⟨rfl, rfl, rfl, trivial⟩ ?_
                  exact J143_134 (m679.1 8) (mO m [(7, (m739.1 7)), (8, (m739.1 8)), (9, (m739.1 9)), (10, (m739.1 10)), (11, (m739.1 11)), (12, (m739.1 12)), (28, (m739.1 28)), (69, (m739.1 69)), (70, (m739.1 70)), (71, (m739.1 71)), (72, (m739.1 72)), (73, (m739.1 73)), (74, (m739.1 74)), (75, (m739.1 75)), (99, (m.1 99) + 1), (100, (m679.1 100))] [(65, (m739.2 65)), (66, (m739.2 66)), (67, (m739.2 67)), (68, (m739.2 68)), (76, (m739.2 76)), (77, (m739.2 77)), (78, (m739.2 78)), (79, (m739.2 79)), (80, (m739.2 80)), (81, (m739.2 81)), (82, (m739.2 82)), (83, (m739.2 83)), (84, (m739.2 84)), (85, (m739.2 85)), (86, (m739.2 86)), (87, (m739.2 87)), (88, (m739.2 88)), (89, (m739.2 89)), (90, (m739.2 90)), (91, (m739.2 91)), (92, (m739.2 92)), (101, upI (m.2 101) (m.1 99) (m.1 7)), (102, upI (m.2 102) (m.1 99) tp), (103, upI (m.2 103) (m.1 99) oo), (104, (m.2 104)), (105, (m739.2 105)), (106, (m739.2 106)), (107, (m.2 107)), (108, (m.2 108))]) (r32 (by omega) (by omega)) (Ty_mO hT rfl rfl ⟨(hT740.1 7), (hT740.1 8), (hT740.1 9), (hT740.1 10), (hT740.1 11), (hT740.1 12), (hT740.1 28), (hT740.1 69), (hT740.1 70), (hT740.1 71), (hT740.1 72), (hT740.1 73), (hT740.1 74), (hT740.1 75), g339, (hT680.1 100), trivial⟩ ⟨(hT740.2.1 65), (hT740.2.1 66), (hT740.2.1 67), (hT740.2.1 68), (hT740.2.1 76), (hT740.2.1 77), (hT740.2.1 78), (hT740.2.1 79), (hT740.2.1 80), (hT740.2.1 81), (hT740.2.1 82), (hT740.2.1 83), (hT740.2.1 84), (hT740.2.1 85), (hT740.2.1 86), (hT740.2.1 87), (hT740.2.1 88), (hT740.2.1 89), (hT740.2.1 90), (hT740.2.1 91), (hT740.2.1 92), G340, G696, G721, (hT.2.1 104), (hT740.2.1 105), (hT740.2.1 106), (hT.2.1 107), (hT.2.1 108), trivial⟩) (show 0 ≤ (m679.1 8) by omega) (show (m679.1 8) ≤ 4000 by omega) (show 1 ≤ (m739.1 10) by omega) (show (m739.1 10) ≤ 8 by omega) (show 0 ≤ ((m.1 99) + 1) ∧ ((m.1 99) + 1) ≤ 240 by omega) (show 0 ≤ (m.1 99) ∧ (m.1 99) ≤ 240 by omega)
              · skip
                clear c730
                clear h729
                have hf791 : 1 ≤ (m727.1 10) := by omega
                clear g708
                refine Tm_lv (a := [(0, .ref 189), (1, .int (i32 (m.1 99))), (2, .int (i32 (m679.1 8)))]) rfl rfl ⟨rfl, rfl, rfl, trivial⟩ ?_
                exact J138_165 (m679.1 8) (mO m [(7, y699), (8, y701), (9, y703), (10, (m727.1 10)), (11, (m727.1 11)), (12, y709), (28, (m.1 28)), (69, (m.1 69)), (70, (m.1 70)), (71, (m.1 71)), (72, (m.1 72)), (73, (m.1 73)), (74, (m.1 74)), (75, (m.1 75)), (99, (m.1 99) + 1), (100, (m679.1 100))] [(65, (m.2 65)), (66, (m.2 66)), (67, (m.2 67)), (68, (m.2 68)), (76, (m.2 76)), (77, (m.2 77)), (78, (m.2 78)), (79, (m.2 79)), (80, (m.2 80)), (81, (m.2 81)), (82, (m.2 82)), (83, (m.2 83)), (84, (m.2 84)), (85, (m.2 85)), (86, (m.2 86)), (87, (m.2 87)), (88, (m.2 88)), (89, (m.2 89)), (90, (m.2 90)), (91, (m.2 91)), (92, (m.2 92)), (101, upI (m.2 101) (m.1 99) (m.1 7)), (102, upI (m.2 102) (m.1 99) tp), (103, upI (m.2 103) (m.1 99) oo), (104, (m.2 104)), (105, (m.2 105)), (106, (m.2 106)), (107, (m.2 107)), (108, (m.2 108))]) (r32 (by omega) (by omega)) (Ty_mO hT rfl rfl ⟨g700, g702, g704, (hT728.1 10), (hT728.1 11), g710, f28, f69, f70, f71, f72, f73, f74, f75, g339, (hT680.1 100), trivial⟩ ⟨(hT.2.1 65), (hT.2.1 66), (hT.2.1 67), (hT.2.1 68), (hT.2.1 76), (hT.2.1 77), (hT.2.1 78), (hT.2.1 79), (hT.2.1 80), (hT.2.1 81), (hT.2.1 82), (hT.2.1 83), (hT.2.1 84), (hT.2.1 85), (hT.2.1 86), (hT.2.1 87), (hT.2.1 88), (hT.2.1 89), (hT.2.1 90), (hT.2.1 91), (hT.2.1 92), G340, G696, G721, (hT.2.1 104), (hT.2.1 105), (hT.2.1 106), (hT.2.1 107), (hT.2.1 108), trivial⟩) (show 0 ≤ (m679.1 8) by omega) (show (m679.1 8) ≤ 4000 by omega) (show 1 ≤ (m727.1 10) by omega) (show (m727.1 10) ≤ 8 by omega) (show 0 ≤ ((m.1 99) + 1) ∧ ((m.1 99) + 1) ≤ 240 by omega) (show 0 ≤ (m.1 99) ∧ (m.1 99) ≤ 240 by omega)
            · skip
              refine T_ld 130 (.int (i32 1)) rfl (fun _ => rfl) ?_
              refine T_goto 134 rfl (fun _ => rfl) ?_
              refine T_ld 135 (.int (i32 (m679.1 8))) rfl (fun _ => rfl) ?_
              refine T_call 138 256 [.ref 189, .int (i32 1), .int (i32 (m679.1 8))] [] rfl (fun _ => rfl) rfl (c_want w (mO m [(7, y699), (8, y701), (9, y703), (10, 0), (11, y707), (12, y709), (28, (m.1 28)), (69, (m.1 69)), (70, (m.1 70)), (71, (m.1 71)), (72, (m.1 72)), (73, (m.1 73)), (74, (m.1 74)), (75, (m.1 75)), (99, (m.1 99) + 1), (100, (m679.1 100))] [(65, (m.2 65)), (66, (m.2 66)), (67, (m.2 67)), (68, (m.2 68)), (76, (m.2 76)), (77, (m.2 77)), (78, (m.2 78)), (79, (m.2 79)), (80, (m.2 80)), (81, (m.2 81)), (82, (m.2 82)), (83, (m.2 83)), (84, (m.2 84)), (85, (m.2 85)), (86, (m.2 86)), (87, (m.2 87)), (88, (m.2 88)), (89, (m.2 89)), (90, (m.2 90)), (91, (m.2 91)), (92, (m.2 92)), (101, upI (m.2 101) (m.1 99) (m.1 7)), (102, upI (m.2 102) (m.1 99) tp), (103, upI (m.2 103) (m.1 99) oo), (104, (m.2 104)), (105, (m.2 105)), (106, (m.2 106)), (107, (m.2 107)), (108, (m.2 108))]) c N D (by omega) (Ty_mO hT rfl rfl ⟨g700, g702, g704, ⟨(by omega : (0 : Int) ≤ 0), (by omega : (0 : Int) ≤ 8)⟩, g708, g710, f28, f69, f70, f71, f72, f73, f74, f75, g339, (hT680.1 100), trivial⟩ ⟨(hT.2.1 65), (hT.2.1 66), (hT.2.1 67), (hT.2.1 68), (hT.2.1 76), (hT.2.1 77), (hT.2.1 78), (hT.2.1 79), (hT.2.1 80), (hT.2.1 81), (hT.2.1 82), (hT.2.1 83), (hT.2.1 84), (hT.2.1 85), (hT.2.1 86), (hT.2.1 87), (hT.2.1 88), (hT.2.1 89), (hT.2.1 90), (hT.2.1 91), (hT.2.1 92), G340, G696, G721, (hT.2.1 104), (hT.2.1 105), (hT.2.1 106), (hT.2.1 107), (hT.2.1 108), trivial⟩) 1 (m679.1 8) ⟨by decide, by decide⟩ (r32 (by omega) (by omega)) (show 0 ≤ (m679.1 8) ∧ (m679.1 8) ≤ 4000 by omega) (fun _ => trivial)) (fun rr792 k793 => ?_)
              obtain ⟨m794, hT795, h796, c797, rfl⟩ := k793
              refine ⟨_, _, rfl, ?_⟩
              refine T_nf2 (st' := []) (l' := [(7, y699), (8, y701), (9, y703), (10, (m794.1 10)), (11, (m794.1 11)), (12, y709), (28, (m.1 28)), (69, (m.1 69)), (70, (m.1 70)), (71, (m.1 71)), (72, (m.1 72)), (73, (m.1 73)), (74, (m.1 74)), (75, (m.1 75)), (99, (m.1 99) + 1), (100, (m679.1 100))]) (a' := [(65, (m.2 65)), (66, (m.2 66)), (67, (m.2 67)), (68, (m.2 68)), (76, (m.2 76)), (77, (m.2 77)), (78, (m.2 78)), (79, (m.2 79)), (80, (m.2 80)), (81, (m.2 81)), (82, (m.2 82)), (83, (m.2 83)), (84, (m.2 84)), (85, (m.2 85)), (86, (m.2 86)), (87, (m.2 87)), (88, (m.2 88)), (89, (m.2 89)), (90, (m.2 90)), (91, (m.2 91)), (92, (m.2 92)), (101, upI (m.2 101) (m.1 99) (m.1 7)), (102, upI (m.2 102) (m.1 99) tp), (103, upI (m.2 103) (m.1 99) oo), (104, (m.2 104)), (105, (m.2 105)), (106, (m.2 106)), (107, (m.2 107)), (108, (m.2 108))]) [10, 11] [] rfl ⟨rfl, rfl, rfl, rfl, rfl, rfl, rfl, rfl, rfl, rfl, rfl, rfl, rfl, rfl, rfl, rfl, rfl, rfl, rfl, rfl, rfl, rfl, rfl, rfl, rfl, rfl, rfl, rfl, rfl, rfl, rfl, rfl, rfl, rfl, rfl, trivial⟩ ⟨rfl, rfl, rfl, rfl, rfl, rfl, rfl, rfl, rfl, rfl, rfl, rfl, rfl, rfl, rfl, rfl, rfl, rfl, rfl, rfl, rfl, rfl, rfl, rfl, rfl, rfl, rfl, rfl, rfl, rfl, rfl, rfl, rfl, rfl, rfl, rfl, rfl, rfl, rfl, rfl, rfl, rfl, rfl, rfl, rfl, rfl, rfl, rfl, rfl, rfl, rfl, rfl, rfl, rfl, rfl, rfl, rfl, rfl, trivial⟩ rfl rfl (by decide) (by decide) ?_
              have g798 : 0 ≤ m794.1 10 ∧ m794.1 10 ≤ 8 := hT795.1 10
              have g799 : (-1) ≤ m794.1 11 ∧ m794.1 11 ≤ 4000 := hT795.1 11
              by_cases hf800 : (m794.1 10) = 0
              · skip
                replace h796 : (0 : Int) = 0 := h796 hf800
                have c801 := c797 hf800
                replace c801 : (1 : Int) ≠ 0 := c801
                clear c797
                have u802 : (m.1 8) + 1 ≤ y701 := by omega
                have hAgC : agr (m.2 65) (m.2 65) (m.1 28) := by first | exact agr_r _ _ | exact hAgC | exact agr_t hAgC hAg (by omega)
                have u803 : (m.1 28) ≤ (m.1 28) := by omega
                clear g708
                refine T_ld 139 (.ref 189) rfl (fun _ => rfl) ?_
                refine T_ld 140 (.int (i32 (m.1 99))) rfl (fun _ => rfl) ?_
                refine T_call 143 274 [.ref 189, .int (i32 (m.1 99))] [] rfl (fun _ => rfl) rfl (c_takeIndex w (mO m [(7, y699), (8, y701), (9, y703), (10, (m794.1 10)), (11, (m794.1 11)), (12, y709), (28, (m.1 28)), (69, (m.1 69)), (70, (m.1 70)), (71, (m.1 71)), (72, (m.1 72)), (73, (m.1 73)), (74, (m.1 74)), (75, (m.1 75)), (99, (m.1 99) + 1), (100, (m679.1 100))] [(65, (m.2 65)), (66, (m.2 66)), (67, (m.2 67)), (68, (m.2 68)), (76, (m.2 76)), (77, (m.2 77)), (78, (m.2 78)), (79, (m.2 79)), (80, (m.2 80)), (81, (m.2 81)), (82, (m.2 82)), (83, (m.2 83)), (84, (m.2 84)), (85, (m.2 85)), (86, (m.2 86)), (87, (m.2 87)), (88, (m.2 88)), (89, (m.2 89)), (90, (m.2 90)), (91, (m.2 91)), (92, (m.2 92)), (101, upI (m.2 101) (m.1 99) (m.1 7)), (102, upI (m.2 102) (m.1 99) tp), (103, upI (m.2 103) (m.1 99) oo), (104, (m.2 104)), (105, (m.2 105)), (106, (m.2 106)), (107, (m.2 107)), (108, (m.2 108))]) c N D (by omega) (Ty_mO hT rfl rfl ⟨g700, g702, g704, (hT795.1 10), (hT795.1 11), g710, f28, f69, f70, f71, f72, f73, f74, f75, g339, (hT680.1 100), trivial⟩ ⟨(hT.2.1 65), (hT.2.1 66), (hT.2.1 67), (hT.2.1 68), (hT.2.1 76), (hT.2.1 77), (hT.2.1 78), (hT.2.1 79), (hT.2.1 80), (hT.2.1 81), (hT.2.1 82), (hT.2.1 83), (hT.2.1 84), (hT.2.1 85), (hT.2.1 86), (hT.2.1 87), (hT.2.1 88), (hT.2.1 89), (hT.2.1 90), (hT.2.1 91), (hT.2.1 92), G340, G696, G721, (hT.2.1 104), (hT.2.1 105), (hT.2.1 106), (hT.2.1 107), (hT.2.1 108), trivial⟩) (m.1 99) (r32 (by omega) (by omega)) (show LxP y699 y701 y703 (m.1 6) (m794.1 10) by first | exact hLx | exact (fun _ => hLx (by omega)) | (intro h9; exfalso; omega)) (show ∀ k, (m.2 14) k + (m.2 15) k ≤ 4000 by assumption) (show ∀ k, (m.2 31) k + (m.2 32) k ≤ 4000 by assumption) (show ∀ k, (m.2 47) k + (m.2 48) k ≤ 4000 by assumption) (show 0 ≤ (m.1 99) ∧ (m.1 99) ≤ 239 by omega) (fun _ => ⟨(show PN (m.1 13) (m.1 19) (m.1 20) (m.1 21) (m.1 22) (m.1 23) (m.1 25) (m.1 26) (m.2 16) (m.2 17) by assumption), (show CN (m.2 65) (m.2 67) (m.1 28) by assumption)⟩)) (fun rr804 k805 => ?_)
                obtain ⟨m806, hT807, h808, h809, c810, rfl⟩ := k805
                refine ⟨_, _, rfl, ?_⟩
                refine T_nf2 (st' := []) (l' := [(7, (m806.1 7)), (8, (m806.1 8)), (9, (m806.1 9)), (10, (m806.1 10)), (11, (m806.1 11)), (12, (m806.1 12)), (28, (m806.1 28)), (69, (m806.1 69)), (70, (m806.1 70)), (71, (m806.1 71)), (72, (m806.1 72)), (73, (m806.1 73)), (74, (m806.1 74)), (75, (m806.1 75)), (99, (m.1 99) + 1), (100, (m679.1 100))]) (a' := [(65, (m806.2 65)), (66, (m806.2 66)), (67, (m806.2 67)), (68, (m806.2 68)), (76, (m806.2 76)), (77, (m806.2 77)), (78, (m806.2 78)), (79, (m806.2 79)), (80, (m806.2 80)), (81, (m806.2 81)), (82, (m806.2 82)), (83, (m806.2 83)), (84, (m806.2 84)), (85, (m806.2 85)), (86, (m806.2 86)), (87, (m806.2 87)), (88, (m806.2 88)), (89, (m806.2 89)), (90, (m806.2 90)), (91, (m806.2 91)), (92, (m806.2 92)), (101, upI (m.2 101) (m.1 99) (m.1 7)), (102, upI (m.2 102) (m.1 99) tp), (103, upI (m.2 103) (m.1 99) oo), (104, (m.2 104)), (105, (m806.2 105)), (106, (m806.2 106)), (107, (m.2 107)), (108, (m.2 108))]) [7, 8, 9, 10, 11, 12, 28, 69, 70, 71, 72, 73, 74, 75] [65, 66, 67, 68, 76, 77, 78, 79, 80, 81, 82, 83, 84, 85, 86, 87, 88, 89, 90, 91, 92, 105, 106] rfl ⟨rfl, rfl, rfl, rfl, rfl, rfl, rfl, rfl, rfl, rfl, rfl, rfl, rfl, rfl, rfl, rfl, rfl, rfl, rfl, rfl, rfl, rfl, rfl, rfl, rfl, rfl, rfl, rfl, rfl, rfl, rfl, rfl, trivial⟩ ⟨rfl, rfl, rfl, rfl, rfl, rfl, rfl, rfl, rfl, rfl, rfl, rfl, rfl, rfl, rfl, rfl, rfl, rfl, rfl, rfl, rfl, rfl, rfl, rfl, rfl, rfl, rfl, rfl, rfl, rfl, rfl, rfl, rfl, rfl, rfl, rfl, rfl, rfl, rfl, rfl, rfl, rfl, rfl, rfl, rfl, rfl, rfl, rfl, rfl, rfl, rfl, rfl, rfl, rfl, rfl, rfl, rfl, rfl, rfl, rfl, rfl, rfl, trivial⟩ rfl rfl (by decide) (by decide) ?_
                have g811 : 0 ≤ m806.1 7 ∧ m806.1 7 ≤ 330 := hT807.1 7
                have g812 : 0 ≤ m806.1 8 ∧ m806.1 8 ≤ 4000 := hT807.1 8
                have g813 : 0 ≤ m806.1 9 ∧ m806.1 9 ≤ 4000 := hT807.1 9
                have g814 : 0 ≤ m806.1 10 ∧ m806.1 10 ≤ 8 := hT807.1 10
                have g815 : (-1) ≤ m806.1 11 ∧ m806.1 11 ≤ 4000 := hT807.1 11
                have g816 : (-9223372036854775808) ≤ m806.1 12 ∧ m806.1 12 ≤ 9223372036854775807 := hT807.1 12
                have g817 : 0 ≤ m806.1 28 ∧ m806.1 28 ≤ 800 := hT807.1 28
                have g818 : 0 ≤ m806.1 69 ∧ m806.1 69 ≤ 1024 := hT807.1 69
                have g819 : 0 ≤ m806.1 70 ∧ m806.1 70 ≤ 4000 := hT807.1 70
                have g820 : 0 ≤ m806.1 71 ∧ m806.1 71 ≤ 1 := hT807.1 71
                have g821 : (-9223372036854775808) ≤ m806.1 72 ∧ m806.1 72 ≤ 9223372036854775807 := hT807.1 72
                have g822 : 0 ≤ m806.1 73 ∧ m806.1 73 ≤ 60 := hT807.1 73
                have g823 : 0 ≤ m806.1 74 ∧ m806.1 74 ≤ 24 := hT807.1 74
                have g824 : 0 ≤ m806.1 75 ∧ m806.1 75 ≤ 3 := hT807.1 75
                by_cases hf825 : (m806.1 10) = 0
                · skip
                  replace h808 : (m794.1 10) = 0 := h808 hf825
                  replace h809 : LxP (m806.1 7) (m806.1 8) (m806.1 9) (m.1 6) (m806.1 10) := h809
                  have hLx := h809
                  obtain ⟨c826, c827, c828, c829, c830, c831, c832⟩ := c810 hf825
                  replace c826 : y701 + 1 ≤ (m806.1 8) := c826
                  replace c827 : CN (m806.2 65) (m806.2 67) (m806.1 28) := c827
                  have hCN := c827
                  replace c828 : agr (m.2 65) (m806.2 65) (m.1 28) := c828
                  have hAg := c828
                  replace c829 : (m.1 28) ≤ (m806.1 28) := c829
                  replace c830 : cdr (m806.2 65) (m806.1 28) ((m806.2 105) (m.1 99)) ((m806.2 106) (m.1 99)) := c830
                  have hXc := c830
                  replace c831 : agr (m.2 105) (m806.2 105) (m.1 99) := c831
                  have hI1 := c831
                  replace c832 : agr (m.2 106) (m806.2 106) (m.1 99) := c832
                  have hI2 := c832
                  clear c810
                  have u833 : (m.1 8) + 1 ≤ (m806.1 8) := by omega
                  have hAgC : agr (m.2 65) (m806.2 65) (m.1 28) := by first | exact agr_r _ _ | exact hAgC | exact agr_t hAgC hAg (by omega)
                  have u834 : (m.1 28) ≤ (m806.1 28) := by omega
                  clear g700 g702 g704 g710 h712 h713 u719 g798 g799 u802 h808 c826
                  refine T_goto 229 rfl (fun _ => rfl) ?_
                  have w1 : agr (m.2 101) (upI (m.2 101) (m.1 99) (m.1 7)) (m.1 99) := by first | exact agr_u (Int.le_refl _) | exact agr_r _ _
                  have w2 : agr (m.2 103) (upI (m.2 103) (m.1 99) oo) (m.1 99) := by first | exact agr_u (Int.le_refl _) | exact agr_r _ _
                  have w3 : agr (m.2 105) (m806.2 105) (m.1 99) := by first | exact hI1 | exact agr_u (Int.le_refl _) | exact agr_r _ _
                  have w4 : agr (m.2 106) (m806.2 106) (m.1 99) := by first | exact hI2 | exact agr_u (Int.le_refl _) | exact agr_r _ _
                  have w5 : agr (m.2 107) (m.2 107) (m.1 99) := by first | exact hJ1 | exact agr_u (Int.le_refl _) | exact agr_r _ _
                  have w6 : agr (m.2 108) (m.2 108) (m.1 99) := by first | exact hJ2 | exact agr_u (Int.le_refl _) | exact agr_r _ _
                  have hR : TdR (m806.2 65) (m806.1 28) (m.1 22) (m.1 99) (upI (m.2 101) (m.1 99) (m.1 7)) (upI (m.2 103) (m.1 99) oo) (m806.2 105) (m806.2 106) (m.2 107) (m.2 108) := by
                    refine ⟨fun h => ?_, fun h => ?_⟩ <;> rw [upI_s] at h <;> first | exact hEc | exact ⟨hXc, by rw [upI_s]; omega⟩ | exact ⟨cdr_f hXc hAg (by omega), by rw [upI_s]; omega⟩ | omega
                  have hTd2 : TdP (m806.2 65) (m806.1 28) (m.1 22) ((m.1 99) + 1) (upI (m.2 101) (m.1 99) (m.1 7)) (upI (m.2 103) (m.1 99) oo) (m806.2 105) (m806.2 106) (m.2 107) (m.2 108) := TdP_add (TdP_f pTd hAgC (by omega) w1 w2 w3 w4 w5 w6) hR
                  refine T_ld 230 (.ref 189) rfl (fun _ => rfl) ?_
                  refine T_ld 232 (.int (i32 59)) rfl (fun _ => rfl) ?_
                  refine T_call 235 232 [.ref 189, .int (i32 59)] [] rfl (fun _ => rfl) rfl (c_need w (mO m [(7, (m806.1 7)), (8, (m806.1 8)), (9, (m806.1 9)), (10, (m806.1 10)), (11, (m806.1 11)), (12, (m806.1 12)), (28, (m806.1 28)), (69, (m806.1 69)), (70, (m806.1 70)), (71, (m806.1 71)), (72, (m806.1 72)), (73, (m806.1 73)), (74, (m806.1 74)), (75, (m806.1 75)), (99, (m.1 99) + 1), (100, (m679.1 100))] [(65, (m806.2 65)), (66, (m806.2 66)), (67, (m806.2 67)), (68, (m806.2 68)), (76, (m806.2 76)), (77, (m806.2 77)), (78, (m806.2 78)), (79, (m806.2 79)), (80, (m806.2 80)), (81, (m806.2 81)), (82, (m806.2 82)), (83, (m806.2 83)), (84, (m806.2 84)), (85, (m806.2 85)), (86, (m806.2 86)), (87, (m806.2 87)), (88, (m806.2 88)), (89, (m806.2 89)), (90, (m806.2 90)), (91, (m806.2 91)), (92, (m806.2 92)), (101, upI (m.2 101) (m.1 99) (m.1 7)), (102, upI (m.2 102) (m.1 99) tp), (103, upI (m.2 103) (m.1 99) oo), (104, (m.2 104)), (105, (m806.2 105)), (106, (m806.2 106)), (107, (m.2 107)), (108, (m.2 108))]) c N D (by omega) (Ty_mO hT rfl rfl ⟨(hT807.1 7), (hT807.1 8), (hT807.1 9), (hT807.1 10), (hT807.1 11), (hT807.1 12), (hT807.1 28), (hT807.1 69), (hT807.1 70), (hT807.1 71), (hT807.1 72), (hT807.1 73), (hT807.1 74), (hT807.1 75), g339, (hT680.1 100), trivial⟩ ⟨(hT807.2.1 65), (hT807.2.1 66), (hT807.2.1 67), (hT807.2.1 68), (hT807.2.1 76), (hT807.2.1 77), (hT807.2.1 78), (hT807.2.1 79), (hT807.2.1 80), (hT807.2.1 81), (hT807.2.1 82), (hT807.2.1 83), (hT807.2.1 84), (hT807.2.1 85), (hT807.2.1 86), (hT807.2.1 87), (hT807.2.1 88), (hT807.2.1 89), (hT807.2.1 90), (hT807.2.1 91), (hT807.2.1 92), G340, G696, G721, (hT.2.1 104), (hT807.2.1 105), (hT807.2.1 106), (hT.2.1 107), (hT.2.1 108), trivial⟩) 59 ⟨by decide, by decide⟩ (show 1 ≤ (59 : Int) by omega) (show LxP (m806.1 7) (m806.1 8) (m806.1 9) (m.1 6) (m806.1 10) by first | exact hLx | (intro h9; exfalso; omega) | (intro h9; have h8 := hLx (by omega); omega))) (fun rr835 k836 => ?_)
                  obtain ⟨y837, y839, y841, y843, y845, y847, g838, g840, g842, g844, g846, g848, h849, h850, h851, h852, rfl⟩ := k836
                  refine ⟨_, _, rfl, ?_⟩
                  refine T_nf2 (st' := []) (l' := [(7, y837), (8, y839), (9, y841), (10, y843), (11, y845), (12, y847), (28, (m806.1 28)), (69, (m806.1 69)), (70, (m806.1 70)), (71, (m806.1 71)), (72, (m806.1 72)), (73, (m806.1 73)), (74, (m806.1 74)), (75, (m806.1 75)), (99, (m.1 99) + 1), (100, (m679.1 100))]) (a' := [(65, (m806.2 65)), (66, (m806.2 66)), (67, (m806.2 67)), (68, (m806.2 68)), (76, (m806.2 76)), (77, (m806.2 77)), (78, (m806.2 78)), (79, (m806.2 79)), (80, (m806.2 80)), (81, (m806.2 81)), (82, (m806.2 82)), (83, (m806.2 83)), (84, (m806.2 84)), (85, (m806.2 85)), (86, (m806.2 86)), (87, (m806.2 87)), (88, (m806.2 88)), (89, (m806.2 89)), (90, (m806.2 90)), (91, (m806.2 91)), (92, (m806.2 92)), (101, upI (m.2 101) (m.1 99) (m.1 7)), (102, upI (m.2 102) (m.1 99) tp), (103, upI (m.2 103) (m.1 99) oo), (104, (m.2 104)), (105, (m806.2 105)), (106, (m806.2 106)), (107, (m.2 107)), (108, (m.2 108))]) [7, 8, 9, 10, 11, 12] [] rfl ⟨rfl, rfl, rfl, rfl, rfl, rfl, rfl, rfl, rfl, rfl, rfl, rfl, rfl, rfl, rfl, rfl, rfl, rfl, rfl, rfl, rfl, rfl, rfl, rfl, rfl, rfl, rfl, rfl, rfl, rfl, rfl, rfl, trivial⟩ ⟨rfl, rfl, rfl, rfl, rfl, rfl, rfl, rfl, rfl, rfl, rfl, rfl, rfl, rfl, rfl, rfl, rfl, rfl, rfl, rfl, rfl, rfl, rfl, rfl, rfl, rfl, rfl, rfl, rfl, rfl, rfl, rfl, rfl, rfl, rfl, rfl, rfl, rfl, rfl, rfl, rfl, rfl, rfl, rfl, rfl, rfl, rfl, rfl, rfl, rfl, rfl, rfl, rfl, rfl, rfl, rfl, rfl, rfl, trivial⟩ rfl rfl (by decide) (by decide) ?_
                  by_cases hf853 : y843 = 0
                  · skip
                    subst hf853
                    replace h849 : LxP y837 y839 y841 (m.1 6) (0 : Int) := h849
                    have hLx := h849
                    replace h850 : (m806.1 10) = 0 ∧ (m806.1 7) = (59 : Int) := h850 rfl
                    replace h851 : (m806.1 8) ≤ y839 := h851
                    replace h852 : (m806.1 8) + (m806.1 9) ≤ y839 := h852 rfl
                    have u854 : (m.1 8) + 1 ≤ y839 := by omega
                    have hAgC : agr (m.2 65) (m806.2 65) (m.1 28) := by first | exact agr_r _ _ | exact hAgC | exact agr_t hAgC hAg (by omega)
                    have u855 : (m.1 28) ≤ (m806.1 28) := by omega
                    clear g811 g812 g813 g814 g815 g816 h809 u833 g844 h850 h851 h852
                    refine T_ret rfl (fun _ => rfl) ?_
                    exact ⟨(mO m [(7, y837), (8, y839), (9, y841), (10, 0), (11, y845), (12, y847), (28, (m806.1 28)), (69, (m806.1 69)), (70, (m806.1 70)), (71, (m806.1 71)), (72, (m806.1 72)), (73, (m806.1 73)), (74, (m806.1 74)), (75, (m806.1 75)), (99, (m.1 99) + 1), (100, (m679.1 100))] [(65, (m806.2 65)), (66, (m806.2 66)), (67, (m806.2 67)), (68, (m806.2 68)), (76, (m806.2 76)), (77, (m806.2 77)), (78, (m806.2 78)), (79, (m806.2 79)), (80, (m806.2 80)), (81, (m806.2 81)), (82, (m806.2 82)), (83, (m806.2 83)), (84, (m806.2 84)), (85, (m806.2 85)), (86, (m806.2 86)), (87, (m806.2 87)), (88, (m806.2 88)), (89, (m806.2 89)), (90, (m806.2 90)), (91, (m806.2 91)), (92, (m806.2 92)), (101, upI (m.2 101) (m.1 99) (m.1 7)), (102, upI (m.2 102) (m.1 99) tp), (103, upI (m.2 103) (m.1 99) oo), (104, (m.2 104)), (105, (m806.2 105)), (106, (m806.2 106)), (107, (m.2 107)), (108, (m.2 108))]), (Ty_mO hT rfl rfl ⟨g838, g840, g842, ⟨(by omega : (0 : Int) ≤ 0), (by omega : (0 : Int) ≤ 8)⟩, g846, g848, (hT807.1 28), (hT807.1 69), (hT807.1 70), (hT807.1 71), (hT807.1 72), (hT807.1 73), (hT807.1 74), (hT807.1 75), g339, (hT680.1 100), trivial⟩ ⟨(hT807.2.1 65), (hT807.2.1 66), (hT807.2.1 67), (hT807.2.1 68), (hT807.2.1 76), (hT807.2.1 77), (hT807.2.1 78), (hT807.2.1 79), (hT807.2.1 80), (hT807.2.1 81), (hT807.2.1 82), (hT807.2.1 83), (hT807.2.1 84), (hT807.2.1 85), (hT807.2.1 86), (hT807.2.1 87), (hT807.2.1 88), (hT807.2.1 89), (hT807.2.1 90), (hT807.2.1 91), (hT807.2.1 92), G340, G696, G721, (hT.2.1 104), (hT807.2.1 105), (hT807.2.1 106), (hT.2.1 107), (hT.2.1 108), trivial⟩), (show (0 : Int) = 0 → (m.1 10) = 0 by omega), (show LxP y837 y839 y841 (m.1 6) (0 : Int) by first | (first | exact hLx | exact (fun _ => hLx (by omega)) | (intro h9; exfalso; omega)) | (exfalso; omega)), (show ((m.1 99) + 1) = (m.1 99) + 1 by omega), (fun _ => ⟨(show (m.1 8) + 1 ≤ y839 by omega), (show (m.1 28) ≤ (m806.1 28) by omega), (show CN (m806.2 65) (m806.2 67) (m806.1 28) by first | (exact hCN) | (exfalso; omega)), (show agr (m.2 65) (m806.2 65) (m.1 28) by first | (exact hAgC) | (exfalso; omega)), (show TdP (m806.2 65) (m806.1 28) (m.1 22) ((m.1 99) + 1) (upI (m.2 101) (m.1 99) (m.1 7)) (upI (m.2 103) (m.1 99) oo) (m806.2 105) (m806.2 106) (m.2 107) (m.2 108) by first | (exact hTd2) | (exfalso; omega))⟩), rfl⟩
                  · skip
                    replace h849 : LxP y837 y839 y841 (m.1 6) y843 := h849
                    have hLx := h849
                    clear h850
                    replace h851 : (m806.1 8) ≤ y839 := h851
                    clear h852
                    have hf856 : 1 ≤ y843 := by omega
                    clear g811 g812 g813 g814 g815 g816 h809 u833 h851
                    refine Tm_lv (a := [(0, .ref 189), (1, .int (i32 (m.1 99)))]) rfl rfl ⟨rfl, rfl, trivial⟩ ?_
                    exact J235_28 (mO m [(7, y837), (8, y839), (9, y841), (10, y843), (11, y845), (12, y847), (28, (m806.1 28)), (69, (m806.1 69)), (70, (m806.1 70)), (71, (m806.1 71)), (72, (m806.1 72)), (73, (m806.1 73)), (74, (m806.1 74)), (75, (m806.1 75)), (99, (m.1 99) + 1), (100, (m679.1 100))] [(65, (m806.2 65)), (66, (m806.2 66)), (67, (m806.2 67)), (68, (m806.2 68)), (76, (m806.2 76)), (77, (m806.2 77)), (78, (m806.2 78)), (79, (m806.2 79)), (80, (m806.2 80)), (81, (m806.2 81)), (82, (m806.2 82)), (83, (m806.2 83)), (84, (m806.2 84)), (85, (m806.2 85)), (86, (m806.2 86)), (87, (m806.2 87)), (88, (m806.2 88)), (89, (m806.2 89)), (90, (m806.2 90)), (91, (m806.2 91)), (92, (m806.2 92)), (101, upI (m.2 101) (m.1 99) (m.1 7)), (102, upI (m.2 102) (m.1 99) tp), (103, upI (m.2 103) (m.1 99) oo), (104, (m.2 104)), (105, (m806.2 105)), (106, (m806.2 106)), (107, (m.2 107)), (108, (m.2 108))]) (Ty_mO hT rfl rfl ⟨g838, g840, g842, g844, g846, g848, (hT807.1 28), (hT807.1 69), (hT807.1 70), (hT807.1 71), (hT807.1 72), (hT807.1 73), (hT807.1 74), (hT807.1 75), g339, (hT680.1 100), trivial⟩ ⟨(hT807.2.1 65), (hT807.2.1 66), (hT807.2.1 67), (hT807.2.1 68), (hT807.2.1 76), (hT807.2.1 77), (hT807.2.1 78), (hT807.2.1 79), (hT807.2.1 80), (hT807.2.1 81), (hT807.2.1 82), (hT807.2.1 83), (hT807.2.1 84), (hT807.2.1 85), (hT807.2.1 86), (hT807.2.1 87), (hT807.2.1 88), (hT807.2.1 89), (hT807.2.1 90), (hT807.2.1 91), (hT807.2.1 92), G340, G696, G721, (hT.2.1 104), (hT807.2.1 105), (hT807.2.1 106), (hT.2.1 107), (hT.2.1 108), trivial⟩) (show 1 ≤ y843 by omega) (show y843 ≤ 8 by omega) (show 0 ≤ ((m.1 99) + 1) ∧ ((m.1 99) + 1) ≤ 240 by omega) (show 0 ≤ (m.1 99) ∧ (m.1 99) ≤ 240 by omega)
                · skip
                  clear c810
                  clear h808
                  replace h809 : LxP (m806.1 7) (m806.1 8) (m806.1 9) (m.1 6) (m806.1 10) := h809
                  have hLx := h809
                  have hf857 : 1 ≤ (m806.1 10) := by omega
                  clear g700 g702 g704 g710 h712 h713 u719 g798 g799 u802
                  refine Tm_lv (a := [(0, .ref 189), (1, .int (i32 (m.1 99))), (2, .int (i32 (m679.1 8)))]) rfl rfl ⟨rfl, rfl, rfl, trivial⟩ ?_
                  exact J143_134 (m679.1 8) (mO m [(7, (m806.1 7)), (8, (m806.1 8)), (9, (m806.1 9)), (10, (m806.1 10)), (11, (m806.1 11)), (12, (m806.1 12)), (28, (m806.1 28)), (69, (m806.1 69)), (70, (m806.1 70)), (71, (m806.1 71)), (72, (m806.1 72)), (73, (m806.1 73)), (74, (m806.1 74)), (75, (m806.1 75)), (99, (m.1 99) + 1), (100, (m679.1 100))] [(65, (m806.2 65)), (66, (m806.2 66)), (67, (m806.2 67)), (68, (m806.2 68)), (76, (m806.2 76)), (77, (m806.2 77)), (78, (m806.2 78)), (79, (m806.2 79)), (80, (m806.2 80)), (81, (m806.2 81)), (82, (m806.2 82)), (83, (m806.2 83)), (84, (m806.2 84)), (85, (m806.2 85)), (86, (m806.2 86)), (87, (m806.2 87)), (88, (m806.2 88)), (89, (m806.2 89)), (90, (m806.2 90)), (91, (m806.2 91)), (92, (m806.2 92)), (101, upI (m.2 101) (m.1 99) (m.1 7)), (102, upI (m.2 102) (m.1 99) tp), (103, upI (m.2 103) (m.1 99) oo), (104, (m.2 104)), (105, (m806.2 105)), (106, (m806.2 106)), (107, (m.2 107)), (108, (m.2 108))]) (r32 (by omega) (by omega)) (Ty_mO hT rfl rfl ⟨(hT807.1 7), (hT807.1 8), (hT807.1 9), (hT807.1 10), (hT807.1 11), (hT807.1 12), (hT807.1 28), (hT807.1 69), (hT807.1 70), (hT807.1 71), (hT807.1 72), (hT807.1 73), (hT807.1 74), (hT807.1 75), g339, (hT680.1 100), trivial⟩ ⟨(hT807.2.1 65), (hT807.2.1 66), (hT807.2.1 67), (hT807.2.1 68), (hT807.2.1 76), (hT807.2.1 77), (hT807.2.1 78), (hT807.2.1 79), (hT807.2.1 80), (hT807.2.1 81), (hT807.2.1 82), (hT807.2.1 83), (hT807.2.1 84), (hT807.2.1 85), (hT807.2.1 86), (hT807.2.1 87), (hT807.2.1 88), (hT807.2.1 89), (hT807.2.1 90), (hT807.2.1 91), (hT807.2.1 92), G340, G696, G721, (hT.2.1 104), (hT807.2.1 105), (hT807.2.1 106), (hT.2.1 107), (hT.2.1 108), trivial⟩) (show 0 ≤ (m679.1 8) by omega) (show (m679.1 8) ≤ 4000 by omega) (show 1 ≤ (m806.1 10) by omega) (show (m806.1 10) ≤ 8 by omega) (show 0 ≤ ((m.1 99) + 1) ∧ ((m.1 99) + 1) ≤ 240 by omega) (show 0 ≤ (m.1 99) ∧ (m.1 99) ≤ 240 by omega)
              · skip
                clear c797
                clear h796
                have hf858 : 1 ≤ (m794.1 10) := by omega
                clear g708
                refine Tm_lv (a := [(0, .ref 189), (1, .int (i32 (m.1 99))), (2, .int (i32 (m679.1 8)))]) rfl rfl ⟨rfl, rfl, rfl, trivial⟩ ?_
                exact J138_165 (m679.1 8) (mO m [(7, y699), (8, y701), (9, y703), (10, (m794.1 10)), (11, (m794.1 11)), (12, y709), (28, (m.1 28)), (69, (m.1 69)), (70, (m.1 70)), (71, (m.1 71)), (72, (m.1 72)), (73, (m.1 73)), (74, (m.1 74)), (75, (m.1 75)), (99, (m.1 99) + 1), (100, (m679.1 100))] [(65, (m.2 65)), (66, (m.2 66)), (67, (m.2 67)), (68, (m.2 68)), (76, (m.2 76)), (77, (m.2 77)), (78, (m.2 78)), (79, (m.2 79)), (80, (m.2 80)), (81, (m.2 81)), (82, (m.2 82)), (83, (m.2 83)), (84, (m.2 84)), (85, (m.2 85)), (86, (m.2 86)), (87, (m.2 87)), (88, (m.2 88)), (89, (m.2 89)), (90, (m.2 90)), (91, (m.2 91)), (92, (m.2 92)), (101, upI (m.2 101) (m.1 99) (m.1 7)), (102, upI (m.2 102) (m.1 99) tp), (103, upI (m.2 103) (m.1 99) oo), (104, (m.2 104)), (105, (m.2 105)), (106, (m.2 106)), (107, (m.2 107)), (108, (m.2 108))]) (r32 (by omega) (by omega)) (Ty_mO hT rfl rfl ⟨g700, g702, g704, (hT795.1 10), (hT795.1 11), g710, f28, f69, f70, f71, f72, f73, f74, f75, g339, (hT680.1 100), trivial⟩ ⟨(hT.2.1 65), (hT.2.1 66), (hT.2.1 67), (hT.2.1 68), (hT.2.1 76), (hT.2.1 77), (hT.2.1 78), (hT.2.1 79), (hT.2.1 80), (hT.2.1 81), (hT.2.1 82), (hT.2.1 83), (hT.2.1 84), (hT.2.1 85), (hT.2.1 86), (hT.2.1 87), (hT.2.1 88), (hT.2.1 89), (hT.2.1 90), (hT.2.1 91), (hT.2.1 92), G340, G696, G721, (hT.2.1 104), (hT.2.1 105), (hT.2.1 106), (hT.2.1 107), (hT.2.1 108), trivial⟩) (show 0 ≤ (m679.1 8) by omega) (show (m679.1 8) ≤ 4000 by omega) (show 1 ≤ (m794.1 10) by omega) (show (m794.1 10) ≤ 8 by omega) (show 0 ≤ ((m.1 99) + 1) ∧ ((m.1 99) + 1) ≤ 240 by omega) (show 0 ≤ (m.1 99) ∧ (m.1 99) ≤ 240 by omega)
          · skip
            replace h712 : LxP y699 y701 y703 (m.1 6) y705 := h712
            have hLx := h712
            replace h713 : (m679.1 8) ≤ y701 := h713
            clear h714
            clear h715
            replace h716 : 0 ≤ oo ∧ (oo < (m.1 22) ∨ oo = 0) := h716
            clear h717
            have hf859 : 1 ≤ y705 := by omega
            clear g685 g687 g688 g689 g690 h683
            refine Tm_lv (a := [(0, .ref 189), (1, .int (i32 (m.1 99))), (2, .int (i32 (m679.1 8)))]) rfl rfl ⟨rfl, rfl, rfl, trivial⟩ ?_
            exact J102_200 (m679.1 8) oo (mO m [(7, y699), (8, y701), (9, y703), (10, y705), (11, y707), (12, y709), (28, (m.1 28)), (69, (m.1 69)), (70, (m.1 70)), (71, (m.1 71)), (72, (m.1 72)), (73, (m.1 73)), (74, (m.1 74)), (75, (m.1 75)), (99, (m.1 99) + 1), (100, (m679.1 100))] [(65, (m.2 65)), (66, (m.2 66)), (67, (m.2 67)), (68, (m.2 68)), (76, (m.2 76)), (77, (m.2 77)), (78, (m.2 78)), (79, (m.2 79)), (80, (m.2 80)), (81, (m.2 81)), (82, (m.2 82)), (83, (m.2 83)), (84, (m.2 84)), (85, (m.2 85)), (86, (m.2 86)), (87, (m.2 87)), (88, (m.2 88)), (89, (m.2 89)), (90, (m.2 90)), (91, (m.2 91)), (92, (m.2 92)), (101, upI (m.2 101) (m.1 99) (m.1 7)), (102, upI (m.2 102) (m.1 99) tp), (103, (m.2 103)), (104, (m.2 104)), (105, (m.2 105)), (106, (m.2 106)), (107, (m.2 107)), (108, (m.2 108))]) (r32 (by omega) (by omega)) (r32 (by omega) (by omega)) (Ty_mO hT rfl rfl ⟨g700, g702, g704, g706, g708, g710, f28, f69, f70, f71, f72, f73, f74, f75, g339, (hT680.1 100), trivial⟩ ⟨(hT.2.1 65), (hT.2.1 66), (hT.2.1 67), (hT.2.1 68), (hT.2.1 76), (hT.2.1 77), (hT.2.1 78), (hT.2.1 79), (hT.2.1 80), (hT.2.1 81), (hT.2.1 82), (hT.2.1 83), (hT.2.1 84), (hT.2.1 85), (hT.2.1 86), (hT.2.1 87), (hT.2.1 88), (hT.2.1 89), (hT.2.1 90), (hT.2.1 91), (hT.2.1 92), G340, G696, (hT.2.1 103), (hT.2.1 104), (hT.2.1 105), (hT.2.1 106), (hT.2.1 107), (hT.2.1 108), trivial⟩) (show 0 ≤ (m679.1 8) by omega) (show (m679.1 8) ≤ 4000 by omega) (show 0 ≤ oo by omega) (show oo ≤ 7 by omega) (show 1 ≤ y705 by omega) (show y705 ≤ 8 by omega) (show 0 ≤ ((m.1 99) + 1) ∧ ((m.1 99) + 1) ≤ 240 by omega) (show 0 ≤ (m.1 99) ∧ (m.1 99) ≤ 240 by omega) (show 0 ≤ (m.1 99) ∧ (m.1 99) ≤ 240 by omega)
        · skip
          clear c684
          clear h682
          replace h683 : LxP (m679.1 7) (m679.1 8) (m679.1 9) (m.1 6) (m679.1 10) := h683
          have hLx := h683
          have hf860 : 1 ≤ (m679.1 10) := by omega
          clear g659 g661 g663 g667 g669 h670 h672 h673 u675
          refine Tm_lv (a := [(0, .ref 189), (1, .int (i32 (m.1 99)))]) rfl rfl ⟨rfl, rfl, trivial⟩ ?_
          exact J86_240 tp (mO m [(7, (m679.1 7)), (8, (m679.1 8)), (9, (m679.1 9)), (10, (m679.1 10)), (11, (m679.1 11)), (12, (m679.1 12)), (28, (m.1 28)), (69, (m.1 69)), (70, (m.1 70)), (71, (m.1 71)), (72, (m.1 72)), (73, (m.1 73)), (74, (m.1 74)), (75, (m.1 75)), (99, (m.1 99) + 1), (100, (m679.1 100))] [(65, (m.2 65)), (66, (m.2 66)), (67, (m.2 67)), (68, (m.2 68)), (76, (m.2 76)), (77, (m.2 77)), (78, (m.2 78)), (79, (m.2 79)), (80, (m.2 80)), (81, (m.2 81)), (82, (m.2 82)), (83, (m.2 83)), (84, (m.2 84)), (85, (m.2 85)), (86, (m.2 86)), (87, (m.2 87)), (88, (m.2 88)), (89, (m.2 89)), (90, (m.2 90)), (91, (m.2 91)), (92, (m.2 92)), (101, upI (m.2 101) (m.1 99) (m.1 7)), (102, (m.2 102)), (103, (m.2 103)), (104, (m.2 104)), (105, (m.2 105)), (106, (m.2 106)), (107, (m.2 107)), (108, (m.2 108))]) (r32 (by omega) (by omega)) (Ty_mO hT rfl rfl ⟨(hT680.1 7), (hT680.1 8), (hT680.1 9), (hT680.1 10), (hT680.1 11), (hT680.1 12), f28, f69, f70, f71, f72, f73, f74, f75, g339, (hT680.1 100), trivial⟩ ⟨(hT.2.1 65), (hT.2.1 66), (hT.2.1 67), (hT.2.1 68), (hT.2.1 76), (hT.2.1 77), (hT.2.1 78), (hT.2.1 79), (hT.2.1 80), (hT.2.1 81), (hT.2.1 82), (hT.2.1 83), (hT.2.1 84), (hT.2.1 85), (hT.2.1 86), (hT.2.1 87), (hT.2.1 88), (hT.2.1 89), (hT.2.1 90), (hT.2.1 91), (hT.2.1 92), G340, (hT.2.1 102), (hT.2.1 103), (hT.2.1 104), (hT.2.1 105), (hT.2.1 106), (hT.2.1 107), (hT.2.1 108), trivial⟩) (show 0 ≤ tp by omega) (show tp ≤ 207 by omega) (show 1 ≤ (m679.1 10) by omega) (show (m679.1 10) ≤ 8 by omega) (show 0 ≤ ((m.1 99) + 1) ∧ ((m.1 99) + 1) ≤ 240 by omega) (show 0 ≤ (m.1 99) ∧ (m.1 99) ≤ 240 by omega) (show 0 ≤ (m.1 99) ∧ (m.1 99) ≤ 240 by omega)
      · skip
        replace h670 : LxP y658 y660 y662 (m.1 6) y664 := h670
        have hLx := h670
        clear h671
        replace h672 : (m.1 8) ≤ y660 := h672
        clear h673
        have hf861 : 1 ≤ y664 := by omega
        refine T_gf 81 (.ref 262) rfl rfl rfl rfl rfl rfl ?_
        refine T_ld 82 (.int (i32 (m.1 99))) rfl (fun _ => rfl) ?_
        refine T_ld 83 (.ref 189) rfl (fun _ => rfl) ?_
        refine T_call 86 271 [.ref 189] [.int (i32 (m.1 99)), .ref 262] rfl (fun _ => rfl) rfl (c_takePlace w (mO m [(7, y658), (8, y660), (9, y662), (10, y664), (11, y666), (12, y668), (28, (m.1 28)), (69, (m.1 69)), (70, (m.1 70)), (71, (m.1 71)), (72, (m.1 72)), (73, (m.1 73)), (74, (m.1 74)), (75, (m.1 75)), (99, (m.1 99) + 1), (100, (m.1 100))] [(65, (m.2 65)), (66, (m.2 66)), (67, (m.2 67)), (68, (m.2 68)), (76, (m.2 76)), (77, (m.2 77)), (78, (m.2 78)), (79, (m.2 79)), (80, (m.2 80)), (81, (m.2 81)), (82, (m.2 82)), (83, (m.2 83)), (84, (m.2 84)), (85, (m.2 85)), (86, (m.2 86)), (87, (m.2 87)), (88, (m.2 88)), (89, (m.2 89)), (90, (m.2 90)), (91, (m.2 91)), (92, (m.2 92)), (101, upI (m.2 101) (m.1 99) (m.1 7)), (102, (m.2 102)), (103, (m.2 103)), (104, (m.2 104)), (105, (m.2 105)), (106, (m.2 106)), (107, (m.2 107)), (108, (m.2 108))]) c N D (by omega) (Ty_mO hT rfl rfl ⟨g659, g661, g663, g665, g667, g669, f28, f69, f70, f71, f72, f73, f74, f75, g339, f100, trivial⟩ ⟨(hT.2.1 65), (hT.2.1 66), (hT.2.1 67), (hT.2.1 68), (hT.2.1 76), (hT.2.1 77), (hT.2.1 78), (hT.2.1 79), (hT.2.1 80), (hT.2.1 81), (hT.2.1 82), (hT.2.1 83), (hT.2.1 84), (hT.2.1 85), (hT.2.1 86), (hT.2.1 87), (hT.2.1 88), (hT.2.1 89), (hT.2.1 90), (hT.2.1 91), (hT.2.1 92), G340, (hT.2.1 102), (hT.2.1 103), (hT.2.1 104), (hT.2.1 105), (hT.2.1 106), (hT.2.1 107), (hT.2.1 108), trivial⟩) (show LxP y658 y660 y662 (m.1 6) y664 by first | exact hLx | exact (fun _ => hLx (by omega)) | (intro h9; exfalso; omega)) (show ∀ k, (m.2 14) k + (m.2 15) k ≤ 4000 by assumption) (show ∀ k, (m.2 31) k + (m.2 32) k ≤ 4000 by assumption) (fun (h : y664 = 0) => absurd h (by omega))) (fun rr862 k863 => ?_)
        obtain ⟨m864, tp, hT865, g866, h867, h868, c869, rfl⟩ := k863
        refine ⟨_, _, rfl, ?_⟩
        refine T_nf2 (st' := [.int (i32 tp), .int (i32 (m.1 99)), .ref 262]) (l' := [(7, (m864.1 7)), (8, (m864.1 8)), (9, (m864.1 9)), (10, (m864.1 10)), (11, (m864.1 11)), (12, (m864.1 12)), (28, (m.1 28)), (69, (m.1 69)), (70, (m.1 70)), (71, (m.1 71)), (72, (m.1 72)), (73, (m.1 73)), (74, (m.1 74)), (75, (m.1 75)), (99, (m.1 99) + 1), (100, (m864.1 100))]) (a' := [(65, (m.2 65)), (66, (m.2 66)), (67, (m.2 67)), (68, (m.2 68)), (76, (m.2 76)), (77, (m.2 77)), (78, (m.2 78)), (79, (m.2 79)), (80, (m.2 80)), (81, (m.2 81)), (82, (m.2 82)), (83, (m.2 83)), (84, (m.2 84)), (85, (m.2 85)), (86, (m.2 86)), (87, (m.2 87)), (88, (m.2 88)), (89, (m.2 89)), (90, (m.2 90)), (91, (m.2 91)), (92, (m.2 92)), (101, upI (m.2 101) (m.1 99) (m.1 7)), (102, (m.2 102)), (103, (m.2 103)), (104, (m.2 104)), (105, (m.2 105)), (106, (m.2 106)), (107, (m.2 107)), (108, (m.2 108))]) [7, 8, 9, 10, 11, 12, 100] [] rfl ⟨rfl, rfl, rfl, rfl, rfl, rfl, rfl, rfl, rfl, rfl, rfl, rfl, rfl, rfl, rfl, rfl, rfl, rfl, rfl, rfl, rfl, rfl, rfl, rfl, rfl, rfl, rfl, rfl, rfl, rfl, rfl, rfl, rfl, rfl, rfl, rfl, rfl, rfl, rfl, rfl, rfl, trivial⟩ ⟨rfl, rfl, rfl, rfl, rfl, rfl, rfl, rfl, rfl, rfl, rfl, rfl, rfl, rfl, rfl, rfl, rfl, rfl, rfl, rfl, rfl, rfl, rfl, rfl, rfl, rfl, rfl, rfl, rfl, rfl, rfl, rfl, rfl, rfl, rfl, rfl, rfl, rfl, rfl, rfl, rfl, rfl, rfl, rfl, rfl, rfl, rfl, rfl, rfl, rfl, rfl, rfl, rfl, rfl, rfl, rfl, rfl, rfl, trivial⟩ rfl rfl (by decide) (by decide) ?_
        obtain ⟨g866a, g866b⟩ := g866
        have g870 : 0 ≤ m864.1 7 ∧ m864.1 7 ≤ 330 := hT865.1 7
        have g871 : 0 ≤ m864.1 8 ∧ m864.1 8 ≤ 4000 := hT865.1 8
        have g872 : 0 ≤ m864.1 9 ∧ m864.1 9 ≤ 4000 := hT865.1 9
        have g873 : 0 ≤ m864.1 10 ∧ m864.1 10 ≤ 8 := hT865.1 10
        have g874 : (-1) ≤ m864.1 11 ∧ m864.1 11 ≤ 4000 := hT865.1 11
        have g875 : (-9223372036854775808) ≤ m864.1 12 ∧ m864.1 12 ≤ 9223372036854775807 := hT865.1 12
        have g876 : 0 ≤ m864.1 100 ∧ m864.1 100 ≤ 64 := hT865.1 100
        replace h867 : (m864.1 10) = 0 → y664 = 0 := h867
        replace h868 : LxP (m864.1 7) (m864.1 8) (m864.1 9) (m.1 6) (m864.1 10) := h868
        have hf877 : 1 ≤ (m864.1 10) := by omega
        clear c869
        clear h867
        have hLx := h868
        clear g659 g661 g663 g665 g667 g669 h670 h672 hf861
        refine Tm_lv (a := [(0, .ref 189), (1, .int (i32 (m.1 99)))]) rfl rfl ⟨rfl, rfl, trivial⟩ ?_
        exact J86_240 tp (mO m [(7, (m864.1 7)), (8, (m864.1 8)), (9, (m864.1 9)), (10, (m864.1 10)), (11, (m864.1 11)), (12, (m864.1 12)), (28, (m.1 28)), (69, (m.1 69)), (70, (m.1 70)), (71, (m.1 71)), (72, (m.1 72)), (73, (m.1 73)), (74, (m.1 74)), (75, (m.1 75)), (99, (m.1 99) + 1), (100, (m864.1 100))] [(65, (m.2 65)), (66, (m.2 66)), (67, (m.2 67)), (68, (m.2 68)), (76, (m.2 76)), (77, (m.2 77)), (78, (m.2 78)), (79, (m.2 79)), (80, (m.2 80)), (81, (m.2 81)), (82, (m.2 82)), (83, (m.2 83)), (84, (m.2 84)), (85, (m.2 85)), (86, (m.2 86)), (87, (m.2 87)), (88, (m.2 88)), (89, (m.2 89)), (90, (m.2 90)), (91, (m.2 91)), (92, (m.2 92)), (101, upI (m.2 101) (m.1 99) (m.1 7)), (102, (m.2 102)), (103, (m.2 103)), (104, (m.2 104)), (105, (m.2 105)), (106, (m.2 106)), (107, (m.2 107)), (108, (m.2 108))]) (r32 (by omega) (by omega)) (Ty_mO hT rfl rfl ⟨(hT865.1 7), (hT865.1 8), (hT865.1 9), (hT865.1 10), (hT865.1 11), (hT865.1 12), f28, f69, f70, f71, f72, f73, f74, f75, g339, (hT865.1 100), trivial⟩ ⟨(hT.2.1 65), (hT.2.1 66), (hT.2.1 67), (hT.2.1 68), (hT.2.1 76), (hT.2.1 77), (hT.2.1 78), (hT.2.1 79), (hT.2.1 80), (hT.2.1 81), (hT.2.1 82), (hT.2.1 83), (hT.2.1 84), (hT.2.1 85), (hT.2.1 86), (hT.2.1 87), (hT.2.1 88), (hT.2.1 89), (hT.2.1 90), (hT.2.1 91), (hT.2.1 92), G340, (hT.2.1 102), (hT.2.1 103), (hT.2.1 104), (hT.2.1 105), (hT.2.1 106), (hT.2.1 107), (hT.2.1 108), trivial⟩) (show 0 ≤ tp by omega) (show tp ≤ 207 by omega) (show 1 ≤ (m864.1 10) by omega) (show (m864.1 10) ≤ 8 by omega) (show 0 ≤ ((m.1 99) + 1) ∧ ((m.1 99) + 1) ≤ 240 by omega) (show 0 ≤ (m.1 99) ∧ (m.1 99) ≤ 240 by omega) (show 0 ≤ (m.1 99) ∧ (m.1 99) ≤ 240 by omega)
  · skip
    refine T_gf 37 (.ref 262) rfl rfl rfl rfl rfl rfl ?_
    refine T_ld 38 (.int (i32 (m.1 99))) rfl (fun _ => rfl) ?_
    refine T_ld 39 (.ref 189) rfl (fun _ => rfl) ?_
    refine T_call 42 271 [.ref 189] [.int (i32 (m.1 99)), .ref 262] rfl (fun _ => rfl) rfl (c_takePlace w (mO m [(7, (m.1 7)), (8, (m.1 8)), (9, (m.1 9)), (10, (m.1 10)), (11, (m.1 11)), (12, (m.1 12)), (28, (m.1 28)), (69, (m.1 69)), (70, (m.1 70)), (71, (m.1 71)), (72, (m.1 72)), (73, (m.1 73)), (74, (m.1 74)), (75, (m.1 75)), (99, (m.1 99) + 1), (100, (m.1 100))] [(65, (m.2 65)), (66, (m.2 66)), (67, (m.2 67)), (68, (m.2 68)), (76, (m.2 76)), (77, (m.2 77)), (78, (m.2 78)), (79, (m.2 79)), (80, (m.2 80)), (81, (m.2 81)), (82, (m.2 82)), (83, (m.2 83)), (84, (m.2 84)), (85, (m.2 85)), (86, (m.2 86)), (87, (m.2 87)), (88, (m.2 88)), (89, (m.2 89)), (90, (m.2 90)), (91, (m.2 91)), (92, (m.2 92)), (101, upI (m.2 101) (m.1 99) (m.1 7)), (102, (m.2 102)), (103, (m.2 103)), (104, (m.2 104)), (105, (m.2 105)), (106, (m.2 106)), (107, (m.2 107)), (108, (m.2 108))]) c N D (by omega) (Ty_mO hT rfl rfl ⟨f7, f8, f9, f10, f11, f12, f28, f69, f70, f71, f72, f73, f74, f75, g339, f100, trivial⟩ ⟨(hT.2.1 65), (hT.2.1 66), (hT.2.1 67), (hT.2.1 68), (hT.2.1 76), (hT.2.1 77), (hT.2.1 78), (hT.2.1 79), (hT.2.1 80), (hT.2.1 81), (hT.2.1 82), (hT.2.1 83), (hT.2.1 84), (hT.2.1 85), (hT.2.1 86), (hT.2.1 87), (hT.2.1 88), (hT.2.1 89), (hT.2.1 90), (hT.2.1 91), (hT.2.1 92), G340, (hT.2.1 102), (hT.2.1 103), (hT.2.1 104), (hT.2.1 105), (hT.2.1 106), (hT.2.1 107), (hT.2.1 108), trivial⟩) (show LxP (m.1 7) (m.1 8) (m.1 9) (m.1 6) (m.1 10) by first | exact hLx | exact (fun _ => hLx (by omega)) | (intro h9; exfalso; omega)) (show ∀ k, (m.2 14) k + (m.2 15) k ≤ 4000 by assumption) (show ∀ k, (m.2 31) k + (m.2 32) k ≤ 4000 by assumption) (fun _ => (show PN (m.1 13) (m.1 19) (m.1 20) (m.1 21) (m.1 22) (m.1 23) (m.1 25) (m.1 26) (m.2 16) (m.2 17) by assumption))) (fun rr878 k879 => ?_)
    obtain ⟨m880, tp, hT881, g882, h883, h884, c885, rfl⟩ := k879
    refine ⟨_, _, rfl, ?_⟩
    refine T_nf2 (st' := [.int (i32 tp), .int (i32 (m.1 99)), .ref 262]) (l' := [(7, (m880.1 7)), (8, (m880.1 8)), (9, (m880.1 9)), (10, (m880.1 10)), (11, (m880.1 11)), (12, (m880.1 12)), (28, (m.1 28)), (69, (m.1 69)), (70, (m.1 70)), (71, (m.1 71)), (72, (m.1 72)), (73, (m.1 73)), (74, (m.1 74)), (75, (m.1 75)), (99, (m.1 99) + 1), (100, (m880.1 100))]) (a' := [(65, (m.2 65)), (66, (m.2 66)), (67, (m.2 67)), (68, (m.2 68)), (76, (m.2 76)), (77, (m.2 77)), (78, (m.2 78)), (79, (m.2 79)), (80, (m.2 80)), (81, (m.2 81)), (82, (m.2 82)), (83, (m.2 83)), (84, (m.2 84)), (85, (m.2 85)), (86, (m.2 86)), (87, (m.2 87)), (88, (m.2 88)), (89, (m.2 89)), (90, (m.2 90)), (91, (m.2 91)), (92, (m.2 92)), (101, upI (m.2 101) (m.1 99) (m.1 7)), (102, (m.2 102)), (103, (m.2 103)), (104, (m.2 104)), (105, (m.2 105)), (106, (m.2 106)), (107, (m.2 107)), (108, (m.2 108))]) [7, 8, 9, 10, 11, 12, 100] [] rfl ⟨rfl, rfl, rfl, rfl, rfl, rfl, rfl, rfl, rfl, rfl, rfl, rfl, rfl, rfl, rfl, rfl, rfl, rfl, rfl, rfl, rfl, rfl, rfl, rfl, rfl, rfl, rfl, rfl, rfl, rfl, rfl, rfl, rfl, rfl, rfl, rfl, rfl, rfl, rfl, rfl, rfl, trivial⟩ ⟨rfl, rfl, rfl, rfl, rfl, rfl, rfl, rfl, rfl, rfl, rfl, rfl, rfl, rfl, rfl, rfl, rfl, rfl, rfl, rfl, rfl, rfl, rfl, rfl, rfl, rfl, rfl, rfl, rfl, rfl, rfl, rfl, rfl, rfl, rfl, rfl, rfl, rfl, rfl, rfl, rfl, rfl, rfl, rfl, rfl, rfl, rfl, rfl, rfl, rfl, rfl, rfl, rfl, rfl, rfl, rfl, rfl, rfl, trivial⟩ rfl rfl (by decide) (by decide) ?_
    obtain ⟨g882a, g882b⟩ := g882
    have g886 : 0 ≤ m880.1 7 ∧ m880.1 7 ≤ 330 := hT881.1 7
    have g887 : 0 ≤ m880.1 8 ∧ m880.1 8 ≤ 4000 := hT881.1 8
    have g888 : 0 ≤ m880.1 9 ∧ m880.1 9 ≤ 4000 := hT881.1 9
    have g889 : 0 ≤ m880.1 10 ∧ m880.1 10 ≤ 8 := hT881.1 10
    have g890 : (-1) ≤ m880.1 11 ∧ m880.1 11 ≤ 4000 := hT881.1 11
    have g891 : (-9223372036854775808) ≤ m880.1 12 ∧ m880.1 12 ≤ 9223372036854775807 := hT881.1 12
    have g892 : 0 ≤ m880.1 100 ∧ m880.1 100 ≤ 64 := hT881.1 100
    by_cases hf893 : (m880.1 10) = 0
    · skip
      replace h883 : (m.1 10) = 0 := h883 hf893
      replace h884 : LxP (m880.1 7) (m880.1 8) (m880.1 9) (m.1 6) (m880.1 10) := h884
      have hLx := h884
      have c894 := c885 hf893
      replace c894 : (m.1 8) + 1 ≤ (m880.1 8) := c894
      clear c885
      have u895 : (m.1 8) + 1 ≤ (m880.1 8) := by omega
      have hAgC : agr (m.2 65) (m.2 65) (m.1 28) := by first | exact agr_r _ _ | exact hAgC | exact agr_t hAgC hAg (by omega)
      have u896 : (m.1 28) ≤ (m.1 28) := by omega
      have G897 : ∀ j, 0 ≤ (upI (m.2 102) (m.1 99) tp) j ∧ (upI (m.2 102) (m.1 99) tp) j ≤ 207 := upI_rg (hT.2.1 102) ⟨by omega, by omega⟩
      refine T_iast (a' := [(65, (m.2 65)), (66, (m.2 66)), (67, (m.2 67)), (68, (m.2 68)), (76, (m.2 76)), (77, (m.2 77)), (78, (m.2 78)), (79, (m.2 79)), (80, (m.2 80)), (81, (m.2 81)), (82, (m.2 82)), (83, (m.2 83)), (84, (m.2 84)), (85, (m.2 85)), (86, (m.2 86)), (87, (m.2 87)), (88, (m.2 88)), (89, (m.2 89)), (90, (m.2 90)), (91, (m.2 91)), (92, (m.2 92)), (101, upI (m.2 101) (m.1 99) (m.1 7)), (102, upI (m.2 102) (m.1 99) tp), (103, (m.2 103)), (104, (m.2 104)), (105, (m.2 105)), (106, (m.2 106)), (107, (m.2 107)), (108, (m.2 108))]) 43 102 (m.2 102) rfl rfl rfl (by omega) (show (m.1 99) < (240 : Int) by omega) rfl rfl ?_
      refine T_gf 47 (.int (i32 (m880.1 100))) rfl rfl rfl rfl rfl rfl ?_
      refine T_sto 48 [(2, .int (i32 (m880.1 100))), (1, .int (i32 (m.1 99))), (0, .ref 189)] rfl (fun _ => rfl) ?_
      refine T_ld 49 (.ref 189) rfl (fun _ => rfl) ?_
      refine T_ld 51 (.int (i32 61)) rfl (fun _ => rfl) ?_
      refine T_call 54 232 [.ref 189, .int (i32 61)] [] rfl (fun _ => rfl) rfl (c_need w (mO m [(7, (m880.1 7)), (8, (m880.1 8)), (9, (m880.1 9)), (10, (m880.1 10)), (11, (m880.1 11)), (12, (m880.1 12)), (28, (m.1 28)), (69, (m.1 69)), (70, (m.1 70)), (71, (m.1 71)), (72, (m.1 72)), (73, (m.1 73)), (74, (m.1 74)), (75, (m.1 75)), (99, (m.1 99) + 1), (100, (m880.1 100))] [(65, (m.2 65)), (66, (m.2 66)), (67, (m.2 67)), (68, (m.2 68)), (76, (m.2 76)), (77, (m.2 77)), (78, (m.2 78)), (79, (m.2 79)), (80, (m.2 80)), (81, (m.2 81)), (82, (m.2 82)), (83, (m.2 83)), (84, (m.2 84)), (85, (m.2 85)), (86, (m.2 86)), (87, (m.2 87)), (88, (m.2 88)), (89, (m.2 89)), (90, (m.2 90)), (91, (m.2 91)), (92, (m.2 92)), (101, upI (m.2 101) (m.1 99) (m.1 7)), (102, upI (m.2 102) (m.1 99) tp), (103, (m.2 103)), (104, (m.2 104)), (105, (m.2 105)), (106, (m.2 106)), (107, (m.2 107)), (108, (m.2 108))]) c N D (by omega) (Ty_mO hT rfl rfl ⟨(hT881.1 7), (hT881.1 8), (hT881.1 9), (hT881.1 10), (hT881.1 11), (hT881.1 12), f28, f69, f70, f71, f72, f73, f74, f75, g339, (hT881.1 100), trivial⟩ ⟨(hT.2.1 65), (hT.2.1 66), (hT.2.1 67), (hT.2.1 68), (hT.2.1 76), (hT.2.1 77), (hT.2.1 78), (hT.2.1 79), (hT.2.1 80), (hT.2.1 81), (hT.2.1 82), (hT.2.1 83), (hT.2.1 84), (hT.2.1 85), (hT.2.1 86), (hT.2.1 87), (hT.2.1 88), (hT.2.1 89), (hT.2.1 90), (hT.2.1 91), (hT.2.1 92), G340, G897, (hT.2.1 103), (hT.2.1 104), (hT.2.1 105), (hT.2.1 106), (hT.2.1 107), (hT.2.1 108), trivial⟩) 61 ⟨by decide, by decide⟩ (show 1 ≤ (61 : Int) by omega) (show LxP (m880.1 7) (m880.1 8) (m880.1 9) (m.1 6) (m880.1 10) by first | exact hLx | (intro h9; exfalso; omega) | (intro h9; have h8 := hLx (by omega); omega))) (fun rr898 k899 => ?_)
      obtain ⟨y900, y902, y904, y906, y908, y910, g901, g903, g905, g907, g909, g911, h912, h913, h914, h915, rfl⟩ := k899
      refine ⟨_, _, rfl, ?_⟩
      refine T_nf2 (st' := []) (l' := [(7, y900), (8, y902), (9, y904), (10, y906), (11, y908), (12, y910), (28, (m.1 28)), (69, (m.1 69)), (70, (m.1 70)), (71, (m.1 71)), (72, (m.1 72)), (73, (m.1 73)), (74, (m.1 74)), (75, (m.1 75)), (99, (m.1 99) + 1), (100, (m880.1 100))]) (a' := [(65, (m.2 65)), (66, (m.2 66)), (67, (m.2 67)), (68, (m.2 68)), (76, (m.2 76)), (77, (m.2 77)), (78, (m.2 78)), (79, (m.2 79)), (80, (m.2 80)), (81, (m.2 81)), (82, (m.2 82)), (83, (m.2 83)), (84, (m.2 84)), (85, (m.2 85)), (86, (m.2 86)), (87, (m.2 87)), (88, (m.2 88)), (89, (m.2 89)), (90, (m.2 90)), (91, (m.2 91)), (92, (m.2 92)), (101, upI (m.2 101) (m.1 99) (m.1 7)), (102, upI (m.2 102) (m.1 99) tp), (103, (m.2 103)), (104, (m.2 104)), (105, (m.2 105)), (106, (m.2 106)), (107, (m.2 107)), (108, (m.2 108))]) [7, 8, 9, 10, 11, 12] [] rfl ⟨rfl, rfl, rfl, rfl, rfl, rfl, rfl, rfl, rfl, rfl, rfl, rfl, rfl, rfl, rfl, rfl, rfl, rfl, rfl, rfl, rfl, rfl, rfl, rfl, rfl, rfl, rfl, rfl, rfl, rfl, rfl, rfl, trivial⟩ ⟨rfl, rfl, rfl, rfl, rfl, rfl, rfl, rfl, rfl, rfl, rfl, rfl, rfl, rfl, rfl, rfl, rfl, rfl, rfl, rfl, rfl, rfl, rfl, rfl, rfl, rfl, rfl, rfl, rfl, rfl, rfl, rfl, rfl, rfl, rfl, rfl, rfl, rfl, rfl, rfl, rfl, rfl, rfl, rfl, rfl, rfl, rfl, rfl, rfl, rfl, rfl, rfl, rfl, rfl, rfl, rfl, rfl, rfl, trivial⟩ rfl rfl (by decide) (by decide) ?_
      by_cases hf916 : y906 = 0
      · skip
        subst hf916
        replace h912 : LxP y900 y902 y904 (m.1 6) (0 : Int) := h912
        have hLx := h912
        replace h913 : (m880.1 10) = 0 ∧ (m880.1 7) = (61 : Int) := h913 rfl
        replace h914 : (m880.1 8) ≤ y902 := h914
        replace h915 : (m880.1 8) + (m880.1 9) ≤ y902 := h915 rfl
        have u917 : (m.1 8) + 1 ≤ y902 := by omega
        have hAgC : agr (m.2 65) (m.2 65) (m.1 28) := by first | exact agr_r _ _ | exact hAgC | exact agr_t hAgC hAg (by omega)
        have u918 : (m.1 28) ≤ (m.1 28) := by omega
        clear g886 g887 g888 g889 g890 g891 h884 c894 u895 g907 h913 h914 h915
        refine T_ld 55 (.ref 189) rfl (fun _ => rfl) ?_
        refine T_ld 56 (.int (i32 (m.1 99))) rfl (fun _ => rfl) ?_
        refine T_ld 57 (.int (i32 (m880.1 100))) rfl (fun _ => rfl) ?_
        refine T_call 60 272 [.ref 189, .int (i32 (m.1 99)), .int (i32 (m880.1 100))] [] rfl (fun _ => rfl) rfl (c_takeWorth w (mO m [(7, y900), (8, y902), (9, y904), (10, 0), (11, y908), (12, y910), (28, (m.1 28)), (69, (m.1 69)), (70, (m.1 70)), (71, (m.1 71)), (72, (m.1 72)), (73, (m.1 73)), (74, (m.1 74)), (75, (m.1 75)), (99, (m.1 99) + 1), (100, (m880.1 100))] [(65, (m.2 65)), (66, (m.2 66)), (67, (m.2 67)), (68, (m.2 68)), (76, (m.2 76)), (77, (m.2 77)), (78, (m.2 78)), (79, (m.2 79)), (80, (m.2 80)), (81, (m.2 81)), (82, (m.2 82)), (83, (m.2 83)), (84, (m.2 84)), (85, (m.2 85)), (86, (m.2 86)), (87, (m.2 87)), (88, (m.2 88)), (89, (m.2 89)), (90, (m.2 90)), (91, (m.2 91)), (92, (m.2 92)), (101, upI (m.2 101) (m.1 99) (m.1 7)), (102, upI (m.2 102) (m.1 99) tp), (103, (m.2 103)), (104, (m.2 104)), (105, (m.2 105)), (106, (m.2 106)), (107, (m.2 107)), (108, (m.2 108))]) c N D (by omega) (Ty_mO hT rfl rfl ⟨g901, g903, g905, ⟨(by omega : (0 : Int) ≤ 0), (by omega : (0 : Int) ≤ 8)⟩, g909, g911, f28, f69, f70, f71, f72, f73, f74, f75, g339, (hT881.1 100), trivial⟩ ⟨(hT.2.1 65), (hT.2.1 66), (hT.2.1 67), (hT.2.1 68), (hT.2.1 76), (hT.2.1 77), (hT.2.1 78), (hT.2.1 79), (hT.2.1 80), (hT.2.1 81), (hT.2.1 82), (hT.2.1 83), (hT.2.1 84), (hT.2.1 85), (hT.2.1 86), (hT.2.1 87), (hT.2.1 88), (hT.2.1 89), (hT.2.1 90), (hT.2.1 91), (hT.2.1 92), G340, G897, (hT.2.1 103), (hT.2.1 104), (hT.2.1 105), (hT.2.1 106), (hT.2.1 107), (hT.2.1 108), trivial⟩) (m.1 99) (m880.1 100) (r32 (by omega) (by omega)) (r32 (by omega) (by omega)) (show LxP y900 y902 y904 (m.1 6) (0 : Int) by first | exact hLx | exact (fun _ => hLx (by omega)) | (intro h9; exfalso; omega)) (show ∀ k, (m.2 14) k + (m.2 15) k ≤ 4000 by assumption) (show ∀ k, (m.2 31) k + (m.2 32) k ≤ 4000 by assumption) (show ∀ k, (m.2 47) k + (m.2 48) k ≤ 4000 by assumption) (show 0 ≤ (m.1 99) ∧ (m.1 99) ≤ 239 by omega) (fun _ => ⟨(show PN (m.1 13) (m.1 19) (m.1 20) (m.1 21) (m.1 22) (m.1 23) (m.1 25) (m.1 26) (m.2 16) (m.2 17) by assumption), (show CN (m.2 65) (m.2 67) (m.1 28) by assumption)⟩)) (fun rr919 k920 => ?_)
        obtain ⟨m921, hT922, h923, h924, c925, rfl⟩ := k920
        refine ⟨_, _, rfl, ?_⟩
        refine T_nf2 (st' := []) (l' := [(7, (m921.1 7)), (8, (m921.1 8)), (9, (m921.1 9)), (10, (m921.1 10)), (11, (m921.1 11)), (12, (m921.1 12)), (28, (m921.1 28)), (69, (m921.1 69)), (70, (m921.1 70)), (71, (m921.1 71)), (72, (m921.1 72)), (73, (m921.1 73)), (74, (m921.1 74)), (75, (m921.1 75)), (99, (m.1 99) + 1), (100, (m880.1 100))]) (a' := [(65, (m921.2 65)), (66, (m921.2 66)), (67, (m921.2 67)), (68, (m921.2 68)), (76, (m921.2 76)), (77, (m921.2 77)), (78, (m921.2 78)), (79, (m921.2 79)), (80, (m921.2 80)), (81, (m921.2 81)), (82, (m921.2 82)), (83, (m921.2 83)), (84, (m921.2 84)), (85, (m921.2 85)), (86, (m921.2 86)), (87, (m921.2 87)), (88, (m921.2 88)), (89, (m921.2 89)), (90, (m921.2 90)), (91, (m921.2 91)), (92, (m921.2 92)), (101, upI (m.2 101) (m.1 99) (m.1 7)), (102, upI (m.2 102) (m.1 99) tp), (103, (m.2 103)), (104, (m.2 104)), (105, (m.2 105)), (106, (m.2 106)), (107, (m921.2 107)), (108, (m921.2 108))]) [7, 8, 9, 10, 11, 12, 28, 69, 70, 71, 72, 73, 74, 75] [65, 66, 67, 68, 76, 77, 78, 79, 80, 81, 82, 83, 84, 85, 86, 87, 88, 89, 90, 91, 92, 107, 108] rfl ⟨rfl, rfl, rfl, rfl, rfl, rfl, rfl, rfl, rfl, rfl, rfl, rfl, rfl, rfl, rfl, rfl, rfl, rfl, rfl, rfl, rfl, rfl, rfl, rfl, rfl, rfl, rfl, rfl, rfl, rfl, rfl, rfl, trivial⟩ ⟨rfl, rfl, rfl, rfl, rfl, rfl, rfl, rfl, rfl, rfl, rfl, rfl, rfl, rfl, rfl, rfl, rfl, rfl, rfl, rfl, rfl, rfl, rfl, rfl, rfl, rfl, rfl, rfl, rfl, rfl, rfl, rfl, rfl, rfl, rfl, rfl, rfl, rfl, rfl, rfl, rfl, rfl, rfl, rfl, rfl, rfl, rfl, rfl, rfl, rfl, rfl, rfl, rfl, rfl, rfl, rfl, rfl, rfl, rfl, rfl, rfl, rfl, rfl, rfl, trivial⟩ rfl rfl (by decide) (by decide) ?_
        have g926 : 0 ≤ m921.1 7 ∧ m921.1 7 ≤ 330 := hT922.1 7
        have g927 : 0 ≤ m921.1 8 ∧ m921.1 8 ≤ 4000 := hT922.1 8
        have g928 : 0 ≤ m921.1 9 ∧ m921.1 9 ≤ 4000 := hT922.1 9
        have g929 : 0 ≤ m921.1 10 ∧ m921.1 10 ≤ 8 := hT922.1 10
        have g930 : (-1) ≤ m921.1 11 ∧ m921.1 11 ≤ 4000 := hT922.1 11
        have g931 : (-9223372036854775808) ≤ m921.1 12 ∧ m921.1 12 ≤ 9223372036854775807 := hT922.1 12
        have g932 : 0 ≤ m921.1 28 ∧ m921.1 28 ≤ 800 := hT922.1 28
        have g933 : 0 ≤ m921.1 69 ∧ m921.1 69 ≤ 1024 := hT922.1 69
        have g934 : 0 ≤ m921.1 70 ∧ m921.1 70 ≤ 4000 := hT922.1 70
        have g935 : 0 ≤ m921.1 71 ∧ m921.1 71 ≤ 1 := hT922.1 71
        have g936 : (-9223372036854775808) ≤ m921.1 72 ∧ m921.1 72 ≤ 9223372036854775807 := hT922.1 72
        have g937 : 0 ≤ m921.1 73 ∧ m921.1 73 ≤ 60 := hT922.1 73
        have g938 : 0 ≤ m921.1 74 ∧ m921.1 74 ≤ 24 := hT922.1 74
        have g939 : 0 ≤ m921.1 75 ∧ m921.1 75 ≤ 3 := hT922.1 75
        by_cases hf940 : (m921.1 10) = 0
        · skip
          replace h923 : (0 : Int) = 0 := h923 hf940
          replace h924 : LxP (m921.1 7) (m921.1 8) (m921.1 9) (m.1 6) (m921.1 10) := h924
          have hLx := h924
          obtain ⟨c941, c942, c943, c944, c945, c946, c947⟩ := c925 hf940
          replace c941 : y902 + 1 ≤ (m921.1 8) := c941
          replace c942 : CN (m921.2 65) (m921.2 67) (m921.1 28) := c942
          have hCN := c942
          replace c943 : agr (m.2 65) (m921.2 65) (m.1 28) := c943
          have hAg := c943
          replace c944 : (m.1 28) ≤ (m921.1 28) := c944
          replace c945 : cdr (m921.2 65) (m921.1 28) ((m921.2 107) (m.1 99)) ((m921.2 108) (m.1 99)) := c945
          have hEc := c945
          replace c946 : agr (m.2 107) (m921.2 107) (m.1 99) := c946
          have hJ1 := c946
          replace c947 : agr (m.2 108) (m921.2 108) (m.1 99) := c947
          have hJ2 := c947
          clear c925
          have u948 : (m.1 8) + 1 ≤ (m921.1 8) := by omega
          have hAgC : agr (m.2 65) (m921.2 65) (m.1 28) := by first | exact agr_r _ _ | exact hAgC | exact agr_t hAgC hAg (by omega)
          have u949 : (m.1 28) ≤ (m921.1 28) := by omega
          clear g901 g903 g905 g909 g911 h912 u917 c941
          refine T_goto 229 rfl (fun _ => rfl) ?_
          have w1 : agr (m.2 101) (upI (m.2 101) (m.1 99) (m.1 7)) (m.1 99) := by first | exact agr_u (Int.le_refl _) | exact agr_r _ _
          have w2 : agr (m.2 103) (m.2 103) (m.1 99) := by first | exact agr_u (Int.le_refl _) | exact agr_r _ _
          have w3 : agr (m.2 105) (m.2 105) (m.1 99) := by first | exact hI1 | exact agr_u (Int.le_refl _) | exact agr_r _ _
          have w4 : agr (m.2 106) (m.2 106) (m.1 99) := by first | exact hI2 | exact agr_u (Int.le_refl _) | exact agr_r _ _
          have w5 : agr (m.2 107) (m921.2 107) (m.1 99) := by first | exact hJ1 | exact agr_u (Int.le_refl _) | exact agr_r _ _
          have w6 : agr (m.2 108) (m921.2 108) (m.1 99) := by first | exact hJ2 | exact agr_u (Int.le_refl _) | exact agr_r _ _
          have hR : TdR (m921.2 65) (m921.1 28) (m.1 22) (m.1 99) (upI (m.2 101) (m.1 99) (m.1 7)) (m.2 103) (m.2 105) (m.2 106) (m921.2 107) (m921.2 108) := by
            refine ⟨fun h => ?_, fun h => ?_⟩ <;> rw [upI_s] at h <;> first | exact hEc | exact ⟨hXc, by rw [upI_s]; omega⟩ | exact ⟨cdr_f hXc hAg (by omega), by rw [upI_s]; omega⟩ | omega
          have hTd2 : TdP (m921.2 65) (m921.1 28) (m.1 22) ((m.1 99) + 1) (upI (m.2 101) (m.1 99) (m.1 7)) (m.2 103) (m.2 105) (m.2 106) (m921.2 107) (m921.2 108) := TdP_add (TdP_f pTd hAgC (by omega) w1 w2 w3 w4 w5 w6) hR
          refine T_ld 230 (.ref 189) rfl (fun _ => rfl) ?_
          refine T_ld 232 (.int (i32 59)) rfl (fun _ => rfl) ?_
          refine T_call 235 232 [.ref 189, .int (i32 59)] [] rfl (fun _ => rfl) rfl (c_need w (mO m [(7, (m921.1 7)), (8, (m921.1 8)), (9, (m921.1 9)), (10, (m921.1 10)), (11, (m921.1 11)), (12, (m921.1 12)), (28, (m921.1 28)), (69, (m921.1 69)), (70, (m921.1 70)), (71, (m921.1 71)), (72, (m921.1 72)), (73, (m921.1 73)), (74, (m921.1 74)), (75, (m921.1 75)), (99, (m.1 99) + 1), (100, (m880.1 100))] [(65, (m921.2 65)), (66, (m921.2 66)), (67, (m921.2 67)), (68, (m921.2 68)), (76, (m921.2 76)), (77, (m921.2 77)), (78, (m921.2 78)), (79, (m921.2 79)), (80, (m921.2 80)), (81, (m921.2 81)), (82, (m921.2 82)), (83, (m921.2 83)), (84, (m921.2 84)), (85, (m921.2 85)), (86, (m921.2 86)), (87, (m921.2 87)), (88, (m921.2 88)), (89, (m921.2 89)), (90, (m921.2 90)), (91, (m921.2 91)), (92, (m921.2 92)), (101, upI (m.2 101) (m.1 99) (m.1 7)), (102, upI (m.2 102) (m.1 99) tp), (103, (m.2 103)), (104, (m.2 104)), (105, (m.2 105)), (106, (m.2 106)), (107, (m921.2 107)), (108, (m921.2 108))]) c N D (by omega) (Ty_mO hT rfl rfl ⟨(hT922.1 7), (hT922.1 8), (hT922.1 9), (hT922.1 10), (hT922.1 11), (hT922.1 12), (hT922.1 28), (hT922.1 69), (hT922.1 70), (hT922.1 71), (hT922.1 72), (hT922.1 73), (hT922.1 74), (hT922.1 75), g339, (hT881.1 100), trivial⟩ ⟨(hT922.2.1 65), (hT922.2.1 66), (hT922.2.1 67), (hT922.2.1 68), (hT922.2.1 76), (hT922.2.1 77), (hT922.2.1 78), (hT922.2.1 79), (hT922.2.1 80), (hT922.2.1 81), (hT922.2.1 82), (hT922.2.1 83), (hT922.2.1 84), (hT922.2.1 85), (hT922.2.1 86), (hT922.2.1 87), (hT922.2.1 88), (hT922.2.1 89), (hT922.2.1 90), (hT922.2.1 91), (hT922.2.1 92), G340, G897, (hT.2.1 103), (hT.2.1 104), (hT.2.1 105), (hT.2.1 106), (hT922.2.1 107), (hT922.2.1 108), trivial⟩) 59 ⟨by decide, by decide⟩ (show 1 ≤ (59 : Int) by omega) (show LxP (m921.1 7) (m921.1 8) (m921.1 9) (m.1 6) (m921.1 10) by first | exact hLx | (intro h9; exfalso; omega) | (intro h9; have h8 := hLx (by omega); omega))) (fun rr950 k951 => ?_)
          obtain ⟨y952, y954, y956, y958, y960, y962, g953, g955, g957, g959, g961, g963, h964, h965, h966, h967, rfl⟩ := k951
          refine ⟨_, _, rfl, ?_⟩
          refine T_nf2 (st' := []) (l' := [(7, y952), (8, y954), (9, y956), (10, y958), (11, y960), (12, y962), (28, (m921.1 28)), (69, (m921.1 69)), (70, (m921.1 70)), (71, (m921.1 71)), (72, (m921.1 72)), (73, (m921.1 73)), (74, (m921.1 74)), (75, (m921.1 75)), (99, (m.1 99) + 1), (100, (m880.1 100))]) (a' := [(65, (m921.2 65)), (66, (m921.2 66)), (67, (m921.2 67)), (68, (m921.2 68)), (76, (m921.2 76)), (77, (m921.2 77)), (78, (m921.2 78)), (79, (m921.2 79)), (80, (m921.2 80)), (81, (m921.2 81)), (82, (m921.2 82)), (83, (m921.2 83)), (84, (m921.2 84)), (85, (m921.2 85)), (86, (m921.2 86)), (87, (m921.2 87)), (88, (m921.2 88)), (89, (m921.2 89)), (90, (m921.2 90)), (91, (m921.2 91)), (92, (m921.2 92)), (101, upI (m.2 101) (m.1 99) (m.1 7)), (102, upI (m.2 102) (m.1 99) tp), (103, (m.2 103)), (104, (m.2 104)), (105, (m.2 105)), (106, (m.2 106)), (107, (m921.2 107)), (108, (m921.2 108))]) [7, 8, 9, 10, 11, 12] [] rfl ⟨rfl, rfl, rfl, rfl, rfl, rfl, rfl, rfl, rfl, rfl, rfl, rfl, rfl, rfl, rfl, rfl, rfl, rfl, rfl, rfl, rfl, rfl, rfl, rfl, rfl, rfl, rfl, rfl, rfl, rfl, rfl, rfl, trivial⟩ ⟨rfl, rfl, rfl, rfl, rfl, rfl, rfl, rfl, rfl, rfl, rfl, rfl, rfl, rfl, rfl, rfl, rfl, rfl, rfl, rfl, rfl, rfl, rfl, rfl, rfl, rfl, rfl, rfl, rfl, rfl, rfl, rfl, rfl, rfl, rfl, rfl, rfl, rfl, rfl, rfl, rfl, rfl, rfl, rfl, rfl, rfl, rfl, rfl, rfl, rfl, rfl, rfl, rfl, rfl, rfl, rfl, rfl, rfl, trivial⟩ rfl rfl (by decide) (by decide) ?_
          by_cases hf968 : y958 = 0
          · skip
            subst hf968
            replace h964 : LxP y952 y954 y956 (m.1 6) (0 : Int) := h964
            have hLx := h964
            replace h965 : (m921.1 10) = 0 ∧ (m921.1 7) = (59 : Int) := h965 rfl
            replace h966 : (m921.1 8) ≤ y954 := h966
            replace h967 : (m921.1 8) + (m921.1 9) ≤ y954 := h967 rfl
            have u969 : (m.1 8) + 1 ≤ y954 := by omega
            have hAgC : agr (m.2 65) (m921.2 65) (m.1 28) := by first | exact agr_r _ _ | exact hAgC | exact agr_t hAgC hAg (by omega)
            have u970 : (m.1 28) ≤ (m921.1 28) := by omega
            clear g926 g927 g928 g929 g930 g931 h924 u948 g959 h965 h966 h967
            refine T_ret rfl (fun _ => rfl) ?_
            exact ⟨(mO m [(7, y952), (8, y954), (9, y956), (10, 0), (11, y960), (12, y962), (28, (m921.1 28)), (69, (m921.1 69)), (70, (m921.1 70)), (71, (m921.1 71)), (72, (m921.1 72)), (73, (m921.1 73)), (74, (m921.1 74)), (75, (m921.1 75)), (99, (m.1 99) + 1), (100, (m880.1 100))] [(65, (m921.2 65)), (66, (m921.2 66)), (67, (m921.2 67)), (68, (m921.2 68)), (76, (m921.2 76)), (77, (m921.2 77)), (78, (m921.2 78)), (79, (m921.2 79)), (80, (m921.2 80)), (81, (m921.2 81)), (82, (m921.2 82)), (83, (m921.2 83)), (84, (m921.2 84)), (85, (m921.2 85)), (86, (m921.2 86)), (87, (m921.2 87)), (88, (m921.2 88)), (89, (m921.2 89)), (90, (m921.2 90)), (91, (m921.2 91)), (92, (m921.2 92)), (101, upI (m.2 101) (m.1 99) (m.1 7)), (102, upI (m.2 102) (m.1 99) tp), (103, (m.2 103)), (104, (m.2 104)), (105, (m.2 105)), (106, (m.2 106)), (107, (m921.2 107)), (108, (m921.2 108))]), (Ty_mO hT rfl rfl ⟨g953, g955, g957, ⟨(by omega : (0 : Int) ≤ 0), (by omega : (0 : Int) ≤ 8)⟩, g961, g963, (hT922.1 28), (hT922.1 69), (hT922.1 70), (hT922.1 71), (hT922.1 72), (hT922.1 73), (hT922.1 74), (hT922.1 75), g339, (hT881.1 100), trivial⟩ ⟨(hT922.2.1 65), (hT922.2.1 66), (hT922.2.1 67), (hT922.2.1 68), (hT922.2.1 76), (hT922.2.1 77), (hT922.2.1 78), (hT922.2.1 79), (hT922.2.1 80), (hT922.2.1 81), (hT922.2.1 82), (hT922.2.1 83), (hT922.2.1 84), (hT922.2.1 85), (hT922.2.1 86), (hT922.2.1 87), (hT922.2.1 88), (hT922.2.1 89), (hT922.2.1 90), (hT922.2.1 91), (hT922.2.1 92), G340, G897, (hT.2.1 103), (hT.2.1 104), (hT.2.1 105), (hT.2.1 106), (hT922.2.1 107), (hT922.2.1 108), trivial⟩), (show (0 : Int) = 0 → (m.1 10) = 0 by omega), (show LxP y952 y954 y956 (m.1 6) (0 : Int) by first | (first | exact hLx | exact (fun _ => hLx (by omega)) | (intro h9; exfalso; omega)) | (exfalso; omega)), (show ((m.1 99) + 1) = (m.1 99) + 1 by omega), (fun _ => ⟨(show (m.1 8) + 1 ≤ y954 by omega), (show (m.1 28) ≤ (m921.1 28) by omega), (show CN (m921.2 65) (m921.2 67) (m921.1 28) by first | (exact hCN) | (exfalso; omega)), (show agr (m.2 65) (m921.2 65) (m.1 28) by first | (exact hAgC) | (exfalso; omega)), (show TdP (m921.2 65) (m921.1 28) (m.1 22) ((m.1 99) + 1) (upI (m.2 101) (m.1 99) (m.1 7)) (m.2 103) (m.2 105) (m.2 106) (m921.2 107) (m921.2 108) by first | (exact hTd2) | (exfalso; omega))⟩), rfl⟩
          · skip
            replace h964 : LxP y952 y954 y956 (m.1 6) y958 := h964
            have hLx := h964
            clear h965
            replace h966 : (m921.1 8) ≤ y954 := h966
            clear h967
            have hf971 : 1 ≤ y958 := by omega
            clear g926 g927 g928 g929 g930 g931 h924 u948 h966
            refine Tm_lv (a := [(0, .ref 189), (1, .int (i32 (m.1 99)))]) rfl rfl ⟨rfl, rfl, trivial⟩ ?_
            exact J235_28 (mO m [(7, y952), (8, y954), (9, y956), (10, y958), (11, y960), (12, y962), (28, (m921.1 28)), (69, (m921.1 69)), (70, (m921.1 70)), (71, (m921.1 71)), (72, (m921.1 72)), (73, (m921.1 73)), (74, (m921.1 74)), (75, (m921.1 75)), (99, (m.1 99) + 1), (100, (m880.1 100))] [(65, (m921.2 65)), (66, (m921.2 66)), (67, (m921.2 67)), (68, (m921.2 68)), (76, (m921.2 76)), (77, (m921.2 77)), (78, (m921.2 78)), (79, (m921.2 79)), (80, (m921.2 80)), (81, (m921.2 81)), (82, (m921.2 82)), (83, (m921.2 83)), (84, (m921.2 84)), (85, (m921.2 85)), (86, (m921.2 86)), (87, (m921.2 87)), (88, (m921.2 88)), (89, (m921.2 89)), (90, (m921.2 90)), (91, (m921.2 91)), (92, (m921.2 92)), (101, upI (m.2 101) (m.1 99) (m.1 7)), (102, upI (m.2 102) (m.1 99) tp), (103, (m.2 103)), (104, (m.2 104)), (105, (m.2 105)), (106, (m.2 106)), (107, (m921.2 107)), (108, (m921.2 108))]) (Ty_mO hT rfl rfl ⟨g953, g955, g957, g959, g961, g963, (hT922.1 28), (hT922.1 69), (hT922.1 70), (hT922.1 71), (hT922.1 72), (hT922.1 73), (hT922.1 74), (hT922.1 75), g339, (hT881.1 100), trivial⟩ ⟨(hT922.2.1 65), (hT922.2.1 66), (hT922.2.1 67), (hT922.2.1 68), (hT922.2.1 76), (hT922.2.1 77), (hT922.2.1 78), (hT922.2.1 79), (hT922.2.1 80), (hT922.2.1 81), (hT922.2.1 82), (hT922.2.1 83), (hT922.2.1 84), (hT922.2.1 85), (hT922.2.1 86), (hT922.2.1 87), (hT922.2.1 88), (hT922.2.1 89), (hT922.2.1 90), (hT922.2.1 91), (hT922.2.1 92), G340, G897, (hT.2.1 103), (hT.2.1 104), (hT.2.1 105), (hT.2.1 106), (hT922.2.1 107), (hT922.2.1 108), trivial⟩) (show 1 ≤ y958 by omega) (show y958 ≤ 8 by omega) (show 0 ≤ ((m.1 99) + 1) ∧ ((m.1 99) + 1) ≤ 240 by omega) (show 0 ≤ (m.1 99) ∧ (m.1 99) ≤ 240 by omega)
        · skip
          clear c925
          clear h923
          replace h924 : LxP (m921.1 7) (m921.1 8) (m921.1 9) (m.1 6) (m921.1 10) := h924
          have hLx := h924
          have hf972 : 1 ≤ (m921.1 10) := by omega
          clear g901 g903 g905 g909 g911 h912 u917
          refine Tm_lv (a := [(0, .ref 189), (1, .int (i32 (m.1 99))), (2, .int (i32 (m880.1 100)))]) rfl rfl ⟨rfl, rfl, rfl, trivial⟩ ?_
          exact J60_276 (m880.1 100) (mO m [(7, (m921.1 7)), (8, (m921.1 8)), (9, (m921.1 9)), (10, (m921.1 10)), (11, (m921.1 11)), (12, (m921.1 12)), (28, (m921.1 28)), (69, (m921.1 69)), (70, (m921.1 70)), (71, (m921.1 71)), (72, (m921.1 72)), (73, (m921.1 73)), (74, (m921.1 74)), (75, (m921.1 75)), (99, (m.1 99) + 1), (100, (m880.1 100))] [(65, (m921.2 65)), (66, (m921.2 66)), (67, (m921.2 67)), (68, (m921.2 68)), (76, (m921.2 76)), (77, (m921.2 77)), (78, (m921.2 78)), (79, (m921.2 79)), (80, (m921.2 80)), (81, (m921.2 81)), (82, (m921.2 82)), (83, (m921.2 83)), (84, (m921.2 84)), (85, (m921.2 85)), (86, (m921.2 86)), (87, (m921.2 87)), (88, (m921.2 88)), (89, (m921.2 89)), (90, (m921.2 90)), (91, (m921.2 91)), (92, (m921.2 92)), (101, upI (m.2 101) (m.1 99) (m.1 7)), (102, upI (m.2 102) (m.1 99) tp), (103, (m.2 103)), (104, (m.2 104)), (105, (m.2 105)), (106, (m.2 106)), (107, (m921.2 107)), (108, (m921.2 108))]) (r32 (by omega) (by omega)) (Ty_mO hT rfl rfl ⟨(hT922.1 7), (hT922.1 8), (hT922.1 9), (hT922.1 10), (hT922.1 11), (hT922.1 12), (hT922.1 28), (hT922.1 69), (hT922.1 70), (hT922.1 71), (hT922.1 72), (hT922.1 73), (hT922.1 74), (hT922.1 75), g339, (hT881.1 100), trivial⟩ ⟨(hT922.2.1 65), (hT922.2.1 66), (hT922.2.1 67), (hT922.2.1 68), (hT922.2.1 76), (hT922.2.1 77), (hT922.2.1 78), (hT922.2.1 79), (hT922.2.1 80), (hT922.2.1 81), (hT922.2.1 82), (hT922.2.1 83), (hT922.2.1 84), (hT922.2.1 85), (hT922.2.1 86), (hT922.2.1 87), (hT922.2.1 88), (hT922.2.1 89), (hT922.2.1 90), (hT922.2.1 91), (hT922.2.1 92), G340, G897, (hT.2.1 103), (hT.2.1 104), (hT.2.1 105), (hT.2.1 106), (hT922.2.1 107), (hT922.2.1 108), trivial⟩) (show 0 ≤ (m880.1 100) by omega) (show (m880.1 100) ≤ 64 by omega) (show 1 ≤ (m921.1 10) by omega) (show (m921.1 10) ≤ 8 by omega) (show 0 ≤ ((m.1 99) + 1) ∧ ((m.1 99) + 1) ≤ 240 by omega) (show 0 ≤ (m.1 99) ∧ (m.1 99) ≤ 240 by omega)
      · skip
        replace h912 : LxP y900 y902 y904 (m.1 6) y906 := h912
        have hLx := h912
        clear h913
        replace h914 : (m880.1 8) ≤ y902 := h914
        clear h915
        have hf973 : 1 ≤ y906 := by omega
        clear g886 g887 g888 g889 g890 g891 h884 c894 u895 h914
        refine Tm_lv (a := [(0, .ref 189), (1, .int (i32 (m.1 99))), (2, .int (i32 (m880.1 100)))]) rfl rfl ⟨rfl, rfl, rfl, trivial⟩ ?_
        exact J54_307 (m880.1 100) (mO m [(7, y900), (8, y902), (9, y904), (10, y906), (11, y908), (12, y910), (28, (m.1 28)), (69, (m.1 69)), (70, (m.1 70)), (71, (m.1 71)), (72, (m.1 72)), (73, (m.1 73)), (74, (m.1 74)), (75, (m.1 75)), (99, (m.1 99) + 1), (100, (m880.1 100))] [(65, (m.2 65)), (66, (m.2 66)), (67, (m.2 67)), (68, (m.2 68)), (76, (m.2 76)), (77, (m.2 77)), (78, (m.2 78)), (79, (m.2 79)), (80, (m.2 80)), (81, (m.2 81)), (82, (m.2 82)), (83, (m.2 83)), (84, (m.2 84)), (85, (m.2 85)), (86, (m.2 86)), (87, (m.2 87)), (88, (m.2 88)), (89, (m.2 89)), (90, (m.2 90)), (91, (m.2 91)), (92, (m.2 92)), (101, upI (m.2 101) (m.1 99) (m.1 7)), (102, upI (m.2 102) (m.1 99) tp), (103, (m.2 103)), (104, (m.2 104)), (105, (m.2 105)), (106, (m.2 106)), (107, (m.2 107)), (108, (m.2 108))]) (r32 (by omega) (by omega)) (Ty_mO hT rfl rfl ⟨g901, g903, g905, g907, g909, g911, f28, f69, f70, f71, f72, f73, f74, f75, g339, (hT881.1 100), trivial⟩ ⟨(hT.2.1 65), (hT.2.1 66), (hT.2.1 67), (hT.2.1 68), (hT.2.1 76), (hT.2.1 77), (hT.2.1 78), (hT.2.1 79), (hT.2.1 80), (hT.2.1 81), (hT.2.1 82), (hT.2.1 83), (hT.2.1 84), (hT.2.1 85), (hT.2.1 86), (hT.2.1 87), (hT.2.1 88), (hT.2.1 89), (hT.2.1 90), (hT.2.1 91), (hT.2.1 92), G340, G897, (hT.2.1 103), (hT.2.1 104), (hT.2.1 105), (hT.2.1 106), (hT.2.1 107), (hT.2.1 108), trivial⟩) (show 0 ≤ (m880.1 100) by omega) (show (m880.1 100) ≤ 64 by omega) (show 1 ≤ y906 by omega) (show y906 ≤ 8 by omega) (show 0 ≤ ((m.1 99) + 1) ∧ ((m.1 99) + 1) ≤ 240 by omega) (show 0 ≤ (m.1 99) ∧ (m.1 99) ≤ 240 by omega)
    · skip
      clear c885
      clear h883
      replace h884 : LxP (m880.1 7) (m880.1 8) (m880.1 9) (m.1 6) (m880.1 10) := h884
      have hLx := h884
      have hf974 : 1 ≤ (m880.1 10) := by omega
      have G975 : ∀ j, 0 ≤ (upI (m.2 102) (m.1 99) tp) j ∧ (upI (m.2 102) (m.1 99) tp) j ≤ 207 := upI_rg (hT.2.1 102) ⟨by omega, by omega⟩
      refine T_iast (a' := [(65, (m.2 65)), (66, (m.2 66)), (67, (m.2 67)), (68, (m.2 68)), (76, (m.2 76)), (77, (m.2 77)), (78, (m.2 78)), (79, (m.2 79)), (80, (m.2 80)), (81, (m.2 81)), (82, (m.2 82)), (83, (m.2 83)), (84, (m.2 84)), (85, (m.2 85)), (86, (m.2 86)), (87, (m.2 87)), (88, (m.2 88)), (89, (m.2 89)), (90, (m.2 90)), (91, (m.2 91)), (92, (m.2 92)), (101, upI (m.2 101) (m.1 99) (m.1 7)), (102, upI (m.2 102) (m.1 99) tp), (103, (m.2 103)), (104, (m.2 104)), (105, (m.2 105)), (106, (m.2 106)), (107, (m.2 107)), (108, (m.2 108))]) 43 102 (m.2 102) rfl rfl rfl (by omega) (show (m.1 99) < (240 : Int) by omega) rfl rfl ?_
      refine T_gf 47 (.int (i32 (m880.1 100))) rfl rfl rfl rfl rfl rfl ?_
      refine T_sto 48 [(2, .int (i32 (m880.1 100))), (1, .int (i32 (m.1 99))), (0, .ref 189)] rfl (fun _ => rfl) ?_
      refine T_ld 49 (.ref 189) rfl (fun _ => rfl) ?_
      refine T_ld 51 (.int (i32 61)) rfl (fun _ => rfl) ?_
      refine T_call 54 232 [.ref 189, .int (i32 61)] [] rfl (fun _ => rfl) rfl (c_need w (mO m [(7, (m880.1 7)), (8, (m880.1 8)), (9, (m880.1 9)), (10, (m880.1 10)), (11, (m880.1 11)), (12, (m880.1 12)), (28, (m.1 28)), (69, (m.1 69)), (70, (m.1 70)), (71, (m.1 71)), (72, (m.1 72)), (73, (m.1 73)), (74, (m.1 74)), (75, (m.1 75)), (99, (m.1 99) + 1), (100, (m880.1 100))] [(65, (m.2 65)), (66, (m.2 66)), (67, (m.2 67)), (68, (m.2 68)), (76, (m.2 76)), (77, (m.2 77)), (78, (m.2 78)), (79, (m.2 79)), (80, (m.2 80)), (81, (m.2 81)), (82, (m.2 82)), (83, (m.2 83)), (84, (m.2 84)), (85, (m.2 85)), (86, (m.2 86)), (87, (m.2 87)), (88, (m.2 88)), (89, (m.2 89)), (90, (m.2 90)), (91, (m.2 91)), (92, (m.2 92)), (101, upI (m.2 101) (m.1 99) (m.1 7)), (102, upI (m.2 102) (m.1 99) tp), (103, (m.2 103)), (104, (m.2 104)), (105, (m.2 105)), (106, (m.2 106)), (107, (m.2 107)), (108, (m.2 108))]) c N D (by omega) (Ty_mO hT rfl rfl ⟨(hT881.1 7), (hT881.1 8), (hT881.1 9), (hT881.1 10), (hT881.1 11), (hT881.1 12), f28, f69, f70, f71, f72, f73, f74, f75, g339, (hT881.1 100), trivial⟩ ⟨(hT.2.1 65), (hT.2.1 66), (hT.2.1 67), (hT.2.1 68), (hT.2.1 76), (hT.2.1 77), (hT.2.1 78), (hT.2.1 79), (hT.2.1 80), (hT.2.1 81), (hT.2.1 82), (hT.2.1 83), (hT.2.1 84), (hT.2.1 85), (hT.2.1 86), (hT.2.1 87), (hT.2.1 88), (hT.2.1 89), (hT.2.1 90), (hT.2.1 91), (hT.2.1 92), G340, G975, (hT.2.1 103), (hT.2.1 104), (hT.2.1 105), (hT.2.1 106), (hT.2.1 107), (hT.2.1 108), trivial⟩) 61 ⟨by decide, by decide⟩ (show 1 ≤ (61 : Int) by omega) (show LxP (m880.1 7) (m880.1 8) (m880.1 9) (m.1 6) (m880.1 10) by first | exact hLx | (intro h9; exfalso; omega) | (intro h9; have h8 := hLx (by omega); omega))) (fun rr976 k977 => ?_)
      obtain ⟨y978, y980, y982, y984, y986, y988, g979, g981, g983, g985, g987, g989, h990, h991, h992, h993, rfl⟩ := k977
      refine ⟨_, _, rfl, ?_⟩
      refine T_nf2 (st' := []) (l' := [(7, y978), (8, y980), (9, y982), (10, y984), (11, y986), (12, y988), (28, (m.1 28)), (69, (m.1 69)), (70, (m.1 70)), (71, (m.1 71)), (72, (m.1 72)), (73, (m.1 73)), (74, (m.1 74)), (75, (m.1 75)), (99, (m.1 99) + 1), (100, (m880.1 100))]) (a' := [(65, (m.2 65)), (66, (m.2 66)), (67, (m.2 67)), (68, (m.2 68)), (76, (m.2 76)), (77, (m.2 77)), (78, (m.2 78)), (79, (m.2 79)), (80, (m.2 80)), (81, (m.2 81)), (82, (m.2 82)), (83, (m.2 83)), (84, (m.2 84)), (85, (m.2 85)), (86, (m.2 86)), (87, (m.2 87)), (88, (m.2 88)), (89, (m.2 89)), (90, (m.2 90)), (91, (m.2 91)), (92, (m.2 92)), (101, upI (m.2 101) (m.1 99) (m.1 7)), (102, upI (m.2 102) (m.1 99) tp), (103, (m.2 103)), (104, (m.2 104)), (105, (m.2 105)), (106, (m.2 106)), (107, (m.2 107)), (108, (m.2 108))]) [7, 8, 9, 10, 11, 12] [] rfl ⟨rfl, rfl, rfl, rfl, rfl, rfl, rfl, rfl, rfl, rfl, rfl, rfl, rfl, rfl, rfl, rfl, rfl, rfl, rfl, rfl, rfl, rfl, rfl, rfl, rfl, rfl, rfl, rfl, rfl, rfl, rfl, rfl, trivial⟩ ⟨rfl, rfl, rfl, rfl, rfl, rfl, rfl, rfl, rfl, rfl, rfl, rfl, rfl, rfl, rfl, rfl, rfl, rfl, rfl, rfl, rfl, rfl, rfl, rfl, rfl, rfl, rfl, rfl, rfl, rfl, rfl, rfl, rfl, rfl, rfl, rfl, rfl, rfl, rfl, rfl, rfl, rfl, rfl, rfl, rfl, rfl, rfl, rfl, rfl, rfl, rfl, rfl, rfl, rfl, rfl, rfl, rfl, rfl, trivial⟩ rfl rfl (by decide) (by decide) ?_
      replace h990 : LxP y978 y980 y982 (m.1 6) y984 := h990
      replace h991 : y984 = 0 → (m880.1 10) = 0 ∧ (m880.1 7) = (61 : Int) := h991
      replace h992 : (m880.1 8) ≤ y980 := h992
      replace h993 : y984 = 0 → (m880.1 8) + (m880.1 9) ≤ y980 := h993
      have hf994 : 1 ≤ y984 := by omega
      clear h991
      clear h993
      have hLx := h990
      clear g886 g887 g888 g889 g890 g891 h884 hf974 h992
      refine Tm_lv (a := [(0, .ref 189), (1, .int (i32 (m.1 99))), (2, .int (i32 (m880.1 100)))]) rfl rfl ⟨rfl, rfl, rfl, trivial⟩ ?_
      exact J54_307 (m880.1 100) (mO m [(7, y978), (8, y980), (9, y982), (10, y984), (11, y986), (12, y988), (28, (m.1 28)), (69, (m.1 69)), (70, (m.1 70)), (71, (m.1 71)), (72, (m.1 72)), (73, (m.1 73)), (74, (m.1 74)), (75, (m.1 75)), (99, (m.1 99) + 1), (100, (m880.1 100))] [(65, (m.2 65)), (66, (m.2 66)), (67, (m.2 67)), (68, (m.2 68)), (76, (m.2 76)), (77, (m.2 77)), (78, (m.2 78)), (79, (m.2 79)), (80, (m.2 80)), (81, (m.2 81)), (82, (m.2 82)), (83, (m.2 83)), (84, (m.2 84)), (85, (m.2 85)), (86, (m.2 86)), (87, (m.2 87)), (88, (m.2 88)), (89, (m.2 89)), (90, (m.2 90)), (91, (m.2 91)), (92, (m.2 92)), (101, upI (m.2 101) (m.1 99) (m.1 7)), (102, upI (m.2 102) (m.1 99) tp), (103, (m.2 103)), (104, (m.2 104)), (105, (m.2 105)), (106, (m.2 106)), (107, (m.2 107)), (108, (m.2 108))]) (r32 (by omega) (by omega)) (Ty_mO hT rfl rfl ⟨g979, g981, g983, g985, g987, g989, f28, f69, f70, f71, f72, f73, f74, f75, g339, (hT881.1 100), trivial⟩ ⟨(hT.2.1 65), (hT.2.1 66), (hT.2.1 67), (hT.2.1 68), (hT.2.1 76), (hT.2.1 77), (hT.2.1 78), (hT.2.1 79), (hT.2.1 80), (hT.2.1 81), (hT.2.1 82), (hT.2.1 83), (hT.2.1 84), (hT.2.1 85), (hT.2.1 86), (hT.2.1 87), (hT.2.1 88), (hT.2.1 89), (hT.2.1 90), (hT.2.1 91), (hT.2.1 92), G340, G975, (hT.2.1 103), (hT.2.1 104), (hT.2.1 105), (hT.2.1 106), (hT.2.1 107), (hT.2.1 108), trivial⟩) (show 0 ≤ (m880.1 100) by omega) (show (m880.1 100) ≤ 64 by omega) (show 1 ≤ y984 by omega) (show y984 ≤ 8 by omega) (show 0 ≤ ((m.1 99) + 1) ∧ ((m.1 99) + 1) ≤ 240 by omega) (show 0 ≤ (m.1 99) ∧ (m.1 99) ≤ 240 by omega)
