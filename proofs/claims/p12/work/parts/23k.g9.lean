def Q_takePlace (m : mR) (c : Nat → Option am_C) (N : Nat) : ag_Re af_T → Prop := fun R => ∃ (M : mR) (r : Int), Ty M ∧ (0 ≤ r ∧ r ≤ 207) ∧ ((M.1 10) = 0 → (m.1 10) = 0) ∧ (LxP (M.1 7) (M.1 8) (M.1 9) (m.1 6) (M.1 10)) ∧ (M.1 10 = 0 → ((m.1 8) + 1 ≤ (M.1 8))) ∧ R = (.inl (some (.int (i32 r))), (mhp (mO m [(7, (M.1 7)), (8, (M.1 8)), (9, (M.1 9)), (10, (M.1 10)), (11, (M.1 11)), (12, (M.1 12)), (100, (M.1 100))] []) c, N), 0, 0)
set_option maxHeartbeats 8000000 in
theorem c_takePlace (w : wX) (m : mR) (c : Nat → Option am_C) (N D : Nat) (hD : 7 ≤ D) (hT : Ty m) (hLx0 : LxP (m.1 7) (m.1 8) (m.1 9) (m.1 6) (m.1 10)) (hNM0 : ∀ k, (m.2 14) k + (m.2 15) k ≤ 4000) (hFA0 : ∀ k, (m.2 31) k + (m.2 32) k ≤ 4000) (hC : m.1 10 = 0 → (PN (m.1 13) (m.1 19) (m.1 20) (m.1 21) (m.1 22) (m.1 23) (m.1 25) (m.1 26) (m.2 16) (m.2 17))) : TC w D 271 [.ref 189] (mhp m c, N) (Q_takePlace m c N) := by
  obtain ⟨D, rfl⟩ : ∃ k, D = k + 1 := ⟨D - 1, by omega⟩
  have hLx := hLx0
  have hNM := hNM0
  have hFA := hFA0
  have f7 : 0 ≤ m.1 7 ∧ m.1 7 ≤ 330 := hT.1 7
  have f8 : 0 ≤ m.1 8 ∧ m.1 8 ≤ 4000 := hT.1 8
  have f9 : 0 ≤ m.1 9 ∧ m.1 9 ≤ 4000 := hT.1 9
  have f10 : 0 ≤ m.1 10 ∧ m.1 10 ≤ 8 := hT.1 10
  have f11 : (-1) ≤ m.1 11 ∧ m.1 11 ≤ 4000 := hT.1 11
  have f12 : (-9223372036854775808) ≤ m.1 12 ∧ m.1 12 ≤ 9223372036854775807 := hT.1 12
  have f100 : 0 ≤ m.1 100 ∧ m.1 100 ≤ 64 := hT.1 100
  have f25 : 0 ≤ m.1 25 ∧ m.1 25 ≤ 16 := hT.1 25
  have f22 : 0 ≤ m.1 22 ∧ m.1 22 ≤ 8 := hT.1 22
  have f19 : 0 ≤ m.1 19 ∧ m.1 19 ≤ 12 := hT.1 19
  have f20 : 0 ≤ m.1 20 ∧ m.1 20 ≤ 12 := hT.1 20
  have f21 : 0 ≤ m.1 21 ∧ m.1 21 ≤ 16 := hT.1 21
  have f13 : 0 ≤ m.1 13 ∧ m.1 13 ≤ 120 := hT.1 13
  have f6 : 0 ≤ m.1 6 ∧ m.1 6 ≤ 4000 := hT.1 6
  have f23 : 0 ≤ m.1 23 ∧ m.1 23 ≤ 16 := hT.1 23
  have f26 : 0 ≤ m.1 26 ∧ m.1 26 ≤ 8 := hT.1 26
  refine Tc_of rfl ?_
  show TT w D pm_271 (0, [(0, .ref 189)], [], (mhp m c, N), 0, 0) (Q_takePlace m c N)
  rw [show (mhp m c, N) = (mhp (mO m [(7, (m.1 7)), (8, (m.1 8)), (9, (m.1 9)), (10, (m.1 10)), (11, (m.1 11)), (12, (m.1 12)), (100, (m.1 100))] []) c, N) from congrArg (fun M => (mhp M c, N)) (mO_pad m [7, 8, 9, 10, 11, 12, 100] [])]
  by_cases hf0 : m.1 10 = 0
  · skip
    have pPN := hC hf0
    have h7 := hLx (by omega)
    have hNM := hNM0
    have pmt := pPN.2.1
    have J123_19 : ∀ (v15 : Int) (v16 : Int) (s17 : Int) (m18 : mR), (R32 v15) → (R32 v16) → (R32 s17) → (Ty m18) → (2 ≤ v15) → (v15 ≤ 2) → (0 ≤ s17) → (s17 ≤ 191) → (1 ≤ (m18.1 10)) → ((m18.1 10) ≤ 8) → TT w D pm_271 (123, [(0, .ref 189), (1, .int (i32 v15)), (2, .int (i32 v16))], [.int (i32 s17)], (mhp (mO m [(7, (m18.1 7)), (8, (m18.1 8)), (9, (m18.1 9)), (10, (m18.1 10)), (11, (m18.1 11)), (12, (m18.1 12)), (100, 1)] []) c, N), 0, 0) (Q_takePlace m c N) := by
      intro v15 v16 s17 m18 q20 q21 q22 q23 ic24 ic25 ic26 ic27 ic28 ic29
      obtain ⟨q20a, q20b⟩ := id q20
      obtain ⟨q21a, q21b⟩ := id q21
      obtain ⟨q22a, q22b⟩ := id q22
      have q23_7 : 0 ≤ m18.1 7 ∧ m18.1 7 ≤ 330 := q23.1 7
      have q23_8 : 0 ≤ m18.1 8 ∧ m18.1 8 ≤ 4000 := q23.1 8
      have q23_9 : 0 ≤ m18.1 9 ∧ m18.1 9 ≤ 4000 := q23.1 9
      have q23_10 : 0 ≤ m18.1 10 ∧ m18.1 10 ≤ 8 := q23.1 10
      have q23_11 : (-1) ≤ m18.1 11 ∧ m18.1 11 ≤ 4000 := q23.1 11
      have q23_12 : (-9223372036854775808) ≤ m18.1 12 ∧ m18.1 12 ≤ 9223372036854775807 := q23.1 12
      refine T_sto 124 [(3, .int (i32 s17)), (0, .ref 189), (1, .int (i32 v15)), (2, .int (i32 v16))] rfl (fun _ => rfl) ?_
      refine T_gf 128 (.int (i32 (m18.1 10))) rfl rfl rfl rfl rfl rfl ?_
      refine T_if 133 131 rfl rfl rfl (r32 (by omega) (by omega)) (fun (h31 : (m18.1 10) ≤ 0) => by exfalso; omega) (fun (h31 : ¬ ((m18.1 10) ≤ 0)) => ?_)
      refine T_ld 132 (.int (i32 0)) rfl (fun _ => rfl) ?_
      refine T_ret rfl (fun _ => rfl) ?_
      exact ⟨(mO m [(7, (m18.1 7)), (8, (m18.1 8)), (9, (m18.1 9)), (10, (m18.1 10)), (11, (m18.1 11)), (12, (m18.1 12)), (100, 1)] []), 0, (Ty_mO hT rfl rfl ⟨(q23.1 7), (q23.1 8), (q23.1 9), (q23.1 10), (q23.1 11), (q23.1 12), ⟨(by omega : (0 : Int) ≤ 1), (by omega : (1 : Int) ≤ 64)⟩, trivial⟩ trivial), ⟨by omega, by omega⟩, (show (m18.1 10) = 0 → (m.1 10) = 0 by omega), (show LxP (m18.1 7) (m18.1 8) (m18.1 9) (m.1 6) (m18.1 10) by first | (first | exact hLx | exact (fun _ => hLx (by omega)) | (intro h9; exfalso; omega)) | (exfalso; omega)), (fun (h : (m18.1 10) = 0) => absurd h (by omega)), rfl⟩
    have J118_35 : ∀ (v32 : Int) (v33 : Int) (m34 : mR), (R32 v32) → (R32 v33) → (Ty m34) → (2 ≤ v32) → (v32 ≤ 2) → (1 ≤ (m34.1 10)) → ((m34.1 10) ≤ 8) → TT w D pm_271 (118, [(0, .ref 189), (1, .int (i32 v32)), (2, .int (i32 v33))], [], (mhp (mO m [(7, (m34.1 7)), (8, (m34.1 8)), (9, (m34.1 9)), (10, (m34.1 10)), (11, (m34.1 11)), (12, (m34.1 12)), (100, 1)] []) c, N), 0, 0) (Q_takePlace m c N) := by
      intro v32 v33 m34 q36 q37 q38 ic39 ic40 ic41 ic42
      obtain ⟨q36a, q36b⟩ := id q36
      obtain ⟨q37a, q37b⟩ := id q37
      have q38_7 : 0 ≤ m34.1 7 ∧ m34.1 7 ≤ 330 := q38.1 7
      have q38_8 : 0 ≤ m34.1 8 ∧ m34.1 8 ≤ 4000 := q38.1 8
      have q38_9 : 0 ≤ m34.1 9 ∧ m34.1 9 ≤ 4000 := q38.1 9
      have q38_10 : 0 ≤ m34.1 10 ∧ m34.1 10 ≤ 8 := q38.1 10
      have q38_11 : (-1) ≤ m34.1 11 ∧ m34.1 11 ≤ 4000 := q38.1 11
      have q38_12 : (-9223372036854775808) ≤ m34.1 12 ∧ m34.1 12 ≤ 9223372036854775807 := q38.1 12
      refine T_ld 119 (.ref 189) rfl (fun _ => rfl) ?_
      refine T_ld 120 (.int (i32 v33)) rfl (fun _ => rfl) ?_
      refine T_call 123 253 [.ref 189, .int (i32 v33)] [] rfl (fun _ => rfl) rfl (c_takeField w (mO m [(7, (m34.1 7)), (8, (m34.1 8)), (9, (m34.1 9)), (10, (m34.1 10)), (11, (m34.1 11)), (12, (m34.1 12)), (100, 1)] []) c N D (by omega) (Ty_mO hT rfl rfl ⟨(q38.1 7), (q38.1 8), (q38.1 9), (q38.1 10), (q38.1 11), (q38.1 12), ⟨(by omega : (0 : Int) ≤ 1), (by omega : (1 : Int) ≤ 64)⟩, trivial⟩ trivial) v33 (r32 (by omega) (by omega)) (show LxP (m34.1 7) (m34.1 8) (m34.1 9) (m.1 6) (m34.1 10) by first | exact hLx | exact (fun _ => hLx (by omega)) | (intro h9; exfalso; omega)) (show ∀ k, (m.2 31) k + (m.2 32) k ≤ 4000 by assumption) (show 0 ≤ v33 ∧ v33 ≤ 11 by omega) (fun (h : (m34.1 10) = 0) => absurd h (by omega))) (fun rr44 k45 => ?_)
      obtain ⟨m46, tf, hT47, g48, h49, h50, c51, rfl⟩ := k45
      refine ⟨_, _, rfl, ?_⟩
      refine T_nf2 (st' := [.int (i32 tf)]) (l' := [(7, (m46.1 7)), (8, (m46.1 8)), (9, (m46.1 9)), (10, (m46.1 10)), (11, (m46.1 11)), (12, (m46.1 12)), (100, 1)]) (a' := []) [7, 8, 9, 10, 11, 12] [] rfl ⟨rfl, rfl, rfl, rfl, rfl, rfl, rfl, rfl, rfl, rfl, rfl, rfl, rfl, rfl, trivial⟩ trivial rfl rfl (by decide) (by decide) ?_
      obtain ⟨g48a, g48b⟩ := g48
      have g52 : 0 ≤ m46.1 7 ∧ m46.1 7 ≤ 330 := hT47.1 7
      have g53 : 0 ≤ m46.1 8 ∧ m46.1 8 ≤ 4000 := hT47.1 8
      have g54 : 0 ≤ m46.1 9 ∧ m46.1 9 ≤ 4000 := hT47.1 9
      have g55 : 0 ≤ m46.1 10 ∧ m46.1 10 ≤ 8 := hT47.1 10
      have g56 : (-1) ≤ m46.1 11 ∧ m46.1 11 ≤ 4000 := hT47.1 11
      have g57 : (-9223372036854775808) ≤ m46.1 12 ∧ m46.1 12 ≤ 9223372036854775807 := hT47.1 12
      replace h49 : (m46.1 10) = 0 → (m34.1 10) = 0 := h49
      replace h50 : LxP (m46.1 7) (m46.1 8) (m46.1 9) (m.1 6) (m46.1 10) := h50
      have hf58 : 1 ≤ (m46.1 10) := by omega
      clear c51
      clear h49
      have hLx := h50
      clear q38_7 q38_8 q38_9 q38_10 q38_11 q38_12 ic41 ic42
      exact J123_19 v32 v33 tf (mO m [(7, (m46.1 7)), (8, (m46.1 8)), (9, (m46.1 9)), (10, (m46.1 10)), (11, (m46.1 11)), (12, (m46.1 12)), (100, 1)] []) (r32 (by omega) (by omega)) (r32 (by omega) (by omega)) (r32 (by omega) (by omega)) (Ty_mO hT rfl rfl ⟨(hT47.1 7), (hT47.1 8), (hT47.1 9), (hT47.1 10), (hT47.1 11), (hT47.1 12), ⟨(by omega : (0 : Int) ≤ 1), (by omega : (1 : Int) ≤ 64)⟩, trivial⟩ trivial) (show 2 ≤ v32 by omega) (show v32 ≤ 2 by omega) (show 0 ≤ tf by omega) (show tf ≤ 191 by omega) (show 1 ≤ (m46.1 10) by omega) (show (m46.1 10) ≤ 8 by omega)
    have J86_62 : ∀ (v59 : Int) (v60 : Int) (m61 : mR), (R32 v59) → (R32 v60) → (Ty m61) → ((-2147483648) ≤ v59) → (v59 ≤ 2147483647) → (1 ≤ (m61.1 10)) → ((m61.1 10) ≤ 8) → TT w D pm_271 (86, [(0, .ref 189), (1, .int (i32 v59)), (2, .int (i32 v60))], [], (mhp (mO m [(7, (m61.1 7)), (8, (m61.1 8)), (9, (m61.1 9)), (10, (m61.1 10)), (11, (m61.1 11)), (12, (m61.1 12)), (100, 1)] []) c, N), 0, 0) (Q_takePlace m c N) := by
      intro v59 v60 m61 q63 q64 q65 ic66 ic67 ic68 ic69
      obtain ⟨q63a, q63b⟩ := id q63
      obtain ⟨q64a, q64b⟩ := id q64
      have q65_7 : 0 ≤ m61.1 7 ∧ m61.1 7 ≤ 330 := q65.1 7
      have q65_8 : 0 ≤ m61.1 8 ∧ m61.1 8 ≤ 4000 := q65.1 8
      have q65_9 : 0 ≤ m61.1 9 ∧ m61.1 9 ≤ 4000 := q65.1 9
      have q65_10 : 0 ≤ m61.1 10 ∧ m61.1 10 ≤ 8 := q65.1 10
      have q65_11 : (-1) ≤ m61.1 11 ∧ m61.1 11 ≤ 4000 := q65.1 11
      have q65_12 : (-9223372036854775808) ≤ m61.1 12 ∧ m61.1 12 ≤ 9223372036854775807 := q65.1 12
      refine T_gf 90 (.int (i32 (m61.1 10))) rfl rfl rfl rfl rfl rfl ?_
      refine T_if 95 93 rfl rfl rfl (r32 (by omega) (by omega)) (fun (h71 : (m61.1 10) ≤ 0) => by exfalso; omega) (fun (h71 : ¬ ((m61.1 10) ≤ 0)) => ?_)
      refine T_ld 94 (.int (i32 0)) rfl (fun _ => rfl) ?_
      refine T_ret rfl (fun _ => rfl) ?_
      exact ⟨(mO m [(7, (m61.1 7)), (8, (m61.1 8)), (9, (m61.1 9)), (10, (m61.1 10)), (11, (m61.1 11)), (12, (m61.1 12)), (100, 1)] []), 0, (Ty_mO hT rfl rfl ⟨(q65.1 7), (q65.1 8), (q65.1 9), (q65.1 10), (q65.1 11), (q65.1 12), ⟨(by omega : (0 : Int) ≤ 1), (by omega : (1 : Int) ≤ 64)⟩, trivial⟩ trivial), ⟨by omega, by omega⟩, (show (m61.1 10) = 0 → (m.1 10) = 0 by omega), (show LxP (m61.1 7) (m61.1 8) (m61.1 9) (m.1 6) (m61.1 10) by first | (first | exact hLx | exact (fun _ => hLx (by omega)) | (intro h9; exfalso; omega)) | (exfalso; omega)), (fun (h : (m61.1 10) = 0) => absurd h (by omega)), rfl⟩
    have J82_75 : ∀ (v72 : Int) (v73 : Int) (m74 : mR), (R32 v72) → (R32 v73) → (Ty m74) → ((-2147483648) ≤ v72) → (v72 ≤ 2147483647) → ((-2147483648) ≤ v73) → (v73 ≤ 1) → (1 ≤ (m74.1 10)) → ((m74.1 10) ≤ 8) → TT w D pm_271 (82, [(0, .ref 189), (1, .int (i32 v72)), (2, .int (i32 v73))], [], (mhp (mO m [(7, (m.1 7)), (8, (m.1 8)), (9, (m.1 9)), (10, (m74.1 10)), (11, (m74.1 11)), (12, (m.1 12)), (100, 1)] []) c, N), 0, 0) (Q_takePlace m c N) := by
      intro v72 v73 m74 q76 q77 q78 ic79 ic80 ic81 ic82 ic83 ic84
      obtain ⟨q76a, q76b⟩ := id q76
      obtain ⟨q77a, q77b⟩ := id q77
      have q78_10 : 0 ≤ m74.1 10 ∧ m74.1 10 ≤ 8 := q78.1 10
      have q78_11 : (-1) ≤ m74.1 11 ∧ m74.1 11 ≤ 4000 := q78.1 11
      refine T_ld 83 (.ref 189) rfl (fun _ => rfl) ?_
      refine T_call 86 212 [.ref 189] [] rfl (fun _ => rfl) rfl (c_next w (mO m [(7, (m.1 7)), (8, (m.1 8)), (9, (m.1 9)), (10, (m74.1 10)), (11, (m74.1 11)), (12, (m.1 12)), (100, 1)] []) c N D (by omega) (Ty_mO hT rfl rfl ⟨f7, f8, f9, (q78.1 10), (q78.1 11), f12, ⟨(by omega : (0 : Int) ≤ 1), (by omega : (1 : Int) ≤ 64)⟩, trivial⟩ trivial) (show (m74.1 10) = 0 → (m.1 8) + (m.1 9) ≤ (m.1 6) by first | omega | (intro h9; have h8 := hLx h9; omega))) (fun rr86 k87 => ?_)
      obtain ⟨y88, y90, y92, y94, y96, y98, g89, g91, g93, g95, g97, g99, h100, h101, h102, h103, rfl⟩ := k87
      refine ⟨_, _, rfl, ?_⟩
      refine T_nf2 (st' := []) (l' := [(7, y88), (8, y90), (9, y92), (10, y94), (11, y96), (12, y98), (100, 1)]) (a' := []) [7, 8, 9, 10, 11, 12] [] rfl ⟨rfl, rfl, rfl, rfl, rfl, rfl, rfl, rfl, rfl, rfl, rfl, rfl, rfl, rfl, trivial⟩ trivial rfl rfl (by decide) (by decide) ?_
      replace h100 : LxP y88 y90 y92 (m.1 6) y94 := h100
      replace h101 : y94 = 0 → (m74.1 10) = 0 := h101
      replace h102 : (m.1 8) ≤ y90 := h102
      replace h103 : y94 = 0 → (m.1 8) + (m.1 9) ≤ y90 := h103
      have hf104 : 1 ≤ y94 := by omega
      clear h101
      clear h103
      have hLx := h100
      clear q78_10 q78_11 ic83 ic84
      exact J86_62 v72 v73 (mO m [(7, y88), (8, y90), (9, y92), (10, y94), (11, y96), (12, y98), (100, 1)] []) (r32 (by omega) (by omega)) (r32 (by omega) (by omega)) (Ty_mO hT rfl rfl ⟨g89, g91, g93, g95, g97, g99, ⟨(by omega : (0 : Int) ≤ 1), (by omega : (1 : Int) ≤ 64)⟩, trivial⟩ trivial) (show (-2147483648) ≤ v72 by omega) (show v72 ≤ 2147483647 by omega) (show 1 ≤ y94 by omega) (show y94 ≤ 8 by omega)
    refine T_ld 1 (.ref 189) rfl (fun _ => rfl) ?_
    refine T_ld 2 (.int (i32 1)) rfl (fun _ => rfl) ?_
    refine T_pf (l' := [(7, (m.1 7)), (8, (m.1 8)), (9, (m.1 9)), (10, (m.1 10)), (11, (m.1 11)), (12, (m.1 12)), (100, 1)]) 5 1 rfl rfl rfl rfl rfl rfl ?_
    refine T_gf 9 (.int (i32 (m.1 10))) rfl rfl rfl rfl rfl rfl ?_
    refine T_if 14 12 rfl rfl rfl (r32 (by omega) (by omega)) (fun (h105 : (m.1 10) ≤ 0) => ?_) (fun (h105 : ¬ ((m.1 10) ≤ 0)) => by exfalso; omega)
    refine T_gf 18 (.int (i32 (m.1 7))) rfl rfl rfl rfl rfl rfl ?_
    refine T_ld 19 (.int (i32 1)) rfl (fun _ => rfl) ?_
    refine T_icmp 28 22 rfl rfl rfl (r32 (by omega) (by omega)) ⟨by decide, by decide⟩ (fun (h106 : (m.1 7) = 1) => ?_) (fun (h106 : ¬ ((m.1 7) = 1)) => ?_)
    · skip
      refine T_ld 29 (.ref 189) rfl (fun _ => rfl) ?_
      refine T_call 32 227 [.ref 189] [] rfl (fun _ => rfl) rfl (c_sortHere w (mO m [(7, (m.1 7)), (8, (m.1 8)), (9, (m.1 9)), (10, (m.1 10)), (11, (m.1 11)), (12, (m.1 12)), (100, 1)] []) c N D (by omega) (Ty_mO hT rfl rfl ⟨f7, f8, f9, f10, f11, f12, ⟨(by omega : (0 : Int) ≤ 1), (by omega : (1 : Int) ≤ 64)⟩, trivial⟩ trivial) (show 1 ≤ (m.1 9) ∧ (m.1 8) + (m.1 9) ≤ (m.1 6) by first | omega | (have h8 := hLx (by omega); omega)) (show ∀ k, (m.2 14) k + (m.2 15) k ≤ 4000 by first | exact hNM | exact p1)) (fun rr107 k108 => ?_)
      obtain ⟨so, g109, h110, h111, rfl⟩ := k108
      refine ⟨_, _, rfl, ?_⟩
      refine T_nf2 (st' := [.int (i32 so)]) (l' := [(7, (m.1 7)), (8, (m.1 8)), (9, (m.1 9)), (10, (m.1 10)), (11, (m.1 11)), (12, (m.1 12)), (100, 1)]) (a' := []) [] [] rfl ⟨rfl, rfl, rfl, rfl, rfl, rfl, rfl, rfl, rfl, rfl, rfl, rfl, rfl, rfl, trivial⟩ trivial rfl rfl (by decide) (by decide) ?_
      obtain ⟨g109a, g109b⟩ := g109
      replace h110 : ∃ g k, isGH (m.2 4) (m.1 8) (m.1 9) g ∧ (g < 0 → isFH (m.2 4) (m.2 14) (m.2 15) (m.1 8) (m.1 9) (m.1 13) k) ∧ so = sortV (m.2 16) g k := h110
      have hSo := h110
      replace h111 : -1 ≤ so ∧ so ≤ 7 := h111
      have u112 : (m.1 8) ≤ (m.1 8) := by omega
      refine T_sto 33 [(1, .int (i32 so)), (0, .ref 189)] rfl (fun _ => rfl) ?_
      refine T_ld 34 (.int (i32 so)) rfl (fun _ => rfl) ?_
      refine T_ld 35 (.int (i32 3)) rfl (fun _ => rfl) ?_
      refine T_icmp 43 38 rfl rfl rfl (r32 (by omega) (by omega)) ⟨by decide, by decide⟩ (fun (h113 : so = 3) => ?_) (fun (h113 : ¬ (so = 3)) => ?_)
      · skip
        refine T_ld 44 (.ref 189) rfl (fun _ => rfl) ?_
        refine T_call 47 237 [.ref 189] [] rfl (fun _ => rfl) rfl (c_whichHere w (mO m [(7, (m.1 7)), (8, (m.1 8)), (9, (m.1 9)), (10, (m.1 10)), (11, (m.1 11)), (12, (m.1 12)), (100, 1)] []) c N D (by omega) (Ty_mO hT rfl rfl ⟨f7, f8, f9, f10, f11, f12, ⟨(by omega : (0 : Int) ≤ 1), (by omega : (1 : Int) ≤ 64)⟩, trivial⟩ trivial) (show 1 ≤ (m.1 9) ∧ (m.1 8) + (m.1 9) ≤ (m.1 6) by first | omega | (have h8 := hLx (by omega); omega)) (show ∀ k, (m.2 14) k + (m.2 15) k ≤ 4000 by first | exact hNM | exact p1) (show ∀ g k, isGH (m.2 4) (m.1 8) (m.1 9) g → g < 0 → isFH (m.2 4) (m.2 14) (m.2 15) (m.1 8) (m.1 9) (m.1 13) k → 0 ≤ k by exact old_ok hSo (by omega))) (fun rr114 k115 => ?_)
        obtain ⟨wi, g116, h117, rfl⟩ := k115
        refine ⟨_, _, rfl, ?_⟩
        refine T_nf2 (st' := [.int (i32 wi)]) (l' := [(7, (m.1 7)), (8, (m.1 8)), (9, (m.1 9)), (10, (m.1 10)), (11, (m.1 11)), (12, (m.1 12)), (100, 1)]) (a' := []) [] [] rfl ⟨rfl, rfl, rfl, rfl, rfl, rfl, rfl, rfl, rfl, rfl, rfl, rfl, rfl, rfl, trivial⟩ trivial rfl rfl (by decide) (by decide) ?_
        obtain ⟨g116a, g116b⟩ := g116
        replace h117 : ∃ g k, isGH (m.2 4) (m.1 8) (m.1 9) g ∧ (g < 0 → isFH (m.2 4) (m.2 14) (m.2 15) (m.1 8) (m.1 9) (m.1 13) k) ∧ wi = whichV (m.2 17) g k := h117
        have hWi := h117
        have u118 : (m.1 8) ≤ (m.1 8) := by omega
        have hw3 : so = 3 → 0 ≤ wi ∧ wi < (m.1 21) := fun h => old_rg hSo hWi h (by omega) (by omega) (PNl_3 pPN) (fun _ => pPN.2.1)
        have hw2 : so = 2 → 0 ≤ wi ∧ wi < (m.1 20) := fun h => old_rg hSo hWi h (by omega) (by omega) (PNl_2 pPN) (fun h => by omega)
        refine T_goto 51 rfl (fun _ => rfl) ?_
        refine T_sto 52 [(2, .int (i32 wi)), (1, .int (i32 so)), (0, .ref 189)] rfl (fun _ => rfl) ?_
        refine T_ld 53 (.int (i32 so)) rfl (fun _ => rfl) ?_
        refine T_ld 54 (.int (i32 3)) rfl (fun _ => rfl) ?_
        refine T_icmp 62 57 rfl rfl rfl (r32 (by omega) (by omega)) ⟨by decide, by decide⟩ (fun (h119 : so = 3) => ?_) (fun (h119 : ¬ (so = 3)) => by exfalso; omega)
        refine T_ld 63 (.int (i32 so)) rfl (fun _ => rfl) ?_
        refine T_ld 64 (.int (i32 3)) rfl (fun _ => rfl) ?_
        refine T_icmp 82 67 rfl rfl rfl (r32 (by omega) (by omega)) ⟨by decide, by decide⟩ (fun (h120 : so ≠ 3) => by exfalso; omega) (fun (h120 : ¬ (so ≠ 3)) => ?_)
        refine T_ld 68 (.int (i32 wi)) rfl (fun _ => rfl) ?_
        refine T_ld 69 (.int (i32 2)) rfl (fun _ => rfl) ?_
        refine T_icmp 82 72 rfl rfl rfl (r32 (by omega) (by omega)) ⟨by decide, by decide⟩ (fun (h121 : (2 : Int) ≤ wi) => ?_) (fun (h121 : ¬ ((2 : Int) ≤ wi)) => ?_)
        · skip
          refine T_ld 83 (.ref 189) rfl (fun _ => rfl) ?_
          refine T_call 86 212 [.ref 189] [] rfl (fun _ => rfl) rfl (c_next w (mO m [(7, (m.1 7)), (8, (m.1 8)), (9, (m.1 9)), (10, (m.1 10)), (11, (m.1 11)), (12, (m.1 12)), (100, 1)] []) c N D (by omega) (Ty_mO hT rfl rfl ⟨f7, f8, f9, f10, f11, f12, ⟨(by omega : (0 : Int) ≤ 1), (by omega : (1 : Int) ≤ 64)⟩, trivial⟩ trivial) (show (m.1 10) = 0 → (m.1 8) + (m.1 9) ≤ (m.1 6) by first | omega | (intro h9; have h8 := hLx h9; omega))) (fun rr122 k123 => ?_)
          obtain ⟨y124, y126, y128, y130, y132, y134, g125, g127, g129, g131, g133, g135, h136, h137, h138, h139, rfl⟩ := k123
          refine ⟨_, _, rfl, ?_⟩
          refine T_nf2 (st' := []) (l' := [(7, y124), (8, y126), (9, y128), (10, y130), (11, y132), (12, y134), (100, 1)]) (a' := []) [7, 8, 9, 10, 11, 12] [] rfl ⟨rfl, rfl, rfl, rfl, rfl, rfl, rfl, rfl, rfl, rfl, rfl, rfl, rfl, rfl, trivial⟩ trivial rfl rfl (by decide) (by decide) ?_
          by_cases hf140 : y130 = 0
          · skip
            subst hf140
            replace h136 : LxP y124 y126 y128 (m.1 6) (0 : Int) := h136
            have hLx := h136
            replace h137 : (m.1 10) = 0 := h137 rfl
            replace h138 : (m.1 8) ≤ y126 := h138
            replace h139 : (m.1 8) + (m.1 9) ≤ y126 := h139 rfl
            have u141 : (m.1 8) + 1 ≤ y126 := by omega
            clear g131
            refine T_gf 90 (.int (i32 0)) rfl rfl rfl rfl rfl rfl ?_
            refine T_if 95 93 rfl rfl rfl ⟨by decide, by decide⟩ (fun _ => ?_) (fun h142 => absurd (show (0 : Int) ≤ 0 by decide) h142)
            refine T_ld 96 (.int (i32 so)) rfl (fun _ => rfl) ?_
            refine T_ld 97 (.int (i32 3)) rfl (fun _ => rfl) ?_
            refine T_icmp 112 100 rfl rfl rfl (r32 (by omega) (by omega)) ⟨by decide, by decide⟩ (fun (h143 : so ≠ 3) => by exfalso; omega) (fun (h143 : ¬ (so ≠ 3)) => ?_)
            refine T_ld 101 (.ref 189) rfl (fun _ => rfl) ?_
            refine T_gf 105 (.ref 205) rfl rfl rfl rfl rfl rfl ?_
            refine T_ld 106 (.int (i32 wi)) rfl (fun _ => rfl) ?_
            refine T_iald 107 35 (m.2 35) rfl rfl rfl (by omega) (show wi < (16 : Int) by omega) rfl ?_
            have e144 : 0 ≤ m.2 35 wi ∧ m.2 35 wi ≤ 64 := hT.2.1 35 wi
            refine T_pf (l' := [(7, y124), (8, y126), (9, y128), (10, 0), (11, y132), (12, y134), (100, (m.2 35) wi)]) 110 ((m.2 35) wi) rfl rfl rfl rfl rfl rfl ?_
            have g145 : 0 ≤ (m.2 35) wi ∧ (m.2 35) wi ≤ 64 := ⟨by omega, by omega⟩
            refine T_ld 111 (.int (i32 wi)) rfl (fun _ => rfl) ?_
            refine T_ret rfl (fun _ => rfl) ?_
            exact ⟨(mO m [(7, y124), (8, y126), (9, y128), (10, 0), (11, y132), (12, y134), (100, (m.2 35) wi)] []), wi, (Ty_mO hT rfl rfl ⟨g125, g127, g129, ⟨(by omega : (0 : Int) ≤ 0), (by omega : (0 : Int) ≤ 8)⟩, g133, g135, g145, trivial⟩ trivial), ⟨by omega, by omega⟩, (show (0 : Int) = 0 → (m.1 10) = 0 by omega), (show LxP y124 y126 y128 (m.1 6) (0 : Int) by first | (first | exact hLx | exact (fun _ => hLx (by omega)) | (intro h9; exfalso; omega)) | (exfalso; omega)), (fun _ => (show (m.1 8) + 1 ≤ y126 by omega)), rfl⟩
          · skip
            replace h136 : LxP y124 y126 y128 (m.1 6) y130 := h136
            have hLx := h136
            clear h137
            replace h138 : (m.1 8) ≤ y126 := h138
            clear h139
            have hf146 : 1 ≤ y130 := by omega
            refine Tm_lv (a := [(0, .ref 189), (1, .int (i32 so)), (2, .int (i32 wi))]) rfl rfl ⟨rfl, rfl, rfl, trivial⟩ ?_
            exact J86_62 so wi (mO m [(7, y124), (8, y126), (9, y128), (10, y130), (11, y132), (12, y134), (100, 1)] []) (r32 (by omega) (by omega)) (r32 (by omega) (by omega)) (Ty_mO hT rfl rfl ⟨g125, g127, g129, g131, g133, g135, ⟨(by omega : (0 : Int) ≤ 1), (by omega : (1 : Int) ≤ 64)⟩, trivial⟩ trivial) (show (-2147483648) ≤ so by omega) (show so ≤ 2147483647 by omega) (show 1 ≤ y130 by omega) (show y130 ≤ 8 by omega)
        · skip
          refine T_ld 73 (.ref 189) rfl (fun _ => rfl) ?_
          refine T_ld 75 (.int (i32 6)) rfl (fun _ => rfl) ?_
          refine T_gf 79 (.int (i32 (m.1 8))) rfl rfl rfl rfl rfl rfl ?_
          refine T_call 82 222 [.ref 189, .int (i32 6), .int (i32 (m.1 8))] [] rfl (fun _ => rfl) rfl (c_wrong w (mO m [(7, (m.1 7)), (8, (m.1 8)), (9, (m.1 9)), (10, (m.1 10)), (11, (m.1 11)), (12, (m.1 12)), (100, 1)] []) c N D (by omega) (Ty_mO hT rfl rfl ⟨f7, f8, f9, f10, f11, f12, ⟨(by omega : (0 : Int) ≤ 1), (by omega : (1 : Int) ≤ 64)⟩, trivial⟩ trivial) 6 (m.1 8) ⟨by decide, by decide⟩ (r32 (by omega) (by omega)) (show 1 ≤ (6 : Int) ∧ (6 : Int) ≤ 8 by omega) (show 0 ≤ (m.1 8) ∧ (m.1 8) ≤ 4000 by omega)) (fun rr147 k148 => ?_)
          obtain ⟨y149, y151, g150, g152, h153, rfl⟩ := k148
          refine ⟨_, _, rfl, ?_⟩
          refine T_nf2 (st' := []) (l' := [(7, (m.1 7)), (8, (m.1 8)), (9, (m.1 9)), (10, y149), (11, y151), (12, (m.1 12)), (100, 1)]) (a' := []) [10, 11] [] rfl ⟨rfl, rfl, rfl, rfl, rfl, rfl, rfl, rfl, rfl, rfl, rfl, rfl, rfl, rfl, rfl, rfl, rfl, trivial⟩ trivial rfl rfl (by decide) (by decide) ?_
          replace h153 : (0 < (m.1 10) → y149 = (m.1 10) ∧ y151 = (m.1 11)) ∧ ((m.1 10) ≤ 0 → y149 = (6 : Int) ∧ y151 = (m.1 8)) := h153
          have hf154 : 1 ≤ y149 := by omega
          refine Tm_lv (a := [(0, .ref 189), (1, .int (i32 so)), (2, .int (i32 wi))]) rfl rfl ⟨rfl, rfl, rfl, trivial⟩ ?_
          exact J82_75 so wi (mO m [(7, (m.1 7)), (8, (m.1 8)), (9, (m.1 9)), (10, y149), (11, y151), (12, (m.1 12)), (100, 1)] []) (r32 (by omega) (by omega)) (r32 (by omega) (by omega)) (Ty_mO hT rfl rfl ⟨f7, f8, f9, g150, g152, f12, ⟨(by omega : (0 : Int) ≤ 1), (by omega : (1 : Int) ≤ 64)⟩, trivial⟩ trivial) (show (-2147483648) ≤ so by omega) (show so ≤ 2147483647 by omega) (show (-2147483648) ≤ wi by omega) (show wi ≤ 1 by omega) (show 1 ≤ y149 by omega) (show y149 ≤ 8 by omega)
      · skip
        refine T_ld 39 (.int (i32 so)) rfl (fun _ => rfl) ?_
        refine T_ld 40 (.int (i32 2)) rfl (fun _ => rfl) ?_
        refine T_icmp 50 43 rfl rfl rfl (r32 (by omega) (by omega)) ⟨by decide, by decide⟩ (fun (h155 : so ≠ 2) => ?_) (fun (h155 : ¬ (so ≠ 2)) => ?_)
        · skip
          refine T_ld 51 (.int (i32 0)) rfl (fun _ => rfl) ?_
          refine T_sto 52 [(2, .int (i32 0)), (1, .int (i32 so)), (0, .ref 189)] rfl (fun _ => rfl) ?_
          refine T_ld 53 (.int (i32 so)) rfl (fun _ => rfl) ?_
          refine T_ld 54 (.int (i32 3)) rfl (fun _ => rfl) ?_
          refine T_icmp 62 57 rfl rfl rfl (r32 (by omega) (by omega)) ⟨by decide, by decide⟩ (fun (h156 : so = 3) => ?_) (fun (h156 : ¬ (so = 3)) => ?_)
          · skip
            refine T_ld 63 (.int (i32 so)) rfl (fun _ => rfl) ?_
            refine T_ld 64 (.int (i32 3)) rfl (fun _ => rfl) ?_
            refine T_icmp 82 67 rfl rfl rfl (r32 (by omega) (by omega)) ⟨by decide, by decide⟩ (fun (h157 : so ≠ 3) => by exfalso; omega) (fun (h157 : ¬ (so ≠ 3)) => ?_)
            refine T_ld 68 (.int (i32 0)) rfl (fun _ => rfl) ?_
            refine T_ld 69 (.int (i32 2)) rfl (fun _ => rfl) ?_
            refine T_icmp 82 72 rfl rfl rfl ⟨by decide, by decide⟩ ⟨by decide, by decide⟩ (fun h158 => absurd (show (2 : Int) ≤ 0 from h158) (by decide)) (fun _ => ?_)
            refine T_ld 73 (.ref 189) rfl (fun _ => rfl) ?_
            refine T_ld 75 (.int (i32 6)) rfl (fun _ => rfl) ?_
            refine T_gf 79 (.int (i32 (m.1 8))) rfl rfl rfl rfl rfl rfl ?_
            refine T_call 82 222 [.ref 189, .int (i32 6), .int (i32 (m.1 8))] [] rfl (fun _ => rfl) rfl (c_wrong w (mO m [(7, (m.1 7)), (8, (m.1 8)), (9, (m.1 9)), (10, (m.1 10)), (11, (m.1 11)), (12, (m.1 12)), (100, 1)] []) c N D (by omega) (Ty_mO hT rfl rfl ⟨f7, f8, f9, f10, f11, f12, ⟨(by omega : (0 : Int) ≤ 1), (by omega : (1 : Int) ≤ 64)⟩, trivial⟩ trivial) 6 (m.1 8) ⟨by decide, by decide⟩ (r32 (by omega) (by omega)) (show 1 ≤ (6 : Int) ∧ (6 : Int) ≤ 8 by omega) (show 0 ≤ (m.1 8) ∧ (m.1 8) ≤ 4000 by omega)) (fun rr159 k160 => ?_)
            obtain ⟨y161, y163, g162, g164, h165, rfl⟩ := k160
            refine ⟨_, _, rfl, ?_⟩
            refine T_nf2 (st' := []) (l' := [(7, (m.1 7)), (8, (m.1 8)), (9, (m.1 9)), (10, y161), (11, y163), (12, (m.1 12)), (100, 1)]) (a' := []) [10, 11] [] rfl ⟨rfl, rfl, rfl, rfl, rfl, rfl, rfl, rfl, rfl, rfl, rfl, rfl, rfl, rfl, rfl, rfl, rfl, trivial⟩ trivial rfl rfl (by decide) (by decide) ?_
            replace h165 : (0 < (m.1 10) → y161 = (m.1 10) ∧ y163 = (m.1 11)) ∧ ((m.1 10) ≤ 0 → y161 = (6 : Int) ∧ y163 = (m.1 8)) := h165
            have hf166 : 1 ≤ y161 := by omega
            refine Tm_lv (a := [(0, .ref 189), (1, .int (i32 so)), (2, .int (i32 0))]) rfl rfl ⟨rfl, rfl, rfl, trivial⟩ ?_
            exact J82_75 so 0 (mO m [(7, (m.1 7)), (8, (m.1 8)), (9, (m.1 9)), (10, y161), (11, y163), (12, (m.1 12)), (100, 1)] []) (r32 (by omega) (by omega)) ⟨by decide, by decide⟩ (Ty_mO hT rfl rfl ⟨f7, f8, f9, g162, g164, f12, ⟨(by omega : (0 : Int) ≤ 1), (by omega : (1 : Int) ≤ 64)⟩, trivial⟩ trivial) (show (-2147483648) ≤ so by omega) (show so ≤ 2147483647 by omega) (show (-2147483648) ≤ (0 : Int) by omega) (show (0 : Int) ≤ 1 by omega) (show 1 ≤ y161 by omega) (show y161 ≤ 8 by omega)
          · skip
            refine T_ld 58 (.int (i32 so)) rfl (fun _ => rfl) ?_
            refine T_ld 59 (.int (i32 2)) rfl (fun _ => rfl) ?_
            refine T_icmp 72 62 rfl rfl rfl (r32 (by omega) (by omega)) ⟨by decide, by decide⟩ (fun (h167 : so ≠ 2) => ?_) (fun (h167 : ¬ (so ≠ 2)) => ?_)
            · skip
              refine T_ld 73 (.ref 189) rfl (fun _ => rfl) ?_
              refine T_ld 75 (.int (i32 6)) rfl (fun _ => rfl) ?_
              refine T_gf 79 (.int (i32 (m.1 8))) rfl rfl rfl rfl rfl rfl ?_
              refine T_call 82 222 [.ref 189, .int (i32 6), .int (i32 (m.1 8))] [] rfl (fun _ => rfl) rfl (c_wrong w (mO m [(7, (m.1 7)), (8, (m.1 8)), (9, (m.1 9)), (10, (m.1 10)), (11, (m.1 11)), (12, (m.1 12)), (100, 1)] []) c N D (by omega) (Ty_mO hT rfl rfl ⟨f7, f8, f9, f10, f11, f12, ⟨(by omega : (0 : Int) ≤ 1), (by omega : (1 : Int) ≤ 64)⟩, trivial⟩ trivial) 6 (m.1 8) ⟨by decide, by decide⟩ (r32 (by omega) (by omega)) (show 1 ≤ (6 : Int) ∧ (6 : Int) ≤ 8 by omega) (show 0 ≤ (m.1 8) ∧ (m.1 8) ≤ 4000 by omega)) (fun rr168 k169 => ?_)
              obtain ⟨y170, y172, g171, g173, h174, rfl⟩ := k169
              refine ⟨_, _, rfl, ?_⟩
              refine T_nf2 (st' := []) (l' := [(7, (m.1 7)), (8, (m.1 8)), (9, (m.1 9)), (10, y170), (11, y172), (12, (m.1 12)), (100, 1)]) (a' := []) [10, 11] [] rfl ⟨rfl, rfl, rfl, rfl, rfl, rfl, rfl, rfl, rfl, rfl, rfl, rfl, rfl, rfl, rfl, rfl, rfl, trivial⟩ trivial rfl rfl (by decide) (by decide) ?_
              replace h174 : (0 < (m.1 10) → y170 = (m.1 10) ∧ y172 = (m.1 11)) ∧ ((m.1 10) ≤ 0 → y170 = (6 : Int) ∧ y172 = (m.1 8)) := h174
              have hf175 : 1 ≤ y170 := by omega
              refine Tm_lv (a := [(0, .ref 189), (1, .int (i32 so)), (2, .int (i32 0))]) rfl rfl ⟨rfl, rfl, rfl, trivial⟩ ?_
              exact J82_75 so 0 (mO m [(7, (m.1 7)), (8, (m.1 8)), (9, (m.1 9)), (10, y170), (11, y172), (12, (m.1 12)), (100, 1)] []) (r32 (by omega) (by omega)) ⟨by decide, by decide⟩ (Ty_mO hT rfl rfl ⟨f7, f8, f9, g171, g173, f12, ⟨(by omega : (0 : Int) ≤ 1), (by omega : (1 : Int) ≤ 64)⟩, trivial⟩ trivial) (show (-2147483648) ≤ so by omega) (show so ≤ 2147483647 by omega) (show (-2147483648) ≤ (0 : Int) by omega) (show (0 : Int) ≤ 1 by omega) (show 1 ≤ y170 by omega) (show y170 ≤ 8 by omega)
            · skip
              refine T_ld 63 (.int (i32 so)) rfl (fun _ => rfl) ?_
              refine T_ld 64 (.int (i32 3)) rfl (fun _ => rfl) ?_
              refine T_icmp 82 67 rfl rfl rfl (r32 (by omega) (by omega)) ⟨by decide, by decide⟩ (fun (h176 : so ≠ 3) => ?_) (fun (h176 : ¬ (so ≠ 3)) => by exfalso; omega)
              refine T_ld 83 (.ref 189) rfl (fun _ => rfl) ?_
              refine T_call 86 212 [.ref 189] [] rfl (fun _ => rfl) rfl (c_next w (mO m [(7, (m.1 7)), (8, (m.1 8)), (9, (m.1 9)), (10, (m.1 10)), (11, (m.1 11)), (12, (m.1 12)), (100, 1)] []) c N D (by omega) (Ty_mO hT rfl rfl ⟨f7, f8, f9, f10, f11, f12, ⟨(by omega : (0 : Int) ≤ 1), (by omega : (1 : Int) ≤ 64)⟩, trivial⟩ trivial) (show (m.1 10) = 0 → (m.1 8) + (m.1 9) ≤ (m.1 6) by first | omega | (intro h9; have h8 := hLx h9; omega))) (fun rr177 k178 => ?_)
              obtain ⟨y179, y181, y183, y185, y187, y189, g180, g182, g184, g186, g188, g190, h191, h192, h193, h194, rfl⟩ := k178
              refine ⟨_, _, rfl, ?_⟩
              refine T_nf2 (st' := []) (l' := [(7, y179), (8, y181), (9, y183), (10, y185), (11, y187), (12, y189), (100, 1)]) (a' := []) [7, 8, 9, 10, 11, 12] [] rfl ⟨rfl, rfl, rfl, rfl, rfl, rfl, rfl, rfl, rfl, rfl, rfl, rfl, rfl, rfl, trivial⟩ trivial rfl rfl (by decide) (by decide) ?_
              by_cases hf195 : y185 = 0
              · skip
                subst hf195
                replace h191 : LxP y179 y181 y183 (m.1 6) (0 : Int) := h191
                have hLx := h191
                replace h192 : (m.1 10) = 0 := h192 rfl
                replace h193 : (m.1 8) ≤ y181 := h193
                replace h194 : (m.1 8) + (m.1 9) ≤ y181 := h194 rfl
                have u196 : (m.1 8) + 1 ≤ y181 := by omega
                clear g186
                refine T_gf 90 (.int (i32 0)) rfl rfl rfl rfl rfl rfl ?_
                refine T_if 95 93 rfl rfl rfl ⟨by decide, by decide⟩ (fun _ => ?_) (fun h197 => absurd (show (0 : Int) ≤ 0 by decide) h197)
                refine T_ld 96 (.int (i32 so)) rfl (fun _ => rfl) ?_
                refine T_ld 97 (.int (i32 3)) rfl (fun _ => rfl) ?_
                refine T_icmp 112 100 rfl rfl rfl (r32 (by omega) (by omega)) ⟨by decide, by decide⟩ (fun (h198 : so ≠ 3) => ?_) (fun (h198 : ¬ (so ≠ 3)) => by exfalso; omega)
                refine T_ld 113 (.ref 189) rfl (fun _ => rfl) ?_
                refine T_ld 115 (.int (i32 46)) rfl (fun _ => rfl) ?_
                refine T_call 118 232 [.ref 189, .int (i32 46)] [] rfl (fun _ => rfl) rfl (c_need w (mO m [(7, y179), (8, y181), (9, y183), (10, 0), (11, y187), (12, y189), (100, 1)] []) c N D (by omega) (Ty_mO hT rfl rfl ⟨g180, g182, g184, ⟨(by omega : (0 : Int) ≤ 0), (by omega : (0 : Int) ≤ 8)⟩, g188, g190, ⟨(by omega : (0 : Int) ≤ 1), (by omega : (1 : Int) ≤ 64)⟩, trivial⟩ trivial) 46 ⟨by decide, by decide⟩ (show 1 ≤ (46 : Int) by omega) (show LxP y179 y181 y183 (m.1 6) (0 : Int) by first | exact hLx | (intro h9; exfalso; omega) | (intro h9; have h8 := hLx (by omega); omega))) (fun rr199 k200 => ?_)
                obtain ⟨y201, y203, y205, y207, y209, y211, g202, g204, g206, g208, g210, g212, h213, h214, h215, h216, rfl⟩ := k200
                refine ⟨_, _, rfl, ?_⟩
                refine T_nf2 (st' := []) (l' := [(7, y201), (8, y203), (9, y205), (10, y207), (11, y209), (12, y211), (100, 1)]) (a' := []) [7, 8, 9, 10, 11, 12] [] rfl ⟨rfl, rfl, rfl, rfl, rfl, rfl, rfl, rfl, rfl, rfl, rfl, rfl, rfl, rfl, trivial⟩ trivial rfl rfl (by decide) (by decide) ?_
                by_cases hf217 : y207 = 0
                · skip
                  subst hf217
                  replace h213 : LxP y201 y203 y205 (m.1 6) (0 : Int) := h213
                  have hLx := h213
                  replace h214 : (0 : Int) = 0 ∧ y179 = (46 : Int) := h214 rfl
                  replace h215 : y181 ≤ y203 := h215
                  replace h216 : y181 + y183 ≤ y203 := h216 rfl
                  have u218 : (m.1 8) + 1 ≤ y203 := by omega
                  clear g180 g182 g184 g188 g190 h191 h193 h194 u196 g208 h214 h215 h216
                  refine T_ld 119 (.ref 189) rfl (fun _ => rfl) ?_
                  refine T_ld 120 (.int (i32 0)) rfl (fun _ => rfl) ?_
                  refine T_call 123 253 [.ref 189, .int (i32 0)] [] rfl (fun _ => rfl) rfl (c_takeField w (mO m [(7, y201), (8, y203), (9, y205), (10, 0), (11, y209), (12, y211), (100, 1)] []) c N D (by omega) (Ty_mO hT rfl rfl ⟨g202, g204, g206, ⟨(by omega : (0 : Int) ≤ 0), (by omega : (0 : Int) ≤ 8)⟩, g210, g212, ⟨(by omega : (0 : Int) ≤ 1), (by omega : (1 : Int) ≤ 64)⟩, trivial⟩ trivial) 0 ⟨by decide, by decide⟩ (show LxP y201 y203 y205 (m.1 6) (0 : Int) by first | exact hLx | exact (fun _ => hLx (by omega)) | (intro h9; exfalso; omega)) (show ∀ k, (m.2 31) k + (m.2 32) k ≤ 4000 by assumption) (show 0 ≤ (0 : Int) ∧ (0 : Int) ≤ 11 by omega) (fun _ => trivial)) (fun rr219 k220 => ?_)
                  obtain ⟨m221, tf, hT222, g223, h224, h225, c226, rfl⟩ := k220
                  refine ⟨_, _, rfl, ?_⟩
                  refine T_nf2 (st' := [.int (i32 tf)]) (l' := [(7, (m221.1 7)), (8, (m221.1 8)), (9, (m221.1 9)), (10, (m221.1 10)), (11, (m221.1 11)), (12, (m221.1 12)), (100, 1)]) (a' := []) [7, 8, 9, 10, 11, 12] [] rfl ⟨rfl, rfl, rfl, rfl, rfl, rfl, rfl, rfl, rfl, rfl, rfl, rfl, rfl, rfl, trivial⟩ trivial rfl rfl (by decide) (by decide) ?_
                  obtain ⟨g223a, g223b⟩ := g223
                  have g227 : 0 ≤ m221.1 7 ∧ m221.1 7 ≤ 330 := hT222.1 7
                  have g228 : 0 ≤ m221.1 8 ∧ m221.1 8 ≤ 4000 := hT222.1 8
                  have g229 : 0 ≤ m221.1 9 ∧ m221.1 9 ≤ 4000 := hT222.1 9
                  have g230 : 0 ≤ m221.1 10 ∧ m221.1 10 ≤ 8 := hT222.1 10
                  have g231 : (-1) ≤ m221.1 11 ∧ m221.1 11 ≤ 4000 := hT222.1 11
                  have g232 : (-9223372036854775808) ≤ m221.1 12 ∧ m221.1 12 ≤ 9223372036854775807 := hT222.1 12
                  by_cases hf233 : (m221.1 10) = 0
                  · skip
                    replace h224 : (0 : Int) = 0 := h224 hf233
                    replace h225 : LxP (m221.1 7) (m221.1 8) (m221.1 9) (m.1 6) (m221.1 10) := h225
                    have hLx := h225
                    obtain ⟨c234, c235⟩ := c226 hf233
                    replace c234 : y203 + 1 ≤ (m221.1 8) := c234
                    replace c235 : y201 = 1 := c235
                    clear c226
                    have u236 : (m.1 8) + 1 ≤ (m221.1 8) := by omega
                    clear g202 g204 g206 g210 g212 h213 u218 c234 c235
                    refine T_sto 124 [(3, .int (i32 tf)), (2, .int (i32 0)), (1, .int (i32 so)), (0, .ref 189)] rfl (fun _ => rfl) ?_
                    refine T_gf 128 (.int (i32 (m221.1 10))) rfl rfl rfl rfl rfl rfl ?_
                    refine T_if 133 131 rfl rfl rfl (r32 (by omega) (by omega)) (fun (h237 : (m221.1 10) ≤ 0) => ?_) (fun (h237 : ¬ ((m221.1 10) ≤ 0)) => by exfalso; omega)
                    refine T_ld 134 (.ref 189) rfl (fun _ => rfl) ?_
                    refine T_ld 135 (.ref 189) rfl (fun _ => rfl) ?_
                    refine T_ld 136 (.int (i32 tf)) rfl (fun _ => rfl) ?_
                    refine T_call 139 254 [.ref 189, .int (i32 tf)] [.ref 189] rfl (fun _ => rfl) rfl (c_bitsOfField w (mO m [(7, (m221.1 7)), (8, (m221.1 8)), (9, (m221.1 9)), (10, (m221.1 10)), (11, (m221.1 11)), (12, (m221.1 12)), (100, 1)] []) c N D (by omega) (Ty_mO hT rfl rfl ⟨(hT222.1 7), (hT222.1 8), (hT222.1 9), (hT222.1 10), (hT222.1 11), (hT222.1 12), ⟨(by omega : (0 : Int) ≤ 1), (by omega : (1 : Int) ≤ 64)⟩, trivial⟩ trivial) tf (r32 (by omega) (by omega)) (show 0 ≤ tf ∧ tf ≤ 191 by omega)) (fun rr238 k239 => ?_)
                    obtain ⟨x240, g241, rfl⟩ := k239
                    refine ⟨_, _, rfl, ?_⟩
                    refine T_nf2 (st' := [.int (i32 x240), .ref 189]) (l' := [(7, (m221.1 7)), (8, (m221.1 8)), (9, (m221.1 9)), (10, (m221.1 10)), (11, (m221.1 11)), (12, (m221.1 12)), (100, 1)]) (a' := []) [] [] rfl ⟨rfl, rfl, rfl, rfl, rfl, rfl, rfl, rfl, rfl, rfl, rfl, rfl, rfl, rfl, trivial⟩ trivial rfl rfl (by decide) (by decide) ?_
                    obtain ⟨g241a, g241b⟩ := g241
                    have u242 : (m.1 8) + 1 ≤ (m221.1 8) := by omega
                    refine T_pf (l' := [(7, (m221.1 7)), (8, (m221.1 8)), (9, (m221.1 9)), (10, (m221.1 10)), (11, (m221.1 11)), (12, (m221.1 12)), (100, x240)]) 142 x240 rfl rfl rfl rfl rfl rfl ?_
                    have g243 : 0 ≤ x240 ∧ x240 ≤ 64 := ⟨by omega, by omega⟩
                    refine T_ld 144 (.int (i32 16)) rfl (fun _ => rfl) ?_
                    refine T_ld 145 (.int (i32 tf)) rfl (fun _ => rfl) ?_
                    refine T_iadd 146 rfl rfl ?_
                    refine T_ret rfl (fun _ => rfl) ?_
                    exact ⟨(mO m [(7, (m221.1 7)), (8, (m221.1 8)), (9, (m221.1 9)), (10, (m221.1 10)), (11, (m221.1 11)), (12, (m221.1 12)), (100, x240)] []), 16 + tf, (Ty_mO hT rfl rfl ⟨(hT222.1 7), (hT222.1 8), (hT222.1 9), (hT222.1 10), (hT222.1 11), (hT222.1 12), g243, trivial⟩ trivial), ⟨by omega, by omega⟩, (show (m221.1 10) = 0 → (m.1 10) = 0 by omega), (show LxP (m221.1 7) (m221.1 8) (m221.1 9) (m.1 6) (m221.1 10) by first | (first | exact hLx | exact (fun _ => hLx (by omega)) | (intro h9; exfalso; omega)) | (exfalso; omega)), (fun _ => (show (m.1 8) + 1 ≤ (m221.1 8) by omega)), rfl⟩
                  · skip
                    clear c226
                    clear h224
                    replace h225 : LxP (m221.1 7) (m221.1 8) (m221.1 9) (m.1 6) (m221.1 10) := h225
                    have hLx := h225
                    have hf244 : 1 ≤ (m221.1 10) := by omega
                    clear g202 g204 g206 g210 g212 h213 u218
                    refine Tm_lv (a := [(0, .ref 189), (1, .int (i32 so)), (2, .int (i32 0))]) rfl rfl ⟨rfl, rfl, rfl, trivial⟩ ?_
                    exact J123_19 so 0 tf (mO m [(7, (m221.1 7)), (8, (m221.1 8)), (9, (m221.1 9)), (10, (m221.1 10)), (11, (m221.1 11)), (12, (m221.1 12)), (100, 1)] []) (r32 (by omega) (by omega)) ⟨by decide, by decide⟩ (r32 (by omega) (by omega)) (Ty_mO hT rfl rfl ⟨(hT222.1 7), (hT222.1 8), (hT222.1 9), (hT222.1 10), (hT222.1 11), (hT222.1 12), ⟨(by omega : (0 : Int) ≤ 1), (by omega : (1 : Int) ≤ 64)⟩, trivial⟩ trivial) (show 2 ≤ so by omega) (show so ≤ 2 by omega) (show 0 ≤ tf by omega) (show tf ≤ 191 by omega) (show 1 ≤ (m221.1 10) by omega) (show (m221.1 10) ≤ 8 by omega)
                · skip
                  replace h213 : LxP y201 y203 y205 (m.1 6) y207 := h213
                  have hLx := h213
                  clear h214
                  replace h215 : y181 ≤ y203 := h215
                  clear h216
                  have hf245 : 1 ≤ y207 := by omega
                  clear g180 g182 g184 g188 g190 h191 h193 h194 u196 h215
                  refine Tm_lv (a := [(0, .ref 189), (1, .int (i32 so)), (2, .int (i32 0))]) rfl rfl ⟨rfl, rfl, rfl, trivial⟩ ?_
                  exact J118_35 so 0 (mO m [(7, y201), (8, y203), (9, y205), (10, y207), (11, y209), (12, y211), (100, 1)] []) (r32 (by omega) (by omega)) ⟨by decide, by decide⟩ (Ty_mO hT rfl rfl ⟨g202, g204, g206, g208, g210, g212, ⟨(by omega : (0 : Int) ≤ 1), (by omega : (1 : Int) ≤ 64)⟩, trivial⟩ trivial) (show 2 ≤ so by omega) (show so ≤ 2 by omega) (show 1 ≤ y207 by omega) (show y207 ≤ 8 by omega)
              · skip
                replace h191 : LxP y179 y181 y183 (m.1 6) y185 := h191
                have hLx := h191
                clear h192
                replace h193 : (m.1 8) ≤ y181 := h193
                clear h194
                have hf246 : 1 ≤ y185 := by omega
                refine Tm_lv (a := [(0, .ref 189), (1, .int (i32 so)), (2, .int (i32 0))]) rfl rfl ⟨rfl, rfl, rfl, trivial⟩ ?_
                exact J86_62 so 0 (mO m [(7, y179), (8, y181), (9, y183), (10, y185), (11, y187), (12, y189), (100, 1)] []) (r32 (by omega) (by omega)) ⟨by decide, by decide⟩ (Ty_mO hT rfl rfl ⟨g180, g182, g184, g186, g188, g190, ⟨(by omega : (0 : Int) ≤ 1), (by omega : (1 : Int) ≤ 64)⟩, trivial⟩ trivial) (show (-2147483648) ≤ so by omega) (show so ≤ 2147483647 by omega) (show 1 ≤ y185 by omega) (show y185 ≤ 8 by omega)
        · skip
          refine T_ld 44 (.ref 189) rfl (fun _ => rfl) ?_
          refine T_call 47 237 [.ref 189] [] rfl (fun _ => rfl) rfl (c_whichHere w (mO m [(7, (m.1 7)), (8, (m.1 8)), (9, (m.1 9)), (10, (m.1 10)), (11, (m.1 11)), (12, (m.1 12)), (100, 1)] []) c N D (by omega) (Ty_mO hT rfl rfl ⟨f7, f8, f9, f10, f11, f12, ⟨(by omega : (0 : Int) ≤ 1), (by omega : (1 : Int) ≤ 64)⟩, trivial⟩ trivial) (show 1 ≤ (m.1 9) ∧ (m.1 8) + (m.1 9) ≤ (m.1 6) by first | omega | (have h8 := hLx (by omega); omega)) (show ∀ k, (m.2 14) k + (m.2 15) k ≤ 4000 by first | exact hNM | exact p1) (show ∀ g k, isGH (m.2 4) (m.1 8) (m.1 9) g → g < 0 → isFH (m.2 4) (m.2 14) (m.2 15) (m.1 8) (m.1 9) (m.1 13) k → 0 ≤ k by exact old_ok hSo (by omega))) (fun rr247 k248 => ?_)
          obtain ⟨wi, g249, h250, rfl⟩ := k248
          refine ⟨_, _, rfl, ?_⟩
          refine T_nf2 (st' := [.int (i32 wi)]) (l' := [(7, (m.1 7)), (8, (m.1 8)), (9, (m.1 9)), (10, (m.1 10)), (11, (m.1 11)), (12, (m.1 12)), (100, 1)]) (a' := []) [] [] rfl ⟨rfl, rfl, rfl, rfl, rfl, rfl, rfl, rfl, rfl, rfl, rfl, rfl, rfl, rfl, trivial⟩ trivial rfl rfl (by decide) (by decide) ?_
          obtain ⟨g249a, g249b⟩ := g249
          replace h250 : ∃ g k, isGH (m.2 4) (m.1 8) (m.1 9) g ∧ (g < 0 → isFH (m.2 4) (m.2 14) (m.2 15) (m.1 8) (m.1 9) (m.1 13) k) ∧ wi = whichV (m.2 17) g k := h250
          have hWi := h250
          have u251 : (m.1 8) ≤ (m.1 8) := by omega
          have hw3 : so = 3 → 0 ≤ wi ∧ wi < (m.1 21) := fun h => old_rg hSo hWi h (by omega) (by omega) (PNl_3 pPN) (fun _ => pPN.2.1)
          have hw2 : so = 2 → 0 ≤ wi ∧ wi < (m.1 20) := fun h => old_rg hSo hWi h (by omega) (by omega) (PNl_2 pPN) (fun h => by omega)
          refine T_goto 51 rfl (fun _ => rfl) ?_
          refine T_sto 52 [(2, .int (i32 wi)), (1, .int (i32 so)), (0, .ref 189)] rfl (fun _ => rfl) ?_
          refine T_ld 53 (.int (i32 so)) rfl (fun _ => rfl) ?_
          refine T_ld 54 (.int (i32 3)) rfl (fun _ => rfl) ?_
          refine T_icmp 62 57 rfl rfl rfl (r32 (by omega) (by omega)) ⟨by decide, by decide⟩ (fun (h252 : so = 3) => by exfalso; omega) (fun (h252 : ¬ (so = 3)) => ?_)
          refine T_ld 58 (.int (i32 so)) rfl (fun _ => rfl) ?_
          refine T_ld 59 (.int (i32 2)) rfl (fun _ => rfl) ?_
          refine T_icmp 72 62 rfl rfl rfl (r32 (by omega) (by omega)) ⟨by decide, by decide⟩ (fun (h253 : so ≠ 2) => by exfalso; omega) (fun (h253 : ¬ (so ≠ 2)) => ?_)
          refine T_ld 63 (.int (i32 so)) rfl (fun _ => rfl) ?_
          refine T_ld 64 (.int (i32 3)) rfl (fun _ => rfl) ?_
          refine T_icmp 82 67 rfl rfl rfl (r32 (by omega) (by omega)) ⟨by decide, by decide⟩ (fun (h254 : so ≠ 3) => ?_) (fun (h254 : ¬ (so ≠ 3)) => by exfalso; omega)
          refine T_ld 83 (.ref 189) rfl (fun _ => rfl) ?_
          refine T_call 86 212 [.ref 189] [] rfl (fun _ => rfl) rfl (c_next w (mO m [(7, (m.1 7)), (8, (m.1 8)), (9, (m.1 9)), (10, (m.1 10)), (11, (m.1 11)), (12, (m.1 12)), (100, 1)] []) c N D (by omega) (Ty_mO hT rfl rfl ⟨f7, f8, f9, f10, f11, f12, ⟨(by omega : (0 : Int) ≤ 1), (by omega : (1 : Int) ≤ 64)⟩, trivial⟩ trivial) (show (m.1 10) = 0 → (m.1 8) + (m.1 9) ≤ (m.1 6) by first | omega | (intro h9; have h8 := hLx h9; omega))) (fun rr255 k256 => ?_)
          obtain ⟨y257, y259, y261, y263, y265, y267, g258, g260, g262, g264, g266, g268, h269, h270, h271, h272, rfl⟩ := k256
          refine ⟨_, _, rfl, ?_⟩
          refine T_nf2 (st' := []) (l' := [(7, y257), (8, y259), (9, y261), (10, y263), (11, y265), (12, y267), (100, 1)]) (a' := []) [7, 8, 9, 10, 11, 12] [] rfl ⟨rfl, rfl, rfl, rfl, rfl, rfl, rfl, rfl, rfl, rfl, rfl, rfl, rfl, rfl, trivial⟩ trivial rfl rfl (by decide) (by decide) ?_
          by_cases hf273 : y263 = 0
          · skip
            subst hf273
            replace h269 : LxP y257 y259 y261 (m.1 6) (0 : Int) := h269
            have hLx := h269
            replace h270 : (m.1 10) = 0 := h270 rfl
            replace h271 : (m.1 8) ≤ y259 := h271
            replace h272 : (m.1 8) + (m.1 9) ≤ y259 := h272 rfl
            have u274 : (m.1 8) + 1 ≤ y259 := by omega
            clear g264
            refine T_gf 90 (.int (i32 0)) rfl rfl rfl rfl rfl rfl ?_
            refine T_if 95 93 rfl rfl rfl ⟨by decide, by decide⟩ (fun _ => ?_) (fun h275 => absurd (show (0 : Int) ≤ 0 by decide) h275)
            refine T_ld 96 (.int (i32 so)) rfl (fun _ => rfl) ?_
            refine T_ld 97 (.int (i32 3)) rfl (fun _ => rfl) ?_
            refine T_icmp 112 100 rfl rfl rfl (r32 (by omega) (by omega)) ⟨by decide, by decide⟩ (fun (h276 : so ≠ 3) => ?_) (fun (h276 : ¬ (so ≠ 3)) => by exfalso; omega)
            refine T_ld 113 (.ref 189) rfl (fun _ => rfl) ?_
            refine T_ld 115 (.int (i32 46)) rfl (fun _ => rfl) ?_
            refine T_call 118 232 [.ref 189, .int (i32 46)] [] rfl (fun _ => rfl) rfl (c_need w (mO m [(7, y257), (8, y259), (9, y261), (10, 0), (11, y265), (12, y267), (100, 1)] []) c N D (by omega) (Ty_mO hT rfl rfl ⟨g258, g260, g262, ⟨(by omega : (0 : Int) ≤ 0), (by omega : (0 : Int) ≤ 8)⟩, g266, g268, ⟨(by omega : (0 : Int) ≤ 1), (by omega : (1 : Int) ≤ 64)⟩, trivial⟩ trivial) 46 ⟨by decide, by decide⟩ (show 1 ≤ (46 : Int) by omega) (show LxP y257 y259 y261 (m.1 6) (0 : Int) by first | exact hLx | (intro h9; exfalso; omega) | (intro h9; have h8 := hLx (by omega); omega))) (fun rr277 k278 => ?_)
            obtain ⟨y279, y281, y283, y285, y287, y289, g280, g282, g284, g286, g288, g290, h291, h292, h293, h294, rfl⟩ := k278
            refine ⟨_, _, rfl, ?_⟩
            refine T_nf2 (st' := []) (l' := [(7, y279), (8, y281), (9, y283), (10, y285), (11, y287), (12, y289), (100, 1)]) (a' := []) [7, 8, 9, 10, 11, 12] [] rfl ⟨rfl, rfl, rfl, rfl, rfl, rfl, rfl, rfl, rfl, rfl, rfl, rfl, rfl, rfl, trivial⟩ trivial rfl rfl (by decide) (by decide) ?_
            by_cases hf295 : y285 = 0
            · skip
              subst hf295
              replace h291 : LxP y279 y281 y283 (m.1 6) (0 : Int) := h291
              have hLx := h291
              replace h292 : (0 : Int) = 0 ∧ y257 = (46 : Int) := h292 rfl
              replace h293 : y259 ≤ y281 := h293
              replace h294 : y259 + y261 ≤ y281 := h294 rfl
              have u296 : (m.1 8) + 1 ≤ y281 := by omega
              clear g258 g260 g262 g266 g268 h269 h271 h272 u274 g286 h292 h293 h294
              refine T_ld 119 (.ref 189) rfl (fun _ => rfl) ?_
              refine T_ld 120 (.int (i32 wi)) rfl (fun _ => rfl) ?_
              refine T_call 123 253 [.ref 189, .int (i32 wi)] [] rfl (fun _ => rfl) rfl (c_takeField w (mO m [(7, y279), (8, y281), (9, y283), (10, 0), (11, y287), (12, y289), (100, 1)] []) c N D (by omega) (Ty_mO hT rfl rfl ⟨g280, g282, g284, ⟨(by omega : (0 : Int) ≤ 0), (by omega : (0 : Int) ≤ 8)⟩, g288, g290, ⟨(by omega : (0 : Int) ≤ 1), (by omega : (1 : Int) ≤ 64)⟩, trivial⟩ trivial) wi (r32 (by omega) (by omega)) (show LxP y279 y281 y283 (m.1 6) (0 : Int) by first | exact hLx | exact (fun _ => hLx (by omega)) | (intro h9; exfalso; omega)) (show ∀ k, (m.2 31) k + (m.2 32) k ≤ 4000 by assumption) (show 0 ≤ wi ∧ wi ≤ 11 by omega) (fun _ => trivial)) (fun rr297 k298 => ?_)
              obtain ⟨m299, tf, hT300, g301, h302, h303, c304, rfl⟩ := k298
              refine ⟨_, _, rfl, ?_⟩
              refine T_nf2 (st' := [.int (i32 tf)]) (l' := [(7, (m299.1 7)), (8, (m299.1 8)), (9, (m299.1 9)), (10, (m299.1 10)), (11, (m299.1 11)), (12, (m299.1 12)), (100, 1)]) (a' := []) [7, 8, 9, 10, 11, 12] [] rfl ⟨rfl, rfl, rfl, rfl, rfl, rfl, rfl, rfl, rfl, rfl, rfl, rfl, rfl, rfl, trivial⟩ trivial rfl rfl (by decide) (by decide) ?_
              obtain ⟨g301a, g301b⟩ := g301
              have g305 : 0 ≤ m299.1 7 ∧ m299.1 7 ≤ 330 := hT300.1 7
              have g306 : 0 ≤ m299.1 8 ∧ m299.1 8 ≤ 4000 := hT300.1 8
              have g307 : 0 ≤ m299.1 9 ∧ m299.1 9 ≤ 4000 := hT300.1 9
              have g308 : 0 ≤ m299.1 10 ∧ m299.1 10 ≤ 8 := hT300.1 10
              have g309 : (-1) ≤ m299.1 11 ∧ m299.1 11 ≤ 4000 := hT300.1 11
              have g310 : (-9223372036854775808) ≤ m299.1 12 ∧ m299.1 12 ≤ 9223372036854775807 := hT300.1 12
              by_cases hf311 : (m299.1 10) = 0
              · skip
                replace h302 : (0 : Int) = 0 := h302 hf311
                replace h303 : LxP (m299.1 7) (m299.1 8) (m299.1 9) (m.1 6) (m299.1 10) := h303
                have hLx := h303
                obtain ⟨c312, c313⟩ := c304 hf311
                replace c312 : y281 + 1 ≤ (m299.1 8) := c312
                replace c313 : y279 = 1 := c313
                clear c304
                have u314 : (m.1 8) + 1 ≤ (m299.1 8) := by omega
                clear g280 g282 g284 g288 g290 h291 u296 c312 c313
                refine T_sto 124 [(3, .int (i32 tf)), (2, .int (i32 wi)), (1, .int (i32 so)), (0, .ref 189)] rfl (fun _ => rfl) ?_
                refine T_gf 128 (.int (i32 (m299.1 10))) rfl rfl rfl rfl rfl rfl ?_
                refine T_if 133 131 rfl rfl rfl (r32 (by omega) (by omega)) (fun (h315 : (m299.1 10) ≤ 0) => ?_) (fun (h315 : ¬ ((m299.1 10) ≤ 0)) => by exfalso; omega)
                refine T_ld 134 (.ref 189) rfl (fun _ => rfl) ?_
                refine T_ld 135 (.ref 189) rfl (fun _ => rfl) ?_
                refine T_ld 136 (.int (i32 tf)) rfl (fun _ => rfl) ?_
                refine T_call 139 254 [.ref 189, .int (i32 tf)] [.ref 189] rfl (fun _ => rfl) rfl (c_bitsOfField w (mO m [(7, (m299.1 7)), (8, (m299.1 8)), (9, (m299.1 9)), (10, (m299.1 10)), (11, (m299.1 11)), (12, (m299.1 12)), (100, 1)] []) c N D (by omega) (Ty_mO hT rfl rfl ⟨(hT300.1 7), (hT300.1 8), (hT300.1 9), (hT300.1 10), (hT300.1 11), (hT300.1 12), ⟨(by omega : (0 : Int) ≤ 1), (by omega : (1 : Int) ≤ 64)⟩, trivial⟩ trivial) tf (r32 (by omega) (by omega)) (show 0 ≤ tf ∧ tf ≤ 191 by omega)) (fun rr316 k317 => ?_)
                obtain ⟨x318, g319, rfl⟩ := k317
                refine ⟨_, _, rfl, ?_⟩
                refine T_nf2 (st' := [.int (i32 x318), .ref 189]) (l' := [(7, (m299.1 7)), (8, (m299.1 8)), (9, (m299.1 9)), (10, (m299.1 10)), (11, (m299.1 11)), (12, (m299.1 12)), (100, 1)]) (a' := []) [] [] rfl ⟨rfl, rfl, rfl, rfl, rfl, rfl, rfl, rfl, rfl, rfl, rfl, rfl, rfl, rfl, trivial⟩ trivial rfl rfl (by decide) (by decide) ?_
                obtain ⟨g319a, g319b⟩ := g319
                have u320 : (m.1 8) + 1 ≤ (m299.1 8) := by omega
                refine T_pf (l' := [(7, (m299.1 7)), (8, (m299.1 8)), (9, (m299.1 9)), (10, (m299.1 10)), (11, (m299.1 11)), (12, (m299.1 12)), (100, x318)]) 142 x318 rfl rfl rfl rfl rfl rfl ?_
                have g321 : 0 ≤ x318 ∧ x318 ≤ 64 := ⟨by omega, by omega⟩
                refine T_ld 144 (.int (i32 16)) rfl (fun _ => rfl) ?_
                refine T_ld 145 (.int (i32 tf)) rfl (fun _ => rfl) ?_
                refine T_iadd 146 rfl rfl ?_
                refine T_ret rfl (fun _ => rfl) ?_
                exact ⟨(mO m [(7, (m299.1 7)), (8, (m299.1 8)), (9, (m299.1 9)), (10, (m299.1 10)), (11, (m299.1 11)), (12, (m299.1 12)), (100, x318)] []), 16 + tf, (Ty_mO hT rfl rfl ⟨(hT300.1 7), (hT300.1 8), (hT300.1 9), (hT300.1 10), (hT300.1 11), (hT300.1 12), g321, trivial⟩ trivial), ⟨by omega, by omega⟩, (show (m299.1 10) = 0 → (m.1 10) = 0 by omega), (show LxP (m299.1 7) (m299.1 8) (m299.1 9) (m.1 6) (m299.1 10) by first | (first | exact hLx | exact (fun _ => hLx (by omega)) | (intro h9; exfalso; omega)) | (exfalso; omega)), (fun _ => (show (m.1 8) + 1 ≤ (m299.1 8) by omega)), rfl⟩
              · skip
                clear c304
                clear h302
                replace h303 : LxP (m299.1 7) (m299.1 8) (m299.1 9) (m.1 6) (m299.1 10) := h303
                have hLx := h303
                have hf322 : 1 ≤ (m299.1 10) := by omega
                clear g280 g282 g284 g288 g290 h291 u296
                refine Tm_lv (a := [(0, .ref 189), (1, .int (i32 so)), (2, .int (i32 wi))]) rfl rfl ⟨rfl, rfl, rfl, trivial⟩ ?_
                exact J123_19 so wi tf (mO m [(7, (m299.1 7)), (8, (m299.1 8)), (9, (m299.1 9)), (10, (m299.1 10)), (11, (m299.1 11)), (12, (m299.1 12)), (100, 1)] []) (r32 (by omega) (by omega)) (r32 (by omega) (by omega)) (r32 (by omega) (by omega)) (Ty_mO hT rfl rfl ⟨(hT300.1 7), (hT300.1 8), (hT300.1 9), (hT300.1 10), (hT300.1 11), (hT300.1 12), ⟨(by omega : (0 : Int) ≤ 1), (by omega : (1 : Int) ≤ 64)⟩, trivial⟩ trivial) (show 2 ≤ so by omega) (show so ≤ 2 by omega) (show 0 ≤ tf by omega) (show tf ≤ 191 by omega) (show 1 ≤ (m299.1 10) by omega) (show (m299.1 10) ≤ 8 by omega)
            · skip
              replace h291 : LxP y279 y281 y283 (m.1 6) y285 := h291
              have hLx := h291
              clear h292
              replace h293 : y259 ≤ y281 := h293
              clear h294
              have hf323 : 1 ≤ y285 := by omega
              clear g258 g260 g262 g266 g268 h269 h271 h272 u274 h293
              refine Tm_lv (a := [(0, .ref 189), (1, .int (i32 so)), (2, .int (i32 wi))]) rfl rfl ⟨rfl, rfl, rfl, trivial⟩ ?_
              exact J118_35 so wi (mO m [(7, y279), (8, y281), (9, y283), (10, y285), (11, y287), (12, y289), (100, 1)] []) (r32 (by omega) (by omega)) (r32 (by omega) (by omega)) (Ty_mO hT rfl rfl ⟨g280, g282, g284, g286, g288, g290, ⟨(by omega : (0 : Int) ≤ 1), (by omega : (1 : Int) ≤ 64)⟩, trivial⟩ trivial) (show 2 ≤ so by omega) (show so ≤ 2 by omega) (show 1 ≤ y285 by omega) (show y285 ≤ 8 by omega)
          · skip
            replace h269 : LxP y257 y259 y261 (m.1 6) y263 := h269
            have hLx := h269
            clear h270
            replace h271 : (m.1 8) ≤ y259 := h271
            clear h272
            have hf324 : 1 ≤ y263 := by omega
            refine Tm_lv (a := [(0, .ref 189), (1, .int (i32 so)), (2, .int (i32 wi))]) rfl rfl ⟨rfl, rfl, rfl, trivial⟩ ?_
            exact J86_62 so wi (mO m [(7, y257), (8, y259), (9, y261), (10, y263), (11, y265), (12, y267), (100, 1)] []) (r32 (by omega) (by omega)) (r32 (by omega) (by omega)) (Ty_mO hT rfl rfl ⟨g258, g260, g262, g264, g266, g268, ⟨(by omega : (0 : Int) ≤ 1), (by omega : (1 : Int) ≤ 64)⟩, trivial⟩ trivial) (show (-2147483648) ≤ so by omega) (show so ≤ 2147483647 by omega) (show 1 ≤ y263 by omega) (show y263 ≤ 8 by omega)
    · skip
      refine T_ld 23 (.ref 189) rfl (fun _ => rfl) ?_
      refine T_call 26 226 [.ref 189] [] rfl (fun _ => rfl) rfl (c_bad w (mO m [(7, (m.1 7)), (8, (m.1 8)), (9, (m.1 9)), (10, (m.1 10)), (11, (m.1 11)), (12, (m.1 12)), (100, 1)] []) c N D (by omega) (Ty_mO hT rfl rfl ⟨f7, f8, f9, f10, f11, f12, ⟨(by omega : (0 : Int) ≤ 1), (by omega : (1 : Int) ≤ 64)⟩, trivial⟩ trivial) ) (fun rr325 k326 => ?_)
      obtain ⟨y327, y329, g328, g330, h331, rfl⟩ := k326
      refine ⟨_, _, rfl, ?_⟩
      refine T_nf2 (st' := []) (l' := [(7, (m.1 7)), (8, (m.1 8)), (9, (m.1 9)), (10, y327), (11, y329), (12, (m.1 12)), (100, 1)]) (a' := []) [10, 11] [] rfl ⟨rfl, rfl, rfl, rfl, rfl, rfl, rfl, rfl, rfl, rfl, rfl, rfl, rfl, rfl, rfl, rfl, rfl, trivial⟩ trivial rfl rfl (by decide) (by decide) ?_
      replace h331 : (0 < (m.1 10) → y327 = (m.1 10) ∧ y329 = (m.1 11)) ∧ ((m.1 10) ≤ 0 → y327 = 1 ∧ y329 = (m.1 8)) := h331
      have hf332 : 1 ≤ y327 := by omega
      refine T_ld 27 (.int (i32 0)) rfl (fun _ => rfl) ?_
      refine T_ret rfl (fun _ => rfl) ?_
      exact ⟨(mO m [(7, (m.1 7)), (8, (m.1 8)), (9, (m.1 9)), (10, y327), (11, y329), (12, (m.1 12)), (100, 1)] []), 0, (Ty_mO hT rfl rfl ⟨f7, f8, f9, g328, g330, f12, ⟨(by omega : (0 : Int) ≤ 1), (by omega : (1 : Int) ≤ 64)⟩, trivial⟩ trivial), ⟨by omega, by omega⟩, (show y327 = 0 → (m.1 10) = 0 by omega), (show LxP (m.1 7) (m.1 8) (m.1 9) (m.1 6) y327 by first | (first | exact hLx | exact (fun _ => hLx (by omega)) | (intro h9; exfalso; omega)) | (exfalso; omega)), (fun (h : y327 = 0) => absurd h (by omega)), rfl⟩
  · skip
    clear hC
    refine T_ld 1 (.ref 189) rfl (fun _ => rfl) ?_
    refine T_ld 2 (.int (i32 1)) rfl (fun _ => rfl) ?_
    refine T_pf (l' := [(7, (m.1 7)), (8, (m.1 8)), (9, (m.1 9)), (10, (m.1 10)), (11, (m.1 11)), (12, (m.1 12)), (100, 1)]) 5 1 rfl rfl rfl rfl rfl rfl ?_
    refine T_gf 9 (.int (i32 (m.1 10))) rfl rfl rfl rfl rfl rfl ?_
    refine T_if 14 12 rfl rfl rfl (r32 (by omega) (by omega)) (fun (h333 : (m.1 10) ≤ 0) => by exfalso; omega) (fun (h333 : ¬ ((m.1 10) ≤ 0)) => ?_)
    refine T_ld 13 (.int (i32 0)) rfl (fun _ => rfl) ?_
    refine T_ret rfl (fun _ => rfl) ?_
    exact ⟨(mO m [(7, (m.1 7)), (8, (m.1 8)), (9, (m.1 9)), (10, (m.1 10)), (11, (m.1 11)), (12, (m.1 12)), (100, 1)] []), 0, (Ty_mO hT rfl rfl ⟨f7, f8, f9, f10, f11, f12, ⟨(by omega : (0 : Int) ≤ 1), (by omega : (1 : Int) ≤ 64)⟩, trivial⟩ trivial), ⟨by omega, by omega⟩, (show (m.1 10) = 0 → (m.1 10) = 0 by omega), (show LxP (m.1 7) (m.1 8) (m.1 9) (m.1 6) (m.1 10) by first | (first | exact hLx | exact (fun _ => hLx (by omega)) | (intro h9; exfalso; omega)) | (exfalso; omega)), (fun (h : (m.1 10) = 0) => absurd h (by omega)), rfl⟩
def Q_isStatement (m : mR) (c : Nat → Option am_C) (N : Nat) : ag_Re af_T → Prop := fun R => ∃ (r : Int), (0 ≤ r ∧ r ≤ 1) ∧ (r = 1 → (m.1 7) ≠ 0) ∧ R = (.inl (some (.int (i32 r))), (mhp (mO m [] []) c, N), 0, 0)
set_option maxHeartbeats 8000000 in
theorem c_isStatement (w : wX) (m : mR) (c : Nat → Option am_C) (N D : Nat) (hD : 1 ≤ D) (hT : Ty m) : TC w D 269 [.ref 189] (mhp m c, N) (Q_isStatement m c N) := by
  obtain ⟨D, rfl⟩ : ∃ k, D = k + 1 := ⟨D - 1, by omega⟩
  have f7 : 0 ≤ m.1 7 ∧ m.1 7 ≤ 330 := hT.1 7
  refine Tc_of rfl ?_
  show TT w D pm_269 (0, [(0, .ref 189)], [], (mhp m c, N), 0, 0) (Q_isStatement m c N)
  rw [show (mhp m c, N) = (mhp (mO m [] []) c, N) from rfl]
  refine T_gf 4 (.int (i32 (m.1 7))) rfl rfl rfl rfl rfl rfl ?_
  refine T_ld 5 (.int (i32 1)) rfl (fun _ => rfl) ?_
  refine T_icmp 58 8 rfl rfl rfl (r32 (by omega) (by omega)) ⟨by decide, by decide⟩ (fun (h1 : (m.1 7) = 1) => ?_) (fun (h1 : ¬ ((m.1 7) = 1)) => ?_)
  · skip
    refine T_ld 59 (.int (i32 1)) rfl (fun _ => rfl) ?_
    refine T_goto 63 rfl (fun _ => rfl) ?_
    refine T_ret rfl (fun _ => rfl) ?_
    exact ⟨1, ⟨by omega, by omega⟩, (show (1 : Int) = 1 → (m.1 7) ≠ 0 by omega), rfl⟩
  · skip
    refine T_gf 12 (.int (i32 (m.1 7))) rfl rfl rfl rfl rfl rfl ?_
    refine T_ld 15 (.int (i32 327)) rfl (fun _ => rfl) ?_
    refine T_icmp 58 18 rfl rfl rfl (r32 (by omega) (by omega)) ⟨by decide, by decide⟩ (fun (h2 : (m.1 7) = 327) => ?_) (fun (h2 : ¬ ((m.1 7) = 327)) => ?_)
    · skip
      refine T_ld 59 (.int (i32 1)) rfl (fun _ => rfl) ?_
      refine T_goto 63 rfl (fun _ => rfl) ?_
      refine T_ret rfl (fun _ => rfl) ?_
      exact ⟨1, ⟨by omega, by omega⟩, (show (1 : Int) = 1 → (m.1 7) ≠ 0 by omega), rfl⟩
    · skip
      refine T_gf 22 (.int (i32 (m.1 7))) rfl rfl rfl rfl rfl rfl ?_
      refine T_ld 25 (.int (i32 328)) rfl (fun _ => rfl) ?_
      refine T_icmp 58 28 rfl rfl rfl (r32 (by omega) (by omega)) ⟨by decide, by decide⟩ (fun (h3 : (m.1 7) = 328) => ?_) (fun (h3 : ¬ ((m.1 7) = 328)) => ?_)
      · skip
        refine T_ld 59 (.int (i32 1)) rfl (fun _ => rfl) ?_
        refine T_goto 63 rfl (fun _ => rfl) ?_
        refine T_ret rfl (fun _ => rfl) ?_
        exact ⟨1, ⟨by omega, by omega⟩, (show (1 : Int) = 1 → (m.1 7) ≠ 0 by omega), rfl⟩
      · skip
        refine T_gf 32 (.int (i32 (m.1 7))) rfl rfl rfl rfl rfl rfl ?_
        refine T_ld 35 (.int (i32 324)) rfl (fun _ => rfl) ?_
        refine T_icmp 58 38 rfl rfl rfl (r32 (by omega) (by omega)) ⟨by decide, by decide⟩ (fun (h4 : (m.1 7) = 324) => ?_) (fun (h4 : ¬ ((m.1 7) = 324)) => ?_)
        · skip
          refine T_ld 59 (.int (i32 1)) rfl (fun _ => rfl) ?_
          refine T_goto 63 rfl (fun _ => rfl) ?_
          refine T_ret rfl (fun _ => rfl) ?_
          exact ⟨1, ⟨by omega, by omega⟩, (show (1 : Int) = 1 → (m.1 7) ≠ 0 by omega), rfl⟩
        · skip
          refine T_gf 42 (.int (i32 (m.1 7))) rfl rfl rfl rfl rfl rfl ?_
          refine T_ld 45 (.int (i32 325)) rfl (fun _ => rfl) ?_
          refine T_icmp 58 48 rfl rfl rfl (r32 (by omega) (by omega)) ⟨by decide, by decide⟩ (fun (h5 : (m.1 7) = 325) => ?_) (fun (h5 : ¬ ((m.1 7) = 325)) => ?_)
          · skip
            refine T_ld 59 (.int (i32 1)) rfl (fun _ => rfl) ?_
            refine T_goto 63 rfl (fun _ => rfl) ?_
            refine T_ret rfl (fun _ => rfl) ?_
            exact ⟨1, ⟨by omega, by omega⟩, (show (1 : Int) = 1 → (m.1 7) ≠ 0 by omega), rfl⟩
          · skip
            refine T_gf 52 (.int (i32 (m.1 7))) rfl rfl rfl rfl rfl rfl ?_
            refine T_ld 55 (.int (i32 326)) rfl (fun _ => rfl) ?_
            refine T_icmp 62 58 rfl rfl rfl (r32 (by omega) (by omega)) ⟨by decide, by decide⟩ (fun (h6 : (m.1 7) ≠ 326) => ?_) (fun (h6 : ¬ ((m.1 7) ≠ 326)) => ?_)
            · skip
              refine T_ld 63 (.int (i32 0)) rfl (fun _ => rfl) ?_
              refine T_ret rfl (fun _ => rfl) ?_
              exact ⟨0, ⟨by omega, by omega⟩, (show (0 : Int) = 1 → (m.1 7) ≠ 0 by omega), rfl⟩
            · skip
              refine T_ld 59 (.int (i32 1)) rfl (fun _ => rfl) ?_
              refine T_goto 63 rfl (fun _ => rfl) ?_
              refine T_ret rfl (fun _ => rfl) ?_
              exact ⟨1, ⟨by omega, by omega⟩, (show (1 : Int) = 1 → (m.1 7) ≠ 0 by omega), rfl⟩
def Q_takeIndex (m : mR) (c : Nat → Option am_C) (N : Nat) (s : Int) : ag_Re af_T → Prop := fun R => ∃ (M : mR), Ty M ∧ ((M.1 10) = 0 → (m.1 10) = 0) ∧ (LxP (M.1 7) (M.1 8) (M.1 9) (m.1 6) (M.1 10)) ∧ (M.1 10 = 0 → ((m.1 8) + 1 ≤ (M.1 8)) ∧ (CN (M.2 65) (M.2 67) (M.1 28)) ∧ (agr (m.2 65) (M.2 65) (m.1 28)) ∧ ((m.1 28) ≤ (M.1 28)) ∧ (cdr (M.2 65) (M.1 28) ((M.2 105) s) ((M.2 106) s)) ∧ (agr (m.2 105) (M.2 105) s) ∧ (agr (m.2 106) (M.2 106) s)) ∧ R = (.inl (none), (mhp (mO m [(7, (M.1 7)), (8, (M.1 8)), (9, (M.1 9)), (10, (M.1 10)), (11, (M.1 11)), (12, (M.1 12)), (28, (M.1 28)), (69, (M.1 69)), (70, (M.1 70)), (71, (M.1 71)), (72, (M.1 72)), (73, (M.1 73)), (74, (M.1 74)), (75, (M.1 75))] [(65, (M.2 65)), (66, (M.2 66)), (67, (M.2 67)), (68, (M.2 68)), (76, (M.2 76)), (77, (M.2 77)), (78, (M.2 78)), (79, (M.2 79)), (80, (M.2 80)), (81, (M.2 81)), (82, (M.2 82)), (83, (M.2 83)), (84, (M.2 84)), (85, (M.2 85)), (86, (M.2 86)), (87, (M.2 87)), (88, (M.2 88)), (89, (M.2 89)), (90, (M.2 90)), (91, (M.2 91)), (92, (M.2 92)), (105, (M.2 105)), (106, (M.2 106))]) c, N), 0, 0)
set_option maxHeartbeats 8000000 in
theorem c_takeIndex (w : wX) (m : mR) (c : Nat → Option am_C) (N D : Nat) (hD : 11 ≤ D) (hT : Ty m) (s : Int) (qs : R32 s) (hLx0 : LxP (m.1 7) (m.1 8) (m.1 9) (m.1 6) (m.1 10)) (hNM0 : ∀ k, (m.2 14) k + (m.2 15) k ≤ 4000) (hFA0 : ∀ k, (m.2 31) k + (m.2 32) k ≤ 4000) (hPA0 : ∀ k, (m.2 47) k + (m.2 48) k ≤ 4000) (p4 : 0 ≤ s ∧ s ≤ 239) (hC : m.1 10 = 0 → (PN (m.1 13) (m.1 19) (m.1 20) (m.1 21) (m.1 22) (m.1 23) (m.1 25) (m.1 26) (m.2 16) (m.2 17)) ∧ (CN (m.2 65) (m.2 67) (m.1 28))) : TC w D 274 [.ref 189, .int (i32 s)] (mhp m c, N) (Q_takeIndex m c N s) := by
  obtain ⟨D, rfl⟩ : ∃ k, D = k + 1 := ⟨D - 1, by omega⟩
  obtain ⟨qsa, qsb⟩ := id qs
  have hLx := hLx0
  have hNM := hNM0
  have hFA := hFA0
  have hPA := hPA0
  have f7 : 0 ≤ m.1 7 ∧ m.1 7 ≤ 330 := hT.1 7
  have f8 : 0 ≤ m.1 8 ∧ m.1 8 ≤ 4000 := hT.1 8
  have f9 : 0 ≤ m.1 9 ∧ m.1 9 ≤ 4000 := hT.1 9
  have f10 : 0 ≤ m.1 10 ∧ m.1 10 ≤ 8 := hT.1 10
  have f11 : (-1) ≤ m.1 11 ∧ m.1 11 ≤ 4000 := hT.1 11
  have f12 : (-9223372036854775808) ≤ m.1 12 ∧ m.1 12 ≤ 9223372036854775807 := hT.1 12
  have f28 : 0 ≤ m.1 28 ∧ m.1 28 ≤ 800 := hT.1 28
  have f69 : 0 ≤ m.1 69 ∧ m.1 69 ≤ 1024 := hT.1 69
  have f70 : 0 ≤ m.1 70 ∧ m.1 70 ≤ 4000 := hT.1 70
  have f71 : 0 ≤ m.1 71 ∧ m.1 71 ≤ 1 := hT.1 71
  have f72 : (-9223372036854775808) ≤ m.1 72 ∧ m.1 72 ≤ 9223372036854775807 := hT.1 72
  have f73 : 0 ≤ m.1 73 ∧ m.1 73 ≤ 60 := hT.1 73
  have f74 : 0 ≤ m.1 74 ∧ m.1 74 ≤ 24 := hT.1 74
  have f75 : 0 ≤ m.1 75 ∧ m.1 75 ≤ 3 := hT.1 75
  have f25 : 0 ≤ m.1 25 ∧ m.1 25 ≤ 16 := hT.1 25
  have f22 : 0 ≤ m.1 22 ∧ m.1 22 ≤ 8 := hT.1 22
  have f19 : 0 ≤ m.1 19 ∧ m.1 19 ≤ 12 := hT.1 19
  have f20 : 0 ≤ m.1 20 ∧ m.1 20 ≤ 12 := hT.1 20
  have f21 : 0 ≤ m.1 21 ∧ m.1 21 ≤ 16 := hT.1 21
  have f13 : 0 ≤ m.1 13 ∧ m.1 13 ≤ 120 := hT.1 13
  have f6 : 0 ≤ m.1 6 ∧ m.1 6 ≤ 4000 := hT.1 6
  have f23 : 0 ≤ m.1 23 ∧ m.1 23 ≤ 16 := hT.1 23
  have f26 : 0 ≤ m.1 26 ∧ m.1 26 ≤ 8 := hT.1 26
  refine Tc_of rfl ?_
  show TT w D pm_274 (0, [(0, .ref 189), (1, .int (i32 s))], [], (mhp m c, N), 0, 0) (Q_takeIndex m c N s)
  rw [show (mhp m c, N) = (mhp (mO m [(7, (m.1 7)), (8, (m.1 8)), (9, (m.1 9)), (10, (m.1 10)), (11, (m.1 11)), (12, (m.1 12)), (28, (m.1 28)), (69, (m.1 69)), (70, (m.1 70)), (71, (m.1 71)), (72, (m.1 72)), (73, (m.1 73)), (74, (m.1 74)), (75, (m.1 75))] [(65, (m.2 65)), (66, (m.2 66)), (67, (m.2 67)), (68, (m.2 68)), (76, (m.2 76)), (77, (m.2 77)), (78, (m.2 78)), (79, (m.2 79)), (80, (m.2 80)), (81, (m.2 81)), (82, (m.2 82)), (83, (m.2 83)), (84, (m.2 84)), (85, (m.2 85)), (86, (m.2 86)), (87, (m.2 87)), (88, (m.2 88)), (89, (m.2 89)), (90, (m.2 90)), (91, (m.2 91)), (92, (m.2 92)), (105, (m.2 105)), (106, (m.2 106))]) c, N) from congrArg (fun M => (mhp M c, N)) (mO_pad m [7, 8, 9, 10, 11, 12, 28, 69, 70, 71, 72, 73, 74, 75] [65, 66, 67, 68, 76, 77, 78, 79, 80, 81, 82, 83, 84, 85, 86, 87, 88, 89, 90, 91, 92, 105, 106])]
  by_cases hf0 : m.1 10 = 0
  · skip
    obtain ⟨pPN, hCN⟩ := hC hf0
    have h7 := hLx (by omega)
    have J43_5 : ∀ (m4 : mR), (Ty m4) → (1 ≤ (m4.1 10)) → ((m4.1 10) ≤ 8) → TT w D pm_274 (43, [(0, .ref 189), (1, .int (i32 s))], [], (mhp (mO m [(7, (m4.1 7)), (8, (m4.1 8)), (9, (m4.1 9)), (10, (m4.1 10)), (11, (m4.1 11)), (12, (m4.1 12)), (28, (m4.1 28)), (69, (m4.1 69)), (70, (m4.1 70)), (71, (m4.1 71)), (72, (m4.1 72)), (73, (m4.1 73)), (74, (m4.1 74)), (75, (m4.1 75))] [(65, (m4.2 65)), (66, (m4.2 66)), (67, (m4.2 67)), (68, (m4.2 68)), (76, (m4.2 76)), (77, (m4.2 77)), (78, (m4.2 78)), (79, (m4.2 79)), (80, (m4.2 80)), (81, (m4.2 81)), (82, (m4.2 82)), (83, (m4.2 83)), (84, (m4.2 84)), (85, (m4.2 85)), (86, (m4.2 86)), (87, (m4.2 87)), (88, (m4.2 88)), (89, (m4.2 89)), (90, (m4.2 90)), (91, (m4.2 91)), (92, (m4.2 92)), (105, (m4.2 105)), (106, (m4.2 106))]) c, N), 0, 0) (Q_takeIndex m c N s) := by
      intro m4 q6 ic7 ic8
      have q6_7 : 0 ≤ m4.1 7 ∧ m4.1 7 ≤ 330 := q6.1 7
      have q6_8 : 0 ≤ m4.1 8 ∧ m4.1 8 ≤ 4000 := q6.1 8
      have q6_9 : 0 ≤ m4.1 9 ∧ m4.1 9 ≤ 4000 := q6.1 9
      have q6_10 : 0 ≤ m4.1 10 ∧ m4.1 10 ≤ 8 := q6.1 10
      have q6_11 : (-1) ≤ m4.1 11 ∧ m4.1 11 ≤ 4000 := q6.1 11
      have q6_12 : (-9223372036854775808) ≤ m4.1 12 ∧ m4.1 12 ≤ 9223372036854775807 := q6.1 12
      have q6_28 : 0 ≤ m4.1 28 ∧ m4.1 28 ≤ 800 := q6.1 28
      have q6_69 : 0 ≤ m4.1 69 ∧ m4.1 69 ≤ 1024 := q6.1 69
      have q6_70 : 0 ≤ m4.1 70 ∧ m4.1 70 ≤ 4000 := q6.1 70
      have q6_71 : 0 ≤ m4.1 71 ∧ m4.1 71 ≤ 1 := q6.1 71
      have q6_72 : (-9223372036854775808) ≤ m4.1 72 ∧ m4.1 72 ≤ 9223372036854775807 := q6.1 72
      have q6_73 : 0 ≤ m4.1 73 ∧ m4.1 73 ≤ 60 := q6.1 73
      have q6_74 : 0 ≤ m4.1 74 ∧ m4.1 74 ≤ 24 := q6.1 74
      have q6_75 : 0 ≤ m4.1 75 ∧ m4.1 75 ≤ 3 := q6.1 75
      refine T_ret rfl (fun _ => rfl) ?_
      exact ⟨(mO m [(7, (m4.1 7)), (8, (m4.1 8)), (9, (m4.1 9)), (10, (m4.1 10)), (11, (m4.1 11)), (12, (m4.1 12)), (28, (m4.1 28)), (69, (m4.1 69)), (70, (m4.1 70)), (71, (m4.1 71)), (72, (m4.1 72)), (73, (m4.1 73)), (74, (m4.1 74)), (75, (m4.1 75))] [(65, (m4.2 65)), (66, (m4.2 66)), (67, (m4.2 67)), (68, (m4.2 68)), (76, (m4.2 76)), (77, (m4.2 77)), (78, (m4.2 78)), (79, (m4.2 79)), (80, (m4.2 80)), (81, (m4.2 81)), (82, (m4.2 82)), (83, (m4.2 83)), (84, (m4.2 84)), (85, (m4.2 85)), (86, (m4.2 86)), (87, (m4.2 87)), (88, (m4.2 88)), (89, (m4.2 89)), (90, (m4.2 90)), (91, (m4.2 91)), (92, (m4.2 92)), (105, (m4.2 105)), (106, (m4.2 106))]), (Ty_mO hT rfl rfl ⟨(q6.1 7), (q6.1 8), (q6.1 9), (q6.1 10), (q6.1 11), (q6.1 12), (q6.1 28), (q6.1 69), (q6.1 70), (q6.1 71), (q6.1 72), (q6.1 73), (q6.1 74), (q6.1 75), trivial⟩ ⟨(q6.2.1 65), (q6.2.1 66), (q6.2.1 67), (q6.2.1 68), (q6.2.1 76), (q6.2.1 77), (q6.2.1 78), (q6.2.1 79), (q6.2.1 80), (q6.2.1 81), (q6.2.1 82), (q6.2.1 83), (q6.2.1 84), (q6.2.1 85), (q6.2.1 86), (q6.2.1 87), (q6.2.1 88), (q6.2.1 89), (q6.2.1 90), (q6.2.1 91), (q6.2.1 92), (q6.2.1 105), (q6.2.1 106), trivial⟩), (show (m4.1 10) = 0 → (m.1 10) = 0 by omega), (show LxP (m4.1 7) (m4.1 8) (m4.1 9) (m.1 6) (m4.1 10) by first | (first | exact hLx | exact (fun _ => hLx (by omega)) | (intro h9; exfalso; omega)) | (exfalso; omega)), (fun (h : (m4.1 10) = 0) => absurd h (by omega)), rfl⟩
    refine T_ld 1 (.ref 189) rfl (fun _ => rfl) ?_
    refine T_ld 3 (.int (i32 91)) rfl (fun _ => rfl) ?_
    refine T_call 6 232 [.ref 189, .int (i32 91)] [] rfl (fun _ => rfl) rfl (c_need w (mO m [(7, (m.1 7)), (8, (m.1 8)), (9, (m.1 9)), (10, (m.1 10)), (11, (m.1 11)), (12, (m.1 12)), (28, (m.1 28)), (69, (m.1 69)), (70, (m.1 70)), (71, (m.1 71)), (72, (m.1 72)), (73, (m.1 73)), (74, (m.1 74)), (75, (m.1 75))] [(65, (m.2 65)), (66, (m.2 66)), (67, (m.2 67)), (68, (m.2 68)), (76, (m.2 76)), (77, (m.2 77)), (78, (m.2 78)), (79, (m.2 79)), (80, (m.2 80)), (81, (m.2 81)), (82, (m.2 82)), (83, (m.2 83)), (84, (m.2 84)), (85, (m.2 85)), (86, (m.2 86)), (87, (m.2 87)), (88, (m.2 88)), (89, (m.2 89)), (90, (m.2 90)), (91, (m.2 91)), (92, (m.2 92)), (105, (m.2 105)), (106, (m.2 106))]) c N D (by omega) (Ty_mO hT rfl rfl ⟨f7, f8, f9, f10, f11, f12, f28, f69, f70, f71, f72, f73, f74, f75, trivial⟩ ⟨(hT.2.1 65), (hT.2.1 66), (hT.2.1 67), (hT.2.1 68), (hT.2.1 76), (hT.2.1 77), (hT.2.1 78), (hT.2.1 79), (hT.2.1 80), (hT.2.1 81), (hT.2.1 82), (hT.2.1 83), (hT.2.1 84), (hT.2.1 85), (hT.2.1 86), (hT.2.1 87), (hT.2.1 88), (hT.2.1 89), (hT.2.1 90), (hT.2.1 91), (hT.2.1 92), (hT.2.1 105), (hT.2.1 106), trivial⟩) 91 ⟨by decide, by decide⟩ (show 1 ≤ (91 : Int) by omega) (show LxP (m.1 7) (m.1 8) (m.1 9) (m.1 6) (m.1 10) by first | exact hLx | (intro h9; exfalso; omega) | (intro h9; have h8 := hLx (by omega); omega))) (fun rr10 k11 => ?_)
    obtain ⟨y12, y14, y16, y18, y20, y22, g13, g15, g17, g19, g21, g23, h24, h25, h26, h27, rfl⟩ := k11
    refine ⟨_, _, rfl, ?_⟩
    refine T_nf2 (st' := []) (l' := [(7, y12), (8, y14), (9, y16), (10, y18), (11, y20), (12, y22), (28, (m.1 28)), (69, (m.1 69)), (70, (m.1 70)), (71, (m.1 71)), (72, (m.1 72)), (73, (m.1 73)), (74, (m.1 74)), (75, (m.1 75))]) (a' := [(65, (m.2 65)), (66, (m.2 66)), (67, (m.2 67)), (68, (m.2 68)), (76, (m.2 76)), (77, (m.2 77)), (78, (m.2 78)), (79, (m.2 79)), (80, (m.2 80)), (81, (m.2 81)), (82, (m.2 82)), (83, (m.2 83)), (84, (m.2 84)), (85, (m.2 85)), (86, (m.2 86)), (87, (m.2 87)), (88, (m.2 88)), (89, (m.2 89)), (90, (m.2 90)), (91, (m.2 91)), (92, (m.2 92)), (105, (m.2 105)), (106, (m.2 106))]) [7, 8, 9, 10, 11, 12] [] rfl ⟨rfl, rfl, rfl, rfl, rfl, rfl, rfl, rfl, rfl, rfl, rfl, rfl, rfl, rfl, rfl, rfl, rfl, rfl, rfl, rfl, rfl, rfl, rfl, rfl, rfl, rfl, rfl, rfl, trivial⟩ ⟨rfl, rfl, rfl, rfl, rfl, rfl, rfl, rfl, rfl, rfl, rfl, rfl, rfl, rfl, rfl, rfl, rfl, rfl, rfl, rfl, rfl, rfl, rfl, rfl, rfl, rfl, rfl, rfl, rfl, rfl, rfl, rfl, rfl, rfl, rfl, rfl, rfl, rfl, rfl, rfl, rfl, rfl, rfl, rfl, rfl, rfl, trivial⟩ rfl rfl (by decide) (by decide) ?_
    by_cases hf28 : y18 = 0
    · skip
      subst hf28
      replace h24 : LxP y12 y14 y16 (m.1 6) (0 : Int) := h24
      have hLx := h24
      replace h25 : (m.1 10) = 0 ∧ (m.1 7) = (91 : Int) := h25 rfl
      replace h26 : (m.1 8) ≤ y14 := h26
      replace h27 : (m.1 8) + (m.1 9) ≤ y14 := h27 rfl
      have u29 : (m.1 8) + 1 ≤ y14 := by omega
      clear g19
      refine T_gf 10 (.ref 265) rfl rfl rfl rfl rfl rfl ?_
      refine T_ld 11 (.int (i32 s)) rfl (fun _ => rfl) ?_
      refine T_gf 15 (.int (i32 (m.1 28))) rfl rfl rfl rfl rfl rfl ?_
      have G30 : ∀ j, 0 ≤ (upI (m.2 105) s (m.1 28)) j ∧ (upI (m.2 105) s (m.1 28)) j ≤ 800 := upI_rg (hT.2.1 105) ⟨by omega, by omega⟩
      refine T_iast (a' := [(65, (m.2 65)), (66, (m.2 66)), (67, (m.2 67)), (68, (m.2 68)), (76, (m.2 76)), (77, (m.2 77)), (78, (m.2 78)), (79, (m.2 79)), (80, (m.2 80)), (81, (m.2 81)), (82, (m.2 82)), (83, (m.2 83)), (84, (m.2 84)), (85, (m.2 85)), (86, (m.2 86)), (87, (m.2 87)), (88, (m.2 88)), (89, (m.2 89)), (90, (m.2 90)), (91, (m.2 91)), (92, (m.2 92)), (105, upI (m.2 105) s (m.1 28)), (106, (m.2 106))]) 16 105 (m.2 105) rfl rfl rfl (by omega) (show s < (240 : Int) by omega) rfl rfl ?_
      refine T_gf 20 (.int (i32 0)) rfl rfl rfl rfl rfl rfl ?_
      refine T_if 27 23 rfl rfl rfl ⟨by decide, by decide⟩ (fun h31 => absurd (show (0 : Int) ≠ 0 from h31) (by decide)) (fun _ => ?_)
      refine T_ld 24 (.ref 189) rfl (fun _ => rfl) ?_
      refine T_call 27 244 [.ref 189] [] rfl (fun _ => rfl) rfl (c_readExpr w (mO m [(7, y12), (8, y14), (9, y16), (10, 0), (11, y20), (12, y22), (28, (m.1 28)), (69, (m.1 69)), (70, (m.1 70)), (71, (m.1 71)), (72, (m.1 72)), (73, (m.1 73)), (74, (m.1 74)), (75, (m.1 75))] [(65, (m.2 65)), (66, (m.2 66)), (67, (m.2 67)), (68, (m.2 68)), (76, (m.2 76)), (77, (m.2 77)), (78, (m.2 78)), (79, (m.2 79)), (80, (m.2 80)), (81, (m.2 81)), (82, (m.2 82)), (83, (m.2 83)), (84, (m.2 84)), (85, (m.2 85)), (86, (m.2 86)), (87, (m.2 87)), (88, (m.2 88)), (89, (m.2 89)), (90, (m.2 90)), (91, (m.2 91)), (92, (m.2 92)), (105, upI (m.2 105) s (m.1 28)), (106, (m.2 106))]) c N D (by omega) (Ty_mO hT rfl rfl ⟨g13, g15, g17, ⟨(by omega : (0 : Int) ≤ 0), (by omega : (0 : Int) ≤ 8)⟩, g21, g23, f28, f69, f70, f71, f72, f73, f74, f75, trivial⟩ ⟨(hT.2.1 65), (hT.2.1 66), (hT.2.1 67), (hT.2.1 68), (hT.2.1 76), (hT.2.1 77), (hT.2.1 78), (hT.2.1 79), (hT.2.1 80), (hT.2.1 81), (hT.2.1 82), (hT.2.1 83), (hT.2.1 84), (hT.2.1 85), (hT.2.1 86), (hT.2.1 87), (hT.2.1 88), (hT.2.1 89), (hT.2.1 90), (hT.2.1 91), (hT.2.1 92), G30, (hT.2.1 106), trivial⟩) (show LxP y12 y14 y16 (m.1 6) (0 : Int) by first | exact hLx | exact (fun _ => hLx (by omega)) | (intro h9; exfalso; omega)) (show ∀ k, (m.2 14) k + (m.2 15) k ≤ 4000 by assumption) (show ∀ k, (m.2 31) k + (m.2 32) k ≤ 4000 by assumption) (show ∀ k, (m.2 47) k + (m.2 48) k ≤ 4000 by assumption) (fun _ => ⟨(show PN (m.1 13) (m.1 19) (m.1 20) (m.1 21) (m.1 22) (m.1 23) (m.1 25) (m.1 26) (m.2 16) (m.2 17) by assumption), (show CN (m.2 65) (m.2 67) (m.1 28) by assumption)⟩)) (fun rr32 k33 => ?_)
      obtain ⟨m34, hT35, h36, h37, c38, rfl⟩ := k33
      refine ⟨_, _, rfl, ?_⟩
      refine T_nf2 (st' := []) (l' := [(7, (m34.1 7)), (8, (m34.1 8)), (9, (m34.1 9)), (10, (m34.1 10)), (11, (m34.1 11)), (12, (m34.1 12)), (28, (m34.1 28)), (69, (m34.1 69)), (70, (m34.1 70)), (71, (m34.1 71)), (72, (m34.1 72)), (73, (m34.1 73)), (74, (m34.1 74)), (75, (m34.1 75))]) (a' := [(65, (m34.2 65)), (66, (m34.2 66)), (67, (m34.2 67)), (68, (m34.2 68)), (76, (m34.2 76)), (77, (m34.2 77)), (78, (m34.2 78)), (79, (m34.2 79)), (80, (m34.2 80)), (81, (m34.2 81)), (82, (m34.2 82)), (83, (m34.2 83)), (84, (m34.2 84)), (85, (m34.2 85)), (86, (m34.2 86)), (87, (m34.2 87)), (88, (m34.2 88)), (89, (m34.2 89)), (90, (m34.2 90)), (91, (m34.2 91)), (92, (m34.2 92)), (105, upI (m.2 105) s (m.1 28)), (106, (m.2 106))]) [7, 8, 9, 10, 11, 12, 28, 69, 70, 71, 72, 73, 74, 75] [65, 66, 67, 68, 76, 77, 78, 79, 80, 81, 82, 83, 84, 85, 86, 87, 88, 89, 90, 91, 92] rfl ⟨rfl, rfl, rfl, rfl, rfl, rfl, rfl, rfl, rfl, rfl, rfl, rfl, rfl, rfl, rfl, rfl, rfl, rfl, rfl, rfl, rfl, rfl, rfl, rfl, rfl, rfl, rfl, rfl, trivial⟩ ⟨rfl, rfl, rfl, rfl, rfl, rfl, rfl, rfl, rfl, rfl, rfl, rfl, rfl, rfl, rfl, rfl, rfl, rfl, rfl, rfl, rfl, rfl, rfl, rfl, rfl, rfl, rfl, rfl, rfl, rfl, rfl, rfl, rfl, rfl, rfl, rfl, rfl, rfl, rfl, rfl, rfl, rfl, rfl, rfl, rfl, rfl, trivial⟩ rfl rfl (by decide) (by decide) ?_
      have g39 : 0 ≤ m34.1 7 ∧ m34.1 7 ≤ 330 := hT35.1 7
      have g40 : 0 ≤ m34.1 8 ∧ m34.1 8 ≤ 4000 := hT35.1 8
      have g41 : 0 ≤ m34.1 9 ∧ m34.1 9 ≤ 4000 := hT35.1 9
      have g42 : 0 ≤ m34.1 10 ∧ m34.1 10 ≤ 8 := hT35.1 10
      have g43 : (-1) ≤ m34.1 11 ∧ m34.1 11 ≤ 4000 := hT35.1 11
      have g44 : (-9223372036854775808) ≤ m34.1 12 ∧ m34.1 12 ≤ 9223372036854775807 := hT35.1 12
      have g45 : 0 ≤ m34.1 28 ∧ m34.1 28 ≤ 800 := hT35.1 28
      have g46 : 0 ≤ m34.1 69 ∧ m34.1 69 ≤ 1024 := hT35.1 69
      have g47 : 0 ≤ m34.1 70 ∧ m34.1 70 ≤ 4000 := hT35.1 70
      have g48 : 0 ≤ m34.1 71 ∧ m34.1 71 ≤ 1 := hT35.1 71
      have g49 : (-9223372036854775808) ≤ m34.1 72 ∧ m34.1 72 ≤ 9223372036854775807 := hT35.1 72
      have g50 : 0 ≤ m34.1 73 ∧ m34.1 73 ≤ 60 := hT35.1 73
      have g51 : 0 ≤ m34.1 74 ∧ m34.1 74 ≤ 24 := hT35.1 74
      have g52 : 0 ≤ m34.1 75 ∧ m34.1 75 ≤ 3 := hT35.1 75
      by_cases hf53 : (m34.1 10) = 0
      · skip
        replace h36 : (0 : Int) = 0 := h36 hf53
        replace h37 : LxP (m34.1 7) (m34.1 8) (m34.1 9) (m.1 6) (m34.1 10) := h37
        have hLx := h37
        obtain ⟨c54, c55, c56, c57, c58, c59⟩ := c38 hf53
        replace c54 : y14 + 1 ≤ (m34.1 8) := c54
        replace c55 : (m34.1 69) ≤ 64 := c55
        replace c56 : (m.1 28) ≤ (m34.1 28) := c56
        replace c57 : okc (m34.2 65) (m.1 28) (m34.1 28) := c57
        have hOk := c57
        replace c58 : CN (m34.2 65) (m34.2 67) (m34.1 28) := c58
        have hCN := c58
        replace c59 : agr (m.2 65) (m34.2 65) (m.1 28) := c59
        have hAg := c59
        clear c38
        have u60 : (m.1 8) + 1 ≤ (m34.1 8) := by omega
        have u61 : (m.1 28) ≤ (m34.1 28) := by omega
        clear g13 g15 g17 g21 g23 h24 h26 h27 u29 c54
        refine T_gf 31 (.ref 266) rfl rfl rfl rfl rfl rfl ?_
        refine T_ld 32 (.int (i32 s)) rfl (fun _ => rfl) ?_
        refine T_gf 36 (.int (i32 (m34.1 28))) rfl rfl rfl rfl rfl rfl ?_
        have G62 : ∀ j, 0 ≤ (upI (m.2 106) s (m34.1 28)) j ∧ (upI (m.2 106) s (m34.1 28)) j ≤ 800 := upI_rg (hT.2.1 106) ⟨by omega, by omega⟩
        refine T_iast (a' := [(65, (m34.2 65)), (66, (m34.2 66)), (67, (m34.2 67)), (68, (m34.2 68)), (76, (m34.2 76)), (77, (m34.2 77)), (78, (m34.2 78)), (79, (m34.2 79)), (80, (m34.2 80)), (81, (m34.2 81)), (82, (m34.2 82)), (83, (m34.2 83)), (84, (m34.2 84)), (85, (m34.2 85)), (86, (m34.2 86)), (87, (m34.2 87)), (88, (m34.2 88)), (89, (m34.2 89)), (90, (m34.2 90)), (91, (m34.2 91)), (92, (m34.2 92)), (105, upI (m.2 105) s (m.1 28)), (106, upI (m.2 106) s (m34.1 28))]) 37 106 (m.2 106) rfl rfl rfl (by omega) (show s < (240 : Int) by omega) rfl rfl ?_
        refine T_ld 38 (.ref 189) rfl (fun _ => rfl) ?_
        refine T_ld 40 (.int (i32 93)) rfl (fun _ => rfl) ?_
        refine T_call 43 232 [.ref 189, .int (i32 93)] [] rfl (fun _ => rfl) rfl (c_need w (mO m [(7, (m34.1 7)), (8, (m34.1 8)), (9, (m34.1 9)), (10, (m34.1 10)), (11, (m34.1 11)), (12, (m34.1 12)), (28, (m34.1 28)), (69, (m34.1 69)), (70, (m34.1 70)), (71, (m34.1 71)), (72, (m34.1 72)), (73, (m34.1 73)), (74, (m34.1 74)), (75, (m34.1 75))] [(65, (m34.2 65)), (66, (m34.2 66)), (67, (m34.2 67)), (68, (m34.2 68)), (76, (m34.2 76)), (77, (m34.2 77)), (78, (m34.2 78)), (79, (m34.2 79)), (80, (m34.2 80)), (81, (m34.2 81)), (82, (m34.2 82)), (83, (m34.2 83)), (84, (m34.2 84)), (85, (m34.2 85)), (86, (m34.2 86)), (87, (m34.2 87)), (88, (m34.2 88)), (89, (m34.2 89)), (90, (m34.2 90)), (91, (m34.2 91)), (92, (m34.2 92)), (105, upI (m.2 105) s (m.1 28)), (106, upI (m.2 106) s (m34.1 28))]) c N D (by omega) (Ty_mO hT rfl rfl ⟨(hT35.1 7), (hT35.1 8), (hT35.1 9), (hT35.1 10), (hT35.1 11), (hT35.1 12), (hT35.1 28), (hT35.1 69), (hT35.1 70), (hT35.1 71), (hT35.1 72), (hT35.1 73), (hT35.1 74), (hT35.1 75), trivial⟩ ⟨(hT35.2.1 65), (hT35.2.1 66), (hT35.2.1 67), (hT35.2.1 68), (hT35.2.1 76), (hT35.2.1 77), (hT35.2.1 78), (hT35.2.1 79), (hT35.2.1 80), (hT35.2.1 81), (hT35.2.1 82), (hT35.2.1 83), (hT35.2.1 84), (hT35.2.1 85), (hT35.2.1 86), (hT35.2.1 87), (hT35.2.1 88), (hT35.2.1 89), (hT35.2.1 90), (hT35.2.1 91), (hT35.2.1 92), G30, G62, trivial⟩) 93 ⟨by decide, by decide⟩ (show 1 ≤ (93 : Int) by omega) (show LxP (m34.1 7) (m34.1 8) (m34.1 9) (m.1 6) (m34.1 10) by first | exact hLx | (intro h9; exfalso; omega) | (intro h9; have h8 := hLx (by omega); omega))) (fun rr63 k64 => ?_)
        obtain ⟨y65, y67, y69, y71, y73, y75, g66, g68, g70, g72, g74, g76, h77, h78, h79, h80, rfl⟩ := k64
        refine ⟨_, _, rfl, ?_⟩
        refine T_nf2 (st' := []) (l' := [(7, y65), (8, y67), (9, y69), (10, y71), (11, y73), (12, y75), (28, (m34.1 28)), (69, (m34.1 69)), (70, (m34.1 70)), (71, (m34.1 71)), (72, (m34.1 72)), (73, (m34.1 73)), (74, (m34.1 74)), (75, (m34.1 75))]) (a' := [(65, (m34.2 65)), (66, (m34.2 66)), (67, (m34.2 67)), (68, (m34.2 68)), (76, (m34.2 76)), (77, (m34.2 77)), (78, (m34.2 78)), (79, (m34.2 79)), (80, (m34.2 80)), (81, (m34.2 81)), (82, (m34.2 82)), (83, (m34.2 83)), (84, (m34.2 84)), (85, (m34.2 85)), (86, (m34.2 86)), (87, (m34.2 87)), (88, (m34.2 88)), (89, (m34.2 89)), (90, (m34.2 90)), (91, (m34.2 91)), (92, (m34.2 92)), (105, upI (m.2 105) s (m.1 28)), (106, upI (m.2 106) s (m34.1 28))]) [7, 8, 9, 10, 11, 12] [] rfl ⟨rfl, rfl, rfl, rfl, rfl, rfl, rfl, rfl, rfl, rfl, rfl, rfl, rfl, rfl, rfl, rfl, rfl, rfl, rfl, rfl, rfl, rfl, rfl, rfl, rfl, rfl, rfl, rfl, trivial⟩ ⟨rfl, rfl, rfl, rfl, rfl, rfl, rfl, rfl, rfl, rfl, rfl, rfl, rfl, rfl, rfl, rfl, rfl, rfl, rfl, rfl, rfl, rfl, rfl, rfl, rfl, rfl, rfl, rfl, rfl, rfl, rfl, rfl, rfl, rfl, rfl, rfl, rfl, rfl, rfl, rfl, rfl, rfl, rfl, rfl, rfl, rfl, trivial⟩ rfl rfl (by decide) (by decide) ?_
        by_cases hf81 : y71 = 0
        · skip
          subst hf81
          replace h77 : LxP y65 y67 y69 (m.1 6) (0 : Int) := h77
          have hLx := h77
          replace h78 : (m34.1 10) = 0 ∧ (m34.1 7) = (93 : Int) := h78 rfl
          replace h79 : (m34.1 8) ≤ y67 := h79
          replace h80 : (m34.1 8) + (m34.1 9) ≤ y67 := h80 rfl
          have u82 : (m.1 8) + 1 ≤ y67 := by omega
          have u83 : (m.1 28) ≤ (m34.1 28) := by omega
          clear g39 g40 g41 g42 g43 g44 h37 u60 g72 h78 h79 h80
          refine T_ret rfl (fun _ => rfl) ?_
          exact ⟨(mO m [(7, y65), (8, y67), (9, y69), (10, 0), (11, y73), (12, y75), (28, (m34.1 28)), (69, (m34.1 69)), (70, (m34.1 70)), (71, (m34.1 71)), (72, (m34.1 72)), (73, (m34.1 73)), (74, (m34.1 74)), (75, (m34.1 75))] [(65, (m34.2 65)), (66, (m34.2 66)), (67, (m34.2 67)), (68, (m34.2 68)), (76, (m34.2 76)), (77, (m34.2 77)), (78, (m34.2 78)), (79, (m34.2 79)), (80, (m34.2 80)), (81, (m34.2 81)), (82, (m34.2 82)), (83, (m34.2 83)), (84, (m34.2 84)), (85, (m34.2 85)), (86, (m34.2 86)), (87, (m34.2 87)), (88, (m34.2 88)), (89, (m34.2 89)), (90, (m34.2 90)), (91, (m34.2 91)), (92, (m34.2 92)), (105, upI (m.2 105) s (m.1 28)), (106, upI (m.2 106) s (m34.1 28))]), (Ty_mO hT rfl rfl ⟨g66, g68, g70, ⟨(by omega : (0 : Int) ≤ 0), (by omega : (0 : Int) ≤ 8)⟩, g74, g76, (hT35.1 28), (hT35.1 69), (hT35.1 70), (hT35.1 71), (hT35.1 72), (hT35.1 73), (hT35.1 74), (hT35.1 75), trivial⟩ ⟨(hT35.2.1 65), (hT35.2.1 66), (hT35.2.1 67), (hT35.2.1 68), (hT35.2.1 76), (hT35.2.1 77), (hT35.2.1 78), (hT35.2.1 79), (hT35.2.1 80), (hT35.2.1 81), (hT35.2.1 82), (hT35.2.1 83), (hT35.2.1 84), (hT35.2.1 85), (hT35.2.1 86), (hT35.2.1 87), (hT35.2.1 88), (hT35.2.1 89), (hT35.2.1 90), (hT35.2.1 91), (hT35.2.1 92), G30, G62, trivial⟩), (show (0 : Int) = 0 → (m.1 10) = 0 by omega), (show LxP y65 y67 y69 (m.1 6) (0 : Int) by first | (first | exact hLx | exact (fun _ => hLx (by omega)) | (intro h9; exfalso; omega)) | (exfalso; omega)), (fun _ => ⟨(show (m.1 8) + 1 ≤ y67 by omega), (show CN (m34.2 65) (m34.2 67) (m34.1 28) by first | (exact hCN) | (exfalso; omega)), (show agr (m.2 65) (m34.2 65) (m.1 28) by first | (exact hAg) | (exfalso; omega)), (show (m.1 28) ≤ (m34.1 28) by omega), (show cdr (m34.2 65) (m34.1 28) ((upI (m.2 105) s (m.1 28)) s) ((upI (m.2 106) s (m34.1 28)) s) by first | (rw [upI_s, upI_s]; exact ⟨hOk, by omega⟩) | (exfalso; omega)), (show agr (m.2 105) (upI (m.2 105) s (m.1 28)) s by first | (exact agr_u (Int.le_refl _)) | (exfalso; omega)), (show agr (m.2 106) (upI (m.2 106) s (m34.1 28)) s by first | (exact agr_u (Int.le_refl _)) | (exfalso; omega))⟩), rfl⟩
        · skip
          replace h77 : LxP y65 y67 y69 (m.1 6) y71 := h77
          have hLx := h77
          clear h78
          replace h79 : (m34.1 8) ≤ y67 := h79
          clear h80
          have hf84 : 1 ≤ y71 := by omega
          clear g39 g40 g41 g42 g43 g44 h37 u60 h79
          exact J43_5 (mO m [(7, y65), (8, y67), (9, y69), (10, y71), (11, y73), (12, y75), (28, (m34.1 28)), (69, (m34.1 69)), (70, (m34.1 70)), (71, (m34.1 71)), (72, (m34.1 72)), (73, (m34.1 73)), (74, (m34.1 74)), (75, (m34.1 75))] [(65, (m34.2 65)), (66, (m34.2 66)), (67, (m34.2 67)), (68, (m34.2 68)), (76, (m34.2 76)), (77, (m34.2 77)), (78, (m34.2 78)), (79, (m34.2 79)), (80, (m34.2 80)), (81, (m34.2 81)), (82, (m34.2 82)), (83, (m34.2 83)), (84, (m34.2 84)), (85, (m34.2 85)), (86, (m34.2 86)), (87, (m34.2 87)), (88, (m34.2 88)), (89, (m34.2 89)), (90, (m34.2 90)), (91, (m34.2 91)), (92, (m34.2 92)), (105, upI (m.2 105) s (m.1 28)), (106, upI (m.2 106) s (m34.1 28))]) (Ty_mO hT rfl rfl ⟨g66, g68, g70, g72, g74, g76, (hT35.1 28), (hT35.1 69), (hT35.1 70), (hT35.1 71), (hT35.1 72), (hT35.1 73), (hT35.1 74), (hT35.1 75), trivial⟩ ⟨(hT35.2.1 65), (hT35.2.1 66), (hT35.2.1 67), (hT35.2.1 68), (hT35.2.1 76), (hT35.2.1 77), (hT35.2.1 78), (hT35.2.1 79), (hT35.2.1 80), (hT35.2.1 81), (hT35.2.1 82), (hT35.2.1 83), (hT35.2.1 84), (hT35.2.1 85), (hT35.2.1 86), (hT35.2.1 87), (hT35.2.1 88), (hT35.2.1 89), (hT35.2.1 90), (hT35.2.1 91), (hT35.2.1 92), G30, G62, trivial⟩) (show 1 ≤ y71 by omega) (show y71 ≤ 8 by omega)
      · skip
        clear c38
        clear h36
        replace h37 : LxP (m34.1 7) (m34.1 8) (m34.1 9) (m.1 6) (m34.1 10) := h37
        have hLx := h37
        have hf85 : 1 ≤ (m34.1 10) := by omega
        clear g13 g15 g17 g21 g23 h24 h26 h27 u29
        refine T_gf 31 (.ref 266) rfl rfl rfl rfl rfl rfl ?_
        refine T_ld 32 (.int (i32 s)) rfl (fun _ => rfl) ?_
        refine T_gf 36 (.int (i32 (m34.1 28))) rfl rfl rfl rfl rfl rfl ?_
        have G86 : ∀ j, 0 ≤ (upI (m.2 106) s (m34.1 28)) j ∧ (upI (m.2 106) s (m34.1 28)) j ≤ 800 := upI_rg (hT.2.1 106) ⟨by omega, by omega⟩
        refine T_iast (a' := [(65, (m34.2 65)), (66, (m34.2 66)), (67, (m34.2 67)), (68, (m34.2 68)), (76, (m34.2 76)), (77, (m34.2 77)), (78, (m34.2 78)), (79, (m34.2 79)), (80, (m34.2 80)), (81, (m34.2 81)), (82, (m34.2 82)), (83, (m34.2 83)), (84, (m34.2 84)), (85, (m34.2 85)), (86, (m34.2 86)), (87, (m34.2 87)), (88, (m34.2 88)), (89, (m34.2 89)), (90, (m34.2 90)), (91, (m34.2 91)), (92, (m34.2 92)), (105, upI (m.2 105) s (m.1 28)), (106, upI (m.2 106) s (m34.1 28))]) 37 106 (m.2 106) rfl rfl rfl (by omega) (show s < (240 : Int) by omega) rfl rfl ?_
        refine T_ld 38 (.ref 189) rfl (fun _ => rfl) ?_
        refine T_ld 40 (.int (i32 93)) rfl (fun _ => rfl) ?_
        refine T_call 43 232 [.ref 189, .int (i32 93)] [] rfl (fun _ => rfl) rfl (c_need w (mO m [(7, (m34.1 7)), (8, (m34.1 8)), (9, (m34.1 9)), (10, (m34.1 10)), (11, (m34.1 11)), (12, (m34.1 12)), (28, (m34.1 28)), (69, (m34.1 69)), (70, (m34.1 70)), (71, (m34.1 71)), (72, (m34.1 72)), (73, (m34.1 73)), (74, (m34.1 74)), (75, (m34.1 75))] [(65, (m34.2 65)), (66, (m34.2 66)), (67, (m34.2 67)), (68, (m34.2 68)), (76, (m34.2 76)), (77, (m34.2 77)), (78, (m34.2 78)), (79, (m34.2 79)), (80, (m34.2 80)), (81, (m34.2 81)), (82, (m34.2 82)), (83, (m34.2 83)), (84, (m34.2 84)), (85, (m34.2 85)), (86, (m34.2 86)), (87, (m34.2 87)), (88, (m34.2 88)), (89, (m34.2 89)), (90, (m34.2 90)), (91, (m34.2 91)), (92, (m34.2 92)), (105, upI (m.2 105) s (m.1 28)), (106, upI (m.2 106) s (m34.1 28))]) c N D (by omega) (Ty_mO hT rfl rfl ⟨(hT35.1 7), (hT35.1 8), (hT35.1 9), (hT35.1 10), (hT35.1 11), (hT35.1 12), (hT35.1 28), (hT35.1 69), (hT35.1 70), (hT35.1 71), (hT35.1 72), (hT35.1 73), (hT35.1 74), (hT35.1 75), trivial⟩ ⟨(hT35.2.1 65), (hT35.2.1 66), (hT35.2.1 67), (hT35.2.1 68), (hT35.2.1 76), (hT35.2.1 77), (hT35.2.1 78), (hT35.2.1 79), (hT35.2.1 80), (hT35.2.1 81), (hT35.2.1 82), (hT35.2.1 83), (hT35.2.1 84), (hT35.2.1 85), (hT35.2.1 86), (hT35.2.1 87), (hT35.2.1 88), (hT35.2.1 89), (hT35.2.1 90), (hT35.2.1 91), (hT35.2.1 92), G30, G86, trivial⟩) 93 ⟨by decide, by decide⟩ (show 1 ≤ (93 : Int) by omega) (show LxP (m34.1 7) (m34.1 8) (m34.1 9) (m.1 6) (m34.1 10) by first | exact hLx | (intro h9; exfalso; omega) | (intro h9; have h8 := hLx (by omega); omega))) (fun rr87 k88 => ?_)
        obtain ⟨y89, y91, y93, y95, y97, y99, g90, g92, g94, g96, g98, g100, h101, h102, h103, h104, rfl⟩ := k88
        refine ⟨_, _, rfl, ?_⟩
        refine T_nf2 (st' := []) (l' := [(7, y89), (8, y91), (9, y93), (10, y95), (11, y97), (12, y99), (28, (m34.1 28)), (69, (m34.1 69)), (70, (m34.1 70)), (71, (m34.1 71)), (72, (m34.1 72)), (73, (m34.1 73)), (74, (m34.1 74)), (75, (m34.1 75))]) (a' := [(65, (m34.2 65)), (66, (m34.2 66)), (67, (m34.2 67)), (68, (m34.2 68)), (76, (m34.2 76)), (77, (m34.2 77)), (78, (m34.2 78)), (79, (m34.2 79)), (80, (m34.2 80)), (81, (m34.2 81)), (82, (m34.2 82)), (83, (m34.2 83)), (84, (m34.2 84)), (85, (m34.2 85)), (86, (m34.2 86)), (87, (m34.2 87)), (88, (m34.2 88)), (89, (m34.2 89)), (90, (m34.2 90)), (91, (m34.2 91)), (92, (m34.2 92)), (105, upI (m.2 105) s (m.1 28)), (106, upI (m.2 106) s (m34.1 28))]) [7, 8, 9, 10, 11, 12] [] rfl ⟨rfl, rfl, rfl, rfl, rfl, rfl, rfl, rfl, rfl, rfl, rfl, rfl, rfl, rfl, rfl, rfl, rfl, rfl, rfl, rfl, rfl, rfl, rfl, rfl, rfl, rfl, rfl, rfl, trivial⟩ ⟨rfl, rfl, rfl, rfl, rfl, rfl, rfl, rfl, rfl, rfl, rfl, rfl, rfl, rfl, rfl, rfl, rfl, rfl, rfl, rfl, rfl, rfl, rfl, rfl, rfl, rfl, rfl, rfl, rfl, rfl, rfl, rfl, rfl, rfl, rfl, rfl, rfl, rfl, rfl, rfl, rfl, rfl, rfl, rfl, rfl, rfl, trivial⟩ rfl rfl (by decide) (by decide) ?_
        replace h101 : LxP y89 y91 y93 (m.1 6) y95 := h101
        replace h102 : y95 = 0 → (m34.1 10) = 0 ∧ (m34.1 7) = (93 : Int) := h102
        replace h103 : (m34.1 8) ≤ y91 := h103
        replace h104 : y95 = 0 → (m34.1 8) + (m34.1 9) ≤ y91 := h104
        have hf105 : 1 ≤ y95 := by omega
        clear h102
        clear h104
        have hLx := h101
        clear g39 g40 g41 g42 g43 g44 h37 hf85 h103
        exact J43_5 (mO m [(7, y89), (8, y91), (9, y93), (10, y95), (11, y97), (12, y99), (28, (m34.1 28)), (69, (m34.1 69)), (70, (m34.1 70)), (71, (m34.1 71)), (72, (m34.1 72)), (73, (m34.1 73)), (74, (m34.1 74)), (75, (m34.1 75))] [(65, (m34.2 65)), (66, (m34.2 66)), (67, (m34.2 67)), (68, (m34.2 68)), (76, (m34.2 76)), (77, (m34.2 77)), (78, (m34.2 78)), (79, (m34.2 79)), (80, (m34.2 80)), (81, (m34.2 81)), (82, (m34.2 82)), (83, (m34.2 83)), (84, (m34.2 84)), (85, (m34.2 85)), (86, (m34.2 86)), (87, (m34.2 87)), (88, (m34.2 88)), (89, (m34.2 89)), (90, (m34.2 90)), (91, (m34.2 91)), (92, (m34.2 92)), (105, upI (m.2 105) s (m.1 28)), (106, upI (m.2 106) s (m34.1 28))]) (Ty_mO hT rfl rfl ⟨g90, g92, g94, g96, g98, g100, (hT35.1 28), (hT35.1 69), (hT35.1 70), (hT35.1 71), (hT35.1 72), (hT35.1 73), (hT35.1 74), (hT35.1 75), trivial⟩ ⟨(hT35.2.1 65), (hT35.2.1 66), (hT35.2.1 67), (hT35.2.1 68), (hT35.2.1 76), (hT35.2.1 77), (hT35.2.1 78), (hT35.2.1 79), (hT35.2.1 80), (hT35.2.1 81), (hT35.2.1 82), (hT35.2.1 83), (hT35.2.1 84), (hT35.2.1 85), (hT35.2.1 86), (hT35.2.1 87), (hT35.2.1 88), (hT35.2.1 89), (hT35.2.1 90), (hT35.2.1 91), (hT35.2.1 92), G30, G86, trivial⟩) (show 1 ≤ y95 by omega) (show y95 ≤ 8 by omega)
    · skip
      replace h24 : LxP y12 y14 y16 (m.1 6) y18 := h24
      have hLx := h24
      clear h25
      replace h26 : (m.1 8) ≤ y14 := h26
      clear h27
      have hf106 : 1 ≤ y18 := by omega
      refine T_gf 10 (.ref 265) rfl rfl rfl rfl rfl rfl ?_
      refine T_ld 11 (.int (i32 s)) rfl (fun _ => rfl) ?_
      refine T_gf 15 (.int (i32 (m.1 28))) rfl rfl rfl rfl rfl rfl ?_
      have G107 : ∀ j, 0 ≤ (upI (m.2 105) s (m.1 28)) j ∧ (upI (m.2 105) s (m.1 28)) j ≤ 800 := upI_rg (hT.2.1 105) ⟨by omega, by omega⟩
      refine T_iast (a' := [(65, (m.2 65)), (66, (m.2 66)), (67, (m.2 67)), (68, (m.2 68)), (76, (m.2 76)), (77, (m.2 77)), (78, (m.2 78)), (79, (m.2 79)), (80, (m.2 80)), (81, (m.2 81)), (82, (m.2 82)), (83, (m.2 83)), (84, (m.2 84)), (85, (m.2 85)), (86, (m.2 86)), (87, (m.2 87)), (88, (m.2 88)), (89, (m.2 89)), (90, (m.2 90)), (91, (m.2 91)), (92, (m.2 92)), (105, upI (m.2 105) s (m.1 28)), (106, (m.2 106))]) 16 105 (m.2 105) rfl rfl rfl (by omega) (show s < (240 : Int) by omega) rfl rfl ?_
      refine T_gf 20 (.int (i32 y18)) rfl rfl rfl rfl rfl rfl ?_
      refine T_if 27 23 rfl rfl rfl (r32 (by omega) (by omega)) (fun (h108 : y18 ≠ 0) => ?_) (fun (h108 : ¬ (y18 ≠ 0)) => by exfalso; omega)
      refine T_gf 31 (.ref 266) rfl rfl rfl rfl rfl rfl ?_
      refine T_ld 32 (.int (i32 s)) rfl (fun _ => rfl) ?_
      refine T_gf 36 (.int (i32 (m.1 28))) rfl rfl rfl rfl rfl rfl ?_
      have G109 : ∀ j, 0 ≤ (upI (m.2 106) s (m.1 28)) j ∧ (upI (m.2 106) s (m.1 28)) j ≤ 800 := upI_rg (hT.2.1 106) ⟨by omega, by omega⟩
      refine T_iast (a' := [(65, (m.2 65)), (66, (m.2 66)), (67, (m.2 67)), (68, (m.2 68)), (76, (m.2 76)), (77, (m.2 77)), (78, (m.2 78)), (79, (m.2 79)), (80, (m.2 80)), (81, (m.2 81)), (82, (m.2 82)), (83, (m.2 83)), (84, (m.2 84)), (85, (m.2 85)), (86, (m.2 86)), (87, (m.2 87)), (88, (m.2 88)), (89, (m.2 89)), (90, (m.2 90)), (91, (m.2 91)), (92, (m.2 92)), (105, upI (m.2 105) s (m.1 28)), (106, upI (m.2 106) s (m.1 28))]) 37 106 (m.2 106) rfl rfl rfl (by omega) (show s < (240 : Int) by omega) rfl rfl ?_
      refine T_ld 38 (.ref 189) rfl (fun _ => rfl) ?_
      refine T_ld 40 (.int (i32 93)) rfl (fun _ => rfl) ?_
      refine T_call 43 232 [.ref 189, .int (i32 93)] [] rfl (fun _ => rfl) rfl (c_need w (mO m [(7, y12), (8, y14), (9, y16), (10, y18), (11, y20), (12, y22), (28, (m.1 28)), (69, (m.1 69)), (70, (m.1 70)), (71, (m.1 71)), (72, (m.1 72)), (73, (m.1 73)), (74, (m.1 74)), (75, (m.1 75))] [(65, (m.2 65)), (66, (m.2 66)), (67, (m.2 67)), (68, (m.2 68)), (76, (m.2 76)), (77, (m.2 77)), (78, (m.2 78)), (79, (m.2 79)), (80, (m.2 80)), (81, (m.2 81)), (82, (m.2 82)), (83, (m.2 83)), (84, (m.2 84)), (85, (m.2 85)), (86, (m.2 86)), (87, (m.2 87)), (88, (m.2 88)), (89, (m.2 89)), (90, (m.2 90)), (91, (m.2 91)), (92, (m.2 92)), (105, upI (m.2 105) s (m.1 28)), (106, upI (m.2 106) s (m.1 28))]) c N D (by omega) (Ty_mO hT rfl rfl ⟨g13, g15, g17, g19, g21, g23, f28, f69, f70, f71, f72, f73, f74, f75, trivial⟩ ⟨(hT.2.1 65), (hT.2.1 66), (hT.2.1 67), (hT.2.1 68), (hT.2.1 76), (hT.2.1 77), (hT.2.1 78), (hT.2.1 79), (hT.2.1 80), (hT.2.1 81), (hT.2.1 82), (hT.2.1 83), (hT.2.1 84), (hT.2.1 85), (hT.2.1 86), (hT.2.1 87), (hT.2.1 88), (hT.2.1 89), (hT.2.1 90), (hT.2.1 91), (hT.2.1 92), G107, G109, trivial⟩) 93 ⟨by decide, by decide⟩ (show 1 ≤ (93 : Int) by omega) (show LxP y12 y14 y16 (m.1 6) y18 by first | exact hLx | (intro h9; exfalso; omega) | (intro h9; have h8 := hLx (by omega); omega))) (fun rr110 k111 => ?_)
      obtain ⟨y112, y114, y116, y118, y120, y122, g113, g115, g117, g119, g121, g123, h124, h125, h126, h127, rfl⟩ := k111
      refine ⟨_, _, rfl, ?_⟩
      refine T_nf2 (st' := []) (l' := [(7, y112), (8, y114), (9, y116), (10, y118), (11, y120), (12, y122), (28, (m.1 28)), (69, (m.1 69)), (70, (m.1 70)), (71, (m.1 71)), (72, (m.1 72)), (73, (m.1 73)), (74, (m.1 74)), (75, (m.1 75))]) (a' := [(65, (m.2 65)), (66, (m.2 66)), (67, (m.2 67)), (68, (m.2 68)), (76, (m.2 76)), (77, (m.2 77)), (78, (m.2 78)), (79, (m.2 79)), (80, (m.2 80)), (81, (m.2 81)), (82, (m.2 82)), (83, (m.2 83)), (84, (m.2 84)), (85, (m.2 85)), (86, (m.2 86)), (87, (m.2 87)), (88, (m.2 88)), (89, (m.2 89)), (90, (m.2 90)), (91, (m.2 91)), (92, (m.2 92)), (105, upI (m.2 105) s (m.1 28)), (106, upI (m.2 106) s (m.1 28))]) [7, 8, 9, 10, 11, 12] [] rfl ⟨rfl, rfl, rfl, rfl, rfl, rfl, rfl, rfl, rfl, rfl, rfl, rfl, rfl, rfl, rfl, rfl, rfl, rfl, rfl, rfl, rfl, rfl, rfl, rfl, rfl, rfl, rfl, rfl, trivial⟩ ⟨rfl, rfl, rfl, rfl, rfl, rfl, rfl, rfl, rfl, rfl, rfl, rfl, rfl, rfl, rfl, rfl, rfl, rfl, rfl, rfl, rfl, rfl, rfl, rfl, rfl, rfl, rfl, rfl, rfl, rfl, rfl, rfl, rfl, rfl, rfl, rfl, rfl, rfl, rfl, rfl, rfl, rfl, rfl, rfl, rfl, rfl, trivial⟩ rfl rfl (by decide) (by decide) ?_
      replace h124 : LxP y112 y114 y116 (m.1 6) y118 := h124
      replace h125 : y118 = 0 → y18 = 0 ∧ y12 = (93 : Int) := h125
      replace h126 : y14 ≤ y114 := h126
      replace h127 : y118 = 0 → y14 + y16 ≤ y114 := h127
      have hf128 : 1 ≤ y118 := by omega
      clear h125
      clear h127
      have hLx := h124
      clear g13 g15 g17 g19 g21 g23 h24 h26 hf106 h108 h126
      exact J43_5 (mO m [(7, y112), (8, y114), (9, y116), (10, y118), (11, y120), (12, y122), (28, (m.1 28)), (69, (m.1 69)), (70, (m.1 70)), (71, (m.1 71)), (72, (m.1 72)), (73, (m.1 73)), (74, (m.1 74)), (75, (m.1 75))] [(65, (m.2 65)), (66, (m.2 66)), (67, (m.2 67)), (68, (m.2 68)), (76, (m.2 76)), (77, (m.2 77)), (78, (m.2 78)), (79, (m.2 79)), (80, (m.2 80)), (81, (m.2 81)), (82, (m.2 82)), (83, (m.2 83)), (84, (m.2 84)), (85, (m.2 85)), (86, (m.2 86)), (87, (m.2 87)), (88, (m.2 88)), (89, (m.2 89)), (90, (m.2 90)), (91, (m.2 91)), (92, (m.2 92)), (105, upI (m.2 105) s (m.1 28)), (106, upI (m.2 106) s (m.1 28))]) (Ty_mO hT rfl rfl ⟨g113, g115, g117, g119, g121, g123, f28, f69, f70, f71, f72, f73, f74, f75, trivial⟩ ⟨(hT.2.1 65), (hT.2.1 66), (hT.2.1 67), (hT.2.1 68), (hT.2.1 76), (hT.2.1 77), (hT.2.1 78), (hT.2.1 79), (hT.2.1 80), (hT.2.1 81), (hT.2.1 82), (hT.2.1 83), (hT.2.1 84), (hT.2.1 85), (hT.2.1 86), (hT.2.1 87), (hT.2.1 88), (hT.2.1 89), (hT.2.1 90), (hT.2.1 91), (hT.2.1 92), G107, G109, trivial⟩) (show 1 ≤ y118 by omega) (show y118 ≤ 8 by omega)
  · skip
    clear hC
    refine T_ld 1 (.ref 189) rfl (fun _ => rfl) ?_
    refine T_ld 3 (.int (i32 91)) rfl (fun _ => rfl) ?_
    refine T_call 6 232 [.ref 189, .int (i32 91)] [] rfl (fun _ => rfl) rfl (c_need w (mO m [(7, (m.1 7)), (8, (m.1 8)), (9, (m.1 9)), (10, (m.1 10)), (11, (m.1 11)), (12, (m.1 12)), (28, (m.1 28)), (69, (m.1 69)), (70, (m.1 70)), (71, (m.1 71)), (72, (m.1 72)), (73, (m.1 73)), (74, (m.1 74)), (75, (m.1 75))] [(65, (m.2 65)), (66, (m.2 66)), (67, (m.2 67)), (68, (m.2 68)), (76, (m.2 76)), (77, (m.2 77)), (78, (m.2 78)), (79, (m.2 79)), (80, (m.2 80)), (81, (m.2 81)), (82, (m.2 82)), (83, (m.2 83)), (84, (m.2 84)), (85, (m.2 85)), (86, (m.2 86)), (87, (m.2 87)), (88, (m.2 88)), (89, (m.2 89)), (90, (m.2 90)), (91, (m.2 91)), (92, (m.2 92)), (105, (m.2 105)), (106, (m.2 106))]) c N D (by omega) (Ty_mO hT rfl rfl ⟨f7, f8, f9, f10, f11, f12, f28, f69, f70, f71, f72, f73, f74, f75, trivial⟩ ⟨(hT.2.1 65), (hT.2.1 66), (hT.2.1 67), (hT.2.1 68), (hT.2.1 76), (hT.2.1 77), (hT.2.1 78), (hT.2.1 79), (hT.2.1 80), (hT.2.1 81), (hT.2.1 82), (hT.2.1 83), (hT.2.1 84), (hT.2.1 85), (hT.2.1 86), (hT.2.1 87), (hT.2.1 88), (hT.2.1 89), (hT.2.1 90), (hT.2.1 91), (hT.2.1 92), (hT.2.1 105), (hT.2.1 106), trivial⟩) 91 ⟨by decide, by decide⟩ (show 1 ≤ (91 : Int) by omega) (show LxP (m.1 7) (m.1 8) (m.1 9) (m.1 6) (m.1 10) by first | exact hLx | (intro h9; exfalso; omega) | (intro h9; have h8 := hLx (by omega); omega))) (fun rr129 k130 => ?_)
    obtain ⟨y131, y133, y135, y137, y139, y141, g132, g134, g136, g138, g140, g142, h143, h144, h145, h146, rfl⟩ := k130
    refine ⟨_, _, rfl, ?_⟩
    refine T_nf2 (st' := []) (l' := [(7, y131), (8, y133), (9, y135), (10, y137), (11, y139), (12, y141), (28, (m.1 28)), (69, (m.1 69)), (70, (m.1 70)), (71, (m.1 71)), (72, (m.1 72)), (73, (m.1 73)), (74, (m.1 74)), (75, (m.1 75))]) (a' := [(65, (m.2 65)), (66, (m.2 66)), (67, (m.2 67)), (68, (m.2 68)), (76, (m.2 76)), (77, (m.2 77)), (78, (m.2 78)), (79, (m.2 79)), (80, (m.2 80)), (81, (m.2 81)), (82, (m.2 82)), (83, (m.2 83)), (84, (m.2 84)), (85, (m.2 85)), (86, (m.2 86)), (87, (m.2 87)), (88, (m.2 88)), (89, (m.2 89)), (90, (m.2 90)), (91, (m.2 91)), (92, (m.2 92)), (105, (m.2 105)), (106, (m.2 106))]) [7, 8, 9, 10, 11, 12] [] rfl ⟨rfl, rfl, rfl, rfl, rfl, rfl, rfl, rfl, rfl, rfl, rfl, rfl, rfl, rfl, rfl, rfl, rfl, rfl, rfl, rfl, rfl, rfl, rfl, rfl, rfl, rfl, rfl, rfl, trivial⟩ ⟨rfl, rfl, rfl, rfl, rfl, rfl, rfl, rfl, rfl, rfl, rfl, rfl, rfl, rfl, rfl, rfl, rfl, rfl, rfl, rfl, rfl, rfl, rfl, rfl, rfl, rfl, rfl, rfl, rfl, rfl, rfl, rfl, rfl, rfl, rfl, rfl, rfl, rfl, rfl, rfl, rfl, rfl, rfl, rfl, rfl, rfl, trivial⟩ rfl rfl (by decide) (by decide) ?_
    replace h143 : LxP y131 y133 y135 (m.1 6) y137 := h143
    replace h144 : y137 = 0 → (m.1 10) = 0 ∧ (m.1 7) = (91 : Int) := h144
    replace h145 : (m.1 8) ≤ y133 := h145
    replace h146 : y137 = 0 → (m.1 8) + (m.1 9) ≤ y133 := h146
    have hf147 : 1 ≤ y137 := by omega
    clear h144
    clear h146
    have hLx := h143
    refine T_gf 10 (.ref 265) rfl rfl rfl rfl rfl rfl ?_
    refine T_ld 11 (.int (i32 s)) rfl (fun _ => rfl) ?_
    refine T_gf 15 (.int (i32 (m.1 28))) rfl rfl rfl rfl rfl rfl ?_
    have G148 : ∀ j, 0 ≤ (upI (m.2 105) s (m.1 28)) j ∧ (upI (m.2 105) s (m.1 28)) j ≤ 800 := upI_rg (hT.2.1 105) ⟨by omega, by omega⟩
    refine T_iast (a' := [(65, (m.2 65)), (66, (m.2 66)), (67, (m.2 67)), (68, (m.2 68)), (76, (m.2 76)), (77, (m.2 77)), (78, (m.2 78)), (79, (m.2 79)), (80, (m.2 80)), (81, (m.2 81)), (82, (m.2 82)), (83, (m.2 83)), (84, (m.2 84)), (85, (m.2 85)), (86, (m.2 86)), (87, (m.2 87)), (88, (m.2 88)), (89, (m.2 89)), (90, (m.2 90)), (91, (m.2 91)), (92, (m.2 92)), (105, upI (m.2 105) s (m.1 28)), (106, (m.2 106))]) 16 105 (m.2 105) rfl rfl rfl (by omega) (show s < (240 : Int) by omega) rfl rfl ?_
    refine T_gf 20 (.int (i32 y137)) rfl rfl rfl rfl rfl rfl ?_
    refine T_if 27 23 rfl rfl rfl (r32 (by omega) (by omega)) (fun (h149 : y137 ≠ 0) => ?_) (fun (h149 : ¬ (y137 ≠ 0)) => by exfalso; omega)
    refine T_gf 31 (.ref 266) rfl rfl rfl rfl rfl rfl ?_
    refine T_ld 32 (.int (i32 s)) rfl (fun _ => rfl) ?_
    refine T_gf 36 (.int (i32 (m.1 28))) rfl rfl rfl rfl rfl rfl ?_
    have G150 : ∀ j, 0 ≤ (upI (m.2 106) s (m.1 28)) j ∧ (upI (m.2 106) s (m.1 28)) j ≤ 800 := upI_rg (hT.2.1 106) ⟨by omega, by omega⟩
    refine T_iast (a' := [(65, (m.2 65)), (66, (m.2 66)), (67, (m.2 67)), (68, (m.2 68)), (76, (m.2 76)), (77, (m.2 77)), (78, (m.2 78)), (79, (m.2 79)), (80, (m.2 80)), (81, (m.2 81)), (82, (m.2 82)), (83, (m.2 83)), (84, (m.2 84)), (85, (m.2 85)), (86, (m.2 86)), (87, (m.2 87)), (88, (m.2 88)), (89, (m.2 89)), (90, (m.2 90)), (91, (m.2 91)), (92, (m.2 92)), (105, upI (m.2 105) s (m.1 28)), (106, upI (m.2 106) s (m.1 28))]) 37 106 (m.2 106) rfl rfl rfl (by omega) (show s < (240 : Int) by omega) rfl rfl ?_
    refine T_ld 38 (.ref 189) rfl (fun _ => rfl) ?_
    refine T_ld 40 (.int (i32 93)) rfl (fun _ => rfl) ?_
    refine T_call 43 232 [.ref 189, .int (i32 93)] [] rfl (fun _ => rfl) rfl (c_need w (mO m [(7, y131), (8, y133), (9, y135), (10, y137), (11, y139), (12, y141), (28, (m.1 28)), (69, (m.1 69)), (70, (m.1 70)), (71, (m.1 71)), (72, (m.1 72)), (73, (m.1 73)), (74, (m.1 74)), (75, (m.1 75))] [(65, (m.2 65)), (66, (m.2 66)), (67, (m.2 67)), (68, (m.2 68)), (76, (m.2 76)), (77, (m.2 77)), (78, (m.2 78)), (79, (m.2 79)), (80, (m.2 80)), (81, (m.2 81)), (82, (m.2 82)), (83, (m.2 83)), (84, (m.2 84)), (85, (m.2 85)), (86, (m.2 86)), (87, (m.2 87)), (88, (m.2 88)), (89, (m.2 89)), (90, (m.2 90)), (91, (m.2 91)), (92, (m.2 92)), (105, upI (m.2 105) s (m.1 28)), (106, upI (m.2 106) s (m.1 28))]) c N D (by omega) (Ty_mO hT rfl rfl ⟨g132, g134, g136, g138, g140, g142, f28, f69, f70, f71, f72, f73, f74, f75, trivial⟩ ⟨(hT.2.1 65), (hT.2.1 66), (hT.2.1 67), (hT.2.1 68), (hT.2.1 76), (hT.2.1 77), (hT.2.1 78), (hT.2.1 79), (hT.2.1 80), (hT.2.1 81), (hT.2.1 82), (hT.2.1 83), (hT.2.1 84), (hT.2.1 85), (hT.2.1 86), (hT.2.1 87), (hT.2.1 88), (hT.2.1 89), (hT.2.1 90), (hT.2.1 91), (hT.2.1 92), G148, G150, trivial⟩) 93 ⟨by decide, by decide⟩ (show 1 ≤ (93 : Int) by omega) (show LxP y131 y133 y135 (m.1 6) y137 by first | exact hLx | (intro h9; exfalso; omega) | (intro h9; have h8 := hLx (by omega); omega))) (fun rr151 k152 => ?_)
    obtain ⟨y153, y155, y157, y159, y161, y163, g154, g156, g158, g160, g162, g164, h165, h166, h167, h168, rfl⟩ := k152
    refine ⟨_, _, rfl, ?_⟩
    refine T_nf2 (st' := []) (l' := [(7, y153), (8, y155), (9, y157), (10, y159), (11, y161), (12, y163), (28, (m.1 28)), (69, (m.1 69)), (70, (m.1 70)), (71, (m.1 71)), (72, (m.1 72)), (73, (m.1 73)), (74, (m.1 74)), (75, (m.1 75))]) (a' := [(65, (m.2 65)), (66, (m.2 66)), (67, (m.2 67)), (68, (m.2 68)), (76, (m.2 76)), (77, (m.2 77)), (78, (m.2 78)), (79, (m.2 79)), (80, (m.2 80)), (81, (m.2 81)), (82, (m.2 82)), (83, (m.2 83)), (84, (m.2 84)), (85, (m.2 85)), (86, (m.2 86)), (87, (m.2 87)), (88, (m.2 88)), (89, (m.2 89)), (90, (m.2 90)), (91, (m.2 91)), (92, (m.2 92)), (105, upI (m.2 105) s (m.1 28)), (106, upI (m.2 106) s (m.1 28))]) [7, 8, 9, 10, 11, 12] [] rfl ⟨rfl, rfl, rfl, rfl, rfl, rfl, rfl, rfl, rfl, rfl, rfl, rfl, rfl, rfl, rfl, rfl, rfl, rfl, rfl, rfl, rfl, rfl, rfl, rfl, rfl, rfl, rfl, rfl, trivial⟩ ⟨rfl, rfl, rfl, rfl, rfl, rfl, rfl, rfl, rfl, rfl, rfl, rfl, rfl, rfl, rfl, rfl, rfl, rfl, rfl, rfl, rfl, rfl, rfl, rfl, rfl, rfl, rfl, rfl, rfl, rfl, rfl, rfl, rfl, rfl, rfl, rfl, rfl, rfl, rfl, rfl, rfl, rfl, rfl, rfl, rfl, rfl, trivial⟩ rfl rfl (by decide) (by decide) ?_
    replace h165 : LxP y153 y155 y157 (m.1 6) y159 := h165
    replace h166 : y159 = 0 → y137 = 0 ∧ y131 = (93 : Int) := h166
    replace h167 : y133 ≤ y155 := h167
    replace h168 : y159 = 0 → y133 + y135 ≤ y155 := h168
    have hf169 : 1 ≤ y159 := by omega
    clear h166
    clear h168
    have hLx := h165
    clear g132 g134 g136 g138 g140 g142 hf147 h143 h145 h149 h167
    refine T_ret rfl (fun _ => rfl) ?_
    exact ⟨(mO m [(7, y153), (8, y155), (9, y157), (10, y159), (11, y161), (12, y163), (28, (m.1 28)), (69, (m.1 69)), (70, (m.1 70)), (71, (m.1 71)), (72, (m.1 72)), (73, (m.1 73)), (74, (m.1 74)), (75, (m.1 75))] [(65, (m.2 65)), (66, (m.2 66)), (67, (m.2 67)), (68, (m.2 68)), (76, (m.2 76)), (77, (m.2 77)), (78, (m.2 78)), (79, (m.2 79)), (80, (m.2 80)), (81, (m.2 81)), (82, (m.2 82)), (83, (m.2 83)), (84, (m.2 84)), (85, (m.2 85)), (86, (m.2 86)), (87, (m.2 87)), (88, (m.2 88)), (89, (m.2 89)), (90, (m.2 90)), (91, (m.2 91)), (92, (m.2 92)), (105, upI (m.2 105) s (m.1 28)), (106, upI (m.2 106) s (m.1 28))]), (Ty_mO hT rfl rfl ⟨g154, g156, g158, g160, g162, g164, f28, f69, f70, f71, f72, f73, f74, f75, trivial⟩ ⟨(hT.2.1 65), (hT.2.1 66), (hT.2.1 67), (hT.2.1 68), (hT.2.1 76), (hT.2.1 77), (hT.2.1 78), (hT.2.1 79), (hT.2.1 80), (hT.2.1 81), (hT.2.1 82), (hT.2.1 83), (hT.2.1 84), (hT.2.1 85), (hT.2.1 86), (hT.2.1 87), (hT.2.1 88), (hT.2.1 89), (hT.2.1 90), (hT.2.1 91), (hT.2.1 92), G148, G150, trivial⟩), (show y159 = 0 → (m.1 10) = 0 by omega), (show LxP y153 y155 y157 (m.1 6) y159 by first | (first | exact hLx | exact (fun _ => hLx (by omega)) | (intro h9; exfalso; omega)) | (exfalso; omega)), (fun (h : y159 = 0) => absurd h (by omega)), rfl⟩
def Q_takeWorth (m : mR) (c : Nat → Option am_C) (N : Nat) (s : Int) (b : Int) : ag_Re af_T → Prop := fun R => ∃ (M : mR), Ty M ∧ ((M.1 10) = 0 → (m.1 10) = 0) ∧ (LxP (M.1 7) (M.1 8) (M.1 9) (m.1 6) (M.1 10)) ∧ (M.1 10 = 0 → ((m.1 8) + 1 ≤ (M.1 8)) ∧ (CN (M.2 65) (M.2 67) (M.1 28)) ∧ (agr (m.2 65) (M.2 65) (m.1 28)) ∧ ((m.1 28) ≤ (M.1 28)) ∧ (cdr (M.2 65) (M.1 28) ((M.2 107) s) ((M.2 108) s)) ∧ (agr (m.2 107) (M.2 107) s) ∧ (agr (m.2 108) (M.2 108) s)) ∧ R = (.inl (none), (mhp (mO m [(7, (M.1 7)), (8, (M.1 8)), (9, (M.1 9)), (10, (M.1 10)), (11, (M.1 11)), (12, (M.1 12)), (28, (M.1 28)), (69, (M.1 69)), (70, (M.1 70)), (71, (M.1 71)), (72, (M.1 72)), (73, (M.1 73)), (74, (M.1 74)), (75, (M.1 75))] [(65, (M.2 65)), (66, (M.2 66)), (67, (M.2 67)), (68, (M.2 68)), (76, (M.2 76)), (77, (M.2 77)), (78, (M.2 78)), (79, (M.2 79)), (80, (M.2 80)), (81, (M.2 81)), (82, (M.2 82)), (83, (M.2 83)), (84, (M.2 84)), (85, (M.2 85)), (86, (M.2 86)), (87, (M.2 87)), (88, (M.2 88)), (89, (M.2 89)), (90, (M.2 90)), (91, (M.2 91)), (92, (M.2 92)), (107, (M.2 107)), (108, (M.2 108))]) c, N), 0, 0)
set_option maxHeartbeats 8000000 in
theorem c_takeWorth (w : wX) (m : mR) (c : Nat → Option am_C) (N D : Nat) (hD : 12 ≤ D) (hT : Ty m) (s : Int) (b : Int) (qs : R32 s) (qb : R32 b) (hLx0 : LxP (m.1 7) (m.1 8) (m.1 9) (m.1 6) (m.1 10)) (hNM0 : ∀ k, (m.2 14) k + (m.2 15) k ≤ 4000) (hFA0 : ∀ k, (m.2 31) k + (m.2 32) k ≤ 4000) (hPA0 : ∀ k, (m.2 47) k + (m.2 48) k ≤ 4000) (p4 : 0 ≤ s ∧ s ≤ 239) (hC : m.1 10 = 0 → (PN (m.1 13) (m.1 19) (m.1 20) (m.1 21) (m.1 22) (m.1 23) (m.1 25) (m.1 26) (m.2 16) (m.2 17)) ∧ (CN (m.2 65) (m.2 67) (m.1 28))) : TC w D 272 [.ref 189, .int (i32 s), .int (i32 b)] (mhp m c, N) (Q_takeWorth m c N s b) := by
  obtain ⟨D, rfl⟩ : ∃ k, D = k + 1 := ⟨D - 1, by omega⟩
  obtain ⟨qsa, qsb⟩ := id qs
  obtain ⟨qba, qbb⟩ := id qb
  have hLx := hLx0
  have hNM := hNM0
  have hFA := hFA0
  have hPA := hPA0
  have f7 : 0 ≤ m.1 7 ∧ m.1 7 ≤ 330 := hT.1 7
  have f8 : 0 ≤ m.1 8 ∧ m.1 8 ≤ 4000 := hT.1 8
  have f9 : 0 ≤ m.1 9 ∧ m.1 9 ≤ 4000 := hT.1 9
  have f10 : 0 ≤ m.1 10 ∧ m.1 10 ≤ 8 := hT.1 10
  have f11 : (-1) ≤ m.1 11 ∧ m.1 11 ≤ 4000 := hT.1 11
  have f12 : (-9223372036854775808) ≤ m.1 12 ∧ m.1 12 ≤ 9223372036854775807 := hT.1 12
  have f28 : 0 ≤ m.1 28 ∧ m.1 28 ≤ 800 := hT.1 28
  have f69 : 0 ≤ m.1 69 ∧ m.1 69 ≤ 1024 := hT.1 69
  have f70 : 0 ≤ m.1 70 ∧ m.1 70 ≤ 4000 := hT.1 70
  have f71 : 0 ≤ m.1 71 ∧ m.1 71 ≤ 1 := hT.1 71
  have f72 : (-9223372036854775808) ≤ m.1 72 ∧ m.1 72 ≤ 9223372036854775807 := hT.1 72
  have f73 : 0 ≤ m.1 73 ∧ m.1 73 ≤ 60 := hT.1 73
  have f74 : 0 ≤ m.1 74 ∧ m.1 74 ≤ 24 := hT.1 74
  have f75 : 0 ≤ m.1 75 ∧ m.1 75 ≤ 3 := hT.1 75
  have f25 : 0 ≤ m.1 25 ∧ m.1 25 ≤ 16 := hT.1 25
  have f22 : 0 ≤ m.1 22 ∧ m.1 22 ≤ 8 := hT.1 22
  have f19 : 0 ≤ m.1 19 ∧ m.1 19 ≤ 12 := hT.1 19
  have f20 : 0 ≤ m.1 20 ∧ m.1 20 ≤ 12 := hT.1 20
  have f21 : 0 ≤ m.1 21 ∧ m.1 21 ≤ 16 := hT.1 21
  have f13 : 0 ≤ m.1 13 ∧ m.1 13 ≤ 120 := hT.1 13
  have f6 : 0 ≤ m.1 6 ∧ m.1 6 ≤ 4000 := hT.1 6
  have f23 : 0 ≤ m.1 23 ∧ m.1 23 ≤ 16 := hT.1 23
  have f26 : 0 ≤ m.1 26 ∧ m.1 26 ≤ 8 := hT.1 26
  refine Tc_of rfl ?_
  show TT w D pm_272 (0, [(0, .ref 189), (1, .int (i32 s)), (2, .int (i32 b))], [], (mhp m c, N), 0, 0) (Q_takeWorth m c N s b)
  rw [show (mhp m c, N) = (mhp (mO m [(7, (m.1 7)), (8, (m.1 8)), (9, (m.1 9)), (10, (m.1 10)), (11, (m.1 11)), (12, (m.1 12)), (28, (m.1 28)), (69, (m.1 69)), (70, (m.1 70)), (71, (m.1 71)), (72, (m.1 72)), (73, (m.1 73)), (74, (m.1 74)), (75, (m.1 75))] [(65, (m.2 65)), (66, (m.2 66)), (67, (m.2 67)), (68, (m.2 68)), (76, (m.2 76)), (77, (m.2 77)), (78, (m.2 78)), (79, (m.2 79)), (80, (m.2 80)), (81, (m.2 81)), (82, (m.2 82)), (83, (m.2 83)), (84, (m.2 84)), (85, (m.2 85)), (86, (m.2 86)), (87, (m.2 87)), (88, (m.2 88)), (89, (m.2 89)), (90, (m.2 90)), (91, (m.2 91)), (92, (m.2 92)), (107, (m.2 107)), (108, (m.2 108))]) c, N) from congrArg (fun M => (mhp M c, N)) (mO_pad m [7, 8, 9, 10, 11, 12, 28, 69, 70, 71, 72, 73, 74, 75] [65, 66, 67, 68, 76, 77, 78, 79, 80, 81, 82, 83, 84, 85, 86, 87, 88, 89, 90, 91, 92, 107, 108])]
  by_cases hf0 : m.1 10 = 0
  · skip
    obtain ⟨pPN, hCN⟩ := hC hf0
    have h7 := hLx (by omega)
    refine T_gf 4 (.ref 267) rfl rfl rfl rfl rfl rfl ?_
    refine T_ld 5 (.int (i32 s)) rfl (fun _ => rfl) ?_
    refine T_gf 9 (.int (i32 (m.1 28))) rfl rfl rfl rfl rfl rfl ?_
    have G2 : ∀ j, 0 ≤ (upI (m.2 107) s (m.1 28)) j ∧ (upI (m.2 107) s (m.1 28)) j ≤ 800 := upI_rg (hT.2.1 107) ⟨by omega, by omega⟩
    refine T_iast (a' := [(65, (m.2 65)), (66, (m.2 66)), (67, (m.2 67)), (68, (m.2 68)), (76, (m.2 76)), (77, (m.2 77)), (78, (m.2 78)), (79, (m.2 79)), (80, (m.2 80)), (81, (m.2 81)), (82, (m.2 82)), (83, (m.2 83)), (84, (m.2 84)), (85, (m.2 85)), (86, (m.2 86)), (87, (m.2 87)), (88, (m.2 88)), (89, (m.2 89)), (90, (m.2 90)), (91, (m.2 91)), (92, (m.2 92)), (107, upI (m.2 107) s (m.1 28)), (108, (m.2 108))]) 10 107 (m.2 107) rfl rfl rfl (by omega) (show s < (240 : Int) by omega) rfl rfl ?_
    refine T_gf 14 (.int (i32 (m.1 10))) rfl rfl rfl rfl rfl rfl ?_
    refine T_if 22 17 rfl rfl rfl (r32 (by omega) (by omega)) (fun (h3 : (m.1 10) ≠ 0) => by exfalso; omega) (fun (h3 : ¬ ((m.1 10) ≠ 0)) => ?_)
    refine T_ld 18 (.ref 189) rfl (fun _ => rfl) ?_
    refine T_ld 19 (.int (i32 b)) rfl (fun _ => rfl) ?_
    refine T_call 22 273 [.ref 189, .int (i32 b)] [] rfl (fun _ => rfl) rfl (c_exprOf w (mO m [(7, (m.1 7)), (8, (m.1 8)), (9, (m.1 9)), (10, (m.1 10)), (11, (m.1 11)), (12, (m.1 12)), (28, (m.1 28)), (69, (m.1 69)), (70, (m.1 70)), (71, (m.1 71)), (72, (m.1 72)), (73, (m.1 73)), (74, (m.1 74)), (75, (m.1 75))] [(65, (m.2 65)), (66, (m.2 66)), (67, (m.2 67)), (68, (m.2 68)), (76, (m.2 76)), (77, (m.2 77)), (78, (m.2 78)), (79, (m.2 79)), (80, (m.2 80)), (81, (m.2 81)), (82, (m.2 82)), (83, (m.2 83)), (84, (m.2 84)), (85, (m.2 85)), (86, (m.2 86)), (87, (m.2 87)), (88, (m.2 88)), (89, (m.2 89)), (90, (m.2 90)), (91, (m.2 91)), (92, (m.2 92)), (107, upI (m.2 107) s (m.1 28)), (108, (m.2 108))]) c N D (by omega) (Ty_mO hT rfl rfl ⟨f7, f8, f9, f10, f11, f12, f28, f69, f70, f71, f72, f73, f74, f75, trivial⟩ ⟨(hT.2.1 65), (hT.2.1 66), (hT.2.1 67), (hT.2.1 68), (hT.2.1 76), (hT.2.1 77), (hT.2.1 78), (hT.2.1 79), (hT.2.1 80), (hT.2.1 81), (hT.2.1 82), (hT.2.1 83), (hT.2.1 84), (hT.2.1 85), (hT.2.1 86), (hT.2.1 87), (hT.2.1 88), (hT.2.1 89), (hT.2.1 90), (hT.2.1 91), (hT.2.1 92), G2, (hT.2.1 108), trivial⟩) b (r32 (by omega) (by omega)) (show LxP (m.1 7) (m.1 8) (m.1 9) (m.1 6) (m.1 10) by first | exact hLx | exact (fun _ => hLx (by omega)) | (intro h9; exfalso; omega)) (show ∀ k, (m.2 14) k + (m.2 15) k ≤ 4000 by assumption) (show ∀ k, (m.2 31) k + (m.2 32) k ≤ 4000 by assumption) (show ∀ k, (m.2 47) k + (m.2 48) k ≤ 4000 by assumption) (fun _ => ⟨(show PN (m.1 13) (m.1 19) (m.1 20) (m.1 21) (m.1 22) (m.1 23) (m.1 25) (m.1 26) (m.2 16) (m.2 17) by assumption), (show CN (m.2 65) (m.2 67) (m.1 28) by assumption)⟩)) (fun rr4 k5 => ?_)
    obtain ⟨m6, hT7, h8, h9, c10, rfl⟩ := k5
    refine ⟨_, _, rfl, ?_⟩
    refine T_nf2 (st' := []) (l' := [(7, (m6.1 7)), (8, (m6.1 8)), (9, (m6.1 9)), (10, (m6.1 10)), (11, (m6.1 11)), (12, (m6.1 12)), (28, (m6.1 28)), (69, (m6.1 69)), (70, (m6.1 70)), (71, (m6.1 71)), (72, (m6.1 72)), (73, (m6.1 73)), (74, (m6.1 74)), (75, (m6.1 75))]) (a' := [(65, (m6.2 65)), (66, (m6.2 66)), (67, (m6.2 67)), (68, (m6.2 68)), (76, (m6.2 76)), (77, (m6.2 77)), (78, (m6.2 78)), (79, (m6.2 79)), (80, (m6.2 80)), (81, (m6.2 81)), (82, (m6.2 82)), (83, (m6.2 83)), (84, (m6.2 84)), (85, (m6.2 85)), (86, (m6.2 86)), (87, (m6.2 87)), (88, (m6.2 88)), (89, (m6.2 89)), (90, (m6.2 90)), (91, (m6.2 91)), (92, (m6.2 92)), (107, upI (m.2 107) s (m.1 28)), (108, (m.2 108))]) [7, 8, 9, 10, 11, 12, 28, 69, 70, 71, 72, 73, 74, 75] [65, 66, 67, 68, 76, 77, 78, 79, 80, 81, 82, 83, 84, 85, 86, 87, 88, 89, 90, 91, 92] rfl ⟨rfl, rfl, rfl, rfl, rfl, rfl, rfl, rfl, rfl, rfl, rfl, rfl, rfl, rfl, rfl, rfl, rfl, rfl, rfl, rfl, rfl, rfl, rfl, rfl, rfl, rfl, rfl, rfl, trivial⟩ ⟨rfl, rfl, rfl, rfl, rfl, rfl, rfl, rfl, rfl, rfl, rfl, rfl, rfl, rfl, rfl, rfl, rfl, rfl, rfl, rfl, rfl, rfl, rfl, rfl, rfl, rfl, rfl, rfl, rfl, rfl, rfl, rfl, rfl, rfl, rfl, rfl, rfl, rfl, rfl, rfl, rfl, rfl, rfl, rfl, rfl, rfl, trivial⟩ rfl rfl (by decide) (by decide) ?_
    have g11 : 0 ≤ m6.1 7 ∧ m6.1 7 ≤ 330 := hT7.1 7
    have g12 : 0 ≤ m6.1 8 ∧ m6.1 8 ≤ 4000 := hT7.1 8
    have g13 : 0 ≤ m6.1 9 ∧ m6.1 9 ≤ 4000 := hT7.1 9
    have g14 : 0 ≤ m6.1 10 ∧ m6.1 10 ≤ 8 := hT7.1 10
    have g15 : (-1) ≤ m6.1 11 ∧ m6.1 11 ≤ 4000 := hT7.1 11
    have g16 : (-9223372036854775808) ≤ m6.1 12 ∧ m6.1 12 ≤ 9223372036854775807 := hT7.1 12
    have g17 : 0 ≤ m6.1 28 ∧ m6.1 28 ≤ 800 := hT7.1 28
    have g18 : 0 ≤ m6.1 69 ∧ m6.1 69 ≤ 1024 := hT7.1 69
    have g19 : 0 ≤ m6.1 70 ∧ m6.1 70 ≤ 4000 := hT7.1 70
    have g20 : 0 ≤ m6.1 71 ∧ m6.1 71 ≤ 1 := hT7.1 71
    have g21 : (-9223372036854775808) ≤ m6.1 72 ∧ m6.1 72 ≤ 9223372036854775807 := hT7.1 72
    have g22 : 0 ≤ m6.1 73 ∧ m6.1 73 ≤ 60 := hT7.1 73
    have g23 : 0 ≤ m6.1 74 ∧ m6.1 74 ≤ 24 := hT7.1 74
    have g24 : 0 ≤ m6.1 75 ∧ m6.1 75 ≤ 3 := hT7.1 75
    by_cases hf25 : (m6.1 10) = 0
    · skip
      replace h8 : (m.1 10) = 0 := h8 hf25
      replace h9 : LxP (m6.1 7) (m6.1 8) (m6.1 9) (m.1 6) (m6.1 10) := h9
      have hLx := h9
      obtain ⟨c26, c27, c28, c29, c30, c31⟩ := c10 hf25
      replace c26 : (m.1 8) + 1 ≤ (m6.1 8) := c26
      replace c27 : (m6.1 69) ≤ 64 := c27
      replace c28 : (m.1 28) ≤ (m6.1 28) := c28
      replace c29 : okc (m6.2 65) (m.1 28) (m6.1 28) := c29
      have hOk := c29
      replace c30 : CN (m6.2 65) (m6.2 67) (m6.1 28) := c30
      have hCN := c30
      replace c31 : agr (m.2 65) (m6.2 65) (m.1 28) := c31
      have hAg := c31
      clear c10
      have u32 : (m.1 8) + 1 ≤ (m6.1 8) := by omega
      refine T_gf 26 (.ref 268) rfl rfl rfl rfl rfl rfl ?_
      refine T_ld 27 (.int (i32 s)) rfl (fun _ => rfl) ?_
      refine T_gf 31 (.int (i32 (m6.1 28))) rfl rfl rfl rfl rfl rfl ?_
      have G33 : ∀ j, 0 ≤ (upI (m.2 108) s (m6.1 28)) j ∧ (upI (m.2 108) s (m6.1 28)) j ≤ 800 := upI_rg (hT.2.1 108) ⟨by omega, by omega⟩
      refine T_iast (a' := [(65, (m6.2 65)), (66, (m6.2 66)), (67, (m6.2 67)), (68, (m6.2 68)), (76, (m6.2 76)), (77, (m6.2 77)), (78, (m6.2 78)), (79, (m6.2 79)), (80, (m6.2 80)), (81, (m6.2 81)), (82, (m6.2 82)), (83, (m6.2 83)), (84, (m6.2 84)), (85, (m6.2 85)), (86, (m6.2 86)), (87, (m6.2 87)), (88, (m6.2 88)), (89, (m6.2 89)), (90, (m6.2 90)), (91, (m6.2 91)), (92, (m6.2 92)), (107, upI (m.2 107) s (m.1 28)), (108, upI (m.2 108) s (m6.1 28))]) 32 108 (m.2 108) rfl rfl rfl (by omega) (show s < (240 : Int) by omega) rfl rfl ?_
      refine T_ret rfl (fun _ => rfl) ?_
      exact ⟨(mO m [(7, (m6.1 7)), (8, (m6.1 8)), (9, (m6.1 9)), (10, (m6.1 10)), (11, (m6.1 11)), (12, (m6.1 12)), (28, (m6.1 28)), (69, (m6.1 69)), (70, (m6.1 70)), (71, (m6.1 71)), (72, (m6.1 72)), (73, (m6.1 73)), (74, (m6.1 74)), (75, (m6.1 75))] [(65, (m6.2 65)), (66, (m6.2 66)), (67, (m6.2 67)), (68, (m6.2 68)), (76, (m6.2 76)), (77, (m6.2 77)), (78, (m6.2 78)), (79, (m6.2 79)), (80, (m6.2 80)), (81, (m6.2 81)), (82, (m6.2 82)), (83, (m6.2 83)), (84, (m6.2 84)), (85, (m6.2 85)), (86, (m6.2 86)), (87, (m6.2 87)), (88, (m6.2 88)), (89, (m6.2 89)), (90, (m6.2 90)), (91, (m6.2 91)), (92, (m6.2 92)), (107, upI (m.2 107) s (m.1 28)), (108, upI (m.2 108) s (m6.1 28))]), (Ty_mO hT rfl rfl ⟨(hT7.1 7), (hT7.1 8), (hT7.1 9), (hT7.1 10), (hT7.1 11), (hT7.1 12), (hT7.1 28), (hT7.1 69), (hT7.1 70), (hT7.1 71), (hT7.1 72), (hT7.1 73), (hT7.1 74), (hT7.1 75), trivial⟩ ⟨(hT7.2.1 65), (hT7.2.1 66), (hT7.2.1 67), (hT7.2.1 68), (hT7.2.1 76), (hT7.2.1 77), (hT7.2.1 78), (hT7.2.1 79), (hT7.2.1 80), (hT7.2.1 81), (hT7.2.1 82), (hT7.2.1 83), (hT7.2.1 84), (hT7.2.1 85), (hT7.2.1 86), (hT7.2.1 87), (hT7.2.1 88), (hT7.2.1 89), (hT7.2.1 90), (hT7.2.1 91), (hT7.2.1 92), G2, G33, trivial⟩), (show (m6.1 10) = 0 → (m.1 10) = 0 by omega), (show LxP (m6.1 7) (m6.1 8) (m6.1 9) (m.1 6) (m6.1 10) by first | (first | exact hLx | exact (fun _ => hLx (by omega)) | (intro h9; exfalso; omega)) | (exfalso; omega)), (fun _ => ⟨(show (m.1 8) + 1 ≤ (m6.1 8) by omega), (show CN (m6.2 65) (m6.2 67) (m6.1 28) by first | (exact hCN) | (exfalso; omega)), (show agr (m.2 65) (m6.2 65) (m.1 28) by first | (exact hAg) | (exfalso; omega)), (show (m.1 28) ≤ (m6.1 28) by omega), (show cdr (m6.2 65) (m6.1 28) ((upI (m.2 107) s (m.1 28)) s) ((upI (m.2 108) s (m6.1 28)) s) by first | (rw [upI_s, upI_s]; exact ⟨hOk, by omega⟩) | (exfalso; omega)), (show agr (m.2 107) (upI (m.2 107) s (m.1 28)) s by first | (exact agr_u (Int.le_refl _)) | (exfalso; omega)), (show agr (m.2 108) (upI (m.2 108) s (m6.1 28)) s by first | (exact agr_u (Int.le_refl _)) | (exfalso; omega))⟩), rfl⟩
    · skip
      clear c10
      clear h8
      replace h9 : LxP (m6.1 7) (m6.1 8) (m6.1 9) (m.1 6) (m6.1 10) := h9
      have hLx := h9
      have hf34 : 1 ≤ (m6.1 10) := by omega
      refine T_gf 26 (.ref 268) rfl rfl rfl rfl rfl rfl ?_
      refine T_ld 27 (.int (i32 s)) rfl (fun _ => rfl) ?_
      refine T_gf 31 (.int (i32 (m6.1 28))) rfl rfl rfl rfl rfl rfl ?_
      have G35 : ∀ j, 0 ≤ (upI (m.2 108) s (m6.1 28)) j ∧ (upI (m.2 108) s (m6.1 28)) j ≤ 800 := upI_rg (hT.2.1 108) ⟨by omega, by omega⟩
      refine T_iast (a' := [(65, (m6.2 65)), (66, (m6.2 66)), (67, (m6.2 67)), (68, (m6.2 68)), (76, (m6.2 76)), (77, (m6.2 77)), (78, (m6.2 78)), (79, (m6.2 79)), (80, (m6.2 80)), (81, (m6.2 81)), (82, (m6.2 82)), (83, (m6.2 83)), (84, (m6.2 84)), (85, (m6.2 85)), (86, (m6.2 86)), (87, (m6.2 87)), (88, (m6.2 88)), (89, (m6.2 89)), (90, (m6.2 90)), (91, (m6.2 91)), (92, (m6.2 92)), (107, upI (m.2 107) s (m.1 28)), (108, upI (m.2 108) s (m6.1 28))]) 32 108 (m.2 108) rfl rfl rfl (by omega) (show s < (240 : Int) by omega) rfl rfl ?_
      refine T_ret rfl (fun _ => rfl) ?_
      exact ⟨(mO m [(7, (m6.1 7)), (8, (m6.1 8)), (9, (m6.1 9)), (10, (m6.1 10)), (11, (m6.1 11)), (12, (m6.1 12)), (28, (m6.1 28)), (69, (m6.1 69)), (70, (m6.1 70)), (71, (m6.1 71)), (72, (m6.1 72)), (73, (m6.1 73)), (74, (m6.1 74)), (75, (m6.1 75))] [(65, (m6.2 65)), (66, (m6.2 66)), (67, (m6.2 67)), (68, (m6.2 68)), (76, (m6.2 76)), (77, (m6.2 77)), (78, (m6.2 78)), (79, (m6.2 79)), (80, (m6.2 80)), (81, (m6.2 81)), (82, (m6.2 82)), (83, (m6.2 83)), (84, (m6.2 84)), (85, (m6.2 85)), (86, (m6.2 86)), (87, (m6.2 87)), (88, (m6.2 88)), (89, (m6.2 89)), (90, (m6.2 90)), (91, (m6.2 91)), (92, (m6.2 92)), (107, upI (m.2 107) s (m.1 28)), (108, upI (m.2 108) s (m6.1 28))]), (Ty_mO hT rfl rfl ⟨(hT7.1 7), (hT7.1 8), (hT7.1 9), (hT7.1 10), (hT7.1 11), (hT7.1 12), (hT7.1 28), (hT7.1 69), (hT7.1 70), (hT7.1 71), (hT7.1 72), (hT7.1 73), (hT7.1 74), (hT7.1 75), trivial⟩ ⟨(hT7.2.1 65), (hT7.2.1 66), (hT7.2.1 67), (hT7.2.1 68), (hT7.2.1 76), (hT7.2.1 77), (hT7.2.1 78), (hT7.2.1 79), (hT7.2.1 80), (hT7.2.1 81), (hT7.2.1 82), (hT7.2.1 83), (hT7.2.1 84), (hT7.2.1 85), (hT7.2.1 86), (hT7.2.1 87), (hT7.2.1 88), (hT7.2.1 89), (hT7.2.1 90), (hT7.2.1 91), (hT7.2.1 92), G2, G35, trivial⟩), (show (m6.1 10) = 0 → (m.1 10) = 0 by omega), (show LxP (m6.1 7) (m6.1 8) (m6.1 9) (m.1 6) (m6.1 10) by first | (first | exact hLx | exact (fun _ => hLx (by omega)) | (intro h9; exfalso; omega)) | (exfalso; omega)), (fun (h : (m6.1 10) = 0) => absurd h (by omega)), rfl⟩
  · skip
    clear hC
    refine T_gf 4 (.ref 267) rfl rfl rfl rfl rfl rfl ?_
    refine T_ld 5 (.int (i32 s)) rfl (fun _ => rfl) ?_
    refine T_gf 9 (.int (i32 (m.1 28))) rfl rfl rfl rfl rfl rfl ?_
    have G36 : ∀ j, 0 ≤ (upI (m.2 107) s (m.1 28)) j ∧ (upI (m.2 107) s (m.1 28)) j ≤ 800 := upI_rg (hT.2.1 107) ⟨by omega, by omega⟩
    refine T_iast (a' := [(65, (m.2 65)), (66, (m.2 66)), (67, (m.2 67)), (68, (m.2 68)), (76, (m.2 76)), (77, (m.2 77)), (78, (m.2 78)), (79, (m.2 79)), (80, (m.2 80)), (81, (m.2 81)), (82, (m.2 82)), (83, (m.2 83)), (84, (m.2 84)), (85, (m.2 85)), (86, (m.2 86)), (87, (m.2 87)), (88, (m.2 88)), (89, (m.2 89)), (90, (m.2 90)), (91, (m.2 91)), (92, (m.2 92)), (107, upI (m.2 107) s (m.1 28)), (108, (m.2 108))]) 10 107 (m.2 107) rfl rfl rfl (by omega) (show s < (240 : Int) by omega) rfl rfl ?_
    refine T_gf 14 (.int (i32 (m.1 10))) rfl rfl rfl rfl rfl rfl ?_
    refine T_if 22 17 rfl rfl rfl (r32 (by omega) (by omega)) (fun (h37 : (m.1 10) ≠ 0) => ?_) (fun (h37 : ¬ ((m.1 10) ≠ 0)) => by exfalso; omega)
    refine T_gf 26 (.ref 268) rfl rfl rfl rfl rfl rfl ?_
    refine T_ld 27 (.int (i32 s)) rfl (fun _ => rfl) ?_
    refine T_gf 31 (.int (i32 (m.1 28))) rfl rfl rfl rfl rfl rfl ?_
    have G38 : ∀ j, 0 ≤ (upI (m.2 108) s (m.1 28)) j ∧ (upI (m.2 108) s (m.1 28)) j ≤ 800 := upI_rg (hT.2.1 108) ⟨by omega, by omega⟩
    refine T_iast (a' := [(65, (m.2 65)), (66, (m.2 66)), (67, (m.2 67)), (68, (m.2 68)), (76, (m.2 76)), (77, (m.2 77)), (78, (m.2 78)), (79, (m.2 79)), (80, (m.2 80)), (81, (m.2 81)), (82, (m.2 82)), (83, (m.2 83)), (84, (m.2 84)), (85, (m.2 85)), (86, (m.2 86)), (87, (m.2 87)), (88, (m.2 88)), (89, (m.2 89)), (90, (m.2 90)), (91, (m.2 91)), (92, (m.2 92)), (107, upI (m.2 107) s (m.1 28)), (108, upI (m.2 108) s (m.1 28))]) 32 108 (m.2 108) rfl rfl rfl (by omega) (show s < (240 : Int) by omega) rfl rfl ?_
    refine T_ret rfl (fun _ => rfl) ?_
    exact ⟨(mO m [(7, (m.1 7)), (8, (m.1 8)), (9, (m.1 9)), (10, (m.1 10)), (11, (m.1 11)), (12, (m.1 12)), (28, (m.1 28)), (69, (m.1 69)), (70, (m.1 70)), (71, (m.1 71)), (72, (m.1 72)), (73, (m.1 73)), (74, (m.1 74)), (75, (m.1 75))] [(65, (m.2 65)), (66, (m.2 66)), (67, (m.2 67)), (68, (m.2 68)), (76, (m.2 76)), (77, (m.2 77)), (78, (m.2 78)), (79, (m.2 79)), (80, (m.2 80)), (81, (m.2 81)), (82, (m.2 82)), (83, (m.2 83)), (84, (m.2 84)), (85, (m.2 85)), (86, (m.2 86)), (87, (m.2 87)), (88, (m.2 88)), (89, (m.2 89)), (90, (m.2 90)), (91, (m.2 91)), (92, (m.2 92)), (107, upI (m.2 107) s (m.1 28)), (108, upI (m.2 108) s (m.1 28))]), (Ty_mO hT rfl rfl ⟨f7, f8, f9, f10, f11, f12, f28, f69, f70, f71, f72, f73, f74, f75, trivial⟩ ⟨(hT.2.1 65), (hT.2.1 66), (hT.2.1 67), (hT.2.1 68), (hT.2.1 76), (hT.2.1 77), (hT.2.1 78), (hT.2.1 79), (hT.2.1 80), (hT.2.1 81), (hT.2.1 82), (hT.2.1 83), (hT.2.1 84), (hT.2.1 85), (hT.2.1 86), (hT.2.1 87), (hT.2.1 88), (hT.2.1 89), (hT.2.1 90), (hT.2.1 91), (hT.2.1 92), G36, G38, trivial⟩), (show (m.1 10) = 0 → (m.1 10) = 0 by omega), (show LxP (m.1 7) (m.1 8) (m.1 9) (m.1 6) (m.1 10) by first | (first | exact hLx | exact (fun _ => hLx (by omega)) | (intro h9; exfalso; omega)) | (exfalso; omega)), (fun (h : (m.1 10) = 0) => absurd h (by omega)), rfl⟩
def Q_takeStatement (m : mR) (c : Nat → Option am_C) (N : Nat) : ag_Re af_T → Prop := fun R => ∃ (M : mR), Ty M ∧ ((M.1 10) = 0 → (m.1 10) = 0) ∧ (LxP (M.1 7) (M.1 8) (M.1 9) (m.1 6) (M.1 10)) ∧ ((M.1 99) = (m.1 99) + 1) ∧ (M.1 10 = 0 → ((m.1 8) + 1 ≤ (M.1 8)) ∧ ((m.1 28) ≤ (M.1 28)) ∧ (CN (M.2 65) (M.2 67) (M.1 28)) ∧ (agr (m.2 65) (M.2 65) (m.1 28)) ∧ (TdP (M.2 65) (M.1 28) (m.1 22) (M.1 99) (M.2 101) (M.2 103) (M.2 105) (M.2 106) (M.2 107) (M.2 108))) ∧ R = (.inl (none), (mhp (mO m [(7, (M.1 7)), (8, (M.1 8)), (9, (M.1 9)), (10, (M.1 10)), (11, (M.1 11)), (12, (M.1 12)), (28, (M.1 28)), (69, (M.1 69)), (70, (M.1 70)), (71, (M.1 71)), (72, (M.1 72)), (73, (M.1 73)), (74, (M.1 74)), (75, (M.1 75)), (99, (M.1 99)), (100, (M.1 100))] [(65, (M.2 65)), (66, (M.2 66)), (67, (M.2 67)), (68, (M.2 68)), (76, (M.2 76)), (77, (M.2 77)), (78, (M.2 78)), (79, (M.2 79)), (80, (M.2 80)), (81, (M.2 81)), (82, (M.2 82)), (83, (M.2 83)), (84, (M.2 84)), (85, (M.2 85)), (86, (M.2 86)), (87, (M.2 87)), (88, (M.2 88)), (89, (M.2 89)), (90, (M.2 90)), (91, (M.2 91)), (92, (M.2 92)), (101, (M.2 101)), (102, (M.2 102)), (103, (M.2 103)), (104, (M.2 104)), (105, (M.2 105)), (106, (M.2 106)), (107, (M.2 107)), (108, (M.2 108))]) c, N), 0, 0)
set_option maxHeartbeats 8000000 in
theorem c_takeStatement (w : wX) (m : mR) (c : Nat → Option am_C) (N D : Nat) (hD : 13 ≤ D) (hT : Ty m) (hLx0 : LxP (m.1 7) (m.1 8) (m.1 9) (m.1 6) (m.1 10)) (hNM0 : ∀ k, (m.2 14) k + (m.2 15) k ≤ 4000) (hFA0 : ∀ k, (m.2 31) k + (m.2 32) k ≤ 4000) (hPA0 : ∀ k, (m.2 47) k + (m.2 48) k ≤ 4000) (p4 : (m.1 99) ≤ 239) (hf0 : m.1 10 = 0) (hC : (PN (m.1 13) (m.1 19) (m.1 20) (m.1 21) (m.1 22) (m.1 23) (m.1 25) (m.1 26) (m.2 16) (m.2 17)) ∧ (CN (m.2 65) (m.2 67) (m.1 28)) ∧ ((m.1 7) ≠ 0) ∧ (TdP (m.2 65) (m.1 28) (m.1 22) (m.1 99) (m.2 101) (m.2 103) (m.2 105) (m.2 106) (m.2 107) (m.2 108))) : TC w D 270 [.ref 189] (mhp m c, N) (Q_takeStatement m c N) := by
  obtain ⟨D, rfl⟩ : ∃ k, D = k + 1 := ⟨D - 1, by omega⟩
  have hLx := hLx0
  have hNM := hNM0
  have hFA := hFA0
  have hPA := hPA0
  have f7 : 0 ≤ m.1 7 ∧ m.1 7 ≤ 330 := hT.1 7
  have f8 : 0 ≤ m.1 8 ∧ m.1 8 ≤ 4000 := hT.1 8
  have f9 : 0 ≤ m.1 9 ∧ m.1 9 ≤ 4000 := hT.1 9
  have f10 : 0 ≤ m.1 10 ∧ m.1 10 ≤ 8 := hT.1 10
  have f11 : (-1) ≤ m.1 11 ∧ m.1 11 ≤ 4000 := hT.1 11
  have f12 : (-9223372036854775808) ≤ m.1 12 ∧ m.1 12 ≤ 9223372036854775807 := hT.1 12
  have f28 : 0 ≤ m.1 28 ∧ m.1 28 ≤ 800 := hT.1 28
  have f69 : 0 ≤ m.1 69 ∧ m.1 69 ≤ 1024 := hT.1 69
  have f70 : 0 ≤ m.1 70 ∧ m.1 70 ≤ 4000 := hT.1 70
  have f71 : 0 ≤ m.1 71 ∧ m.1 71 ≤ 1 := hT.1 71
  have f72 : (-9223372036854775808) ≤ m.1 72 ∧ m.1 72 ≤ 9223372036854775807 := hT.1 72
  have f73 : 0 ≤ m.1 73 ∧ m.1 73 ≤ 60 := hT.1 73
  have f74 : 0 ≤ m.1 74 ∧ m.1 74 ≤ 24 := hT.1 74
  have f75 : 0 ≤ m.1 75 ∧ m.1 75 ≤ 3 := hT.1 75
  have f99 : 0 ≤ m.1 99 ∧ m.1 99 ≤ 240 := hT.1 99
  have f100 : 0 ≤ m.1 100 ∧ m.1 100 ≤ 64 := hT.1 100
  have f25 : 0 ≤ m.1 25 ∧ m.1 25 ≤ 16 := hT.1 25
  have f22 : 0 ≤ m.1 22 ∧ m.1 22 ≤ 8 := hT.1 22
  have f19 : 0 ≤ m.1 19 ∧ m.1 19 ≤ 12 := hT.1 19
  have f20 : 0 ≤ m.1 20 ∧ m.1 20 ≤ 12 := hT.1 20
  have f21 : 0 ≤ m.1 21 ∧ m.1 21 ≤ 16 := hT.1 21
  have f13 : 0 ≤ m.1 13 ∧ m.1 13 ≤ 120 := hT.1 13
  have f6 : 0 ≤ m.1 6 ∧ m.1 6 ≤ 4000 := hT.1 6
  have f23 : 0 ≤ m.1 23 ∧ m.1 23 ≤ 16 := hT.1 23
  have f26 : 0 ≤ m.1 26 ∧ m.1 26 ≤ 8 := hT.1 26
  refine Tc_of rfl ?_
  show TT w D pm_270 (0, [(0, .ref 189)], [], (mhp m c, N), 0, 0) (Q_takeStatement m c N)
  rw [show (mhp m c, N) = (mhp (mO m [(7, (m.1 7)), (8, (m.1 8)), (9, (m.1 9)), (10, (m.1 10)), (11, (m.1 11)), (12, (m.1 12)), (28, (m.1 28)), (69, (m.1 69)), (70, (m.1 70)), (71, (m.1 71)), (72, (m.1 72)), (73, (m.1 73)), (74, (m.1 74)), (75, (m.1 75)), (99, (m.1 99)), (100, (m.1 100))] [(65, (m.2 65)), (66, (m.2 66)), (67, (m.2 67)), (68, (m.2 68)), (76, (m.2 76)), (77, (m.2 77)), (78, (m.2 78)), (79, (m.2 79)), (80, (m.2 80)), (81, (m.2 81)), (82, (m.2 82)), (83, (m.2 83)), (84, (m.2 84)), (85, (m.2 85)), (86, (m.2 86)), (87, (m.2 87)), (88, (m.2 88)), (89, (m.2 89)), (90, (m.2 90)), (91, (m.2 91)), (92, (m.2 92)), (101, (m.2 101)), (102, (m.2 102)), (103, (m.2 103)), (104, (m.2 104)), (105, (m.2 105)), (106, (m.2 106)), (107, (m.2 107)), (108, (m.2 108))]) c, N) from congrArg (fun M => (mhp M c, N)) (mO_pad m [7, 8, 9, 10, 11, 12, 28, 69, 70, 71, 72, 73, 74, 75, 99, 100] [65, 66, 67, 68, 76, 77, 78, 79, 80, 81, 82, 83, 84, 85, 86, 87, 88, 89, 90, 91, 92, 101, 102, 103, 104, 105, 106, 107, 108])]
  obtain ⟨pPN, hCN, c1, pTd⟩ := hC
  have h7 := hLx (by omega)
  have hAgC := agr_r (m.2 65) (m.1 28)
  have J235_28 : ∀ (m27 : mR), (Ty m27) → (1 ≤ (m27.1 10)) → ((m27.1 10) ≤ 8) → (0 ≤ ((m.1 99) + 1) ∧ ((m.1 99) + 1) ≤ 240) → (0 ≤ (m.1 99) ∧ (m.1 99) ≤ 240) → TT w D pm_270 (235, [(0, .ref 189), (1, .int (i32 (m.1 99)))], [], (mhp (mO m [(7, (m27.1 7)), (8, (m27.1 8)), (9, (m27.1 9)), (10, (m27.1 10)), (11, (m27.1 11)), (12, (m27.1 12)), (28, (m27.1 28)), (69, (m27.1 69)), (70, (m27.1 70)), (71, (m27.1 71)), (72, (m27.1 72)), (73, (m27.1 73)), (74, (m27.1 74)), (75, (m27.1 75)), (99, (m.1 99) + 1), (100, (m27.1 100))] [(65, (m27.2 65)), (66, (m27.2 66)), (67, (m27.2 67)), (68, (m27.2 68)), (76, (m27.2 76)), (77, (m27.2 77)), (78, (m27.2 78)), (79, (m27.2 79)), (80, (m27.2 80)), (81, (m27.2 81)), (82, (m27.2 82)), (83, (m27.2 83)), (84, (m27.2 84)), (85, (m27.2 85)), (86, (m27.2 86)), (87, (m27.2 87)), (88, (m27.2 88)), (89, (m27.2 89)), (90, (m27.2 90)), (91, (m27.2 91)), (92, (m27.2 92)), (101, (m27.2 101)), (102, (m27.2 102)), (103, (m27.2 103)), (104, (m27.2 104)), (105, (m27.2 105)), (106, (m27.2 106)), (107, (m27.2 107)), (108, (m27.2 108))]) c, N), 0, 0) (Q_takeStatement m c N) := by
    intro m27 q29 ic30 ic31 ic32 ic33
    have q29_7 : 0 ≤ m27.1 7 ∧ m27.1 7 ≤ 330 := q29.1 7
    have q29_8 : 0 ≤ m27.1 8 ∧ m27.1 8 ≤ 4000 := q29.1 8
    have q29_9 : 0 ≤ m27.1 9 ∧ m27.1 9 ≤ 4000 := q29.1 9
    have q29_10 : 0 ≤ m27.1 10 ∧ m27.1 10 ≤ 8 := q29.1 10
    have q29_11 : (-1) ≤ m27.1 11 ∧ m27.1 11 ≤ 4000 := q29.1 11
    have q29_12 : (-9223372036854775808) ≤ m27.1 12 ∧ m27.1 12 ≤ 9223372036854775807 := q29.1 12
    have q29_28 : 0 ≤ m27.1 28 ∧ m27.1 28 ≤ 800 := q29.1 28
    have q29_69 : 0 ≤ m27.1 69 ∧ m27.1 69 ≤ 1024 := q29.1 69
    have q29_70 : 0 ≤ m27.1 70 ∧ m27.1 70 ≤ 4000 := q29.1 70
    have q29_71 : 0 ≤ m27.1 71 ∧ m27.1 71 ≤ 1 := q29.1 71
    have q29_72 : (-9223372036854775808) ≤ m27.1 72 ∧ m27.1 72 ≤ 9223372036854775807 := q29.1 72
    have q29_73 : 0 ≤ m27.1 73 ∧ m27.1 73 ≤ 60 := q29.1 73
    have q29_74 : 0 ≤ m27.1 74 ∧ m27.1 74 ≤ 24 := q29.1 74
    have q29_75 : 0 ≤ m27.1 75 ∧ m27.1 75 ≤ 3 := q29.1 75
    have q29_100 : 0 ≤ m27.1 100 ∧ m27.1 100 ≤ 64 := q29.1 100
    refine T_ret rfl (fun _ => rfl) ?_
    exact ⟨(mO m [(7, (m27.1 7)), (8, (m27.1 8)), (9, (m27.1 9)), (10, (m27.1 10)), (11, (m27.1 11)), (12, (m27.1 12)), (28, (m27.1 28)), (69, (m27.1 69)), (70, (m27.1 70)), (71, (m27.1 71)), (72, (m27.1 72)), (73, (m27.1 73)), (74, (m27.1 74)), (75, (m27.1 75)), (99, (m.1 99) + 1), (100, (m27.1 100))] [(65, (m27.2 65)), (66, (m27.2 66)), (67, (m27.2 67)), (68, (m27.2 68)), (76, (m27.2 76)), (77, (m27.2 77)), (78, (m27.2 78)), (79, (m27.2 79)), (80, (m27.2 80)), (81, (m27.2 81)), (82, (m27.2 82)), (83, (m27.2 83)), (84, (m27.2 84)), (85, (m27.2 85)), (86, (m27.2 86)), (87, (m27.2 87)), (88, (m27.2 88)), (89, (m27.2 89)), (90, (m27.2 90)), (91, (m27.2 91)), (92, (m27.2 92)), (101, (m27.2 101)), (102, (m27.2 102)), (103, (m27.2 103)), (104, (m27.2 104)), (105, (m27.2 105)), (106, (m27.2 106)), (107, (m27.2 107)), (108, (m27.2 108))]), (Ty_mO hT rfl rfl ⟨(q29.1 7), (q29.1 8), (q29.1 9), (q29.1 10), (q29.1 11), (q29.1 12), (q29.1 28), (q29.1 69), (q29.1 70), (q29.1 71), (q29.1 72), (q29.1 73), (q29.1 74), (q29.1 75), ⟨(by omega : (0 : Int) ≤ (m.1 99) + 1), (by omega : ((m.1 99) + 1 : Int) ≤ 240)⟩, (q29.1 100), trivial⟩ ⟨(q29.2.1 65), (q29.2.1 66), (q29.2.1 67), (q29.2.1 68), (q29.2.1 76), (q29.2.1 77), (q29.2.1 78), (q29.2.1 79), (q29.2.1 80), (q29.2.1 81), (q29.2.1 82), (q29.2.1 83), (q29.2.1 84), (q29.2.1 85), (q29.2.1 86), (q29.2.1 87), (q29.2.1 88), (q29.2.1 89), (q29.2.1 90), (q29.2.1 91), (q29.2.1 92), (q29.2.1 101), (q29.2.1 102), (q29.2.1 103), (q29.2.1 104), (q29.2.1 105), (q29.2.1 106), (q29.2.1 107), (q29.2.1 108), trivial⟩), (show (m27.1 10) = 0 → (m.1 10) = 0 by omega), (show LxP (m27.1 7) (m27.1 8) (m27.1 9) (m.1 6) (m27.1 10) by first | (first | exact hLx | exact (fun _ => hLx (by omega)) | (intro h9; exfalso; omega)) | (exfalso; omega)), (show ((m.1 99) + 1) = (m.1 99) + 1 by omega), (fun (h : (m27.1 10) = 0) => absurd h (by omega)), rfl⟩
  have J228_37 : ∀ (s35 : Int) (m36 : mR), (R32 s35) → (Ty m36) → (0 ≤ s35) → (s35 ≤ 11) → (1 ≤ (m36.1 10)) → ((m36.1 10) ≤ 8) → (0 ≤ ((m.1 99) + 1) ∧ ((m.1 99) + 1) ≤ 240) → (0 ≤ (m.1 99) ∧ (m.1 99) ≤ 240) → TT w D pm_270 (228, [(0, .ref 189), (1, .int (i32 (m.1 99)))], [.int (i32 s35), .int (i32 (m.1 99)), .ref 264], (mhp (mO m [(7, (m36.1 7)), (8, (m36.1 8)), (9, (m36.1 9)), (10, (m36.1 10)), (11, (m36.1 11)), (12, (m36.1 12)), (28, (m.1 28)), (69, (m.1 69)), (70, (m.1 70)), (71, (m.1 71)), (72, (m.1 72)), (73, (m.1 73)), (74, (m.1 74)), (75, (m.1 75)), (99, (m.1 99) + 1), (100, (m.1 100))] [(65, (m.2 65)), (66, (m.2 66)), (67, (m.2 67)), (68, (m.2 68)), (76, (m.2 76)), (77, (m.2 77)), (78, (m.2 78)), (79, (m.2 79)), (80, (m.2 80)), (81, (m.2 81)), (82, (m.2 82)), (83, (m.2 83)), (84, (m.2 84)), (85, (m.2 85)), (86, (m.2 86)), (87, (m.2 87)), (88, (m.2 88)), (89, (m.2 89)), (90, (m.2 90)), (91, (m.2 91)), (92, (m.2 92)), (101, (m36.2 101)), (102, (m.2 102)), (103, (m.2 103)), (104, (m.2 104)), (105, (m.2 105)), (106, (m.2 106)), (107, (m.2 107)), (108, (m.2 108))]) c, N), 0, 0) (Q_takeStatement m c N) := by
    intro s35 m36 q38 q39 ic40 ic41 ic42 ic43 ic44 ic45
    obtain ⟨q38a, q38b⟩ := id q38
    have q39_7 : 0 ≤ m36.1 7 ∧ m36.1 7 ≤ 330 := q39.1 7
    have q39_8 : 0 ≤ m36.1 8 ∧ m36.1 8 ≤ 4000 := q39.1 8
    have q39_9 : 0 ≤ m36.1 9 ∧ m36.1 9 ≤ 4000 := q39.1 9
    have q39_10 : 0 ≤ m36.1 10 ∧ m36.1 10 ≤ 8 := q39.1 10
    have q39_11 : (-1) ≤ m36.1 11 ∧ m36.1 11 ≤ 4000 := q39.1 11
    have q39_12 : (-9223372036854775808) ≤ m36.1 12 ∧ m36.1 12 ≤ 9223372036854775807 := q39.1 12
    have G47 : ∀ j, 0 ≤ (upI (m.2 104) (m.1 99) s35) j ∧ (upI (m.2 104) (m.1 99) s35) j ≤ 11 := upI_rg (hT.2.1 104) ⟨by omega, by omega⟩
    refine T_iast (a' := [(65, (m.2 65)), (66, (m.2 66)), (67, (m.2 67)), (68, (m.2 68)), (76, (m.2 76)), (77, (m.2 77)), (78, (m.2 78)), (79, (m.2 79)), (80, (m.2 80)), (81, (m.2 81)), (82, (m.2 82)), (83, (m.2 83)), (84, (m.2 84)), (85, (m.2 85)), (86, (m.2 86)), (87, (m.2 87)), (88, (m.2 88)), (89, (m.2 89)), (90, (m.2 90)), (91, (m.2 91)), (92, (m.2 92)), (101, (m36.2 101)), (102, (m.2 102)), (103, (m.2 103)), (104, upI (m.2 104) (m.1 99) s35), (105, (m.2 105)), (106, (m.2 106)), (107, (m.2 107)), (108, (m.2 108))]) 229 104 (m.2 104) rfl rfl rfl (by omega) (show (m.1 99) < (240 : Int) by omega) rfl rfl ?_
    refine T_ld 230 (.ref 189) rfl (fun _ => rfl) ?_
    refine T_ld 232 (.int (i32 59)) rfl (fun _ => rfl) ?_
    refine T_call 235 232 [.ref 189, .int (i32 59)] [] rfl (fun _ => rfl) rfl (c_need w (mO m [(7, (m36.1 7)), (8, (m36.1 8)), (9, (m36.1 9)), (10, (m36.1 10)), (11, (m36.1 11)), (12, (m36.1 12)), (28, (m.1 28)), (69, (m.1 69)), (70, (m.1 70)), (71, (m.1 71)), (72, (m.1 72)), (73, (m.1 73)), (74, (m.1 74)), (75, (m.1 75)), (99, (m.1 99) + 1), (100, (m.1 100))] [(65, (m.2 65)), (66, (m.2 66)), (67, (m.2 67)), (68, (m.2 68)), (76, (m.2 76)), (77, (m.2 77)), (78, (m.2 78)), (79, (m.2 79)), (80, (m.2 80)), (81, (m.2 81)), (82, (m.2 82)), (83, (m.2 83)), (84, (m.2 84)), (85, (m.2 85)), (86, (m.2 86)), (87, (m.2 87)), (88, (m.2 88)), (89, (m.2 89)), (90, (m.2 90)), (91, (m.2 91)), (92, (m.2 92)), (101, (m36.2 101)), (102, (m.2 102)), (103, (m.2 103)), (104, upI (m.2 104) (m.1 99) s35), (105, (m.2 105)), (106, (m.2 106)), (107, (m.2 107)), (108, (m.2 108))]) c N D (by omega) (Ty_mO hT rfl rfl ⟨(q39.1 7), (q39.1 8), (q39.1 9), (q39.1 10), (q39.1 11), (q39.1 12), f28, f69, f70, f71, f72, f73, f74, f75, ⟨(by omega : (0 : Int) ≤ (m.1 99) + 1), (by omega : ((m.1 99) + 1 : Int) ≤ 240)⟩, f100, trivial⟩ ⟨(hT.2.1 65), (hT.2.1 66), (hT.2.1 67), (hT.2.1 68), (hT.2.1 76), (hT.2.1 77), (hT.2.1 78), (hT.2.1 79), (hT.2.1 80), (hT.2.1 81), (hT.2.1 82), (hT.2.1 83), (hT.2.1 84), (hT.2.1 85), (hT.2.1 86), (hT.2.1 87), (hT.2.1 88), (hT.2.1 89), (hT.2.1 90), (hT.2.1 91), (hT.2.1 92), (q39.2.1 101), (hT.2.1 102), (hT.2.1 103), G47, (hT.2.1 105), (hT.2.1 106), (hT.2.1 107), (hT.2.1 108), trivial⟩) 59 ⟨by decide, by decide⟩ (show 1 ≤ (59 : Int) by omega) (show LxP (m36.1 7) (m36.1 8) (m36.1 9) (m.1 6) (m36.1 10) by first | exact hLx | (intro h9; exfalso; omega) | (intro h9; have h8 := hLx (by omega); omega))) (fun rr48 k49 => ?_)
    obtain ⟨y50, y52, y54, y56, y58, y60, g51, g53, g55, g57, g59, g61, h62, h63, h64, h65, rfl⟩ := k49
    refine ⟨_, _, rfl, ?_⟩
    refine T_nf2 (st' := []) (l' := [(7, y50), (8, y52), (9, y54), (10, y56), (11, y58), (12, y60), (28, (m.1 28)), (69, (m.1 69)), (70, (m.1 70)), (71, (m.1 71)), (72, (m.1 72)), (73, (m.1 73)), (74, (m.1 74)), (75, (m.1 75)), (99, (m.1 99) + 1), (100, (m.1 100))]) (a' := [(65, (m.2 65)), (66, (m.2 66)), (67, (m.2 67)), (68, (m.2 68)), (76, (m.2 76)), (77, (m.2 77)), (78, (m.2 78)), (79, (m.2 79)), (80, (m.2 80)), (81, (m.2 81)), (82, (m.2 82)), (83, (m.2 83)), (84, (m.2 84)), (85, (m.2 85)), (86, (m.2 86)), (87, (m.2 87)), (88, (m.2 88)), (89, (m.2 89)), (90, (m.2 90)), (91, (m.2 91)), (92, (m.2 92)), (101, (m36.2 101)), (102, (m.2 102)), (103, (m.2 103)), (104, upI (m.2 104) (m.1 99) s35), (105, (m.2 105)), (106, (m.2 106)), (107, (m.2 107)), (108, (m.2 108))]) [7, 8, 9, 10, 11, 12] [] rfl ⟨rfl, rfl, rfl, rfl, rfl, rfl, rfl, rfl, rfl, rfl, rfl, rfl, rfl, rfl, rfl, rfl, rfl, rfl, rfl, rfl, rfl, rfl, rfl, rfl, rfl, rfl, rfl, rfl, rfl, rfl, rfl, rfl, trivial⟩ ⟨rfl, rfl, rfl, rfl, rfl, rfl, rfl, rfl, rfl, rfl, rfl, rfl, rfl, rfl, rfl, rfl, rfl, rfl, rfl, rfl, rfl, rfl, rfl, rfl, rfl, rfl, rfl, rfl, rfl, rfl, rfl, rfl, rfl, rfl, rfl, rfl, rfl, rfl, rfl, rfl, rfl, rfl, rfl, rfl, rfl, rfl, rfl, rfl, rfl, rfl, rfl, rfl, rfl, rfl, rfl, rfl, rfl, rfl, trivial⟩ rfl rfl (by decide) (by decide) ?_
    replace h62 : LxP y50 y52 y54 (m.1 6) y56 := h62
    replace h63 : y56 = 0 → (m36.1 10) = 0 ∧ (m36.1 7) = (59 : Int) := h63
    replace h64 : (m36.1 8) ≤ y52 := h64
    replace h65 : y56 = 0 → (m36.1 8) + (m36.1 9) ≤ y52 := h65
    have hf66 : 1 ≤ y56 := by omega
    clear h63
    clear h65
    have hLx := h62
    clear q39_7 q39_8 q39_9 q39_10 q39_11 q39_12 ic42 ic43 h64
    exact J235_28 (mO m [(7, y50), (8, y52), (9, y54), (10, y56), (11, y58), (12, y60), (28, (m.1 28)), (69, (m.1 69)), (70, (m.1 70)), (71, (m.1 71)), (72, (m.1 72)), (73, (m.1 73)), (74, (m.1 74)), (75, (m.1 75)), (99, (m.1 99) + 1), (100, (m.1 100))] [(65, (m.2 65)), (66, (m.2 66)), (67, (m.2 67)), (68, (m.2 68)), (76, (m.2 76)), (77, (m.2 77)), (78, (m.2 78)), (79, (m.2 79)), (80, (m.2 80)), (81, (m.2 81)), (82, (m.2 82)), (83, (m.2 83)), (84, (m.2 84)), (85, (m.2 85)), (86, (m.2 86)), (87, (m.2 87)), (88, (m.2 88)), (89, (m.2 89)), (90, (m.2 90)), (91, (m.2 91)), (92, (m.2 92)), (101, (m36.2 101)), (102, (m.2 102)), (103, (m.2 103)), (104, upI (m.2 104) (m.1 99) s35), (105, (m.2 105)), (106, (m.2 106)), (107, (m.2 107)), (108, (m.2 108))]) (Ty_mO hT rfl rfl ⟨g51, g53, g55, g57, g59, g61, f28, f69, f70, f71, f72, f73, f74, f75, ⟨(by omega : (0 : Int) ≤ (m.1 99) + 1), (by omega : ((m.1 99) + 1 : Int) ≤ 240)⟩, f100, trivial⟩ ⟨(hT.2.1 65), (hT.2.1 66), (hT.2.1 67), (hT.2.1 68), (hT.2.1 76), (hT.2.1 77), (hT.2.1 78), (hT.2.1 79), (hT.2.1 80), (hT.2.1 81), (hT.2.1 82), (hT.2.1 83), (hT.2.1 84), (hT.2.1 85), (hT.2.1 86), (hT.2.1 87), (hT.2.1 88), (hT.2.1 89), (hT.2.1 90), (hT.2.1 91), (hT.2.1 92), (q39.2.1 101), (hT.2.1 102), (hT.2.1 103), G47, (hT.2.1 105), (hT.2.1 106), (hT.2.1 107), (hT.2.1 108), trivial⟩) (show 1 ≤ y56 by omega) (show y56 ≤ 8 by omega) (show 0 ≤ ((m.1 99) + 1) ∧ ((m.1 99) + 1) ≤ 240 by omega) (show 0 ≤ (m.1 99) ∧ (m.1 99) ≤ 240 by omega)
  have J176_68 : ∀ (m67 : mR), (Ty m67) → (1 ≤ (m67.1 10)) → ((m67.1 10) ≤ 8) → (0 ≤ ((m.1 99) + 1) ∧ ((m.1 99) + 1) ≤ 240) → (0 ≤ (m.1 99) ∧ (m.1 99) ≤ 240) → TT w D pm_270 (176, [(0, .ref 189), (1, .int (i32 (m.1 99)))], [], (mhp (mO m [(7, (m67.1 7)), (8, (m67.1 8)), (9, (m67.1 9)), (10, (m67.1 10)), (11, (m67.1 11)), (12, (m67.1 12)), (28, (m67.1 28)), (69, (m67.1 69)), (70, (m67.1 70)), (71, (m67.1 71)), (72, (m67.1 72)), (73, (m67.1 73)), (74, (m67.1 74)), (75, (m67.1 75)), (99, (m.1 99) + 1), (100, (m.1 100))] [(65, (m67.2 65)), (66, (m67.2 66)), (67, (m67.2 67)), (68, (m67.2 68)), (76, (m67.2 76)), (77, (m67.2 77)), (78, (m67.2 78)), (79, (m67.2 79)), (80, (m67.2 80)), (81, (m67.2 81)), (82, (m67.2 82)), (83, (m67.2 83)), (84, (m67.2 84)), (85, (m67.2 85)), (86, (m67.2 86)), (87, (m67.2 87)), (88, (m67.2 88)), (89, (m67.2 89)), (90, (m67.2 90)), (91, (m67.2 91)), (92, (m67.2 92)), (101, (m67.2 101)), (102, (m.2 102)), (103, (m67.2 103)), (104, (m.2 104)), (105, (m67.2 105)), (106, (m67.2 106)), (107, (m.2 107)), (108, (m.2 108))]) c, N), 0, 0) (Q_takeStatement m c N) := by
    intro m67 q69 ic70 ic71 ic72 ic73
    have q69_7 : 0 ≤ m67.1 7 ∧ m67.1 7 ≤ 330 := q69.1 7
    have q69_8 : 0 ≤ m67.1 8 ∧ m67.1 8 ≤ 4000 := q69.1 8
    have q69_9 : 0 ≤ m67.1 9 ∧ m67.1 9 ≤ 4000 := q69.1 9
    have q69_10 : 0 ≤ m67.1 10 ∧ m67.1 10 ≤ 8 := q69.1 10
    have q69_11 : (-1) ≤ m67.1 11 ∧ m67.1 11 ≤ 4000 := q69.1 11
    have q69_12 : (-9223372036854775808) ≤ m67.1 12 ∧ m67.1 12 ≤ 9223372036854775807 := q69.1 12
    have q69_28 : 0 ≤ m67.1 28 ∧ m67.1 28 ≤ 800 := q69.1 28
    have q69_69 : 0 ≤ m67.1 69 ∧ m67.1 69 ≤ 1024 := q69.1 69
    have q69_70 : 0 ≤ m67.1 70 ∧ m67.1 70 ≤ 4000 := q69.1 70
    have q69_71 : 0 ≤ m67.1 71 ∧ m67.1 71 ≤ 1 := q69.1 71
    have q69_72 : (-9223372036854775808) ≤ m67.1 72 ∧ m67.1 72 ≤ 9223372036854775807 := q69.1 72
    have q69_73 : 0 ≤ m67.1 73 ∧ m67.1 73 ≤ 60 := q69.1 73
    have q69_74 : 0 ≤ m67.1 74 ∧ m67.1 74 ≤ 24 := q69.1 74
    have q69_75 : 0 ≤ m67.1 75 ∧ m67.1 75 ≤ 3 := q69.1 75
    refine T_gf 180 (.int (i32 (m67.1 10))) rfl rfl rfl rfl rfl rfl ?_
    refine T_if 229 183 rfl rfl rfl (r32 (by omega) (by omega)) (fun (h75 : (m67.1 10) ≠ 0) => ?_) (fun (h75 : ¬ ((m67.1 10) ≠ 0)) => by exfalso; omega)
    refine T_ld 230 (.ref 189) rfl (fun _ => rfl) ?_
    refine T_ld 232 (.int (i32 59)) rfl (fun _ => rfl) ?_
    refine T_call 235 232 [.ref 189, .int (i32 59)] [] rfl (fun _ => rfl) rfl (c_need w (mO m [(7, (m67.1 7)), (8, (m67.1 8)), (9, (m67.1 9)), (10, (m67.1 10)), (11, (m67.1 11)), (12, (m67.1 12)), (28, (m67.1 28)), (69, (m67.1 69)), (70, (m67.1 70)), (71, (m67.1 71)), (72, (m67.1 72)), (73, (m67.1 73)), (74, (m67.1 74)), (75, (m67.1 75)), (99, (m.1 99) + 1), (100, (m.1 100))] [(65, (m67.2 65)), (66, (m67.2 66)), (67, (m67.2 67)), (68, (m67.2 68)), (76, (m67.2 76)), (77, (m67.2 77)), (78, (m67.2 78)), (79, (m67.2 79)), (80, (m67.2 80)), (81, (m67.2 81)), (82, (m67.2 82)), (83, (m67.2 83)), (84, (m67.2 84)), (85, (m67.2 85)), (86, (m67.2 86)), (87, (m67.2 87)), (88, (m67.2 88)), (89, (m67.2 89)), (90, (m67.2 90)), (91, (m67.2 91)), (92, (m67.2 92)), (101, (m67.2 101)), (102, (m.2 102)), (103, (m67.2 103)), (104, (m.2 104)), (105, (m67.2 105)), (106, (m67.2 106)), (107, (m.2 107)), (108, (m.2 108))]) c N D (by omega) (Ty_mO hT rfl rfl ⟨(q69.1 7), (q69.1 8), (q69.1 9), (q69.1 10), (q69.1 11), (q69.1 12), (q69.1 28), (q69.1 69), (q69.1 70), (q69.1 71), (q69.1 72), (q69.1 73), (q69.1 74), (q69.1 75), ⟨(by omega : (0 : Int) ≤ (m.1 99) + 1), (by omega : ((m.1 99) + 1 : Int) ≤ 240)⟩, f100, trivial⟩ ⟨(q69.2.1 65), (q69.2.1 66), (q69.2.1 67), (q69.2.1 68), (q69.2.1 76), (q69.2.1 77), (q69.2.1 78), (q69.2.1 79), (q69.2.1 80), (q69.2.1 81), (q69.2.1 82), (q69.2.1 83), (q69.2.1 84), (q69.2.1 85), (q69.2.1 86), (q69.2.1 87), (q69.2.1 88), (q69.2.1 89), (q69.2.1 90), (q69.2.1 91), (q69.2.1 92), (q69.2.1 101), (hT.2.1 102), (q69.2.1 103), (hT.2.1 104), (q69.2.1 105), (q69.2.1 106), (hT.2.1 107), (hT.2.1 108), trivial⟩) 59 ⟨by decide, by decide⟩ (show 1 ≤ (59 : Int) by omega) (show LxP (m67.1 7) (m67.1 8) (m67.1 9) (m.1 6) (m67.1 10) by first | exact hLx | (intro h9; exfalso; omega) | (intro h9; have h8 := hLx (by omega); omega))) (fun rr76 k77 => ?_)
    obtain ⟨y78, y80, y82, y84, y86, y88, g79, g81, g83, g85, g87, g89, h90, h91, h92, h93, rfl⟩ := k77
    refine ⟨_, _, rfl, ?_⟩
    refine T_nf2 (st' := []) (l' := [(7, y78), (8, y80), (9, y82), (10, y84), (11, y86), (12, y88), (28, (m67.1 28)), (69, (m67.1 69)), (70, (m67.1 70)), (71, (m67.1 71)), (72, (m67.1 72)), (73, (m67.1 73)), (74, (m67.1 74)), (75, (m67.1 75)), (99, (m.1 99) + 1), (100, (m.1 100))]) (a' := [(65, (m67.2 65)), (66, (m67.2 66)), (67, (m67.2 67)), (68, (m67.2 68)), (76, (m67.2 76)), (77, (m67.2 77)), (78, (m67.2 78)), (79, (m67.2 79)), (80, (m67.2 80)), (81, (m67.2 81)), (82, (m67.2 82)), (83, (m67.2 83)), (84, (m67.2 84)), (85, (m67.2 85)), (86, (m67.2 86)), (87, (m67.2 87)), (88, (m67.2 88)), (89, (m67.2 89)), (90, (m67.2 90)), (91, (m67.2 91)), (92, (m67.2 92)), (101, (m67.2 101)), (102, (m.2 102)), (103, (m67.2 103)), (104, (m.2 104)), (105, (m67.2 105)), (106, (m67.2 106)), (107, (m.2 107)), (108, (m.2 108))]) [7, 8, 9, 10, 11, 12] [] rfl ⟨rfl, rfl, rfl, rfl, rfl, rfl, rfl, rfl, rfl, rfl, rfl, rfl, rfl, rfl, rfl, rfl, rfl, rfl, rfl, rfl, rfl, rfl, rfl, rfl, rfl, rfl, rfl, rfl, rfl, rfl, rfl, rfl, trivial⟩ ⟨rfl, rfl, rfl, rfl, rfl, rfl, rfl, rfl, rfl, rfl, rfl, rfl, rfl, rfl, rfl, rfl, rfl, rfl, rfl, rfl, rfl, rfl, rfl, rfl, rfl, rfl, rfl, rfl, rfl, rfl, rfl, rfl, rfl, rfl, rfl, rfl, rfl, rfl, rfl, rfl, rfl, rfl, rfl, rfl, rfl, rfl, rfl, rfl, rfl, rfl, rfl, rfl, rfl, rfl, rfl, rfl, rfl, rfl, trivial⟩ rfl rfl (by decide) (by decide) ?_
    replace h90 : LxP y78 y80 y82 (m.1 6) y84 := h90
    replace h91 : y84 = 0 → (m67.1 10) = 0 ∧ (m67.1 7) = (59 : Int) := h91
    replace h92 : (m67.1 8) ≤ y80 := h92
    replace h93 : y84 = 0 → (m67.1 8) + (m67.1 9) ≤ y80 := h93
    have hf94 : 1 ≤ y84 := by omega
    clear h91
    clear h93
    have hLx := h90
    clear q69_7 q69_8 q69_9 q69_10 q69_11 q69_12 ic70 ic71 h75 h92
    exact J235_28 (mO m [(7, y78), (8, y80), (9, y82), (10, y84), (11, y86), (12, y88), (28, (m67.1 28)), (69, (m67.1 69)), (70, (m67.1 70)), (71, (m67.1 71)), (72, (m67.1 72)), (73, (m67.1 73)), (74, (m67.1 74)), (75, (m67.1 75)), (99, (m.1 99) + 1), (100, (m.1 100))] [(65, (m67.2 65)), (66, (m67.2 66)), (67, (m67.2 67)), (68, (m67.2 68)), (76, (m67.2 76)), (77, (m67.2 77)), (78, (m67.2 78)), (79, (m67.2 79)), (80, (m67.2 80)), (81, (m67.2 81)), (82, (m67.2 82)), (83, (m67.2 83)), (84, (m67.2 84)), (85, (m67.2 85)), (86, (m67.2 86)), (87, (m67.2 87)), (88, (m67.2 88)), (89, (m67.2 89)), (90, (m67.2 90)), (91, (m67.2 91)), (92, (m67.2 92)), (101, (m67.2 101)), (102, (m.2 102)), (103, (m67.2 103)), (104, (m.2 104)), (105, (m67.2 105)), (106, (m67.2 106)), (107, (m.2 107)), (108, (m.2 108))]) (Ty_mO hT rfl rfl ⟨g79, g81, g83, g85, g87, g89, (q69.1 28), (q69.1 69), (q69.1 70), (q69.1 71), (q69.1 72), (q69.1 73), (q69.1 74), (q69.1 75), ⟨(by omega : (0 : Int) ≤ (m.1 99) + 1), (by omega : ((m.1 99) + 1 : Int) ≤ 240)⟩, f100, trivial⟩ ⟨(q69.2.1 65), (q69.2.1 66), (q69.2.1 67), (q69.2.1 68), (q69.2.1 76), (q69.2.1 77), (q69.2.1 78), (q69.2.1 79), (q69.2.1 80), (q69.2.1 81), (q69.2.1 82), (q69.2.1 83), (q69.2.1 84), (q69.2.1 85), (q69.2.1 86), (q69.2.1 87), (q69.2.1 88), (q69.2.1 89), (q69.2.1 90), (q69.2.1 91), (q69.2.1 92), (q69.2.1 101), (hT.2.1 102), (q69.2.1 103), (hT.2.1 104), (q69.2.1 105), (q69.2.1 106), (hT.2.1 107), (hT.2.1 108), trivial⟩) (show 1 ≤ y84 by omega) (show y84 ≤ 8 by omega) (show 0 ≤ ((m.1 99) + 1) ∧ ((m.1 99) + 1) ≤ 240 by omega) (show 0 ≤ (m.1 99) ∧ (m.1 99) ≤ 240 by omega)
  have J170_97 : ∀ (s95 : Int) (m96 : mR), (R32 s95) → (Ty m96) → (0 ≤ s95) → (s95 ≤ 7) → (1 ≤ (m96.1 10)) → ((m96.1 10) ≤ 8) → (0 ≤ ((m.1 99) + 1) ∧ ((m.1 99) + 1) ≤ 240) → (0 ≤ (m.1 99) ∧ (m.1 99) ≤ 240) → TT w D pm_270 (170, [(0, .ref 189), (1, .int (i32 (m.1 99)))], [.int (i32 s95), .int (i32 (m.1 99)), .ref 263], (mhp (mO m [(7, (m96.1 7)), (8, (m96.1 8)), (9, (m96.1 9)), (10, (m96.1 10)), (11, (m96.1 11)), (12, (m96.1 12)), (28, (m.1 28)), (69, (m.1 69)), (70, (m.1 70)), (71, (m.1 71)), (72, (m.1 72)), (73, (m.1 73)), (74, (m.1 74)), (75, (m.1 75)), (99, (m.1 99) + 1), (100, (m.1 100))] [(65, (m.2 65)), (66, (m.2 66)), (67, (m.2 67)), (68, (m.2 68)), (76, (m.2 76)), (77, (m.2 77)), (78, (m.2 78)), (79, (m.2 79)), (80, (m.2 80)), (81, (m.2 81)), (82, (m.2 82)), (83, (m.2 83)), (84, (m.2 84)), (85, (m.2 85)), (86, (m.2 86)), (87, (m.2 87)), (88, (m.2 88)), (89, (m.2 89)), (90, (m.2 90)), (91, (m.2 91)), (92, (m.2 92)), (101, (m96.2 101)), (102, (m.2 102)), (103, (m.2 103)), (104, (m.2 104)), (105, (m.2 105)), (106, (m.2 106)), (107, (m.2 107)), (108, (m.2 108))]) c, N), 0, 0) (Q_takeStatement m c N) := by
    intro s95 m96 q98 q99 ic100 ic101 ic102 ic103 ic104 ic105
    obtain ⟨q98a, q98b⟩ := id q98
    have q99_7 : 0 ≤ m96.1 7 ∧ m96.1 7 ≤ 330 := q99.1 7
    have q99_8 : 0 ≤ m96.1 8 ∧ m96.1 8 ≤ 4000 := q99.1 8
    have q99_9 : 0 ≤ m96.1 9 ∧ m96.1 9 ≤ 4000 := q99.1 9
    have q99_10 : 0 ≤ m96.1 10 ∧ m96.1 10 ≤ 8 := q99.1 10
    have q99_11 : (-1) ≤ m96.1 11 ∧ m96.1 11 ≤ 4000 := q99.1 11
    have q99_12 : (-9223372036854775808) ≤ m96.1 12 ∧ m96.1 12 ≤ 9223372036854775807 := q99.1 12
    have G107 : ∀ j, 0 ≤ (upI (m.2 103) (m.1 99) s95) j ∧ (upI (m.2 103) (m.1 99) s95) j ≤ 7 := upI_rg (hT.2.1 103) ⟨by omega, by omega⟩
    refine T_iast (a' := [(65, (m.2 65)), (66, (m.2 66)), (67, (m.2 67)), (68, (m.2 68)), (76, (m.2 76)), (77, (m.2 77)), (78, (m.2 78)), (79, (m.2 79)), (80, (m.2 80)), (81, (m.2 81)), (82, (m.2 82)), (83, (m.2 83)), (84, (m.2 84)), (85, (m.2 85)), (86, (m.2 86)), (87, (m.2 87)), (88, (m.2 88)), (89, (m.2 89)), (90, (m.2 90)), (91, (m.2 91)), (92, (m.2 92)), (101, (m96.2 101)), (102, (m.2 102)), (103, upI (m.2 103) (m.1 99) s95), (104, (m.2 104)), (105, (m.2 105)), (106, (m.2 106)), (107, (m.2 107)), (108, (m.2 108))]) 171 103 (m.2 103) rfl rfl rfl (by omega) (show (m.1 99) < (240 : Int) by omega) rfl rfl ?_
    refine T_ld 172 (.ref 189) rfl (fun _ => rfl) ?_
    refine T_ld 173 (.int (i32 (m.1 99))) rfl (fun _ => rfl) ?_
    refine T_call 176 274 [.ref 189, .int (i32 (m.1 99))] [] rfl (fun _ => rfl) rfl (c_takeIndex w (mO m [(7, (m96.1 7)), (8, (m96.1 8)), (9, (m96.1 9)), (10, (m96.1 10)), (11, (m96.1 11)), (12, (m96.1 12)), (28, (m.1 28)), (69, (m.1 69)), (70, (m.1 70)), (71, (m.1 71)), (72, (m.1 72)), (73, (m.1 73)), (74, (m.1 74)), (75, (m.1 75)), (99, (m.1 99) + 1), (100, (m.1 100))] [(65, (m.2 65)), (66, (m.2 66)), (67, (m.2 67)), (68, (m.2 68)), (76, (m.2 76)), (77, (m.2 77)), (78, (m.2 78)), (79, (m.2 79)), (80, (m.2 80)), (81, (m.2 81)), (82, (m.2 82)), (83, (m.2 83)), (84, (m.2 84)), (85, (m.2 85)), (86, (m.2 86)), (87, (m.2 87)), (88, (m.2 88)), (89, (m.2 89)), (90, (m.2 90)), (91, (m.2 91)), (92, (m.2 92)), (101, (m96.2 101)), (102, (m.2 102)), (103, upI (m.2 103) (m.1 99) s95), (104, (m.2 104)), (105, (m.2 105)), (106, (m.2 106)), (107, (m.2 107)), (108, (m.2 108))]) c N D (by omega) (Ty_mO hT rfl rfl ⟨(q99.1 7), (q99.1 8), (q99.1 9), (q99.1 10), (q99.1 11), (q99.1 12), f28, f69, f70, f71, f72, f73, f74, f75, ⟨(by omega : (0 : Int) ≤ (m.1 99) + 1), (by omega : ((m.1 99) + 1 : Int) ≤ 240)⟩, f100, trivial⟩ ⟨(hT.2.1 65), (hT.2.1 66), (hT.2.1 67), (hT.2.1 68), (hT.2.1 76), (hT.2.1 77), (hT.2.1 78), (hT.2.1 79), (hT.2.1 80), (hT.2.1 81), (hT.2.1 82), (hT.2.1 83), (hT.2.1 84), (hT.2.1 85), (hT.2.1 86), (hT.2.1 87), (hT.2.1 88), (hT.2.1 89), (hT.2.1 90), (hT.2.1 91), (hT.2.1 92), (q99.2.1 101), (hT.2.1 102), G107, (hT.2.1 104), (hT.2.1 105), (hT.2.1 106), (hT.2.1 107), (hT.2.1 108), trivial⟩) (m.1 99) (r32 (by omega) (by omega)) (show LxP (m96.1 7) (m96.1 8) (m96.1 9) (m.1 6) (m96.1 10) by first | exact hLx | exact (fun _ => hLx (by omega)) | (intro h9; exfalso; omega)) (show ∀ k, (m.2 14) k + (m.2 15) k ≤ 4000 by assumption) (show ∀ k, (m.2 31) k + (m.2 32) k ≤ 4000 by assumption) (show ∀ k, (m.2 47) k + (m.2 48) k ≤ 4000 by assumption) (show 0 ≤ (m.1 99) ∧ (m.1 99) ≤ 239 by omega) (fun (h : (m96.1 10) = 0) => absurd h (by omega))) (fun rr108 k109 => ?_)
    obtain ⟨m110, hT111, h112, h113, c114, rfl⟩ := k109
    refine ⟨_, _, rfl, ?_⟩
    refine T_nf2 (st' := []) (l' := [(7, (m110.1 7)), (8, (m110.1 8)), (9, (m110.1 9)), (10, (m110.1 10)), (11, (m110.1 11)), (12, (m110.1 12)), (28, (m110.1 28)), (69, (m110.1 69)), (70, (m110.1 70)), (71, (m110.1 71)), (72, (m110.1 72)), (73, (m110.1 73)), (74, (m110.1 74)), (75, (m110.1 75)), (99, (m.1 99) + 1), (100, (m.1 100))]) (a' := [(65, (m110.2 65)), (66, (m110.2 66)), (67, (m110.2 67)), (68, (m110.2 68)), (76, (m110.2 76)), (77, (m110.2 77)), (78, (m110.2 78)), (79, (m110.2 79)), (80, (m110.2 80)), (81, (m110.2 81)), (82, (m110.2 82)), (83, (m110.2 83)), (84, (m110.2 84)), (85, (m110.2 85)), (86, (m110.2 86)), (87, (m110.2 87)), (88, (m110.2 88)), (89, (m110.2 89)), (90, (m110.2 90)), (91, (m110.2 91)), (92, (m110.2 92)), (101, (m96.2 101)), (102, (m.2 102)), (103, upI (m.2 103) (m.1 99) s95), (104, (m.2 104)), (105, (m110.2 105)), (106, (m110.2 106)), (107, (m.2 107)), (108, (m.2 108))]) [7, 8, 9, 10, 11, 12, 28, 69, 70, 71, 72, 73, 74, 75] [65, 66, 67, 68, 76, 77, 78, 79, 80, 81, 82, 83, 84, 85, 86, 87, 88, 89, 90, 91, 92, 105, 106] rfl ⟨rfl, rfl, rfl, rfl, rfl, rfl, rfl, rfl, rfl, rfl, rfl, rfl, rfl, rfl, rfl, rfl, rfl, rfl, rfl, rfl, rfl, rfl, rfl, rfl, rfl, rfl, rfl, rfl, rfl, rfl, rfl, rfl, trivial⟩ ⟨rfl, rfl, rfl, rfl, rfl, rfl, rfl, rfl, rfl, rfl, rfl, rfl, rfl, rfl, rfl, rfl, rfl, rfl, rfl, rfl, rfl, rfl, rfl, rfl, rfl, rfl, rfl, rfl, rfl, rfl, rfl, rfl, rfl, rfl, rfl, rfl, rfl, rfl, rfl, rfl, rfl, rfl, rfl, rfl, rfl, rfl, rfl, rfl, rfl, rfl, rfl, rfl, rfl, rfl, rfl, rfl, rfl, rfl, rfl, rfl, rfl, rfl, trivial⟩ rfl rfl (by decide) (by decide) ?_
    have g115 : 0 ≤ m110.1 7 ∧ m110.1 7 ≤ 330 := hT111.1 7
    have g116 : 0 ≤ m110.1 8 ∧ m110.1 8 ≤ 4000 := hT111.1 8
    have g117 : 0 ≤ m110.1 9 ∧ m110.1 9 ≤ 4000 := hT111.1 9
    have g118 : 0 ≤ m110.1 10 ∧ m110.1 10 ≤ 8 := hT111.1 10
    have g119 : (-1) ≤ m110.1 11 ∧ m110.1 11 ≤ 4000 := hT111.1 11
    have g120 : (-9223372036854775808) ≤ m110.1 12 ∧ m110.1 12 ≤ 9223372036854775807 := hT111.1 12
    have g121 : 0 ≤ m110.1 28 ∧ m110.1 28 ≤ 800 := hT111.1 28
    have g122 : 0 ≤ m110.1 69 ∧ m110.1 69 ≤ 1024 := hT111.1 69
    have g123 : 0 ≤ m110.1 70 ∧ m110.1 70 ≤ 4000 := hT111.1 70
    have g124 : 0 ≤ m110.1 71 ∧ m110.1 71 ≤ 1 := hT111.1 71
    have g125 : (-9223372036854775808) ≤ m110.1 72 ∧ m110.1 72 ≤ 9223372036854775807 := hT111.1 72
    have g126 : 0 ≤ m110.1 73 ∧ m110.1 73 ≤ 60 := hT111.1 73
    have g127 : 0 ≤ m110.1 74 ∧ m110.1 74 ≤ 24 := hT111.1 74
    have g128 : 0 ≤ m110.1 75 ∧ m110.1 75 ≤ 3 := hT111.1 75
    replace h112 : (m110.1 10) = 0 → (m96.1 10) = 0 := h112
    replace h113 : LxP (m110.1 7) (m110.1 8) (m110.1 9) (m.1 6) (m110.1 10) := h113
    have hf129 : 1 ≤ (m110.1 10) := by omega
    clear c114
    clear h112
    have hLx := h113
    clear q99_7 q99_8 q99_9 q99_10 q99_11 q99_12 ic102 ic103
    exact J176_68 (mO m [(7, (m110.1 7)), (8, (m110.1 8)), (9, (m110.1 9)), (10, (m110.1 10)), (11, (m110.1 11)), (12, (m110.1 12)), (28, (m110.1 28)), (69, (m110.1 69)), (70, (m110.1 70)), (71, (m110.1 71)), (72, (m110.1 72)), (73, (m110.1 73)), (74, (m110.1 74)), (75, (m110.1 75)), (99, (m.1 99) + 1), (100, (m.1 100))] [(65, (m110.2 65)), (66, (m110.2 66)), (67, (m110.2 67)), (68, (m110.2 68)), (76, (m110.2 76)), (77, (m110.2 77)), (78, (m110.2 78)), (79, (m110.2 79)), (80, (m110.2 80)), (81, (m110.2 81)), (82, (m110.2 82)), (83, (m110.2 83)), (84, (m110.2 84)), (85, (m110.2 85)), (86, (m110.2 86)), (87, (m110.2 87)), (88, (m110.2 88)), (89, (m110.2 89)), (90, (m110.2 90)), (91, (m110.2 91)), (92, (m110.2 92)), (101, (m96.2 101)), (102, (m.2 102)), (103, upI (m.2 103) (m.1 99) s95), (104, (m.2 104)), (105, (m110.2 105)), (106, (m110.2 106)), (107, (m.2 107)), (108, (m.2 108))]) (Ty_mO hT rfl rfl ⟨(hT111.1 7), (hT111.1 8), (hT111.1 9), (hT111.1 10), (hT111.1 11), (hT111.1 12), (hT111.1 28), (hT111.1 69), (hT111.1 70), (hT111.1 71), (hT111.1 72), (hT111.1 73), (hT111.1 74), (hT111.1 75), ⟨(by omega : (0 : Int) ≤ (m.1 99) + 1), (by omega : ((m.1 99) + 1 : Int) ≤ 240)⟩, f100, trivial⟩ ⟨(hT111.2.1 65), (hT111.2.1 66), (hT111.2.1 67), (hT111.2.1 68), (hT111.2.1 76), (hT111.2.1 77), (hT111.2.1 78), (hT111.2.1 79), (hT111.2.1 80), (hT111.2.1 81), (hT111.2.1 82), (hT111.2.1 83), (hT111.2.1 84), (hT111.2.1 85), (hT111.2.1 86), (hT111.2.1 87), (hT111.2.1 88), (hT111.2.1 89), (hT111.2.1 90), (hT111.2.1 91), (hT111.2.1 92), (q99.2.1 101), (hT.2.1 102), G107, (hT.2.1 104), (hT111.2.1 105), (hT111.2.1 106), (hT.2.1 107), (hT.2.1 108), trivial⟩) (show 1 ≤ (m110.1 10) by omega) (show (m110.1 10) ≤ 8 by omega) (show 0 ≤ ((m.1 99) + 1) ∧ ((m.1 99) + 1) ≤ 240 by omega) (show 0 ≤ (m.1 99) ∧ (m.1 99) ≤ 240 by omega)
  have J143_132 : ∀ (v130 : Int) (m131 : mR), (R32 v130) → (Ty m131) → (0 ≤ v130) → (v130 ≤ 4000) → (1 ≤ (m131.1 10)) → ((m131.1 10) ≤ 8) → (0 ≤ ((m.1 99) + 1) ∧ ((m.1 99) + 1) ≤ 240) → (0 ≤ (m.1 99) ∧ (m.1 99) ≤ 240) → TT w D pm_270 (143, [(0, .ref 189), (1, .int (i32 (m.1 99))), (2, .int (i32 v130))], [], (mhp (mO m [(7, (m131.1 7)), (8, (m131.1 8)), (9, (m131.1 9)), (10, (m131.1 10)), (11, (m131.1 11)), (12, (m131.1 12)), (28, (m131.1 28)), (69, (m131.1 69)), (70, (m131.1 70)), (71, (m131.1 71)), (72, (m131.1 72)), (73, (m131.1 73)), (74, (m131.1 74)), (75, (m131.1 75)), (99, (m.1 99) + 1), (100, (m131.1 100))] [(65, (m131.2 65)), (66, (m131.2 66)), (67, (m131.2 67)), (68, (m131.2 68)), (76, (m131.2 76)), (77, (m131.2 77)), (78, (m131.2 78)), (79, (m131.2 79)), (80, (m131.2 80)), (81, (m131.2 81)), (82, (m131.2 82)), (83, (m131.2 83)), (84, (m131.2 84)), (85, (m131.2 85)), (86, (m131.2 86)), (87, (m131.2 87)), (88, (m131.2 88)), (89, (m131.2 89)), (90, (m131.2 90)), (91, (m131.2 91)), (92, (m131.2 92)), (101, (m131.2 101)), (102, (m131.2 102)), (103, (m131.2 103)), (104, (m.2 104)), (105, (m131.2 105)), (106, (m131.2 106)), (107, (m.2 107)), (108, (m.2 108))]) c, N), 0, 0) (Q_takeStatement m c N) := by
    intro v130 m131 q133 q134 ic135 ic136 ic137 ic138 ic139 ic140
    obtain ⟨q133a, q133b⟩ := id q133
    have q134_7 : 0 ≤ m131.1 7 ∧ m131.1 7 ≤ 330 := q134.1 7
    have q134_8 : 0 ≤ m131.1 8 ∧ m131.1 8 ≤ 4000 := q134.1 8
    have q134_9 : 0 ≤ m131.1 9 ∧ m131.1 9 ≤ 4000 := q134.1 9
    have q134_10 : 0 ≤ m131.1 10 ∧ m131.1 10 ≤ 8 := q134.1 10
    have q134_11 : (-1) ≤ m131.1 11 ∧ m131.1 11 ≤ 4000 := q134.1 11
    have q134_12 : (-9223372036854775808) ≤ m131.1 12 ∧ m131.1 12 ≤ 9223372036854775807 := q134.1 12
    have q134_28 : 0 ≤ m131.1 28 ∧ m131.1 28 ≤ 800 := q134.1 28
    have q134_69 : 0 ≤ m131.1 69 ∧ m131.1 69 ≤ 1024 := q134.1 69
    have q134_70 : 0 ≤ m131.1 70 ∧ m131.1 70 ≤ 4000 := q134.1 70
    have q134_71 : 0 ≤ m131.1 71 ∧ m131.1 71 ≤ 1 := q134.1 71
    have q134_72 : (-9223372036854775808) ≤ m131.1 72 ∧ m131.1 72 ≤ 9223372036854775807 := q134.1 72
    have q134_73 : 0 ≤ m131.1 73 ∧ m131.1 73 ≤ 60 := q134.1 73
    have q134_74 : 0 ≤ m131.1 74 ∧ m131.1 74 ≤ 24 := q134.1 74
    have q134_75 : 0 ≤ m131.1 75 ∧ m131.1 75 ≤ 3 := q134.1 75
    have q134_100 : 0 ≤ m131.1 100 ∧ m131.1 100 ≤ 64 := q134.1 100
    refine T_goto 229 rfl (fun _ => rfl) ?_
    refine T_ld 230 (.ref 189) rfl (fun _ => rfl) ?_
    refine T_ld 232 (.int (i32 59)) rfl (fun _ => rfl) ?_
    refine T_call 235 232 [.ref 189, .int (i32 59)] [] rfl (fun _ => rfl) rfl (c_need w (mO m [(7, (m131.1 7)), (8, (m131.1 8)), (9, (m131.1 9)), (10, (m131.1 10)), (11, (m131.1 11)), (12, (m131.1 12)), (28, (m131.1 28)), (69, (m131.1 69)), (70, (m131.1 70)), (71, (m131.1 71)), (72, (m131.1 72)), (73, (m131.1 73)), (74, (m131.1 74)), (75, (m131.1 75)), (99, (m.1 99) + 1), (100, (m131.1 100))] [(65, (m131.2 65)), (66, (m131.2 66)), (67, (m131.2 67)), (68, (m131.2 68)), (76, (m131.2 76)), (77, (m131.2 77)), (78, (m131.2 78)), (79, (m131.2 79)), (80, (m131.2 80)), (81, (m131.2 81)), (82, (m131.2 82)), (83, (m131.2 83)), (84, (m131.2 84)), (85, (m131.2 85)), (86, (m131.2 86)), (87, (m131.2 87)), (88, (m131.2 88)), (89, (m131.2 89)), (90, (m131.2 90)), (91, (m131.2 91)), (92, (m131.2 92)), (101, (m131.2 101)), (102, (m131.2 102)), (103, (m131.2 103)), (104, (m.2 104)), (105, (m131.2 105)), (106, (m131.2 106)), (107, (m.2 107)), (108, (m.2 108))]) c N D (by omega) (Ty_mO hT rfl rfl ⟨(q134.1 7), (q134.1 8), (q134.1 9), (q134.1 10), (q134.1 11), (q134.1 12), (q134.1 28), (q134.1 69), (q134.1 70), (q134.1 71), (q134.1 72), (q134.1 73), (q134.1 74), (q134.1 75), ⟨(by omega : (0 : Int) ≤ (m.1 99) + 1), (by omega : ((m.1 99) + 1 : Int) ≤ 240)⟩, (q134.1 100), trivial⟩ ⟨(q134.2.1 65), (q134.2.1 66), (q134.2.1 67), (q134.2.1 68), (q134.2.1 76), (q134.2.1 77), (q134.2.1 78), (q134.2.1 79), (q134.2.1 80), (q134.2.1 81), (q134.2.1 82), (q134.2.1 83), (q134.2.1 84), (q134.2.1 85), (q134.2.1 86), (q134.2.1 87), (q134.2.1 88), (q134.2.1 89), (q134.2.1 90), (q134.2.1 91), (q134.2.1 92), (q134.2.1 101), (q134.2.1 102), (q134.2.1 103), (hT.2.1 104), (q134.2.1 105), (q134.2.1 106), (hT.2.1 107), (hT.2.1 108), trivial⟩) 59 ⟨by decide, by decide⟩ (show 1 ≤ (59 : Int) by omega) (show LxP (m131.1 7) (m131.1 8) (m131.1 9) (m.1 6) (m131.1 10) by first | exact hLx | (intro h9; exfalso; omega) | (intro h9; have h8 := hLx (by omega); omega))) (fun rr142 k143 => ?_)
    obtain ⟨y144, y146, y148, y150, y152, y154, g145, g147, g149, g151, g153, g155, h156, h157, h158, h159, rfl⟩ := k143
    refine ⟨_, _, rfl, ?_⟩
    refine T_nf2 (st' := []) (l' := [(7, y144), (8, y146), (9, y148), (10, y150), (11, y152), (12, y154), (28, (m131.1 28)), (69, (m131.1 69)), (70, (m131.1 70)), (71, (m131.1 71)), (72, (m131.1 72)), (73, (m131.1 73)), (74, (m131.1 74)), (75, (m131.1 75)), (99, (m.1 99) + 1), (100, (m131.1 100))]) (a' := [(65, (m131.2 65)), (66, (m131.2 66)), (67, (m131.2 67)), (68, (m131.2 68)), (76, (m131.2 76)), (77, (m131.2 77)), (78, (m131.2 78)), (79, (m131.2 79)), (80, (m131.2 80)), (81, (m131.2 81)), (82, (m131.2 82)), (83, (m131.2 83)), (84, (m131.2 84)), (85, (m131.2 85)), (86, (m131.2 86)), (87, (m131.2 87)), (88, (m131.2 88)), (89, (m131.2 89)), (90, (m131.2 90)), (91, (m131.2 91)), (92, (m131.2 92)), (101, (m131.2 101)), (102, (m131.2 102)), (103, (m131.2 103)), (104, (m.2 104)), (105, (m131.2 105)), (106, (m131.2 106)), (107, (m.2 107)), (108, (m.2 108))]) [7, 8, 9, 10, 11, 12] [] rfl ⟨rfl, rfl, rfl, rfl, rfl, rfl, rfl, rfl, rfl, rfl, rfl, rfl, rfl, rfl, rfl, rfl, rfl, rfl, rfl, rfl, rfl, rfl, rfl, rfl, rfl, rfl, rfl, rfl, rfl, rfl, rfl, rfl, trivial⟩ ⟨rfl, rfl, rfl, rfl, rfl, rfl, rfl, rfl, rfl, rfl, rfl, rfl, rfl, rfl, rfl, rfl, rfl, rfl, rfl, rfl, rfl, rfl, rfl, rfl, rfl, rfl, rfl, rfl, rfl, rfl, rfl, rfl, rfl, rfl, rfl, rfl, rfl, rfl, rfl, rfl, rfl, rfl, rfl, rfl, rfl, rfl, rfl, rfl, rfl, rfl, rfl, rfl, rfl, rfl, rfl, rfl, rfl, rfl, trivial⟩ rfl rfl (by decide) (by decide) ?_
    replace h156 : LxP y144 y146 y148 (m.1 6) y150 := h156
    replace h157 : y150 = 0 → (m131.1 10) = 0 ∧ (m131.1 7) = (59 : Int) := h157
    replace h158 : (m131.1 8) ≤ y146 := h158
    replace h159 : y150 = 0 → (m131.1 8) + (m131.1 9) ≤ y146 := h159
    have hf160 : 1 ≤ y150 := by omega
    clear h157
    clear h159
    have hLx := h156
    clear q134_7 q134_8 q134_9 q134_10 q134_11 q134_12 ic137 ic138 h158
    refine Tm_lv (a := [(0, .ref 189), (1, .int (i32 (m.1 99)))]) rfl rfl ⟨rfl, rfl, trivial⟩ ?_
    exact J235_28 (mO m [(7, y144), (8, y146), (9, y148), (10, y150), (11, y152), (12, y154), (28, (m131.1 28)), (69, (m131.1 69)), (70, (m131.1 70)), (71, (m131.1 71)), (72, (m131.1 72)), (73, (m131.1 73)), (74, (m131.1 74)), (75, (m131.1 75)), (99, (m.1 99) + 1), (100, (m131.1 100))] [(65, (m131.2 65)), (66, (m131.2 66)), (67, (m131.2 67)), (68, (m131.2 68)), (76, (m131.2 76)), (77, (m131.2 77)), (78, (m131.2 78)), (79, (m131.2 79)), (80, (m131.2 80)), (81, (m131.2 81)), (82, (m131.2 82)), (83, (m131.2 83)), (84, (m131.2 84)), (85, (m131.2 85)), (86, (m131.2 86)), (87, (m131.2 87)), (88, (m131.2 88)), (89, (m131.2 89)), (90, (m131.2 90)), (91, (m131.2 91)), (92, (m131.2 92)), (101, (m131.2 101)), (102, (m131.2 102)), (103, (m131.2 103)), (104, (m.2 104)), (105, (m131.2 105)), (106, (m131.2 106)), (107, (m.2 107)), (108, (m.2 108))]) (Ty_mO hT rfl rfl ⟨g145, g147, g149, g151, g153, g155, (q134.1 28), (q134.1 69), (q134.1 70), (q134.1 71), (q134.1 72), (q134.1 73), (q134.1 74), (q134.1 75), ⟨(by omega : (0 : Int) ≤ (m.1 99) + 1), (by omega : ((m.1 99) + 1 : Int) ≤ 240)⟩, (q134.1 100), trivial⟩ ⟨(q134.2.1 65), (q134.2.1 66), (q134.2.1 67), (q134.2.1 68), (q134.2.1 76), (q134.2.1 77), (q134.2.1 78), (q134.2.1 79), (q134.2.1 80), (q134.2.1 81), (q134.2.1 82), (q134.2.1 83), (q134.2.1 84), (q134.2.1 85), (q134.2.1 86), (q134.2.1 87), (q134.2.1 88), (q134.2.1 89), (q134.2.1 90), (q134.2.1 91), (q134.2.1 92), (q134.2.1 101), (q134.2.1 102), (q134.2.1 103), (hT.2.1 104), (q134.2.1 105), (q134.2.1 106), (hT.2.1 107), (hT.2.1 108), trivial⟩) (show 1 ≤ y150 by omega) (show y150 ≤ 8 by omega) (show 0 ≤ ((m.1 99) + 1) ∧ ((m.1 99) + 1) ≤ 240 by omega) (show 0 ≤ (m.1 99) ∧ (m.1 99) ≤ 240 by omega)
  have J138_163 : ∀ (v161 : Int) (m162 : mR), (R32 v161) → (Ty m162) → (0 ≤ v161) → (v161 ≤ 4000) → (1 ≤ (m162.1 10)) → ((m162.1 10) ≤ 8) → (0 ≤ ((m.1 99) + 1) ∧ ((m.1 99) + 1) ≤ 240) → (0 ≤ (m.1 99) ∧ (m.1 99) ≤ 240) → TT w D pm_270 (138, [(0, .ref 189), (1, .int (i32 (m.1 99))), (2, .int (i32 v161))], [], (mhp (mO m [(7, (m162.1 7)), (8, (m162.1 8)), (9, (m162.1 9)), (10, (m162.1 10)), (11, (m162.1 11)), (12, (m162.1 12)), (28, (m.1 28)), (69, (m.1 69)), (70, (m.1 70)), (71, (m.1 71)), (72, (m.1 72)), (73, (m.1 73)), (74, (m.1 74)), (75, (m.1 75)), (99, (m.1 99) + 1), (100, (m162.1 100))] [(65, (m.2 65)), (66, (m.2 66)), (67, (m.2 67)), (68, (m.2 68)), (76, (m.2 76)), (77, (m.2 77)), (78, (m.2 78)), (79, (m.2 79)), (80, (m.2 80)), (81, (m.2 81)), (82, (m.2 82)), (83, (m.2 83)), (84, (m.2 84)), (85, (m.2 85)), (86, (m.2 86)), (87, (m.2 87)), (88, (m.2 88)), (89, (m.2 89)), (90, (m.2 90)), (91, (m.2 91)), (92, (m.2 92)), (101, (m162.2 101)), (102, (m162.2 102)), (103, (m162.2 103)), (104, (m.2 104)), (105, (m.2 105)), (106, (m.2 106)), (107, (m.2 107)), (108, (m.2 108))]) c, N), 0, 0) (Q_takeStatement m c N) := by
    intro v161 m162 q164 q165 ic166 ic167 ic168 ic169 ic170 ic171
    obtain ⟨q164a, q164b⟩ := id q164
    have q165_7 : 0 ≤ m162.1 7 ∧ m162.1 7 ≤ 330 := q165.1 7
    have q165_8 : 0 ≤ m162.1 8 ∧ m162.1 8 ≤ 4000 := q165.1 8
    have q165_9 : 0 ≤ m162.1 9 ∧ m162.1 9 ≤ 4000 := q165.1 9
    have q165_10 : 0 ≤ m162.1 10 ∧ m162.1 10 ≤ 8 := q165.1 10
    have q165_11 : (-1) ≤ m162.1 11 ∧ m162.1 11 ≤ 4000 := q165.1 11
    have q165_12 : (-9223372036854775808) ≤ m162.1 12 ∧ m162.1 12 ≤ 9223372036854775807 := q165.1 12
    have q165_100 : 0 ≤ m162.1 100 ∧ m162.1 100 ≤ 64 := q165.1 100
    refine T_ld 139 (.ref 189) rfl (fun _ => rfl) ?_
    refine T_ld 140 (.int (i32 (m.1 99))) rfl (fun _ => rfl) ?_
    refine T_call 143 274 [.ref 189, .int (i32 (m.1 99))] [] rfl (fun _ => rfl) rfl (c_takeIndex w (mO m [(7, (m162.1 7)), (8, (m162.1 8)), (9, (m162.1 9)), (10, (m162.1 10)), (11, (m162.1 11)), (12, (m162.1 12)), (28, (m.1 28)), (69, (m.1 69)), (70, (m.1 70)), (71, (m.1 71)), (72, (m.1 72)), (73, (m.1 73)), (74, (m.1 74)), (75, (m.1 75)), (99, (m.1 99) + 1), (100, (m162.1 100))] [(65, (m.2 65)), (66, (m.2 66)), (67, (m.2 67)), (68, (m.2 68)), (76, (m.2 76)), (77, (m.2 77)), (78, (m.2 78)), (79, (m.2 79)), (80, (m.2 80)), (81, (m.2 81)), (82, (m.2 82)), (83, (m.2 83)), (84, (m.2 84)), (85, (m.2 85)), (86, (m.2 86)), (87, (m.2 87)), (88, (m.2 88)), (89, (m.2 89)), (90, (m.2 90)), (91, (m.2 91)), (92, (m.2 92)), (101, (m162.2 101)), (102, (m162.2 102)), (103, (m162.2 103)), (104, (m.2 104)), (105, (m.2 105)), (106, (m.2 106)), (107, (m.2 107)), (108, (m.2 108))]) c N D (by omega) (Ty_mO hT rfl rfl ⟨(q165.1 7), (q165.1 8), (q165.1 9), (q165.1 10), (q165.1 11), (q165.1 12), f28, f69, f70, f71, f72, f73, f74, f75, ⟨(by omega : (0 : Int) ≤ (m.1 99) + 1), (by omega : ((m.1 99) + 1 : Int) ≤ 240)⟩, (q165.1 100), trivial⟩ ⟨(hT.2.1 65), (hT.2.1 66), (hT.2.1 67), (hT.2.1 68), (hT.2.1 76), (hT.2.1 77), (hT.2.1 78), (hT.2.1 79), (hT.2.1 80), (hT.2.1 81), (hT.2.1 82), (hT.2.1 83), (hT.2.1 84), (hT.2.1 85), (hT.2.1 86), (hT.2.1 87), (hT.2.1 88), (hT.2.1 89), (hT.2.1 90), (hT.2.1 91), (hT.2.1 92), (q165.2.1 101), (q165.2.1 102), (q165.2.1 103), (hT.2.1 104), (hT.2.1 105), (hT.2.1 106), (hT.2.1 107), (hT.2.1 108), trivial⟩) (m.1 99) (r32 (by omega) (by omega)) (show LxP (m162.1 7) (m162.1 8) (m162.1 9) (m.1 6) (m162.1 10) by first | exact hLx | exact (fun _ => hLx (by omega)) | (intro h9; exfalso; omega)) (show ∀ k, (m.2 14) k + (m.2 15) k ≤ 4000 by assumption) (show ∀ k, (m.2 31) k + (m.2 32) k ≤ 4000 by assumption) (show ∀ k, (m.2 47) k + (m.2 48) k ≤ 4000 by assumption) (show 0 ≤ (m.1 99) ∧ (m.1 99) ≤ 239 by omega) (fun (h : (m162.1 10) = 0) => absurd h (by omega))) (fun rr173 k174 => ?_)
    obtain ⟨m175, hT176, h177, h178, c179, rfl⟩ := k174
    refine ⟨_, _, rfl, ?_⟩
    refine T_nf2 (st' := []) (l' := [(7, (m175.1 7)), (8, (m175.1 8)), (9, (m175.1 9)), (10, (m175.1 10)), (11, (m175.1 11)), (12, (m175.1 12)), (28, (m175.1 28)), (69, (m175.1 69)), (70, (m175.1 70)), (71, (m175.1 71)), (72, (m175.1 72)), (73, (m175.1 73)), (74, (m175.1 74)), (75, (m175.1 75)), (99, (m.1 99) + 1), (100, (m162.1 100))]) (a' := [(65, (m175.2 65)), (66, (m175.2 66)), (67, (m175.2 67)), (68, (m175.2 68)), (76, (m175.2 76)), (77, (m175.2 77)), (78, (m175.2 78)), (79, (m175.2 79)), (80, (m175.2 80)), (81, (m175.2 81)), (82, (m175.2 82)), (83, (m175.2 83)), (84, (m175.2 84)), (85, (m175.2 85)), (86, (m175.2 86)), (87, (m175.2 87)), (88, (m175.2 88)), (89, (m175.2 89)), (90, (m175.2 90)), (91, (m175.2 91)), (92, (m175.2 92)), (101, (m162.2 101)), (102, (m162.2 102)), (103, (m162.2 103)), (104, (m.2 104)), (105, (m175.2 105)), (106, (m175.2 106)), (107, (m.2 107)), (108, (m.2 108))]) [7, 8, 9, 10, 11, 12, 28, 69, 70, 71, 72, 73, 74, 75] [65, 66, 67, 68, 76, 77, 78, 79, 80, 81, 82, 83, 84, 85, 86, 87, 88, 89, 90, 91, 92, 105, 106] rfl ⟨rfl, rfl, rfl, rfl, rfl, rfl, rfl, rfl, rfl, rfl, rfl, rfl, rfl, rfl, rfl, rfl, rfl, rfl, rfl, rfl, rfl, rfl, rfl, rfl, rfl, rfl, rfl, rfl, rfl, rfl, rfl, rfl, trivial⟩ ⟨rfl, rfl, rfl, rfl, rfl, rfl, rfl, rfl, rfl, rfl, rfl, rfl, rfl, rfl, rfl, rfl, rfl, rfl, rfl, rfl, rfl, rfl, rfl, rfl, rfl, rfl, rfl, rfl, rfl, rfl, rfl, rfl, rfl, rfl, rfl, rfl, rfl, rfl, rfl, rfl, rfl, rfl, rfl, rfl, rfl, rfl, rfl, rfl, rfl, rfl, rfl, rfl, rfl, rfl, rfl, rfl, rfl, rfl, rfl, rfl, rfl, rfl, trivial⟩ rfl rfl (by decide) (by decide) ?_
    have g180 : 0 ≤ m175.1 7 ∧ m175.1 7 ≤ 330 := hT176.1 7
    have g181 : 0 ≤ m175.1 8 ∧ m175.1 8 ≤ 4000 := hT176.1 8
    have g182 : 0 ≤ m175.1 9 ∧ m175.1 9 ≤ 4000 := hT176.1 9
    have g183 : 0 ≤ m175.1 10 ∧ m175.1 10 ≤ 8 := hT176.1 10
    have g184 : (-1) ≤ m175.1 11 ∧ m175.1 11 ≤ 4000 := hT176.1 11
    have g185 : (-9223372036854775808) ≤ m175.1 12 ∧ m175.1 12 ≤ 9223372036854775807 := hT176.1 12
    have g186 : 0 ≤ m175.1 28 ∧ m175.1 28 ≤ 800 := hT176.1 28
    have g187 : 0 ≤ m175.1 69 ∧ m175.1 69 ≤ 1024 := hT176.1 69
    have g188 : 0 ≤ m175.1 70 ∧ m175.1 70 ≤ 4000 := hT176.1 70
    have g189 : 0 ≤ m175.1 71 ∧ m175.1 71 ≤ 1 := hT176.1 71
    have g190 : (-9223372036854775808) ≤ m175.1 72 ∧ m175.1 72 ≤ 9223372036854775807 := hT176.1 72
    have g191 : 0 ≤ m175.1 73 ∧ m175.1 73 ≤ 60 := hT176.1 73
    have g192 : 0 ≤ m175.1 74 ∧ m175.1 74 ≤ 24 := hT176.1 74
    have g193 : 0 ≤ m175.1 75 ∧ m175.1 75 ≤ 3 := hT176.1 75
    replace h177 : (m175.1 10) = 0 → (m162.1 10) = 0 := h177
    replace h178 : LxP (m175.1 7) (m175.1 8) (m175.1 9) (m.1 6) (m175.1 10) := h178
    have hf194 : 1 ≤ (m175.1 10) := by omega
    clear c179
    clear h177
    have hLx := h178
    clear q165_7 q165_8 q165_9 q165_10 q165_11 q165_12 ic168 ic169
    exact J143_132 v161 (mO m [(7, (m175.1 7)), (8, (m175.1 8)), (9, (m175.1 9)), (10, (m175.1 10)), (11, (m175.1 11)), (12, (m175.1 12)), (28, (m175.1 28)), (69, (m175.1 69)), (70, (m175.1 70)), (71, (m175.1 71)), (72, (m175.1 72)), (73, (m175.1 73)), (74, (m175.1 74)), (75, (m175.1 75)), (99, (m.1 99) + 1), (100, (m162.1 100))] [(65, (m175.2 65)), (66, (m175.2 66)), (67, (m175.2 67)), (68, (m175.2 68)), (76, (m175.2 76)), (77, (m175.2 77)), (78, (m175.2 78)), (79, (m175.2 79)), (80, (m175.2 80)), (81, (m175.2 81)), (82, (m175.2 82)), (83, (m175.2 83)), (84, (m175.2 84)), (85, (m175.2 85)), (86, (m175.2 86)), (87, (m175.2 87)), (88, (m175.2 88)), (89, (m175.2 89)), (90, (m175.2 90)), (91, (m175.2 91)), (92, (m175.2 92)), (101, (m162.2 101)), (102, (m162.2 102)), (103, (m162.2 103)), (104, (m.2 104)), (105, (m175.2 105)), (106, (m175.2 106)), (107, (m.2 107)), (108, (m.2 108))]) (r32 (by omega) (by omega)) (Ty_mO hT rfl rfl ⟨(hT176.1 7), (hT176.1 8), (hT176.1 9), (hT176.1 10), (hT176.1 11), (hT176.1 12), (hT176.1 28), (hT176.1 69), (hT176.1 70), (hT176.1 71), (hT176.1 72), (hT176.1 73), (hT176.1 74), (hT176.1 75), ⟨(by omega : (0 : Int) ≤ (m.1 99) + 1), (by omega : ((m.1 99) + 1 : Int) ≤ 240)⟩, (q165.1 100), trivial⟩ ⟨(hT176.2.1 65), (hT176.2.1 66), (hT176.2.1 67), (hT176.2.1 68), (hT176.2.1 76), (hT176.2.1 77), (hT176.2.1 78), (hT176.2.1 79), (hT176.2.1 80), (hT176.2.1 81), (hT176.2.1 82), (hT176.2.1 83), (hT176.2.1 84), (hT176.2.1 85), (hT176.2.1 86), (hT176.2.1 87), (hT176.2.1 88), (hT176.2.1 89), (hT176.2.1 90), (hT176.2.1 91), (hT176.2.1 92), (q165.2.1 101), (q165.2.1 102), (q165.2.1 103), (hT.2.1 104), (hT176.2.1 105), (hT176.2.1 106), (hT.2.1 107), (hT.2.1 108), trivial⟩) (show 0 ≤ v161 by omega) (show v161 ≤ 4000 by omega) (show 1 ≤ (m175.1 10) by omega) (show (m175.1 10) ≤ 8 by omega) (show 0 ≤ ((m.1 99) + 1) ∧ ((m.1 99) + 1) ≤ 240 by omega) (show 0 ≤ (m.1 99) ∧ (m.1 99) ≤ 240 by omega)
  have J102_198 : ∀ (v195 : Int) (s196 : Int) (m197 : mR), (R32 v195) → (R32 s196) → (Ty m197) → (0 ≤ v195) → (v195 ≤ 4000) → (0 ≤ s196) → (s196 ≤ 7) → (1 ≤ (m197.1 10)) → ((m197.1 10) ≤ 8) → (0 ≤ ((m.1 99) + 1) ∧ ((m.1 99) + 1) ≤ 240) → (0 ≤ (m.1 99) ∧ (m.1 99) ≤ 240) → TT w D pm_270 (102, [(0, .ref 189), (1, .int (i32 (m.1 99))), (2, .int (i32 v195))], [.int (i32 s196), .int (i32 (m.1 99)), .ref 263], (mhp (mO m [(7, (m197.1 7)), (8, (m197.1 8)), (9, (m197.1 9)), (10, (m197.1 10)), (11, (m197.1 11)), (12, (m197.1 12)), (28, (m.1 28)), (69, (m.1 69)), (70, (m.1 70)), (71, (m.1 71)), (72, (m.1 72)), (73, (m.1 73)), (74, (m.1 74)), (75, (m.1 75)), (99, (m.1 99) + 1), (100, (m197.1 100))] [(65, (m.2 65)), (66, (m.2 66)), (67, (m.2 67)), (68, (m.2 68)), (76, (m.2 76)), (77, (m.2 77)), (78, (m.2 78)), (79, (m.2 79)), (80, (m.2 80)), (81, (m.2 81)), (82, (m.2 82)), (83, (m.2 83)), (84, (m.2 84)), (85, (m.2 85)), (86, (m.2 86)), (87, (m.2 87)), (88, (m.2 88)), (89, (m.2 89)), (90, (m.2 90)), (91, (m.2 91)), (92, (m.2 92)), (101, (m197.2 101)), (102, (m197.2 102)), (103, (m.2 103)), (104, (m.2 104)), (105, (m.2 105)), (106, (m.2 106)), (107, (m.2 107)), (108, (m.2 108))]) c, N), 0, 0) (Q_takeStatement m c N) := by
    intro v195 s196 m197 q199 q200 q201 ic202 ic203 ic204 ic205 ic206 ic207 ic208 ic209
    obtain ⟨q199a, q199b⟩ := id q199
    obtain ⟨q200a, q200b⟩ := id q200
    have q201_7 : 0 ≤ m197.1 7 ∧ m197.1 7 ≤ 330 := q201.1 7
    have q201_8 : 0 ≤ m197.1 8 ∧ m197.1 8 ≤ 4000 := q201.1 8
    have q201_9 : 0 ≤ m197.1 9 ∧ m197.1 9 ≤ 4000 := q201.1 9
    have q201_10 : 0 ≤ m197.1 10 ∧ m197.1 10 ≤ 8 := q201.1 10
    have q201_11 : (-1) ≤ m197.1 11 ∧ m197.1 11 ≤ 4000 := q201.1 11
    have q201_12 : (-9223372036854775808) ≤ m197.1 12 ∧ m197.1 12 ≤ 9223372036854775807 := q201.1 12
    have q201_100 : 0 ≤ m197.1 100 ∧ m197.1 100 ≤ 64 := q201.1 100
    have G211 : ∀ j, 0 ≤ (upI (m.2 103) (m.1 99) s196) j ∧ (upI (m.2 103) (m.1 99) s196) j ≤ 7 := upI_rg (hT.2.1 103) ⟨by omega, by omega⟩
    refine T_iast (a' := [(65, (m.2 65)), (66, (m.2 66)), (67, (m.2 67)), (68, (m.2 68)), (76, (m.2 76)), (77, (m.2 77)), (78, (m.2 78)), (79, (m.2 79)), (80, (m.2 80)), (81, (m.2 81)), (82, (m.2 82)), (83, (m.2 83)), (84, (m.2 84)), (85, (m.2 85)), (86, (m.2 86)), (87, (m.2 87)), (88, (m.2 88)), (89, (m.2 89)), (90, (m.2 90)), (91, (m.2 91)), (92, (m.2 92)), (101, (m197.2 101)), (102, (m197.2 102)), (103, upI (m.2 103) (m.1 99) s196), (104, (m.2 104)), (105, (m.2 105)), (106, (m.2 106)), (107, (m.2 107)), (108, (m.2 108))]) 103 103 (m.2 103) rfl rfl rfl (by omega) (show (m.1 99) < (240 : Int) by omega) rfl rfl ?_
    refine T_gf 107 (.int (i32 (m197.1 10))) rfl rfl rfl rfl rfl rfl ?_
    refine T_if 138 110 rfl rfl rfl (r32 (by omega) (by omega)) (fun (h212 : (m197.1 10) ≠ 0) => ?_) (fun (h212 : ¬ ((m197.1 10) ≠ 0)) => by exfalso; omega)
    refine T_ld 139 (.ref 189) rfl (fun _ => rfl) ?_
    refine T_ld 140 (.int (i32 (m.1 99))) rfl (fun _ => rfl) ?_
    refine T_call 143 274 [.ref 189, .int (i32 (m.1 99))] [] rfl (fun _ => rfl) rfl (c_takeIndex w (mO m [(7, (m197.1 7)), (8, (m197.1 8)), (9, (m197.1 9)), (10, (m197.1 10)), (11, (m197.1 11)), (12, (m197.1 12)), (28, (m.1 28)), (69, (m.1 69)), (70, (m.1 70)), (71, (m.1 71)), (72, (m.1 72)), (73, (m.1 73)), (74, (m.1 74)), (75, (m.1 75)), (99, (m.1 99) + 1), (100, (m197.1 100))] [(65, (m.2 65)), (66, (m.2 66)), (67, (m.2 67)), (68, (m.2 68)), (76, (m.2 76)), (77, (m.2 77)), (78, (m.2 78)), (79, (m.2 79)), (80, (m.2 80)), (81, (m.2 81)), (82, (m.2 82)), (83, (m.2 83)), (84, (m.2 84)), (85, (m.2 85)), (86, (m.2 86)), (87, (m.2 87)), (88, (m.2 88)), (89, (m.2 89)), (90, (m.2 90)), (91, (m.2 91)), (92, (m.2 92)), (101, (m197.2 101)), (102, (m197.2 102)), (103, upI (m.2 103) (m.1 99) s196), (104, (m.2 104)), (105, (m.2 105)), (106, (m.2 106)), (107, (m.2 107)), (108, (m.2 108))]) c N D (by omega) (Ty_mO hT rfl rfl ⟨(q201.1 7), (q201.1 8), (q201.1 9), (q201.1 10), (q201.1 11), (q201.1 12), f28, f69, f70, f71, f72, f73, f74, f75, ⟨(by omega : (0 : Int) ≤ (m.1 99) + 1), (by omega : ((m.1 99) + 1 : Int) ≤ 240)⟩, (q201.1 100), trivial⟩ ⟨(hT.2.1 65), (hT.2.1 66), (hT.2.1 67), (hT.2.1 68), (hT.2.1 76), (hT.2.1 77), (hT.2.1 78), (hT.2.1 79), (hT.2.1 80), (hT.2.1 81), (hT.2.1 82), (hT.2.1 83), (hT.2.1 84), (hT.2.1 85), (hT.2.1 86), (hT.2.1 87), (hT.2.1 88), (hT.2.1 89), (hT.2.1 90), (hT.2.1 91), (hT.2.1 92), (q201.2.1 101), (q201.2.1 102), G211, (hT.2.1 104), (hT.2.1 105), (hT.2.1 106), (hT.2.1 107), (hT.2.1 108), trivial⟩) (m.1 99) (r32 (by omega) (by omega)) (show LxP (m197.1 7) (m197.1 8) (m197.1 9) (m.1 6) (m197.1 10) by first | exact hLx | exact (fun _ => hLx (by omega)) | (intro h9; exfalso; omega)) (show ∀ k, (m.2 14) k + (m.2 15) k ≤ 4000 by assumption) (show ∀ k, (m.2 31) k + (m.2 32) k ≤ 4000 by assumption) (show ∀ k, (m.2 47) k + (m.2 48) k ≤ 4000 by assumption) (show 0 ≤ (m.1 99) ∧ (m.1 99) ≤ 239 by omega) (fun (h : (m197.1 10) = 0) => absurd h (by omega))) (fun rr213 k214 => ?_)
    obtain ⟨m215, hT216, h217, h218, c219, rfl⟩ := k214
    refine ⟨_, _, rfl, ?_⟩
    refine T_nf2 (st' := []) (l' := [(7, (m215.1 7)), (8, (m215.1 8)), (9, (m215.1 9)), (10, (m215.1 10)), (11, (m215.1 11)), (12, (m215.1 12)), (28, (m215.1 28)), (69, (m215.1 69)), (70, (m215.1 70)), (71, (m215.1 71)), (72, (m215.1 72)), (73, (m215.1 73)), (74, (m215.1 74)), (75, (m215.1 75)), (99, (m.1 99) + 1), (100, (m197.1 100))]) (a' := [(65, (m215.2 65)), (66, (m215.2 66)), (67, (m215.2 67)), (68, (m215.2 68)), (76, (m215.2 76)), (77, (m215.2 77)), (78, (m215.2 78)), (79, (m215.2 79)), (80, (m215.2 80)), (81, (m215.2 81)), (82, (m215.2 82)), (83, (m215.2 83)), (84, (m215.2 84)), (85, (m215.2 85)), (86, (m215.2 86)), (87, (m215.2 87)), (88, (m215.2 88)), (89, (m215.2 89)), (90, (m215.2 90)), (91, (m215.2 91)), (92, (m215.2 92)), (101, (m197.2 101)), (102, (m197.2 102)), (103, upI (m.2 103) (m.1 99) s196), (104, (m.2 104)), (105, (m215.2 105)), (106, (m215.2 106)), (107, (m.2 107)), (108, (m.2 108))]) [7, 8, 9, 10, 11, 12, 28, 69, 70, 71, 72, 73, 74, 75] [65, 66, 67, 68, 76, 77, 78, 79, 80, 81, 82, 83, 84, 85, 86, 87, 88, 89, 90, 91, 92, 105, 106] rfl ⟨rfl, rfl, rfl, rfl, rfl, rfl, rfl, rfl, rfl, rfl, rfl, rfl, rfl, rfl, rfl, rfl, rfl, rfl, rfl, rfl, rfl, rfl, rfl, rfl, rfl, rfl, rfl, rfl, rfl, rfl, rfl, rfl, trivial⟩ ⟨rfl, rfl, rfl, rfl, rfl, rfl, rfl, rfl, rfl, rfl, rfl, rfl, rfl, rfl, rfl, rfl, rfl, rfl, rfl, rfl, rfl, rfl, rfl, rfl, rfl, rfl, rfl, rfl, rfl, rfl, rfl, rfl, rfl, rfl, rfl, rfl, rfl, rfl, rfl, rfl, rfl, rfl, rfl, rfl, rfl, rfl, rfl, rfl, rfl, rfl, rfl, rfl, rfl, rfl, rfl, rfl, rfl, rfl, rfl, rfl, rfl, rfl, trivial⟩ rfl rfl (by decide) (by decide) ?_
    have g220 : 0 ≤ m215.1 7 ∧ m215.1 7 ≤ 330 := hT216.1 7
    have g221 : 0 ≤ m215.1 8 ∧ m215.1 8 ≤ 4000 := hT216.1 8
    have g222 : 0 ≤ m215.1 9 ∧ m215.1 9 ≤ 4000 := hT216.1 9
    have g223 : 0 ≤ m215.1 10 ∧ m215.1 10 ≤ 8 := hT216.1 10
    have g224 : (-1) ≤ m215.1 11 ∧ m215.1 11 ≤ 4000 := hT216.1 11
    have g225 : (-9223372036854775808) ≤ m215.1 12 ∧ m215.1 12 ≤ 9223372036854775807 := hT216.1 12
    have g226 : 0 ≤ m215.1 28 ∧ m215.1 28 ≤ 800 := hT216.1 28
    have g227 : 0 ≤ m215.1 69 ∧ m215.1 69 ≤ 1024 := hT216.1 69
    have g228 : 0 ≤ m215.1 70 ∧ m215.1 70 ≤ 4000 := hT216.1 70
    have g229 : 0 ≤ m215.1 71 ∧ m215.1 71 ≤ 1 := hT216.1 71
    have g230 : (-9223372036854775808) ≤ m215.1 72 ∧ m215.1 72 ≤ 9223372036854775807 := hT216.1 72
    have g231 : 0 ≤ m215.1 73 ∧ m215.1 73 ≤ 60 := hT216.1 73
    have g232 : 0 ≤ m215.1 74 ∧ m215.1 74 ≤ 24 := hT216.1 74
    have g233 : 0 ≤ m215.1 75 ∧ m215.1 75 ≤ 3 := hT216.1 75
    replace h217 : (m215.1 10) = 0 → (m197.1 10) = 0 := h217
    replace h218 : LxP (m215.1 7) (m215.1 8) (m215.1 9) (m.1 6) (m215.1 10) := h218
    have hf234 : 1 ≤ (m215.1 10) := by omega
    clear c219
    clear h217
    have hLx := h218
    clear q201_7 q201_8 q201_9 q201_10 q201_11 q201_12 ic206 ic207 h212
    exact J143_132 v195 (mO m [(7, (m215.1 7)), (8, (m215.1 8)), (9, (m215.1 9)), (10, (m215.1 10)), (11, (m215.1 11)), (12, (m215.1 12)), (28, (m215.1 28)), (69, (m215.1 69)), (70, (m215.1 70)), (71, (m215.1 71)), (72, (m215.1 72)), (73, (m215.1 73)), (74, (m215.1 74)), (75, (m215.1 75)), (99, (m.1 99) + 1), (100, (m197.1 100))] [(65, (m215.2 65)), (66, (m215.2 66)), (67, (m215.2 67)), (68, (m215.2 68)), (76, (m215.2 76)), (77, (m215.2 77)), (78, (m215.2 78)), (79, (m215.2 79)), (80, (m215.2 80)), (81, (m215.2 81)), (82, (m215.2 82)), (83, (m215.2 83)), (84, (m215.2 84)), (85, (m215.2 85)), (86, (m215.2 86)), (87, (m215.2 87)), (88, (m215.2 88)), (89, (m215.2 89)), (90, (m215.2 90)), (91, (m215.2 91)), (92, (m215.2 92)), (101, (m197.2 101)), (102, (m197.2 102)), (103, upI (m.2 103) (m.1 99) s196), (104, (m.2 104)), (105, (m215.2 105)), (106, (m215.2 106)), (107, (m.2 107)), (108, (m.2 108))]) (r32 (by omega) (by omega)) (Ty_mO hT rfl rfl ⟨(hT216.1 7), (hT216.1 8), (hT216.1 9), (hT216.1 10), (hT216.1 11), (hT216.1 12), (hT216.1 28), (hT216.1 69), (hT216.1 70), (hT216.1 71), (hT216.1 72), (hT216.1 73), (hT216.1 74), (hT216.1 75), ⟨(by omega : (0 : Int) ≤ (m.1 99) + 1), (by omega : ((m.1 99) + 1 : Int) ≤ 240)⟩, (q201.1 100), trivial⟩ ⟨(hT216.2.1 65), (hT216.2.1 66), (hT216.2.1 67), (hT216.2.1 68), (hT216.2.1 76), (hT216.2.1 77), (hT216.2.1 78), (hT216.2.1 79), (hT216.2.1 80), (hT216.2.1 81), (hT216.2.1 82), (hT216.2.1 83), (hT216.2.1 84), (hT216.2.1 85), (hT216.2.1 86), (hT216.2.1 87), (hT216.2.1 88), (hT216.2.1 89), (hT216.2.1 90), (hT216.2.1 91), (hT216.2.1 92), (q201.2.1 101), (q201.2.1 102), G211, (hT.2.1 104), (hT216.2.1 105), (hT216.2.1 106), (hT.2.1 107), (hT.2.1 108), trivial⟩) (show 0 ≤ v195 by omega) (show v195 ≤ 4000 by omega) (show 1 ≤ (m215.1 10) by omega) (show (m215.1 10) ≤ 8 by omega) (show 0 ≤ ((m.1 99) + 1) ∧ ((m.1 99) + 1) ≤ 240 by omega) (show 0 ≤ (m.1 99) ∧ (m.1 99) ≤ 240 by omega)
  have J86_237 : ∀ (s235 : Int) (m236 : mR), (R32 s235) → (Ty m236) → (0 ≤ s235) → (s235 ≤ 207) → (1 ≤ (m236.1 10)) → ((m236.1 10) ≤ 8) → (0 ≤ ((m.1 99) + 1) ∧ ((m.1 99) + 1) ≤ 240) → (0 ≤ (m.1 99) ∧ (m.1 99) ≤ 240) → TT w D pm_270 (86, [(0, .ref 189), (1, .int (i32 (m.1 99)))], [.int (i32 s235), .int (i32 (m.1 99)), .ref 262], (mhp (mO m [(7, (m236.1 7)), (8, (m236.1 8)), (9, (m236.1 9)), (10, (m236.1 10)), (11, (m236.1 11)), (12, (m236.1 12)), (28, (m.1 28)), (69, (m.1 69)), (70, (m.1 70)), (71, (m.1 71)), (72, (m.1 72)), (73, (m.1 73)), (74, (m.1 74)), (75, (m.1 75)), (99, (m.1 99) + 1), (100, (m236.1 100))] [(65, (m.2 65)), (66, (m.2 66)), (67, (m.2 67)), (68, (m.2 68)), (76, (m.2 76)), (77, (m.2 77)), (78, (m.2 78)), (79, (m.2 79)), (80, (m.2 80)), (81, (m.2 81)), (82, (m.2 82)), (83, (m.2 83)), (84, (m.2 84)), (85, (m.2 85)), (86, (m.2 86)), (87, (m.2 87)), (88, (m.2 88)), (89, (m.2 89)), (90, (m.2 90)), (91, (m.2 91)), (92, (m.2 92)), (101, (m236.2 101)), (102, (m.2 102)), (103, (m.2 103)), (104, (m.2 104)), (105, (m.2 105)), (106, (m.2 106)), (107, (m.2 107)), (108, (m.2 108))]) c, N), 0, 0) (Q_takeStatement m c N) := by
    intro s235 m236 q238 q239 ic240 ic241 ic242 ic243 ic244 ic245
    obtain ⟨q238a, q238b⟩ := id q238
    have q239_7 : 0 ≤ m236.1 7 ∧ m236.1 7 ≤ 330 := q239.1 7
    have q239_8 : 0 ≤ m236.1 8 ∧ m236.1 8 ≤ 4000 := q239.1 8
    have q239_9 : 0 ≤ m236.1 9 ∧ m236.1 9 ≤ 4000 := q239.1 9
    have q239_10 : 0 ≤ m236.1 10 ∧ m236.1 10 ≤ 8 := q239.1 10
    have q239_11 : (-1) ≤ m236.1 11 ∧ m236.1 11 ≤ 4000 := q239.1 11
    have q239_12 : (-9223372036854775808) ≤ m236.1 12 ∧ m236.1 12 ≤ 9223372036854775807 := q239.1 12
    have q239_100 : 0 ≤ m236.1 100 ∧ m236.1 100 ≤ 64 := q239.1 100
    have G247 : ∀ j, 0 ≤ (upI (m.2 102) (m.1 99) s235) j ∧ (upI (m.2 102) (m.1 99) s235) j ≤ 207 := upI_rg (hT.2.1 102) ⟨by omega, by omega⟩
    refine T_iast (a' := [(65, (m.2 65)), (66, (m.2 66)), (67, (m.2 67)), (68, (m.2 68)), (76, (m.2 76)), (77, (m.2 77)), (78, (m.2 78)), (79, (m.2 79)), (80, (m.2 80)), (81, (m.2 81)), (82, (m.2 82)), (83, (m.2 83)), (84, (m.2 84)), (85, (m.2 85)), (86, (m.2 86)), (87, (m.2 87)), (88, (m.2 88)), (89, (m.2 89)), (90, (m.2 90)), (91, (m.2 91)), (92, (m.2 92)), (101, (m236.2 101)), (102, upI (m.2 102) (m.1 99) s235), (103, (m.2 103)), (104, (m.2 104)), (105, (m.2 105)), (106, (m.2 106)), (107, (m.2 107)), (108, (m.2 108))]) 87 102 (m.2 102) rfl rfl rfl (by omega) (show (m.1 99) < (240 : Int) by omega) rfl rfl ?_
    refine T_gf 91 (.int (i32 (m236.1 8))) rfl rfl rfl rfl rfl rfl ?_
    refine T_sto 92 [(2, .int (i32 (m236.1 8))), (0, .ref 189), (1, .int (i32 (m.1 99)))] rfl (fun _ => rfl) ?_
    refine T_gf 96 (.ref 263) rfl rfl rfl rfl rfl rfl ?_
    refine T_ld 97 (.int (i32 (m.1 99))) rfl (fun _ => rfl) ?_
    refine T_ld 98 (.ref 189) rfl (fun _ => rfl) ?_
    refine T_ld 99 (.int (i32 4)) rfl (fun _ => rfl) ?_
    refine T_call 102 236 [.ref 189, .int (i32 4)] [.int (i32 (m.1 99)), .ref 263] rfl (fun _ => rfl) rfl (c_oldName w (mO m [(7, (m236.1 7)), (8, (m236.1 8)), (9, (m236.1 9)), (10, (m236.1 10)), (11, (m236.1 11)), (12, (m236.1 12)), (28, (m.1 28)), (69, (m.1 69)), (70, (m.1 70)), (71, (m.1 71)), (72, (m.1 72)), (73, (m.1 73)), (74, (m.1 74)), (75, (m.1 75)), (99, (m.1 99) + 1), (100, (m236.1 100))] [(65, (m.2 65)), (66, (m.2 66)), (67, (m.2 67)), (68, (m.2 68)), (76, (m.2 76)), (77, (m.2 77)), (78, (m.2 78)), (79, (m.2 79)), (80, (m.2 80)), (81, (m.2 81)), (82, (m.2 82)), (83, (m.2 83)), (84, (m.2 84)), (85, (m.2 85)), (86, (m.2 86)), (87, (m.2 87)), (88, (m.2 88)), (89, (m.2 89)), (90, (m.2 90)), (91, (m.2 91)), (92, (m.2 92)), (101, (m236.2 101)), (102, upI (m.2 102) (m.1 99) s235), (103, (m.2 103)), (104, (m.2 104)), (105, (m.2 105)), (106, (m.2 106)), (107, (m.2 107)), (108, (m.2 108))]) c N D (by omega) (Ty_mO hT rfl rfl ⟨(q239.1 7), (q239.1 8), (q239.1 9), (q239.1 10), (q239.1 11), (q239.1 12), f28, f69, f70, f71, f72, f73, f74, f75, ⟨(by omega : (0 : Int) ≤ (m.1 99) + 1), (by omega : ((m.1 99) + 1 : Int) ≤ 240)⟩, (q239.1 100), trivial⟩ ⟨(hT.2.1 65), (hT.2.1 66), (hT.2.1 67), (hT.2.1 68), (hT.2.1 76), (hT.2.1 77), (hT.2.1 78), (hT.2.1 79), (hT.2.1 80), (hT.2.1 81), (hT.2.1 82), (hT.2.1 83), (hT.2.1 84), (hT.2.1 85), (hT.2.1 86), (hT.2.1 87), (hT.2.1 88), (hT.2.1 89), (hT.2.1 90), (hT.2.1 91), (hT.2.1 92), (q239.2.1 101), G247, (hT.2.1 103), (hT.2.1 104), (hT.2.1 105), (hT.2.1 106), (hT.2.1 107), (hT.2.1 108), trivial⟩) 4 (m.1 22) ⟨by decide, by decide⟩ (show LxP (m236.1 7) (m236.1 8) (m236.1 9) (m.1 6) (m236.1 10) by first | exact hLx | (intro h9; exfalso; omega) | (intro h9; have h8 := hLx (by omega); omega)) (show ∀ k, (m.2 14) k + (m.2 15) k ≤ 4000 by first | exact p1 | exact hNM) (show 1 ≤ (4 : Int) ∧ (4 : Int) ≤ 7 ∧ (4 : Int) ≠ 5 by omega) (show (m.1 22) ≤ 16 by omega) (show (m236.1 10) = 0 → ∀ k, 0 ≤ k → k < (m.1 13) → (m.2 16) k = (4 : Int) → 0 ≤ (m.2 17) k ∧ (m.2 17) k < (m.1 22) by first | exact hOL | (intro h; exfalso; omega)) (show (4 : Int) = 3 → 3 ≤ (m.1 22) by omega)) (fun rr248 k249 => ?_)
    obtain ⟨y250, y252, y254, y256, y258, y260, oo, g251, g253, g255, g257, g259, g261, g262, h263, h264, h265, h266, h267, h268, rfl⟩ := k249
    refine ⟨_, _, rfl, ?_⟩
    refine T_nf2 (st' := [.int (i32 oo), .int (i32 (m.1 99)), .ref 263]) (l' := [(7, y250), (8, y252), (9, y254), (10, y256), (11, y258), (12, y260), (28, (m.1 28)), (69, (m.1 69)), (70, (m.1 70)), (71, (m.1 71)), (72, (m.1 72)), (73, (m.1 73)), (74, (m.1 74)), (75, (m.1 75)), (99, (m.1 99) + 1), (100, (m236.1 100))]) (a' := [(65, (m.2 65)), (66, (m.2 66)), (67, (m.2 67)), (68, (m.2 68)), (76, (m.2 76)), (77, (m.2 77)), (78, (m.2 78)), (79, (m.2 79)), (80, (m.2 80)), (81, (m.2 81)), (82, (m.2 82)), (83, (m.2 83)), (84, (m.2 84)), (85, (m.2 85)), (86, (m.2 86)), (87, (m.2 87)), (88, (m.2 88)), (89, (m.2 89)), (90, (m.2 90)), (91, (m.2 91)), (92, (m.2 92)), (101, (m236.2 101)), (102, upI (m.2 102) (m.1 99) s235), (103, (m.2 103)), (104, (m.2 104)), (105, (m.2 105)), (106, (m.2 106)), (107, (m.2 107)), (108, (m.2 108))]) [7, 8, 9, 10, 11, 12] [] rfl ⟨rfl, rfl, rfl, rfl, rfl, rfl, rfl, rfl, rfl, rfl, rfl, rfl, rfl, rfl, rfl, rfl, rfl, rfl, rfl, rfl, rfl, rfl, rfl, rfl, rfl, rfl, rfl, rfl, rfl, rfl, rfl, rfl, trivial⟩ ⟨rfl, rfl, rfl, rfl, rfl, rfl, rfl, rfl, rfl, rfl, rfl, rfl, rfl, rfl, rfl, rfl, rfl, rfl, rfl, rfl, rfl, rfl, rfl, rfl, rfl, rfl, rfl, rfl, rfl, rfl, rfl, rfl, rfl, rfl, rfl, rfl, rfl, rfl, rfl, rfl, rfl, rfl, rfl, rfl, rfl, rfl, rfl, rfl, rfl, rfl, rfl, rfl, rfl, rfl, rfl, rfl, rfl, rfl, trivial⟩ rfl rfl (by decide) (by decide) ?_
    obtain ⟨g262a, g262b⟩ := g262
    replace h263 : LxP y250 y252 y254 (m.1 6) y256 := h263
    replace h264 : (m236.1 8) ≤ y252 := h264
    replace h265 : y256 = 0 → (m236.1 10) = 0 ∧ (m236.1 8) + (m236.1 9) ≤ y252 := h265
    replace h266 : y256 = 0 → (m236.1 7) = 1 := h266
    replace h267 : 0 ≤ oo ∧ (oo < (m.1 22) ∨ oo = 0) := h267
    replace h268 : y256 = 0 → oo < (m.1 22) := h268
    have hf269 : 1 ≤ y256 := by omega
    clear h265
    clear h266
    clear h268
    have hLx := h263
    clear q239_7 q239_9 q239_10 q239_11 q239_12 ic242 ic243
    refine Tm_lv (a := [(0, .ref 189), (1, .int (i32 (m.1 99))), (2, .int (i32 (m236.1 8)))]) rfl rfl ⟨rfl, rfl, rfl, trivial⟩ ?_
    exact J102_198 (m236.1 8) oo (mO m [(7, y250), (8, y252), (9, y254), (10, y256), (11, y258), (12, y260), (28, (m.1 28)), (69, (m.1 69)), (70, (m.1 70)), (71, (m.1 71)), (72, (m.1 72)), (73, (m.1 73)), (74, (m.1 74)), (75, (m.1 75)), (99, (m.1 99) + 1), (100, (m236.1 100))] [(65, (m.2 65)), (66, (m.2 66)), (67, (m.2 67)), (68, (m.2 68)), (76, (m.2 76)), (77, (m.2 77)), (78, (m.2 78)), (79, (m.2 79)), (80, (m.2 80)), (81, (m.2 81)), (82, (m.2 82)), (83, (m.2 83)), (84, (m.2 84)), (85, (m.2 85)), (86, (m.2 86)), (87, (m.2 87)), (88, (m.2 88)), (89, (m.2 89)), (90, (m.2 90)), (91, (m.2 91)), (92, (m.2 92)), (101, (m236.2 101)), (102, upI (m.2 102) (m.1 99) s235), (103, (m.2 103)), (104, (m.2 104)), (105, (m.2 105)), (106, (m.2 106)), (107, (m.2 107)), (108, (m.2 108))]) (r32 (by omega) (by omega)) (r32 (by omega) (by omega)) (Ty_mO hT rfl rfl ⟨g251, g253, g255, g257, g259, g261, f28, f69, f70, f71, f72, f73, f74, f75, ⟨(by omega : (0 : Int) ≤ (m.1 99) + 1), (by omega : ((m.1 99) + 1 : Int) ≤ 240)⟩, (q239.1 100), trivial⟩ ⟨(hT.2.1 65), (hT.2.1 66), (hT.2.1 67), (hT.2.1 68), (hT.2.1 76), (hT.2.1 77), (hT.2.1 78), (hT.2.1 79), (hT.2.1 80), (hT.2.1 81), (hT.2.1 82), (hT.2.1 83), (hT.2.1 84), (hT.2.1 85), (hT.2.1 86), (hT.2.1 87), (hT.2.1 88), (hT.2.1 89), (hT.2.1 90), (hT.2.1 91), (hT.2.1 92), (q239.2.1 101), G247, (hT.2.1 103), (hT.2.1 104), (hT.2.1 105), (hT.2.1 106), (hT.2.1 107), (hT.2.1 108), trivial⟩) (show 0 ≤ (m236.1 8) by omega) (show (m236.1 8) ≤ 4000 by omega) (show 0 ≤ oo by omega) (show oo ≤ 7 by omega) (show 1 ≤ y256 by omega) (show y256 ≤ 8 by omega) (show 0 ≤ ((m.1 99) + 1) ∧ ((m.1 99) + 1) ≤ 240 by omega) (show 0 ≤ (m.1 99) ∧ (m.1 99) ≤ 240 by omega)
  have J60_272 : ∀ (v270 : Int) (m271 : mR), (R32 v270) → (Ty m271) → (0 ≤ v270) → (v270 ≤ 64) → (1 ≤ (m271.1 10)) → ((m271.1 10) ≤ 8) → (0 ≤ ((m.1 99) + 1) ∧ ((m.1 99) + 1) ≤ 240) → (0 ≤ (m.1 99) ∧ (m.1 99) ≤ 240) → TT w D pm_270 (60, [(0, .ref 189), (1, .int (i32 (m.1 99))), (2, .int (i32 v270))], [], (mhp (mO m [(7, (m271.1 7)), (8, (m271.1 8)), (9, (m271.1 9)), (10, (m271.1 10)), (11, (m271.1 11)), (12, (m271.1 12)), (28, (m271.1 28)), (69, (m271.1 69)), (70, (m271.1 70)), (71, (m271.1 71)), (72, (m271.1 72)), (73, (m271.1 73)), (74, (m271.1 74)), (75, (m271.1 75)), (99, (m.1 99) + 1), (100, (m271.1 100))] [(65, (m271.2 65)), (66, (m271.2 66)), (67, (m271.2 67)), (68, (m271.2 68)), (76, (m271.2 76)), (77, (m271.2 77)), (78, (m271.2 78)), (79, (m271.2 79)), (80, (m271.2 80)), (81, (m271.2 81)), (82, (m271.2 82)), (83, (m271.2 83)), (84, (m271.2 84)), (85, (m271.2 85)), (86, (m271.2 86)), (87, (m271.2 87)), (88, (m271.2 88)), (89, (m271.2 89)), (90, (m271.2 90)), (91, (m271.2 91)), (92, (m271.2 92)), (101, (m271.2 101)), (102, (m271.2 102)), (103, (m.2 103)), (104, (m.2 104)), (105, (m.2 105)), (106, (m.2 106)), (107, (m271.2 107)), (108, (m271.2 108))]) c, N), 0, 0) (Q_takeStatement m c N) := by
    intro v270 m271 q273 q274 ic275 ic276 ic277 ic278 ic279 ic280
    obtain ⟨q273a, q273b⟩ := id q273
    have q274_7 : 0 ≤ m271.1 7 ∧ m271.1 7 ≤ 330 := q274.1 7
    have q274_8 : 0 ≤ m271.1 8 ∧ m271.1 8 ≤ 4000 := q274.1 8
    have q274_9 : 0 ≤ m271.1 9 ∧ m271.1 9 ≤ 4000 := q274.1 9
    have q274_10 : 0 ≤ m271.1 10 ∧ m271.1 10 ≤ 8 := q274.1 10
    have q274_11 : (-1) ≤ m271.1 11 ∧ m271.1 11 ≤ 4000 := q274.1 11
    have q274_12 : (-9223372036854775808) ≤ m271.1 12 ∧ m271.1 12 ≤ 9223372036854775807 := q274.1 12
    have q274_28 : 0 ≤ m271.1 28 ∧ m271.1 28 ≤ 800 := q274.1 28
    have q274_69 : 0 ≤ m271.1 69 ∧ m271.1 69 ≤ 1024 := q274.1 69
    have q274_70 : 0 ≤ m271.1 70 ∧ m271.1 70 ≤ 4000 := q274.1 70
    have q274_71 : 0 ≤ m271.1 71 ∧ m271.1 71 ≤ 1 := q274.1 71
    have q274_72 : (-9223372036854775808) ≤ m271.1 72 ∧ m271.1 72 ≤ 9223372036854775807 := q274.1 72
    have q274_73 : 0 ≤ m271.1 73 ∧ m271.1 73 ≤ 60 := q274.1 73
    have q274_74 : 0 ≤ m271.1 74 ∧ m271.1 74 ≤ 24 := q274.1 74
    have q274_75 : 0 ≤ m271.1 75 ∧ m271.1 75 ≤ 3 := q274.1 75
    have q274_100 : 0 ≤ m271.1 100 ∧ m271.1 100 ≤ 64 := q274.1 100
    refine T_goto 229 rfl (fun _ => rfl) ?_
    refine T_ld 230 (.ref 189) rfl (fun _ => rfl) ?_
    refine T_ld 232 (.int (i32 59)) rfl (fun _ => rfl) ?_
    refine T_call 235 232 [.ref 189, .int (i32 59)] [] rfl (fun _ => rfl) rfl (c_need w (mO m [(7, (m271.1 7)), (8, (m271.1 8)), (9, (m271.1 9)), (10, (m271.1 10)), (11, (m271.1 11)), (12, (m271.1 12)), (28, (m271.1 28)), (69, (m271.1 69)), (70, (m271.1 70)), (71, (m271.1 71)), (72, (m271.1 72)), (73, (m271.1 73)), (74, (m271.1 74)), (75, (m271.1 75)), (99, (m.1 99) + 1), (100, (m271.1 100))] [(65, (m271.2 65)), (66, (m271.2 66)), (67, (m271.2 67)), (68, (m271.2 68)), (76, (m271.2 76)), (77, (m271.2 77)), (78, (m271.2 78)), (79, (m271.2 79)), (80, (m271.2 80)), (81, (m271.2 81)), (82, (m271.2 82)), (83, (m271.2 83)), (84, (m271.2 84)), (85, (m271.2 85)), (86, (m271.2 86)), (87, (m271.2 87)), (88, (m271.2 88)), (89, (m271.2 89)), (90, (m271.2 90)), (91, (m271.2 91)), (92, (m271.2 92)), (101, (m271.2 101)), (102, (m271.2 102)), (103, (m.2 103)), (104, (m.2 104)), (105, (m.2 105)), (106, (m.2 106)), (107, (m271.2 107)), (108, (m271.2 108))]) c N D (by omega) (Ty_mO hT rfl rfl ⟨(q274.1 7), (q274.1 8), (q274.1 9), (q274.1 10), (q274.1 11), (q274.1 12), (q274.1 28), (q274.1 69), (q274.1 70), (q274.1 71), (q274.1 72), (q274.1 73), (q274.1 74), (q274.1 75), ⟨(by omega : (0 : Int) ≤ (m.1 99) + 1), (by omega : ((m.1 99) + 1 : Int) ≤ 240)⟩, (q274.1 100), trivial⟩ ⟨(q274.2.1 65), (q274.2.1 66), (q274.2.1 67), (q274.2.1 68), (q274.2.1 76), (q274.2.1 77), (q274.2.1 78), (q274.2.1 79), (q274.2.1 80), (q274.2.1 81), (q274.2.1 82), (q274.2.1 83), (q274.2.1 84), (q274.2.1 85), (q274.2.1 86), (q274.2.1 87), (q274.2.1 88), (q274.2.1 89), (q274.2.1 90), (q274.2.1 91), (q274.2.1 92), (q274.2.1 101), (q274.2.1 102), (hT.2.1 103), (hT.2.1 104), (hT.2.1 105), (hT.2.1 106), (q274.2.1 107), (q274.2.1 108), trivial⟩) 59 ⟨by decide, by decide⟩ (show 1 ≤ (59 : Int) by omega) (show LxP (m271.1 7) (m271.1 8) (m271.1 9) (m.1 6) (m271.1 10) by first | exact hLx | (intro h9; exfalso; omega) | (intro h9; have h8 := hLx (by omega); omega))) (fun rr282 k283 => ?_)
    obtain ⟨y284, y286, y288, y290, y292, y294, g285, g287, g289, g291, g293, g295, h296, h297, h298, h299, rfl⟩ := k283
    refine ⟨_, _, rfl, ?_⟩
    refine T_nf2 (st' := []) (l' := [(7, y284), (8, y286), (9, y288), (10, y290), (11, y292), (12, y294), (28, (m271.1 28)), (69, (m271.1 69)), (70, (m271.1 70)), (71, (m271.1 71)), (72, (m271.1 72)), (73, (m271.1 73)), (74, (m271.1 74)), (75, (m271.1 75)), (99, (m.1 99) + 1), (100, (m271.1 100))]) (a' := [(65, (m271.2 65)), (66, (m271.2 66)), (67, (m271.2 67)), (68, (m271.2 68)), (76, (m271.2 76)), (77, (m271.2 77)), (78, (m271.2 78)), (79, (m271.2 79)), (80, (m271.2 80)), (81, (m271.2 81)), (82, (m271.2 82)), (83, (m271.2 83)), (84, (m271.2 84)), (85, (m271.2 85)), (86, (m271.2 86)), (87, (m271.2 87)), (88, (m271.2 88)), (89, (m271.2 89)), (90, (m271.2 90)), (91, (m271.2 91)), (92, (m271.2 92)), (101, (m271.2 101)), (102, (m271.2 102)), (103, (m.2 103)), (104, (m.2 104)), (105, (m.2 105)), (106, (m.2 106)), (107, (m271.2 107)), (108, (m271.2 108))]) [7, 8, 9, 10, 11, 12] [] rfl ⟨rfl, rfl, rfl, rfl, rfl, rfl, rfl, rfl, rfl, rfl, rfl, rfl, rfl, rfl, rfl, rfl, rfl, rfl, rfl, rfl, rfl, rfl, rfl, rfl, rfl, rfl, rfl, rfl, rfl, rfl, rfl, rfl, trivial⟩ ⟨rfl, rfl, rfl, rfl, rfl, rfl, rfl, rfl, rfl, rfl, rfl, rfl, rfl, rfl, rfl, rfl, rfl, rfl, rfl, rfl, rfl, rfl, rfl, rfl, rfl, rfl, rfl, rfl, rfl, rfl, rfl, rfl, rfl, rfl, rfl, rfl, rfl, rfl, rfl, rfl, rfl, rfl, rfl, rfl, rfl, rfl, rfl, rfl, rfl, rfl, rfl, rfl, rfl, rfl, rfl, rfl, rfl, rfl, trivial⟩ rfl rfl (by decide) (by decide) ?_
    replace h296 : LxP y284 y286 y288 (m.1 6) y290 := h296
    replace h297 : y290 = 0 → (m271.1 10) = 0 ∧ (m271.1 7) = (59 : Int) := h297
    replace h298 : (m271.1 8) ≤ y286 := h298
    replace h299 : y290 = 0 → (m271.1 8) + (m271.1 9) ≤ y286 := h299
    have hf300 : 1 ≤ y290 := by omega
    clear h297
    clear h299
    have hLx := h296
    clear q274_7 q274_8 q274_9 q274_10 q274_11 q274_12 ic277 ic278 h298
    refine Tm_lv (a := [(0, .ref 189), (1, .int (i32 (m.1 99)))]) rfl rfl ⟨rfl, rfl, trivial⟩ ?_
    exact J235_28 (mO m [(7, y284), (8, y286), (9, y288), (10, y290), (11, y292), (12, y294), (28, (m271.1 28)), (69, (m271.1 69)), (70, (m271.1 70)), (71, (m271.1 71)), (72, (m271.1 72)), (73, (m271.1 73)), (74, (m271.1 74)), (75, (m271.1 75)), (99, (m.1 99) + 1), (100, (m271.1 100))] [(65, (m271.2 65)), (66, (m271.2 66)), (67, (m271.2 67)), (68, (m271.2 68)), (76, (m271.2 76)), (77, (m271.2 77)), (78, (m271.2 78)), (79, (m271.2 79)), (80, (m271.2 80)), (81, (m271.2 81)), (82, (m271.2 82)), (83, (m271.2 83)), (84, (m271.2 84)), (85, (m271.2 85)), (86, (m271.2 86)), (87, (m271.2 87)), (88, (m271.2 88)), (89, (m271.2 89)), (90, (m271.2 90)), (91, (m271.2 91)), (92, (m271.2 92)), (101, (m271.2 101)), (102, (m271.2 102)), (103, (m.2 103)), (104, (m.2 104)), (105, (m.2 105)), (106, (m.2 106)), (107, (m271.2 107)), (108, (m271.2 108))]) (Ty_mO hT rfl rfl ⟨g285, g287, g289, g291, g293, g295, (q274.1 28), (q274.1 69), (q274.1 70), (q274.1 71), (q274.1 72), (q274.1 73), (q274.1 74), (q274.1 75), ⟨(by omega : (0 : Int) ≤ (m.1 99) + 1), (by omega : ((m.1 99) + 1 : Int) ≤ 240)⟩, (q274.1 100), trivial⟩ ⟨(q274.2.1 65), (q274.2.1 66), (q274.2.1 67), (q274.2.1 68), (q274.2.1 76), (q274.2.1 77), (q274.2.1 78), (q274.2.1 79), (q274.2.1 80), (q274.2.1 81), (q274.2.1 82), (q274.2.1 83), (q274.2.1 84), (q274.2.1 85), (q274.2.1 86), (q274.2.1 87), (q274.2.1 88), (q274.2.1 89), (q274.2.1 90), (q274.2.1 91), (q274.2.1 92), (q274.2.1 101), (q274.2.1 102), (hT.2.1 103), (hT.2.1 104), (hT.2.1 105), (hT.2.1 106), (q274.2.1 107), (q274.2.1 108), trivial⟩) (show 1 ≤ y290 by omega) (show y290 ≤ 8 by omega) (show 0 ≤ ((m.1 99) + 1) ∧ ((m.1 99) + 1) ≤ 240 by omega) (show 0 ≤ (m.1 99) ∧ (m.1 99) ≤ 240 by omega)
  have J54_303 : ∀ (v301 : Int) (m302 : mR), (R32 v301) → (Ty m302) → (0 ≤ v301) → (v301 ≤ 64) → (1 ≤ (m302.1 10)) → ((m302.1 10) ≤ 8) → (0 ≤ ((m.1 99) + 1) ∧ ((m.1 99) + 1) ≤ 240) → (0 ≤ (m.1 99) ∧ (m.1 99) ≤ 240) → TT w D pm_270 (54, [(0, .ref 189), (1, .int (i32 (m.1 99))), (2, .int (i32 v301))], [], (mhp (mO m [(7, (m302.1 7)), (8, (m302.1 8)), (9, (m302.1 9)), (10, (m302.1 10)), (11, (m302.1 11)), (12, (m302.1 12)), (28, (m.1 28)), (69, (m.1 69)), (70, (m.1 70)), (71, (m.1 71)), (72, (m.1 72)), (73, (m.1 73)), (74, (m.1 74)), (75, (m.1 75)), (99, (m.1 99) + 1), (100, (m302.1 100))] [(65, (m.2 65)), (66, (m.2 66)), (67, (m.2 67)), (68, (m.2 68)), (76, (m.2 76)), (77, (m.2 77)), (78, (m.2 78)), (79, (m.2 79)), (80, (m.2 80)), (81, (m.2 81)), (82, (m.2 82)), (83, (m.2 83)), (84, (m.2 84)), (85, (m.2 85)), (86, (m.2 86)), (87, (m.2 87)), (88, (m.2 88)), (89, (m.2 89)), (90, (m.2 90)), (91, (m.2 91)), (92, (m.2 92)), (101, (m302.2 101)), (102, (m302.2 102)), (103, (m.2 103)), (104, (m.2 104)), (105, (m.2 105)), (106, (m.2 106)), (107, (m.2 107)), (108, (m.2 108))]) c, N), 0, 0) (Q_takeStatement m c N) := by
    intro v301 m302 q304 q305 ic306 ic307 ic308 ic309 ic310 ic311
    obtain ⟨q304a, q304b⟩ := id q304
    have q305_7 : 0 ≤ m302.1 7 ∧ m302.1 7 ≤ 330 := q305.1 7
    have q305_8 : 0 ≤ m302.1 8 ∧ m302.1 8 ≤ 4000 := q305.1 8
    have q305_9 : 0 ≤ m302.1 9 ∧ m302.1 9 ≤ 4000 := q305.1 9
    have q305_10 : 0 ≤ m302.1 10 ∧ m302.1 10 ≤ 8 := q305.1 10
    have q305_11 : (-1) ≤ m302.1 11 ∧ m302.1 11 ≤ 4000 := q305.1 11
    have q305_12 : (-9223372036854775808) ≤ m302.1 12 ∧ m302.1 12 ≤ 9223372036854775807 := q305.1 12
    have q305_100 : 0 ≤ m302.1 100 ∧ m302.1 100 ≤ 64 := q305.1 100
    refine T_ld 55 (.ref 189) rfl (fun _ => rfl) ?_
    refine T_ld 56 (.int (i32 (m.1 99))) rfl (fun _ => rfl) ?_
    refine T_ld 57 (.int (i32 v301)) rfl (fun _ => rfl) ?_
    refine T_call 60 272 [.ref 189, .int (i32 (m.1 99)), .int (i32 v301)] [] rfl (fun _ => rfl) rfl (c_takeWorth w (mO m [(7, (m302.1 7)), (8, (m302.1 8)), (9, (m302.1 9)), (10, (m302.1 10)), (11, (m302.1 11)), (12, (m302.1 12)), (28, (m.1 28)), (69, (m.1 69)), (70, (m.1 70)), (71, (m.1 71)), (72, (m.1 72)), (73, (m.1 73)), (74, (m.1 74)), (75, (m.1 75)), (99, (m.1 99) + 1), (100, (m302.1 100))] [(65, (m.2 65)), (66, (m.2 66)), (67, (m.2 67)), (68, (m.2 68)), (76, (m.2 76)), (77, (m.2 77)), (78, (m.2 78)), (79, (m.2 79)), (80, (m.2 80)), (81, (m.2 81)), (82, (m.2 82)), (83, (m.2 83)), (84, (m.2 84)), (85, (m.2 85)), (86, (m.2 86)), (87, (m.2 87)), (88, (m.2 88)), (89, (m.2 89)), (90, (m.2 90)), (91, (m.2 91)), (92, (m.2 92)), (101, (m302.2 101)), (102, (m302.2 102)), (103, (m.2 103)), (104, (m.2 104)), (105, (m.2 105)), (106, (m.2 106)), (107, (m.2 107)), (108, (m.2 108))]) c N D (by omega) (Ty_mO hT rfl rfl ⟨(q305.1 7), (q305.1 8), (q305.1 9), (q305.1 10), (q305.1 11), (q305.1 12), f28, f69, f70, f71, f72, f73, f74, f75, ⟨(by omega : (0 : Int) ≤ (m.1 99) + 1), (by omega : ((m.1 99) + 1 : Int) ≤ 240)⟩, (q305.1 100), trivial⟩ ⟨(hT.2.1 65), (hT.2.1 66), (hT.2.1 67), (hT.2.1 68), (hT.2.1 76), (hT.2.1 77), (hT.2.1 78), (hT.2.1 79), (hT.2.1 80), (hT.2.1 81), (hT.2.1 82), (hT.2.1 83), (hT.2.1 84), (hT.2.1 85), (hT.2.1 86), (hT.2.1 87), (hT.2.1 88), (hT.2.1 89), (hT.2.1 90), (hT.2.1 91), (hT.2.1 92), (q305.2.1 101), (q305.2.1 102), (hT.2.1 103), (hT.2.1 104), (hT.2.1 105), (hT.2.1 106), (hT.2.1 107), (hT.2.1 108), trivial⟩) (m.1 99) v301 (r32 (by omega) (by omega)) (r32 (by omega) (by omega)) (show LxP (m302.1 7) (m302.1 8) (m302.1 9) (m.1 6) (m302.1 10) by first | exact hLx | exact (fun _ => hLx (by omega)) | (intro h9; exfalso; omega)) (show ∀ k, (m.2 14) k + (m.2 15) k ≤ 4000 by assumption) (show ∀ k, (m.2 31) k + (m.2 32) k ≤ 4000 by assumption) (show ∀ k, (m.2 47) k + (m.2 48) k ≤ 4000 by assumption) (show 0 ≤ (m.1 99) ∧ (m.1 99) ≤ 239 by omega) (fun (h : (m302.1 10) = 0) => absurd h (by omega))) (fun rr313 k314 => ?_)
    obtain ⟨m315, hT316, h317, h318, c319, rfl⟩ := k314
    refine ⟨_, _, rfl, ?_⟩
    refine T_nf2 (st' := []) (l' := [(7, (m315.1 7)), (8, (m315.1 8)), (9, (m315.1 9)), (10, (m315.1 10)), (11, (m315.1 11)), (12, (m315.1 12)), (28, (m315.1 28)), (69, (m315.1 69)), (70, (m315.1 70)), (71, (m315.1 71)), (72, (m315.1 72)), (73, (m315.1 73)), (74, (m315.1 74)), (75, (m315.1 75)), (99, (m.1 99) + 1), (100, (m302.1 100))]) (a' := [(65, (m315.2 65)), (66, (m315.2 66)), (67, (m315.2 67)), (68, (m315.2 68)), (76, (m315.2 76)), (77, (m315.2 77)), (78, (m315.2 78)), (79, (m315.2 79)), (80, (m315.2 80)), (81, (m315.2 81)), (82, (m315.2 82)), (83, (m315.2 83)), (84, (m315.2 84)), (85, (m315.2 85)), (86, (m315.2 86)), (87, (m315.2 87)), (88, (m315.2 88)), (89, (m315.2 89)), (90, (m315.2 90)), (91, (m315.2 91)), (92, (m315.2 92)), (101, (m302.2 101)), (102, (m302.2 102)), (103, (m.2 103)), (104, (m.2 104)), (105, (m.2 105)), (106, (m.2 106)), (107, (m315.2 107)), (108, (m315.2 108))]) [7, 8, 9, 10, 11, 12, 28, 69, 70, 71, 72, 73, 74, 75] [65, 66, 67, 68, 76, 77, 78, 79, 80, 81, 82, 83, 84, 85, 86, 87, 88, 89, 90, 91, 92, 107, 108] rfl ⟨rfl, rfl, rfl, rfl, rfl, rfl, rfl, rfl, rfl, rfl, rfl, rfl, rfl, rfl, rfl, rfl, rfl, rfl, rfl, rfl, rfl, rfl, rfl, rfl, rfl, rfl, rfl, rfl, rfl, rfl, rfl, rfl, trivial⟩ ⟨rfl, rfl, rfl, rfl, rfl, rfl, rfl, rfl, rfl, rfl, rfl, rfl, rfl, rfl, rfl, rfl, rfl, rfl, rfl, rfl, rfl, rfl, rfl, rfl, rfl, rfl, rfl, rfl, rfl, rfl, rfl, rfl, rfl, rfl, rfl, rfl, rfl, rfl, rfl, rfl, rfl, rfl, rfl, rfl, rfl, rfl, rfl, rfl, rfl, rfl, rfl, rfl, rfl, rfl, rfl, rfl, rfl, rfl, rfl, rfl, rfl, rfl, rfl, rfl, trivial⟩ rfl rfl (by decide) (by decide) ?_
    have g320 : 0 ≤ m315.1 7 ∧ m315.1 7 ≤ 330 := hT316.1 7
    have g321 : 0 ≤ m315.1 8 ∧ m315.1 8 ≤ 4000 := hT316.1 8
    have g322 : 0 ≤ m315.1 9 ∧ m315.1 9 ≤ 4000 := hT316.1 9
    have g323 : 0 ≤ m315.1 10 ∧ m315.1 10 ≤ 8 := hT316.1 10
    have g324 : (-1) ≤ m315.1 11 ∧ m315.1 11 ≤ 4000 := hT316.1 11
    have g325 : (-9223372036854775808) ≤ m315.1 12 ∧ m315.1 12 ≤ 9223372036854775807 := hT316.1 12
    have g326 : 0 ≤ m315.1 28 ∧ m315.1 28 ≤ 800 := hT316.1 28
    have g327 : 0 ≤ m315.1 69 ∧ m315.1 69 ≤ 1024 := hT316.1 69
    have g328 : 0 ≤ m315.1 70 ∧ m315.1 70 ≤ 4000 := hT316.1 70
    have g329 : 0 ≤ m315.1 71 ∧ m315.1 71 ≤ 1 := hT316.1 71
    have g330 : (-9223372036854775808) ≤ m315.1 72 ∧ m315.1 72 ≤ 9223372036854775807 := hT316.1 72
    have g331 : 0 ≤ m315.1 73 ∧ m315.1 73 ≤ 60 := hT316.1 73
    have g332 : 0 ≤ m315.1 74 ∧ m315.1 74 ≤ 24 := hT316.1 74
    have g333 : 0 ≤ m315.1 75 ∧ m315.1 75 ≤ 3 := hT316.1 75
    replace h317 : (m315.1 10) = 0 → (m302.1 10) = 0 := h317
    replace h318 : LxP (m315.1 7) (m315.1 8) (m315.1 9) (m.1 6) (m315.1 10) := h318
    have hf334 : 1 ≤ (m315.1 10) := by omega
    clear c319
    clear h317
    have hLx := h318
    clear q305_7 q305_8 q305_9 q305_10 q305_11 q305_12 ic308 ic309
    exact J60_272 v301 (mO m [(7, (m315.1 7)), (8, (m315.1 8)), (9, (m315.1 9)), (10, (m315.1 10)), (11, (m315.1 11)), (12, (m315.1 12)), (28, (m315.1 28)), (69, (m315.1 69)), (70, (m315.1 70)), (71, (m315.1 71)), (72, (m315.1 72)), (73, (m315.1 73)), (74, (m315.1 74)), (75, (m315.1 75)), (99, (m.1 99) + 1), (100, (m302.1 100))] [(65, (m315.2 65)), (66, (m315.2 66)), (67, (m315.2 67)), (68, (m315.2 68)), (76, (m315.2 76)), (77, (m315.2 77)), (78, (m315.2 78)), (79, (m315.2 79)), (80, (m315.2 80)), (81, (m315.2 81)), (82, (m315.2 82)), (83, (m315.2 83)), (84, (m315.2 84)), (85, (m315.2 85)), (86, (m315.2 86)), (87, (m315.2 87)), (88, (m315.2 88)), (89, (m315.2 89)), (90, (m315.2 90)), (91, (m315.2 91)), (92, (m315.2 92)), (101, (m302.2 101)), (102, (m302.2 102)), (103, (m.2 103)), (104, (m.2 104)), (105, (m.2 105)), (106, (m.2 106)), (107, (m315.2 107)), (108, (m315.2 108))]) (r32 (by omega) (by omega)) (Ty_mO hT rfl rfl ⟨(hT316.1 7), (hT316.1 8), (hT316.1 9), (hT316.1 10), (hT316.1 11), (hT316.1 12), (hT316.1 28), (hT316.1 69), (hT316.1 70), (hT316.1 71), (hT316.1 72), (hT316.1 73), (hT316.1 74), (hT316.1 75), ⟨(by omega : (0 : Int) ≤ (m.1 99) + 1), (by omega : ((m.1 99) + 1 : Int) ≤ 240)⟩, (q305.1 100), trivial⟩ ⟨(hT316.2.1 65), (hT316.2.1 66), (hT316.2.1 67), (hT316.2.1 68), (hT316.2.1 76), (hT316.2.1 77), (hT316.2.1 78), (hT316.2.1 79), (hT316.2.1 80), (hT316.2.1 81), (hT316.2.1 82), (hT316.2.1 83), (hT316.2.1 84), (hT316.2.1 85), (hT316.2.1 86), (hT316.2.1 87), (hT316.2.1 88), (hT316.2.1 89), (hT316.2.1 90), (hT316.2.1 91), (hT316.2.1 92), (q305.2.1 101), (q305.2.1 102), (hT.2.1 103), (hT.2.1 104), (hT.2.1 105), (hT.2.1 106), (hT316.2.1 107), (hT316.2.1 108), trivial⟩) (show 0 ≤ v301 by omega) (show v301 ≤ 64 by omega) (show 1 ≤ (m315.1 10) by omega) (show (m315.1 10) ≤ 8 by omega) (show 0 ≤ ((m.1 99) + 1) ∧ ((m.1 99) + 1) ≤ 240 by omega) (show 0 ≤ (m.1 99) ∧ (m.1 99) ≤ 240 by omega)
  refine T_gf 4 (.int (i32 (m.1 99))) rfl rfl rfl rfl rfl rfl ?_
  refine T_sto 5 [(1, .int (i32 (m.1 99))), (0, .ref 189)] rfl (fun _ => rfl) ?_
  refine T_ld 6 (.ref 189) rfl (fun _ => rfl) ?_
  refine T_ld 7 (.ref 189) rfl (fun _ => rfl) ?_
  refine T_gf1 10 (.int (i32 (m.1 99))) rfl rfl rfl rfl ?_
  refine T_ld 11 (.int (i32 1)) rfl (fun _ => rfl) ?_
  refine T_iadd 12 rfl rfl ?_
  refine T_pf (l' := [(7, (m.1 7)), (8, (m.1 8)), (9, (m.1 9)), (10, (m.1 10)), (11, (m.1 11)), (12, (m.1 12)), (28, (m.1 28)), (69, (m.1 69)), (70, (m.1 70)), (71, (m.1 71)), (72, (m.1 72)), (73, (m.1 73)), (74, (m.1 74)), (75, (m.1 75)), (99, (m.1 99) + 1), (100, (m.1 100))]) 15 ((m.1 99) + 1) rfl rfl rfl rfl rfl rfl ?_
  have g335 : 0 ≤ (m.1 99) + 1 ∧ (m.1 99) + 1 ≤ 240 := ⟨by omega, by omega⟩
  refine T_gf 19 (.ref 261) rfl rfl rfl rfl rfl rfl ?_
  refine T_ld 20 (.int (i32 (m.1 99))) rfl (fun _ => rfl) ?_
  refine T_gf 24 (.int (i32 (m.1 7))) rfl rfl rfl rfl rfl rfl ?_
  have G336 : ∀ j, 0 ≤ (upI (m.2 101) (m.1 99) (m.1 7)) j ∧ (upI (m.2 101) (m.1 99) (m.1 7)) j ≤ 330 := upI_rg (hT.2.1 101) ⟨by omega, by omega⟩
  refine T_iast (a' := [(65, (m.2 65)), (66, (m.2 66)), (67, (m.2 67)), (68, (m.2 68)), (76, (m.2 76)), (77, (m.2 77)), (78, (m.2 78)), (79, (m.2 79)), (80, (m.2 80)), (81, (m.2 81)), (82, (m.2 82)), (83, (m.2 83)), (84, (m.2 84)), (85, (m.2 85)), (86, (m.2 86)), (87, (m.2 87)), (88, (m.2 88)), (89, (m.2 89)), (90, (m.2 90)), (91, (m.2 91)), (92, (m.2 92)), (101, upI (m.2 101) (m.1 99) (m.1 7)), (102, (m.2 102)), (103, (m.2 103)), (104, (m.2 104)), (105, (m.2 105)), (106, (m.2 106)), (107, (m.2 107)), (108, (m.2 108))]) 25 101 (m.2 101) rfl rfl rfl (by omega) (show (m.1 99) < (240 : Int) by omega) rfl rfl ?_
  refine T_gf 29 (.int (i32 (m.1 7))) rfl rfl rfl rfl rfl rfl ?_
  refine T_ld 30 (.int (i32 1)) rfl (fun _ => rfl) ?_
  refine T_icmp 63 33 rfl rfl rfl (r32 (by omega) (by omega)) ⟨by decide, by decide⟩ (fun (h337 : (m.1 7) ≠ 1) => ?_) (fun (h337 : ¬ ((m.1 7) ≠ 1)) => ?_)
  · skip
    refine T_gf 67 (.int (i32 (m.1 7))) rfl rfl rfl rfl rfl rfl ?_
    refine T_ld 70 (.int (i32 327)) rfl (fun _ => rfl) ?_
    refine T_icmp 146 73 rfl rfl rfl (r32 (by omega) (by omega)) ⟨by decide, by decide⟩ (fun (h338 : (m.1 7) ≠ 327) => ?_) (fun (h338 : ¬ ((m.1 7) ≠ 327)) => ?_)
    · skip
      refine T_gf 150 (.int (i32 (m.1 7))) rfl rfl rfl rfl rfl rfl ?_
      refine T_ld 153 (.int (i32 328)) rfl (fun _ => rfl) ?_
      refine T_icmp 202 156 rfl rfl rfl (r32 (by omega) (by omega)) ⟨by decide, by decide⟩ (fun (h339 : (m.1 7) ≠ 328) => ?_) (fun (h339 : ¬ ((m.1 7) ≠ 328)) => ?_)
      · skip
        refine T_ld 203 (.ref 189) rfl (fun _ => rfl) ?_
        refine T_call 206 212 [.ref 189] [] rfl (fun _ => rfl) rfl (c_next w (mO m [(7, (m.1 7)), (8, (m.1 8)), (9, (m.1 9)), (10, (m.1 10)), (11, (m.1 11)), (12, (m.1 12)), (28, (m.1 28)), (69, (m.1 69)), (70, (m.1 70)), (71, (m.1 71)), (72, (m.1 72)), (73, (m.1 73)), (74, (m.1 74)), (75, (m.1 75)), (99, (m.1 99) + 1), (100, (m.1 100))] [(65, (m.2 65)), (66, (m.2 66)), (67, (m.2 67)), (68, (m.2 68)), (76, (m.2 76)), (77, (m.2 77)), (78, (m.2 78)), (79, (m.2 79)), (80, (m.2 80)), (81, (m.2 81)), (82, (m.2 82)), (83, (m.2 83)), (84, (m.2 84)), (85, (m.2 85)), (86, (m.2 86)), (87, (m.2 87)), (88, (m.2 88)), (89, (m.2 89)), (90, (m.2 90)), (91, (m.2 91)), (92, (m.2 92)), (101, upI (m.2 101) (m.1 99) (m.1 7)), (102, (m.2 102)), (103, (m.2 103)), (104, (m.2 104)), (105, (m.2 105)), (106, (m.2 106)), (107, (m.2 107)), (108, (m.2 108))]) c N D (by omega) (Ty_mO hT rfl rfl ⟨f7, f8, f9, f10, f11, f12, f28, f69, f70, f71, f72, f73, f74, f75, g335, f100, trivial⟩ ⟨(hT.2.1 65), (hT.2.1 66), (hT.2.1 67), (hT.2.1 68), (hT.2.1 76), (hT.2.1 77), (hT.2.1 78), (hT.2.1 79), (hT.2.1 80), (hT.2.1 81), (hT.2.1 82), (hT.2.1 83), (hT.2.1 84), (hT.2.1 85), (hT.2.1 86), (hT.2.1 87), (hT.2.1 88), (hT.2.1 89), (hT.2.1 90), (hT.2.1 91), (hT.2.1 92), G336, (hT.2.1 102), (hT.2.1 103), (hT.2.1 104), (hT.2.1 105), (hT.2.1 106), (hT.2.1 107), (hT.2.1 108), trivial⟩) (show (m.1 10) = 0 → (m.1 8) + (m.1 9) ≤ (m.1 6) by first | omega | (intro h9; have h8 := hLx h9; omega))) (fun rr340 k341 => ?_)
        obtain ⟨y342, y344, y346, y348, y350, y352, g343, g345, g347, g349, g351, g353, h354, h355, h356, h357, rfl⟩ := k341
        refine ⟨_, _, rfl, ?_⟩
        refine T_nf2 (st' := []) (l' := [(7, y342), (8, y344), (9, y346), (10, y348), (11, y350), (12, y352), (28, (m.1 28)), (69, (m.1 69)), (70, (m.1 70)), (71, (m.1 71)), (72, (m.1 72)), (73, (m.1 73)), (74, (m.1 74)), (75, (m.1 75)), (99, (m.1 99) + 1), (100, (m.1 100))]) (a' := [(65, (m.2 65)), (66, (m.2 66)), (67, (m.2 67)), (68, (m.2 68)), (76, (m.2 76)), (77, (m.2 77)), (78, (m.2 78)), (79, (m.2 79)), (80, (m.2 80)), (81, (m.2 81)), (82, (m.2 82)), (83, (m.2 83)), (84, (m.2 84)), (85, (m.2 85)), (86, (m.2 86)), (87, (m.2 87)), (88, (m.2 88)), (89, (m.2 89)), (90, (m.2 90)), (91, (m.2 91)), (92, (m.2 92)), (101, upI (m.2 101) (m.1 99) (m.1 7)), (102, (m.2 102)), (103, (m.2 103)), (104, (m.2 104)), (105, (m.2 105)), (106, (m.2 106)), (107, (m.2 107)), (108, (m.2 108))]) [7, 8, 9, 10, 11, 12] [] rfl ⟨rfl, rfl, rfl, rfl, rfl, rfl, rfl, rfl, rfl, rfl, rfl, rfl, rfl, rfl, rfl, rfl, rfl, rfl, rfl, rfl, rfl, rfl, rfl, rfl, rfl, rfl, rfl, rfl, rfl, rfl, rfl, rfl, trivial⟩ ⟨rfl, rfl, rfl, rfl, rfl, rfl, rfl, rfl, rfl, rfl, rfl, rfl, rfl, rfl, rfl, rfl, rfl, rfl, rfl, rfl, rfl, rfl, rfl, rfl, rfl, rfl, rfl, rfl, rfl, rfl, rfl, rfl, rfl, rfl, rfl, rfl, rfl, rfl, rfl, rfl, rfl, rfl, rfl, rfl, rfl, rfl, rfl, rfl, rfl, rfl, rfl, rfl, rfl, rfl, rfl, rfl, rfl, rfl, trivial⟩ rfl rfl (by decide) (by decide) ?_
        by_cases hf358 : y348 = 0
        · skip
          subst hf358
          replace h354 : LxP y342 y344 y346 (m.1 6) (0 : Int) := h354
          have hLx := h354
          replace h355 : (m.1 10) = 0 := h355 rfl
          replace h356 : (m.1 8) ≤ y344 := h356
          replace h357 : (m.1 8) + (m.1 9) ≤ y344 := h357 rfl
          have u359 : (m.1 8) + 1 ≤ y344 := by omega
          have hAgC : agr (m.2 65) (m.2 65) (m.1 28) := by first | exact agr_r _ _ | exact hAgC | exact agr_t hAgC hAg (by omega)
          have u360 : (m.1 28) ≤ (m.1 28) := by omega
          clear g349
          refine T_gf 210 (.ref 261) rfl rfl rfl rfl rfl rfl ?_
          refine T_ld 211 (.int (i32 (m.1 99))) rfl (fun _ => rfl) ?_
          refine T_iald 212 101 (upI (m.2 101) (m.1 99) (m.1 7)) rfl rfl rfl (by omega) (show (m.1 99) < (240 : Int) by omega) rfl ?_
          refine T_cast (m.1 7) upI_s ?_
          refine T_ld 215 (.int (i32 326)) rfl (fun _ => rfl) ?_
          refine T_icmp 229 218 rfl rfl rfl (r32 (by omega) (by omega)) ⟨by decide, by decide⟩ (fun (h361 : (m.1 7) = 326) => ?_) (fun (h361 : ¬ ((m.1 7) = 326)) => ?_)
          · skip
            have w1 : agr (m.2 101) (upI (m.2 101) (m.1 99) (m.1 7)) (m.1 99) := by first | exact agr_u (Int.le_refl _) | exact agr_r _ _
            have w2 : agr (m.2 103) (m.2 103) (m.1 99) := by first | exact agr_u (Int.le_refl _) | exact agr_r _ _
            have w3 : agr (m.2 105) (m.2 105) (m.1 99) := by first | exact hI1 | exact agr_u (Int.le_refl _) | exact agr_r _ _
            have w4 : agr (m.2 106) (m.2 106) (m.1 99) := by first | exact hI2 | exact agr_u (Int.le_refl _) | exact agr_r _ _
            have w5 : agr (m.2 107) (m.2 107) (m.1 99) := by first | exact hJ1 | exact agr_u (Int.le_refl _) | exact agr_r _ _
            have w6 : agr (m.2 108) (m.2 108) (m.1 99) := by first | exact hJ2 | exact agr_u (Int.le_refl _) | exact agr_r _ _
            have hR : TdR (m.2 65) (m.1 28) (m.1 22) (m.1 99) (upI (m.2 101) (m.1 99) (m.1 7)) (m.2 103) (m.2 105) (m.2 106) (m.2 107) (m.2 108) := by
              refine ⟨fun h => ?_, fun h => ?_⟩ <;> rw [upI_s] at h <;> first | exact hEc | exact ⟨hXc, by rw [upI_s]; omega⟩ | exact ⟨cdr_f hXc hAg (by omega), by rw [upI_s]; omega⟩ | omega
            have hTd2 : TdP (m.2 65) (m.1 28) (m.1 22) ((m.1 99) + 1) (upI (m.2 101) (m.1 99) (m.1 7)) (m.2 103) (m.2 105) (m.2 106) (m.2 107) (m.2 108) := TdP_add (TdP_f pTd hAgC (by omega) w1 w2 w3 w4 w5 w6) hR
            refine T_ld 230 (.ref 189) rfl (fun _ => rfl) ?_
            refine T_ld 232 (.int (i32 59)) rfl (fun _ => rfl) ?_
            refine T_call 235 232 [.ref 189, .int (i32 59)] [] rfl (fun _ => rfl) rfl (c_need w (mO m [(7, y342), (8, y344), (9, y346), (10, 0), (11, y350), (12, y352), (28, (m.1 28)), (69, (m.1 69)), (70, (m.1 70)), (71, (m.1 71)), (72, (m.1 72)), (73, (m.1 73)), (74, (m.1 74)), (75, (m.1 75)), (99, (m.1 99) + 1), (100, (m.1 100))] [(65, (m.2 65)), (66, (m.2 66)), (67, (m.2 67)), (68, (m.2 68)), (76, (m.2 76)), (77, (m.2 77)), (78, (m.2 78)), (79, (m.2 79)), (80, (m.2 80)), (81, (m.2 81)), (82, (m.2 82)), (83, (m.2 83)), (84, (m.2 84)), (85, (m.2 85)), (86, (m.2 86)), (87, (m.2 87)), (88, (m.2 88)), (89, (m.2 89)), (90, (m.2 90)), (91, (m.2 91)), (92, (m.2 92)), (101, upI (m.2 101) (m.1 99) (m.1 7)), (102, (m.2 102)), (103, (m.2 103)), (104, (m.2 104)), (105, (m.2 105)), (106, (m.2 106)), (107, (m.2 107)), (108, (m.2 108))]) c N D (by omega) (Ty_mO hT rfl rfl ⟨g343, g345, g347, ⟨(by omega : (0 : Int) ≤ 0), (by omega : (0 : Int) ≤ 8)⟩, g351, g353, f28, f69, f70, f71, f72, f73, f74, f75, g335, f100, trivial⟩ ⟨(hT.2.1 65), (hT.2.1 66), (hT.2.1 67), (hT.2.1 68), (hT.2.1 76), (hT.2.1 77), (hT.2.1 78), (hT.2.1 79), (hT.2.1 80), (hT.2.1 81), (hT.2.1 82), (hT.2.1 83), (hT.2.1 84), (hT.2.1 85), (hT.2.1 86), (hT.2.1 87), (hT.2.1 88), (hT.2.1 89), (hT.2.1 90), (hT.2.1 91), (hT.2.1 92), G336, (hT.2.1 102), (hT.2.1 103), (hT.2.1 104), (hT.2.1 105), (hT.2.1 106), (hT.2.1 107), (hT.2.1 108), trivial⟩) 59 ⟨by decide, by decide⟩ (show 1 ≤ (59 : Int) by omega) (show LxP y342 y344 y346 (m.1 6) (0 : Int) by first | exact hLx | (intro h9; exfalso; omega) | (intro h9; have h8 := hLx (by omega); omega))) (fun rr362 k363 => ?_)
            obtain ⟨y364, y366, y368, y370, y372, y374, g365, g367, g369, g371, g373, g375, h376, h377, h378, h379, rfl⟩ := k363
            refine ⟨_, _, rfl, ?_⟩
            refine T_nf2 (st' := []) (l' := [(7, y364), (8, y366), (9, y368), (10, y370), (11, y372), (12, y374), (28, (m.1 28)), (69, (m.1 69)), (70, (m.1 70)), (71, (m.1 71)), (72, (m.1 72)), (73, (m.1 73)), (74, (m.1 74)), (75, (m.1 75)), (99, (m.1 99) + 1), (100, (m.1 100))]) (a' := [(65, (m.2 65)), (66, (m.2 66)), (67, (m.2 67)), (68, (m.2 68)), (76, (m.2 76)), (77, (m.2 77)), (78, (m.2 78)), (79, (m.2 79)), (80, (m.2 80)), (81, (m.2 81)), (82, (m.2 82)), (83, (m.2 83)), (84, (m.2 84)), (85, (m.2 85)), (86, (m.2 86)), (87, (m.2 87)), (88, (m.2 88)), (89, (m.2 89)), (90, (m.2 90)), (91, (m.2 91)), (92, (m.2 92)), (101, upI (m.2 101) (m.1 99) (m.1 7)), (102, (m.2 102)), (103, (m.2 103)), (104, (m.2 104)), (105, (m.2 105)), (106, (m.2 106)), (107, (m.2 107)), (108, (m.2 108))]) [7, 8, 9, 10, 11, 12] [] rfl ⟨rfl, rfl, rfl, rfl, rfl, rfl, rfl, rfl, rfl, rfl, rfl, rfl, rfl, rfl, rfl, rfl, rfl, rfl, rfl, rfl, rfl, rfl, rfl, rfl, rfl, rfl, rfl, rfl, rfl, rfl, rfl, rfl, trivial⟩ ⟨rfl, rfl, rfl, rfl, rfl, rfl, rfl, rfl, rfl, rfl, rfl, rfl, rfl, rfl, rfl, rfl, rfl, rfl, rfl, rfl, rfl, rfl, rfl, rfl, rfl, rfl, rfl, rfl, rfl, rfl, rfl, rfl, rfl, rfl, rfl, rfl, rfl, rfl, rfl, rfl, rfl, rfl, rfl, rfl, rfl, rfl, rfl, rfl, rfl, rfl, rfl, rfl, rfl, rfl, rfl, rfl, rfl, rfl, trivial⟩ rfl rfl (by decide) (by decide) ?_
            by_cases hf380 : y370 = 0
            · skip
              subst hf380
              replace h376 : LxP y364 y366 y368 (m.1 6) (0 : Int) := h376
              have hLx := h376
              replace h377 : (0 : Int) = 0 ∧ y342 = (59 : Int) := h377 rfl
              replace h378 : y344 ≤ y366 := h378
              replace h379 : y344 + y346 ≤ y366 := h379 rfl
              have u381 : (m.1 8) + 1 ≤ y366 := by omega
              have hAgC : agr (m.2 65) (m.2 65) (m.1 28) := by first | exact agr_r _ _ | exact hAgC | exact agr_t hAgC hAg (by omega)
              have u382 : (m.1 28) ≤ (m.1 28) := by omega
              clear g343 g345 g347 g351 g353 h354 h356 h357 u359 g371 h377 h378 h379
              refine T_ret rfl (fun _ => rfl) ?_
              exact ⟨(mO m [(7, y364), (8, y366), (9, y368), (10, 0), (11, y372), (12, y374), (28, (m.1 28)), (69, (m.1 69)), (70, (m.1 70)), (71, (m.1 71)), (72, (m.1 72)), (73, (m.1 73)), (74, (m.1 74)), (75, (m.1 75)), (99, (m.1 99) + 1), (100, (m.1 100))] [(65, (m.2 65)), (66, (m.2 66)), (67, (m.2 67)), (68, (m.2 68)), (76, (m.2 76)), (77, (m.2 77)), (78, (m.2 78)), (79, (m.2 79)), (80, (m.2 80)), (81, (m.2 81)), (82, (m.2 82)), (83, (m.2 83)), (84, (m.2 84)), (85, (m.2 85)), (86, (m.2 86)), (87, (m.2 87)), (88, (m.2 88)), (89, (m.2 89)), (90, (m.2 90)), (91, (m.2 91)), (92, (m.2 92)), (101, upI (m.2 101) (m.1 99) (m.1 7)), (102, (m.2 102)), (103, (m.2 103)), (104, (m.2 104)), (105, (m.2 105)), (106, (m.2 106)), (107, (m.2 107)), (108, (m.2 108))]), (Ty_mO hT rfl rfl ⟨g365, g367, g369, ⟨(by omega : (0 : Int) ≤ 0), (by omega : (0 : Int) ≤ 8)⟩, g373, g375, f28, f69, f70, f71, f72, f73, f74, f75, g335, f100, trivial⟩ ⟨(hT.2.1 65), (hT.2.1 66), (hT.2.1 67), (hT.2.1 68), (hT.2.1 76), (hT.2.1 77), (hT.2.1 78), (hT.2.1 79), (hT.2.1 80), (hT.2.1 81), (hT.2.1 82), (hT.2.1 83), (hT.2.1 84), (hT.2.1 85), (hT.2.1 86), (hT.2.1 87), (hT.2.1 88), (hT.2.1 89), (hT.2.1 90), (hT.2.1 91), (hT.2.1 92), G336, (hT.2.1 102), (hT.2.1 103), (hT.2.1 104), (hT.2.1 105), (hT.2.1 106), (hT.2.1 107), (hT.2.1 108), trivial⟩), (show (0 : Int) = 0 → (m.1 10) = 0 by omega), (show LxP y364 y366 y368 (m.1 6) (0 : Int) by first | (first | exact hLx | exact (fun _ => hLx (by omega)) | (intro h9; exfalso; omega)) | (exfalso; omega)), (show ((m.1 99) + 1) = (m.1 99) + 1 by omega), (fun _ => ⟨(show (m.1 8) + 1 ≤ y366 by omega), (show (m.1 28) ≤ (m.1 28) by omega), (show CN (m.2 65) (m.2 67) (m.1 28) by first | (exact hCN) | (exfalso; omega)), (show agr (m.2 65) (m.2 65) (m.1 28) by first | (exact hAgC) | (exfalso; omega)), (show TdP (m.2 65) (m.1 28) (m.1 22) ((m.1 99) + 1) (upI (m.2 101) (m.1 99) (m.1 7)) (m.2 103) (m.2 105) (m.2 106) (m.2 107) (m.2 108) by first | (exact hTd2) | (exfalso; omega))⟩), rfl⟩
            · skip
              replace h376 : LxP y364 y366 y368 (m.1 6) y370 := h376
              have hLx := h376
              clear h377
              replace h378 : y344 ≤ y366 := h378
              clear h379
              have hf383 : 1 ≤ y370 := by omega
              clear g343 g345 g347 g351 g353 h354 h356 h357 u359 h378
              refine Tm_lv (a := [(0, .ref 189), (1, .int (i32 (m.1 99)))]) rfl rfl ⟨rfl, rfl, trivial⟩ ?_
              exact J235_28 (mO m [(7, y364), (8, y366), (9, y368), (10, y370), (11, y372), (12, y374), (28, (m.1 28)), (69, (m.1 69)), (70, (m.1 70)), (71, (m.1 71)), (72, (m.1 72)), (73, (m.1 73)), (74, (m.1 74)), (75, (m.1 75)), (99, (m.1 99) + 1), (100, (m.1 100))] [(65, (m.2 65)), (66, (m.2 66)), (67, (m.2 67)), (68, (m.2 68)), (76, (m.2 76)), (77, (m.2 77)), (78, (m.2 78)), (79, (m.2 79)), (80, (m.2 80)), (81, (m.2 81)), (82, (m.2 82)), (83, (m.2 83)), (84, (m.2 84)), (85, (m.2 85)), (86, (m.2 86)), (87, (m.2 87)), (88, (m.2 88)), (89, (m.2 89)), (90, (m.2 90)), (91, (m.2 91)), (92, (m.2 92)), (101, upI (m.2 101) (m.1 99) (m.1 7)), (102, (m.2 102)), (103, (m.2 103)), (104, (m.2 104)), (105, (m.2 105)), (106, (m.2 106)), (107, (m.2 107)), (108, (m.2 108))]) (Ty_mO hT rfl rfl ⟨g365, g367, g369, g371, g373, g375, f28, f69, f70, f71, f72, f73, f74, f75, g335, f100, trivial⟩ ⟨(hT.2.1 65), (hT.2.1 66), (hT.2.1 67), (hT.2.1 68), (hT.2.1 76), (hT.2.1 77), (hT.2.1 78), (hT.2.1 79), (hT.2.1 80), (hT.2.1 81), (hT.2.1 82), (hT.2.1 83), (hT.2.1 84), (hT.2.1 85), (hT.2.1 86), (hT.2.1 87), (hT.2.1 88), (hT.2.1 89), (hT.2.1 90), (hT.2.1 91), (hT.2.1 92), G336, (hT.2.1 102), (hT.2.1 103), (hT.2.1 104), (hT.2.1 105), (hT.2.1 106), (hT.2.1 107), (hT.2.1 108), trivial⟩) (show 1 ≤ y370 by omega) (show y370 ≤ 8 by omega) (show 0 ≤ ((m.1 99) + 1) ∧ ((m.1 99) + 1) ≤ 240 by omega) (show 0 ≤ (m.1 99) ∧ (m.1 99) ≤ 240 by omega)
          · skip
            refine T_gf 222 (.ref 264) rfl rfl rfl rfl rfl rfl ?_
            refine T_ld 223 (.int (i32 (m.1 99))) rfl (fun _ => rfl) ?_
            refine T_ld 224 (.ref 189) rfl (fun _ => rfl) ?_
            refine T_ld 225 (.int (i32 2)) rfl (fun _ => rfl) ?_
            have hOL : (0 : Int) = 0 → ∀ k, 0 ≤ k → k < (m.1 13) → (m.2 16) k = 2 → 0 ≤ (m.2 17) k ∧ (m.2 17) k < 12 := fun _ k h1 h2 h3 => by
              have h4 := PNl_2 pPN k h1 h2 h3
              omega
            refine T_call 228 236 [.ref 189, .int (i32 2)] [.int (i32 (m.1 99)), .ref 264] rfl (fun _ => rfl) rfl (c_oldName w (mO m [(7, y342), (8, y344), (9, y346), (10, 0), (11, y350), (12, y352), (28, (m.1 28)), (69, (m.1 69)), (70, (m.1 70)), (71, (m.1 71)), (72, (m.1 72)), (73, (m.1 73)), (74, (m.1 74)), (75, (m.1 75)), (99, (m.1 99) + 1), (100, (m.1 100))] [(65, (m.2 65)), (66, (m.2 66)), (67, (m.2 67)), (68, (m.2 68)), (76, (m.2 76)), (77, (m.2 77)), (78, (m.2 78)), (79, (m.2 79)), (80, (m.2 80)), (81, (m.2 81)), (82, (m.2 82)), (83, (m.2 83)), (84, (m.2 84)), (85, (m.2 85)), (86, (m.2 86)), (87, (m.2 87)), (88, (m.2 88)), (89, (m.2 89)), (90, (m.2 90)), (91, (m.2 91)), (92, (m.2 92)), (101, upI (m.2 101) (m.1 99) (m.1 7)), (102, (m.2 102)), (103, (m.2 103)), (104, (m.2 104)), (105, (m.2 105)), (106, (m.2 106)), (107, (m.2 107)), (108, (m.2 108))]) c N D (by omega) (Ty_mO hT rfl rfl ⟨g343, g345, g347, ⟨(by omega : (0 : Int) ≤ 0), (by omega : (0 : Int) ≤ 8)⟩, g351, g353, f28, f69, f70, f71, f72, f73, f74, f75, g335, f100, trivial⟩ ⟨(hT.2.1 65), (hT.2.1 66), (hT.2.1 67), (hT.2.1 68), (hT.2.1 76), (hT.2.1 77), (hT.2.1 78), (hT.2.1 79), (hT.2.1 80), (hT.2.1 81), (hT.2.1 82), (hT.2.1 83), (hT.2.1 84), (hT.2.1 85), (hT.2.1 86), (hT.2.1 87), (hT.2.1 88), (hT.2.1 89), (hT.2.1 90), (hT.2.1 91), (hT.2.1 92), G336, (hT.2.1 102), (hT.2.1 103), (hT.2.1 104), (hT.2.1 105), (hT.2.1 106), (hT.2.1 107), (hT.2.1 108), trivial⟩) 2 12 ⟨by decide, by decide⟩ (show LxP y342 y344 y346 (m.1 6) (0 : Int) by first | exact hLx | (intro h9; exfalso; omega) | (intro h9; have h8 := hLx (by omega); omega)) (show ∀ k, (m.2 14) k + (m.2 15) k ≤ 4000 by first | exact p1 | exact hNM) (show 1 ≤ (2 : Int) ∧ (2 : Int) ≤ 7 ∧ (2 : Int) ≠ 5 by omega) (show 12 ≤ 16 by omega) (show (0 : Int) = 0 → ∀ k, 0 ≤ k → k < (m.1 13) → (m.2 16) k = (2 : Int) → 0 ≤ (m.2 17) k ∧ (m.2 17) k < 12 by first | exact hOL | (intro h; exfalso; omega)) (show (2 : Int) = 3 → 3 ≤ 12 by omega)) (fun rr384 k385 => ?_)
            obtain ⟨y386, y388, y390, y392, y394, y396, oo, g387, g389, g391, g393, g395, g397, g398, h399, h400, h401, h402, h403, h404, rfl⟩ := k385
            refine ⟨_, _, rfl, ?_⟩
            refine T_nf2 (st' := [.int (i32 oo), .int (i32 (m.1 99)), .ref 264]) (l' := [(7, y386), (8, y388), (9, y390), (10, y392), (11, y394), (12, y396), (28, (m.1 28)), (69, (m.1 69)), (70, (m.1 70)), (71, (m.1 71)), (72, (m.1 72)), (73, (m.1 73)), (74, (m.1 74)), (75, (m.1 75)), (99, (m.1 99) + 1), (100, (m.1 100))]) (a' := [(65, (m.2 65)), (66, (m.2 66)), (67, (m.2 67)), (68, (m.2 68)), (76, (m.2 76)), (77, (m.2 77)), (78, (m.2 78)), (79, (m.2 79)), (80, (m.2 80)), (81, (m.2 81)), (82, (m.2 82)), (83, (m.2 83)), (84, (m.2 84)), (85, (m.2 85)), (86, (m.2 86)), (87, (m.2 87)), (88, (m.2 88)), (89, (m.2 89)), (90, (m.2 90)), (91, (m.2 91)), (92, (m.2 92)), (101, upI (m.2 101) (m.1 99) (m.1 7)), (102, (m.2 102)), (103, (m.2 103)), (104, (m.2 104)), (105, (m.2 105)), (106, (m.2 106)), (107, (m.2 107)), (108, (m.2 108))]) [7, 8, 9, 10, 11, 12] [] rfl ⟨rfl, rfl, rfl, rfl, rfl, rfl, rfl, rfl, rfl, rfl, rfl, rfl, rfl, rfl, rfl, rfl, rfl, rfl, rfl, rfl, rfl, rfl, rfl, rfl, rfl, rfl, rfl, rfl, rfl, rfl, rfl, rfl, trivial⟩ ⟨rfl, rfl, rfl, rfl, rfl, rfl, rfl, rfl, rfl, rfl, rfl, rfl, rfl, rfl, rfl, rfl, rfl, rfl, rfl, rfl, rfl, rfl, rfl, rfl, rfl, rfl, rfl, rfl, rfl, rfl, rfl, rfl, rfl, rfl, rfl, rfl, rfl, rfl, rfl, rfl, rfl, rfl, rfl, rfl, rfl, rfl, rfl, rfl, rfl, rfl, rfl, rfl, rfl, rfl, rfl, rfl, rfl, rfl, trivial⟩ rfl rfl (by decide) (by decide) ?_
            obtain ⟨g398a, g398b⟩ := g398
            by_cases hf405 : y392 = 0
            · skip
              subst hf405
              replace h399 : LxP y386 y388 y390 (m.1 6) (0 : Int) := h399
              have hLx := h399
              replace h400 : y344 ≤ y388 := h400
              replace h401 : (0 : Int) = 0 ∧ y344 + y346 ≤ y388 := h401 rfl
              replace h402 : y342 = 1 := h402 rfl
              replace h403 : 0 ≤ oo ∧ (oo < 12 ∨ oo = 0) := h403
              replace h404 : oo < 12 := h404 rfl
              have u406 : (m.1 8) + 1 ≤ y388 := by omega
              have hAgC : agr (m.2 65) (m.2 65) (m.1 28) := by first | exact agr_r _ _ | exact hAgC | exact agr_t hAgC hAg (by omega)
              have u407 : (m.1 28) ≤ (m.1 28) := by omega
              clear g343 g345 g347 g351 g353 h354 h356 h357 u359 g393 h400 h401 h402
              have G408 : ∀ j, 0 ≤ (upI (m.2 104) (m.1 99) oo) j ∧ (upI (m.2 104) (m.1 99) oo) j ≤ 11 := upI_rg (hT.2.1 104) ⟨by omega, by omega⟩
              refine T_iast (a' := [(65, (m.2 65)), (66, (m.2 66)), (67, (m.2 67)), (68, (m.2 68)), (76, (m.2 76)), (77, (m.2 77)), (78, (m.2 78)), (79, (m.2 79)), (80, (m.2 80)), (81, (m.2 81)), (82, (m.2 82)), (83, (m.2 83)), (84, (m.2 84)), (85, (m.2 85)), (86, (m.2 86)), (87, (m.2 87)), (88, (m.2 88)), (89, (m.2 89)), (90, (m.2 90)), (91, (m.2 91)), (92, (m.2 92)), (101, upI (m.2 101) (m.1 99) (m.1 7)), (102, (m.2 102)), (103, (m.2 103)), (104, upI (m.2 104) (m.1 99) oo), (105, (m.2 105)), (106, (m.2 106)), (107, (m.2 107)), (108, (m.2 108))]) 229 104 (m.2 104) rfl rfl rfl (by omega) (show (m.1 99) < (240 : Int) by omega) rfl rfl ?_
              have w1 : agr (m.2 101) (upI (m.2 101) (m.1 99) (m.1 7)) (m.1 99) := by first | exact agr_u (Int.le_refl _) | exact agr_r _ _
              have w2 : agr (m.2 103) (m.2 103) (m.1 99) := by first | exact agr_u (Int.le_refl _) | exact agr_r _ _
              have w3 : agr (m.2 105) (m.2 105) (m.1 99) := by first | exact hI1 | exact agr_u (Int.le_refl _) | exact agr_r _ _
              have w4 : agr (m.2 106) (m.2 106) (m.1 99) := by first | exact hI2 | exact agr_u (Int.le_refl _) | exact agr_r _ _
              have w5 : agr (m.2 107) (m.2 107) (m.1 99) := by first | exact hJ1 | exact agr_u (Int.le_refl _) | exact agr_r _ _
              have w6 : agr (m.2 108) (m.2 108) (m.1 99) := by first | exact hJ2 | exact agr_u (Int.le_refl _) | exact agr_r _ _
              have hR : TdR (m.2 65) (m.1 28) (m.1 22) (m.1 99) (upI (m.2 101) (m.1 99) (m.1 7)) (m.2 103) (m.2 105) (m.2 106) (m.2 107) (m.2 108) := by
                refine ⟨fun h => ?_, fun h => ?_⟩ <;> rw [upI_s] at h <;> first | exact hEc | exact ⟨hXc, by rw [upI_s]; omega⟩ | exact ⟨cdr_f hXc hAg (by omega), by rw [upI_s]; omega⟩ | omega
              have hTd2 : TdP (m.2 65) (m.1 28) (m.1 22) ((m.1 99) + 1) (upI (m.2 101) (m.1 99) (m.1 7)) (m.2 103) (m.2 105) (m.2 106) (m.2 107) (m.2 108) := TdP_add (TdP_f pTd hAgC (by omega) w1 w2 w3 w4 w5 w6) hR
              refine T_ld 230 (.ref 189) rfl (fun _ => rfl) ?_
              refine T_ld 232 (.int (i32 59)) rfl (fun _ => rfl) ?_
              refine T_call 235 232 [.ref 189, .int (i32 59)] [] rfl (fun _ => rfl) rfl (c_need w (mO m [(7, y386), (8, y388), (9, y390), (10, 0), (11, y394), (12, y396), (28, (m.1 28)), (69, (m.1 69)), (70, (m.1 70)), (71, (m.1 71)), (72, (m.1 72)), (73, (m.1 73)), (74, (m.1 74)), (75, (m.1 75)), (99, (m.1 99) + 1), (100, (m.1 100))] [(65, (m.2 65)), (66, (m.2 66)), (67, (m.2 67)), (68, (m.2 68)), (76, (m.2 76)), (77, (m.2 77)), (78, (m.2 78)), (79, (m.2 79)), (80, (m.2 80)), (81, (m.2 81)), (82, (m.2 82)), (83, (m.2 83)), (84, (m.2 84)), (85, (m.2 85)), (86, (m.2 86)), (87, (m.2 87)), (88, (m.2 88)), (89, (m.2 89)), (90, (m.2 90)), (91, (m.2 91)), (92, (m.2 92)), (101, upI (m.2 101) (m.1 99) (m.1 7)), (102, (m.2 102)), (103, (m.2 103)), (104, upI (m.2 104) (m.1 99) oo), (105, (m.2 105)), (106, (m.2 106)), (107, (m.2 107)), (108, (m.2 108))]) c N D (by omega) (Ty_mO hT rfl rfl ⟨g387, g389, g391, ⟨(by omega : (0 : Int) ≤ 0), (by omega : (0 : Int) ≤ 8)⟩, g395, g397, f28, f69, f70, f71, f72, f73, f74, f75, g335, f100, trivial⟩ ⟨(hT.2.1 65), (hT.2.1 66), (hT.2.1 67), (hT.2.1 68), (hT.2.1 76), (hT.2.1 77), (hT.2.1 78), (hT.2.1 79), (hT.2.1 80), (hT.2.1 81), (hT.2.1 82), (hT.2.1 83), (hT.2.1 84), (hT.2.1 85), (hT.2.1 86), (hT.2.1 87), (hT.2.1 88), (hT.2.1 89), (hT.2.1 90), (hT.2.1 91), (hT.2.1 92), G336, (hT.2.1 102), (hT.2.1 103), G408, (hT.2.1 105), (hT.2.1 106), (hT.2.1 107), (hT.2.1 108), trivial⟩) 59 ⟨by decide, by decide⟩ (show 1 ≤ (59 : Int) by omega) (show LxP y386 y388 y390 (m.1 6) (0 : Int) by first | exact hLx | (intro h9; exfalso; omega) | (intro h9; have h8 := hLx (by omega); omega))) (fun rr409 k410 => ?_)
              obtain ⟨y411, y413, y415, y417, y419, y421, g412, g414, g416, g418, g420, g422, h423, h424, h425, h426, rfl⟩ := k410
              refine ⟨_, _, rfl, ?_⟩
              refine T_nf2 (st' := []) (l' := [(7, y411), (8, y413), (9, y415), (10, y417), (11, y419), (12, y421), (28, (m.1 28)), (69, (m.1 69)), (70, (m.1 70)), (71, (m.1 71)), (72, (m.1 72)), (73, (m.1 73)), (74, (m.1 74)), (75, (m.1 75)), (99, (m.1 99) + 1), (100, (m.1 100))]) (a' := [(65, (m.2 65)), (66, (m.2 66)), (67, (m.2 67)), (68, (m.2 68)), (76, (m.2 76)), (77, (m.2 77)), (78, (m.2 78)), (79, (m.2 79)), (80, (m.2 80)), (81, (m.2 81)), (82, (m.2 82)), (83, (m.2 83)), (84, (m.2 84)), (85, (m.2 85)), (86, (m.2 86)), (87, (m.2 87)), (88, (m.2 88)), (89, (m.2 89)), (90, (m.2 90)), (91, (m.2 91)), (92, (m.2 92)), (101, upI (m.2 101) (m.1 99) (m.1 7)), (102, (m.2 102)), (103, (m.2 103)), (104, upI (m.2 104) (m.1 99) oo), (105, (m.2 105)), (106, (m.2 106)), (107, (m.2 107)), (108, (m.2 108))]) [7, 8, 9, 10, 11, 12] [] rfl ⟨rfl, rfl, rfl, rfl, rfl, rfl, rfl, rfl, rfl, rfl, rfl, rfl, rfl, rfl, rfl, rfl, rfl, rfl, rfl, rfl, rfl, rfl, rfl, rfl, rfl, rfl, rfl, rfl, rfl, rfl, rfl, rfl, trivial⟩ ⟨rfl, rfl, rfl, rfl, rfl, rfl, rfl, rfl, rfl, rfl, rfl, rfl, rfl, rfl, rfl, rfl, rfl, rfl, rfl, rfl, rfl, rfl, rfl, rfl, rfl, rfl, rfl, rfl, rfl, rfl, rfl, rfl, rfl, rfl, rfl, rfl, rfl, rfl, rfl, rfl, rfl, rfl, rfl, rfl, rfl, rfl, rfl, rfl, rfl, rfl, rfl, rfl, rfl, rfl, rfl, rfl, rfl, rfl, trivial⟩ rfl rfl (by decide) (by decide) ?_
              by_cases hf427 : y417 = 0
              · skip
                subst hf427
                replace h423 : LxP y411 y413 y415 (m.1 6) (0 : Int) := h423
                have hLx := h423
                replace h424 : (0 : Int) = 0 ∧ y386 = (59 : Int) := h424 rfl
                replace h425 : y388 ≤ y413 := h425
                replace h426 : y388 + y390 ≤ y413 := h426 rfl
                have u428 : (m.1 8) + 1 ≤ y413 := by omega
                have hAgC : agr (m.2 65) (m.2 65) (m.1 28) := by first | exact agr_r _ _ | exact hAgC | exact agr_t hAgC hAg (by omega)
                have u429 : (m.1 28) ≤ (m.1 28) := by omega
                clear g387 g389 g391 g395 g397 h399 u406 g418 h424 h425 h426
                refine T_ret rfl (fun _ => rfl) ?_
                exact ⟨(mO m [(7, y411), (8, y413), (9, y415), (10, 0), (11, y419), (12, y421), (28, (m.1 28)), (69, (m.1 69)), (70, (m.1 70)), (71, (m.1 71)), (72, (m.1 72)), (73, (m.1 73)), (74, (m.1 74)), (75, (m.1 75)), (99, (m.1 99) + 1), (100, (m.1 100))] [(65, (m.2 65)), (66, (m.2 66)), (67, (m.2 67)), (68, (m.2 68)), (76, (m.2 76)), (77, (m.2 77)), (78, (m.2 78)), (79, (m.2 79)), (80, (m.2 80)), (81, (m.2 81)), (82, (m.2 82)), (83, (m.2 83)), (84, (m.2 84)), (85, (m.2 85)), (86, (m.2 86)), (87, (m.2 87)), (88, (m.2 88)), (89, (m.2 89)), (90, (m.2 90)), (91, (m.2 91)), (92, (m.2 92)), (101, upI (m.2 101) (m.1 99) (m.1 7)), (102, (m.2 102)), (103, (m.2 103)), (104, upI (m.2 104) (m.1 99) oo), (105, (m.2 105)), (106, (m.2 106)), (107, (m.2 107)), (108, (m.2 108))]), (Ty_mO hT rfl rfl ⟨g412, g414, g416, ⟨(by omega : (0 : Int) ≤ 0), (by omega : (0 : Int) ≤ 8)⟩, g420, g422, f28, f69, f70, f71, f72, f73, f74, f75, g335, f100, trivial⟩ ⟨(hT.2.1 65), (hT.2.1 66), (hT.2.1 67), (hT.2.1 68), (hT.2.1 76), (hT.2.1 77), (hT.2.1 78), (hT.2.1 79), (hT.2.1 80), (hT.2.1 81), (hT.2.1 82), (hT.2.1 83), (hT.2.1 84), (hT.2.1 85), (hT.2.1 86), (hT.2.1 87), (hT.2.1 88), (hT.2.1 89), (hT.2.1 90), (hT.2.1 91), (hT.2.1 92), G336, (hT.2.1 102), (hT.2.1 103), G408, (hT.2.1 105), (hT.2.1 106), (hT.2.1 107), (hT.2.1 108), trivial⟩), (show (0 : Int) = 0 → (m.1 10) = 0 by omega), (show LxP y411 y413 y415 (m.1 6) (0 : Int) by first | (first | exact hLx | exact (fun _ => hLx (by omega)) | (intro h9; exfalso; omega)) | (exfalso; omega)), (show ((m.1 99) + 1) = (m.1 99) + 1 by omega), (fun _ => ⟨(show (m.1 8) + 1 ≤ y413 by omega), (show (m.1 28) ≤ (m.1 28) by omega), (show CN (m.2 65) (m.2 67) (m.1 28) by first | (exact hCN) | (exfalso; omega)), (show agr (m.2 65) (m.2 65) (m.1 28) by first | (exact hAgC) | (exfalso; omega)), (show TdP (m.2 65) (m.1 28) (m.1 22) ((m.1 99) + 1) (upI (m.2 101) (m.1 99) (m.1 7)) (m.2 103) (m.2 105) (m.2 106) (m.2 107) (m.2 108) by first | (exact hTd2) | (exfalso; omega))⟩), rfl⟩
              · skip
                replace h423 : LxP y411 y413 y415 (m.1 6) y417 := h423
                have hLx := h423
                clear h424
                replace h425 : y388 ≤ y413 := h425
                clear h426
                have hf430 : 1 ≤ y417 := by omega
                clear g387 g389 g391 g395 g397 h399 u406 h425
                refine Tm_lv (a := [(0, .ref 189), (1, .int (i32 (m.1 99)))]) rfl rfl ⟨rfl, rfl, trivial⟩ ?_
                exact J235_28 (mO m [(7, y411), (8, y413), (9, y415), (10, y417), (11, y419), (12, y421), (28, (m.1 28)), (69, (m.1 69)), (70, (m.1 70)), (71, (m.1 71)), (72, (m.1 72)), (73, (m.1 73)), (74, (m.1 74)), (75, (m.1 75)), (99, (m.1 99) + 1), (100, (m.1 100))] [(65, (m.2 65)), (66, (m.2 66)), (67, (m.2 67)), (68, (m.2 68)), (76, (m.2 76)), (77, (m.2 77)), (78, (m.2 78)), (79, (m.2 79)), (80, (m.2 80)), (81, (m.2 81)), (82, (m.2 82)), (83, (m.2 83)), (84, (m.2 84)), (85, (m.2 85)), (86, (m.2 86)), (87, (m.2 87)), (88, (m.2 88)), (89, (m.2 89)), (90, (m.2 90)), (91, (m.2 91)), (92, (m.2 92)), (101, upI (m.2 101) (m.1 99) (m.1 7)), (102, (m.2 102)), (103, (m.2 103)), (104, upI (m.2 104) (m.1 99) oo), (105, (m.2 105)), (106, (m.2 106)), (107, (m.2 107)), (108, (m.2 108))]) (Ty_mO hT rfl rfl ⟨g412, g414, g416, g418, g420, g422, f28, f69, f70, f71, f72, f73, f74, f75, g335, f100, trivial⟩ ⟨(hT.2.1 65), (hT.2.1 66), (hT.2.1 67), (hT.2.1 68), (hT.2.1 76), (hT.2.1 77), (hT.2.1 78), (hT.2.1 79), (hT.2.1 80), (hT.2.1 81), (hT.2.1 82), (hT.2.1 83), (hT.2.1 84), (hT.2.1 85), (hT.2.1 86), (hT.2.1 87), (hT.2.1 88), (hT.2.1 89), (hT.2.1 90), (hT.2.1 91), (hT.2.1 92), G336, (hT.2.1 102), (hT.2.1 103), G408, (hT.2.1 105), (hT.2.1 106), (hT.2.1 107), (hT.2.1 108), trivial⟩) (show 1 ≤ y417 by omega) (show y417 ≤ 8 by omega) (show 0 ≤ ((m.1 99) + 1) ∧ ((m.1 99) + 1) ≤ 240 by omega) (show 0 ≤ (m.1 99) ∧ (m.1 99) ≤ 240 by omega)
            · skip
              replace h399 : LxP y386 y388 y390 (m.1 6) y392 := h399
              have hLx := h399
              replace h400 : y344 ≤ y388 := h400
              clear h401
              clear h402
              replace h403 : 0 ≤ oo ∧ (oo < 12 ∨ oo = 0) := h403
              clear h404
              have hf431 : 1 ≤ y392 := by omega
              clear g343 g345 g347 g351 g353 h354 h356 h357 u359 h400
              refine Tm_lv (a := [(0, .ref 189), (1, .int (i32 (m.1 99)))]) rfl rfl ⟨rfl, rfl, trivial⟩ ?_
              exact J228_37 oo (mO m [(7, y386), (8, y388), (9, y390), (10, y392), (11, y394), (12, y396), (28, (m.1 28)), (69, (m.1 69)), (70, (m.1 70)), (71, (m.1 71)), (72, (m.1 72)), (73, (m.1 73)), (74, (m.1 74)), (75, (m.1 75)), (99, (m.1 99) + 1), (100, (m.1 100))] [(65, (m.2 65)), (66, (m.2 66)), (67, (m.2 67)), (68, (m.2 68)), (76, (m.2 76)), (77, (m.2 77)), (78, (m.2 78)), (79, (m.2 79)), (80, (m.2 80)), (81, (m.2 81)), (82, (m.2 82)), (83, (m.2 83)), (84, (m.2 84)), (85, (m.2 85)), (86, (m.2 86)), (87, (m.2 87)), (88, (m.2 88)), (89, (m.2 89)), (90, (m.2 90)), (91, (m.2 91)), (92, (m.2 92)), (101, upI (m.2 101) (m.1 99) (m.1 7)), (102, (m.2 102)), (103, (m.2 103)), (104, (m.2 104)), (105, (m.2 105)), (106, (m.2 106)), (107, (m.2 107)), (108, (m.2 108))]) (r32 (by omega) (by omega)) (Ty_mO hT rfl rfl ⟨g387, g389, g391, g393, g395, g397, f28, f69, f70, f71, f72, f73, f74, f75, g335, f100, trivial⟩ ⟨(hT.2.1 65), (hT.2.1 66), (hT.2.1 67), (hT.2.1 68), (hT.2.1 76), (hT.2.1 77), (hT.2.1 78), (hT.2.1 79), (hT.2.1 80), (hT.2.1 81), (hT.2.1 82), (hT.2.1 83), (hT.2.1 84), (hT.2.1 85), (hT.2.1 86), (hT.2.1 87), (hT.2.1 88), (hT.2.1 89), (hT.2.1 90), (hT.2.1 91), (hT.2.1 92), G336, (hT.2.1 102), (hT.2.1 103), (hT.2.1 104), (hT.2.1 105), (hT.2.1 106), (hT.2.1 107), (hT.2.1 108), trivial⟩) (show 0 ≤ oo by omega) (show oo ≤ 11 by omega) (show 1 ≤ y392 by omega) (show y392 ≤ 8 by omega) (show 0 ≤ ((m.1 99) + 1) ∧ ((m.1 99) + 1) ≤ 240 by omega) (show 0 ≤ (m.1 99) ∧ (m.1 99) ≤ 240 by omega)
        · skip
          replace h354 : LxP y342 y344 y346 (m.1 6) y348 := h354
          have hLx := h354
          clear h355
          replace h356 : (m.1 8) ≤ y344 := h356
          clear h357
          have hf432 : 1 ≤ y348 := by omega
          refine T_gf 210 (.ref 261) rfl rfl rfl rfl rfl rfl ?_
          refine T_ld 211 (.int (i32 (m.1 99))) rfl (fun _ => rfl) ?_
          refine T_iald 212 101 (upI (m.2 101) (m.1 99) (m.1 7)) rfl rfl rfl (by omega) (show (m.1 99) < (240 : Int) by omega) rfl ?_
          refine T_cast (m.1 7) upI_s ?_
          refine T_ld 215 (.int (i32 326)) rfl (fun _ => rfl) ?_
          refine T_icmp 229 218 rfl rfl rfl (r32 (by omega) (by omega)) ⟨by decide, by decide⟩ (fun (h433 : (m.1 7) = 326) => ?_) (fun (h433 : ¬ ((m.1 7) = 326)) => ?_)
          · skip
            refine T_ld 230 (.ref 189) rfl (fun _ => rfl) ?_
            refine T_ld 232 (.int (i32 59)) rfl (fun _ => rfl) ?_
            refine T_call 235 232 [.ref 189, .int (i32 59)] [] rfl (fun _ => rfl) rfl (c_need w (mO m [(7, y342), (8, y344), (9, y346), (10, y348), (11, y350), (12, y352), (28, (m.1 28)), (69, (m.1 69)), (70, (m.1 70)), (71, (m.1 71)), (72, (m.1 72)), (73, (m.1 73)), (74, (m.1 74)), (75, (m.1 75)), (99, (m.1 99) + 1), (100, (m.1 100))] [(65, (m.2 65)), (66, (m.2 66)), (67, (m.2 67)), (68, (m.2 68)), (76, (m.2 76)), (77, (m.2 77)), (78, (m.2 78)), (79, (m.2 79)), (80, (m.2 80)), (81, (m.2 81)), (82, (m.2 82)), (83, (m.2 83)), (84, (m.2 84)), (85, (m.2 85)), (86, (m.2 86)), (87, (m.2 87)), (88, (m.2 88)), (89, (m.2 89)), (90, (m.2 90)), (91, (m.2 91)), (92, (m.2 92)), (101, upI (m.2 101) (m.1 99) (m.1 7)), (102, (m.2 102)), (103, (m.2 103)), (104, (m.2 104)), (105, (m.2 105)), (106, (m.2 106)), (107, (m.2 107)), (108, (m.2 108))]) c N D (by omega) (Ty_mO hT rfl rfl ⟨g343, g345, g347, g349, g351, g353, f28, f69, f70, f71, f72, f73, f74, f75, g335, f100, trivial⟩ ⟨(hT.2.1 65), (hT.2.1 66), (hT.2.1 67), (hT.2.1 68), (hT.2.1 76), (hT.2.1 77), (hT.2.1 78), (hT.2.1 79), (hT.2.1 80), (hT.2.1 81), (hT.2.1 82), (hT.2.1 83), (hT.2.1 84), (hT.2.1 85), (hT.2.1 86), (hT.2.1 87), (hT.2.1 88), (hT.2.1 89), (hT.2.1 90), (hT.2.1 91), (hT.2.1 92), G336, (hT.2.1 102), (hT.2.1 103), (hT.2.1 104), (hT.2.1 105), (hT.2.1 106), (hT.2.1 107), (hT.2.1 108), trivial⟩) 59 ⟨by decide, by decide⟩ (show 1 ≤ (59 : Int) by omega) (show LxP y342 y344 y346 (m.1 6) y348 by first | exact hLx | (intro h9; exfalso; omega) | (intro h9; have h8 := hLx (by omega); omega))) (fun rr434 k435 => ?_)
            obtain ⟨y436, y438, y440, y442, y444, y446, g437, g439, g441, g443, g445, g447, h448, h449, h450, h451, rfl⟩ := k435
            refine ⟨_, _, rfl, ?_⟩
            refine T_nf2 (st' := []) (l' := [(7, y436), (8, y438), (9, y440), (10, y442), (11, y444), (12, y446), (28, (m.1 28)), (69, (m.1 69)), (70, (m.1 70)), (71, (m.1 71)), (72, (m.1 72)), (73, (m.1 73)), (74, (m.1 74)), (75, (m.1 75)), (99, (m.1 99) + 1), (100, (m.1 100))]) (a' := [(65, (m.2 65)), (66, (m.2 66)), (67, (m.2 67)), (68, (m.2 68)), (76, (m.2 76)), (77, (m.2 77)), (78, (m.2 78)), (79, (m.2 79)), (80, (m.2 80)), (81, (m.2 81)), (82, (m.2 82)), (83, (m.2 83)), (84, (m.2 84)), (85, (m.2 85)), (86, (m.2 86)), (87, (m.2 87)), (88, (m.2 88)), (89, (m.2 89)), (90, (m.2 90)), (91, (m.2 91)), (92, (m.2 92)), (101, upI (m.2 101) (m.1 99) (m.1 7)), (102, (m.2 102)), (103, (m.2 103)), (104, (m.2 104)), (105, (m.2 105)), (106, (m.2 106)), (107, (m.2 107)), (108, (m.2 108))]) [7, 8, 9, 10, 11, 12] [] rfl ⟨rfl, rfl, rfl, rfl, rfl, rfl, rfl, rfl, rfl, rfl, rfl, rfl, rfl, rfl, rfl, rfl, rfl, rfl, rfl, rfl, rfl, rfl, rfl, rfl, rfl, rfl, rfl, rfl, rfl, rfl, rfl, rfl, trivial⟩ ⟨rfl, rfl, rfl, rfl, rfl, rfl, rfl, rfl, rfl, rfl, rfl, rfl, rfl, rfl, rfl, rfl, rfl, rfl, rfl, rfl, rfl, rfl, rfl, rfl, rfl, rfl, rfl, rfl, rfl, rfl, rfl, rfl, rfl, rfl, rfl, rfl, rfl, rfl, rfl, rfl, rfl, rfl, rfl, rfl, rfl, rfl, rfl, rfl, rfl, rfl, rfl, rfl, rfl, rfl, rfl, rfl, rfl, rfl, trivial⟩ rfl rfl (by decide) (by decide) ?_
            replace h448 : LxP y436 y438 y440 (m.1 6) y442 := h448
            replace h449 : y442 = 0 → y348 = 0 ∧ y342 = (59 : Int) := h449
            replace h450 : y344 ≤ y438 := h450
            replace h451 : y442 = 0 → y344 + y346 ≤ y438 := h451
            have hf452 : 1 ≤ y442 := by omega
            clear h449
            clear h451
            have hLx := h448
            clear g343 g345 g347 g349 g351 g353 h354 h356 hf432 h450
            refine Tm_lv (a := [(0, .ref 189), (1, .int (i32 (m.1 99)))]) rfl rfl ⟨rfl, rfl, trivial⟩ ?_
            exact J235_28 (mO m [(7, y436), (8, y438), (9, y440), (10, y442), (11, y444), (12, y446), (28, (m.1 28)), (69, (m.1 69)), (70, (m.1 70)), (71, (m.1 71)), (72, (m.1 72)), (73, (m.1 73)), (74, (m.1 74)), (75, (m.1 75)), (99, (m.1 99) + 1), (100, (m.1 100))] [(65, (m.2 65)), (66, (m.2 66)), (67, (m.2 67)), (68, (m.2 68)), (76, (m.2 76)), (77, (m.2 77)), (78, (m.2 78)), (79, (m.2 79)), (80, (m.2 80)), (81, (m.2 81)), (82, (m.2 82)), (83, (m.2 83)), (84, (m.2 84)), (85, (m.2 85)), (86, (m.2 86)), (87, (m.2 87)), (88, (m.2 88)), (89, (m.2 89)), (90, (m.2 90)), (91, (m.2 91)), (92, (m.2 92)), (101, upI (m.2 101) (m.1 99) (m.1 7)), (102, (m.2 102)), (103, (m.2 103)), (104, (m.2 104)), (105, (m.2 105)), (106, (m.2 106)), (107, (m.2 107)), (108, (m.2 108))]) (Ty_mO hT rfl rfl ⟨g437, g439, g441, g443, g445, g447, f28, f69, f70, f71, f72, f73, f74, f75, g335, f100, trivial⟩ ⟨(hT.2.1 65), (hT.2.1 66), (hT.2.1 67), (hT.2.1 68), (hT.2.1 76), (hT.2.1 77), (hT.2.1 78), (hT.2.1 79), (hT.2.1 80), (hT.2.1 81), (hT.2.1 82), (hT.2.1 83), (hT.2.1 84), (hT.2.1 85), (hT.2.1 86), (hT.2.1 87), (hT.2.1 88), (hT.2.1 89), (hT.2.1 90), (hT.2.1 91), (hT.2.1 92), G336, (hT.2.1 102), (hT.2.1 103), (hT.2.1 104), (hT.2.1 105), (hT.2.1 106), (hT.2.1 107), (hT.2.1 108), trivial⟩) (show 1 ≤ y442 by omega) (show y442 ≤ 8 by omega) (show 0 ≤ ((m.1 99) + 1) ∧ ((m.1 99) + 1) ≤ 240 by omega) (show 0 ≤ (m.1 99) ∧ (m.1 99) ≤ 240 by omega)
          · skip
            refine T_gf 222 (.ref 264) rfl rfl rfl rfl rfl rfl ?_
            refine T_ld 223 (.int (i32 (m.1 99))) rfl (fun _ => rfl) ?_
            refine T_ld 224 (.ref 189) rfl (fun _ => rfl) ?_
            refine T_ld 225 (.int (i32 2)) rfl (fun _ => rfl) ?_
            refine T_call 228 236 [.ref 189, .int (i32 2)] [.int (i32 (m.1 99)), .ref 264] rfl (fun _ => rfl) rfl (c_oldName w (mO m [(7, y342), (8, y344), (9, y346), (10, y348), (11, y350), (12, y352), (28, (m.1 28)), (69, (m.1 69)), (70, (m.1 70)), (71, (m.1 71)), (72, (m.1 72)), (73, (m.1 73)), (74, (m.1 74)), (75, (m.1 75)), (99, (m.1 99) + 1), (100, (m.1 100))] [(65, (m.2 65)), (66, (m.2 66)), (67, (m.2 67)), (68, (m.2 68)), (76, (m.2 76)), (77, (m.2 77)), (78, (m.2 78)), (79, (m.2 79)), (80, (m.2 80)), (81, (m.2 81)), (82, (m.2 82)), (83, (m.2 83)), (84, (m.2 84)), (85, (m.2 85)), (86, (m.2 86)), (87, (m.2 87)), (88, (m.2 88)), (89, (m.2 89)), (90, (m.2 90)), (91, (m.2 91)), (92, (m.2 92)), (101, upI (m.2 101) (m.1 99) (m.1 7)), (102, (m.2 102)), (103, (m.2 103)), (104, (m.2 104)), (105, (m.2 105)), (106, (m.2 106)), (107, (m.2 107)), (108, (m.2 108))]) c N D (by omega) (Ty_mO hT rfl rfl ⟨g343, g345, g347, g349, g351, g353, f28, f69, f70, f71, f72, f73, f74, f75, g335, f100, trivial⟩ ⟨(hT.2.1 65), (hT.2.1 66), (hT.2.1 67), (hT.2.1 68), (hT.2.1 76), (hT.2.1 77), (hT.2.1 78), (hT.2.1 79), (hT.2.1 80), (hT.2.1 81), (hT.2.1 82), (hT.2.1 83), (hT.2.1 84), (hT.2.1 85), (hT.2.1 86), (hT.2.1 87), (hT.2.1 88), (hT.2.1 89), (hT.2.1 90), (hT.2.1 91), (hT.2.1 92), G336, (hT.2.1 102), (hT.2.1 103), (hT.2.1 104), (hT.2.1 105), (hT.2.1 106), (hT.2.1 107), (hT.2.1 108), trivial⟩) 2 12 ⟨by decide, by decide⟩ (show LxP y342 y344 y346 (m.1 6) y348 by first | exact hLx | (intro h9; exfalso; omega) | (intro h9; have h8 := hLx (by omega); omega)) (show ∀ k, (m.2 14) k + (m.2 15) k ≤ 4000 by first | exact p1 | exact hNM) (show 1 ≤ (2 : Int) ∧ (2 : Int) ≤ 7 ∧ (2 : Int) ≠ 5 by omega) (show 12 ≤ 16 by omega) (show y348 = 0 → ∀ k, 0 ≤ k → k < (m.1 13) → (m.2 16) k = (2 : Int) → 0 ≤ (m.2 17) k ∧ (m.2 17) k < 12 by first | exact hOL | (intro h; exfalso; omega)) (show (2 : Int) = 3 → 3 ≤ 12 by omega)) (fun rr453 k454 => ?_)
            obtain ⟨y455, y457, y459, y461, y463, y465, oo, g456, g458, g460, g462, g464, g466, g467, h468, h469, h470, h471, h472, h473, rfl⟩ := k454
            refine ⟨_, _, rfl, ?_⟩
            refine T_nf2 (st' := [.int (i32 oo), .int (i32 (m.1 99)), .ref 264]) (l' := [(7, y455), (8, y457), (9, y459), (10, y461), (11, y463), (12, y465), (28, (m.1 28)), (69, (m.1 69)), (70, (m.1 70)), (71, (m.1 71)), (72, (m.1 72)), (73, (m.1 73)), (74, (m.1 74)), (75, (m.1 75)), (99, (m.1 99) + 1), (100, (m.1 100))]) (a' := [(65, (m.2 65)), (66, (m.2 66)), (67, (m.2 67)), (68, (m.2 68)), (76, (m.2 76)), (77, (m.2 77)), (78, (m.2 78)), (79, (m.2 79)), (80, (m.2 80)), (81, (m.2 81)), (82, (m.2 82)), (83, (m.2 83)), (84, (m.2 84)), (85, (m.2 85)), (86, (m.2 86)), (87, (m.2 87)), (88, (m.2 88)), (89, (m.2 89)), (90, (m.2 90)), (91, (m.2 91)), (92, (m.2 92)), (101, upI (m.2 101) (m.1 99) (m.1 7)), (102, (m.2 102)), (103, (m.2 103)), (104, (m.2 104)), (105, (m.2 105)), (106, (m.2 106)), (107, (m.2 107)), (108, (m.2 108))]) [7, 8, 9, 10, 11, 12] [] rfl ⟨rfl, rfl, rfl, rfl, rfl, rfl, rfl, rfl, rfl, rfl, rfl, rfl, rfl, rfl, rfl, rfl, rfl, rfl, rfl, rfl, rfl, rfl, rfl, rfl, rfl, rfl, rfl, rfl, rfl, rfl, rfl, rfl, trivial⟩ ⟨rfl, rfl, rfl, rfl, rfl, rfl, rfl, rfl, rfl, rfl, rfl, rfl, rfl, rfl, rfl, rfl, rfl, rfl, rfl, rfl, rfl, rfl, rfl, rfl, rfl, rfl, rfl, rfl, rfl, rfl, rfl, rfl, rfl, rfl, rfl, rfl, rfl, rfl, rfl, rfl, rfl, rfl, rfl, rfl, rfl, rfl, rfl, rfl, rfl, rfl, rfl, rfl, rfl, rfl, rfl, rfl, rfl, rfl, trivial⟩ rfl rfl (by decide) (by decide) ?_
            obtain ⟨g467a, g467b⟩ := g467
            replace h468 : LxP y455 y457 y459 (m.1 6) y461 := h468
            replace h469 : y344 ≤ y457 := h469
            replace h470 : y461 = 0 → y348 = 0 ∧ y344 + y346 ≤ y457 := h470
            replace h471 : y461 = 0 → y342 = 1 := h471
            replace h472 : 0 ≤ oo ∧ (oo < 12 ∨ oo = 0) := h472
            replace h473 : y461 = 0 → oo < 12 := h473
            have hf474 : 1 ≤ y461 := by omega
            clear h470
            clear h471
            clear h473
            have hLx := h468
            clear g343 g345 g347 g349 g351 g353 h354 h356 hf432 h469
            refine Tm_lv (a := [(0, .ref 189), (1, .int (i32 (m.1 99)))]) rfl rfl ⟨rfl, rfl, trivial⟩ ?_
            exact J228_37 oo (mO m [(7, y455), (8, y457), (9, y459), (10, y461), (11, y463), (12, y465), (28, (m.1 28)), (69, (m.1 69)), (70, (m.1 70)), (71, (m.1 71)), (72, (m.1 72)), (73, (m.1 73)), (74, (m.1 74)), (75, (m.1 75)), (99, (m.1 99) + 1), (100, (m.1 100))] [(65, (m.2 65)), (66, (m.2 66)), (67, (m.2 67)), (68, (m.2 68)), (76, (m.2 76)), (77, (m.2 77)), (78, (m.2 78)), (79, (m.2 79)), (80, (m.2 80)), (81, (m.2 81)), (82, (m.2 82)), (83, (m.2 83)), (84, (m.2 84)), (85, (m.2 85)), (86, (m.2 86)), (87, (m.2 87)), (88, (m.2 88)), (89, (m.2 89)), (90, (m.2 90)), (91, (m.2 91)), (92, (m.2 92)), (101, upI (m.2 101) (m.1 99) (m.1 7)), (102, (m.2 102)), (103, (m.2 103)), (104, (m.2 104)), (105, (m.2 105)), (106, (m.2 106)), (107, (m.2 107)), (108, (m.2 108))]) (r32 (by omega) (by omega)) (Ty_mO hT rfl rfl ⟨g456, g458, g460, g462, g464, g466, f28, f69, f70, f71, f72, f73, f74, f75, g335, f100, trivial⟩ ⟨(hT.2.1 65), (hT.2.1 66), (hT.2.1 67), (hT.2.1 68), (hT.2.1 76), (hT.2.1 77), (hT.2.1 78), (hT.2.1 79), (hT.2.1 80), (hT.2.1 81), (hT.2.1 82), (hT.2.1 83), (hT.2.1 84), (hT.2.1 85), (hT.2.1 86), (hT.2.1 87), (hT.2.1 88), (hT.2.1 89), (hT.2.1 90), (hT.2.1 91), (hT.2.1 92), G336, (hT.2.1 102), (hT.2.1 103), (hT.2.1 104), (hT.2.1 105), (hT.2.1 106), (hT.2.1 107), (hT.2.1 108), trivial⟩) (show 0 ≤ oo by omega) (show oo ≤ 11 by omega) (show 1 ≤ y461 by omega) (show y461 ≤ 8 by omega) (show 0 ≤ ((m.1 99) + 1) ∧ ((m.1 99) + 1) ≤ 240 by omega) (show 0 ≤ (m.1 99) ∧ (m.1 99) ≤ 240 by omega)
      · skip
        refine T_ld 157 (.ref 189) rfl (fun _ => rfl) ?_
        refine T_call 160 212 [.ref 189] [] rfl (fun _ => rfl) rfl (c_next w (mO m [(7, (m.1 7)), (8, (m.1 8)), (9, (m.1 9)), (10, (m.1 10)), (11, (m.1 11)), (12, (m.1 12)), (28, (m.1 28)), (69, (m.1 69)), (70, (m.1 70)), (71, (m.1 71)), (72, (m.1 72)), (73, (m.1 73)), (74, (m.1 74)), (75, (m.1 75)), (99, (m.1 99) + 1), (100, (m.1 100))] [(65, (m.2 65)), (66, (m.2 66)), (67, (m.2 67)), (68, (m.2 68)), (76, (m.2 76)), (77, (m.2 77)), (78, (m.2 78)), (79, (m.2 79)), (80, (m.2 80)), (81, (m.2 81)), (82, (m.2 82)), (83, (m.2 83)), (84, (m.2 84)), (85, (m.2 85)), (86, (m.2 86)), (87, (m.2 87)), (88, (m.2 88)), (89, (m.2 89)), (90, (m.2 90)), (91, (m.2 91)), (92, (m.2 92)), (101, upI (m.2 101) (m.1 99) (m.1 7)), (102, (m.2 102)), (103, (m.2 103)), (104, (m.2 104)), (105, (m.2 105)), (106, (m.2 106)), (107, (m.2 107)), (108, (m.2 108))]) c N D (by omega) (Ty_mO hT rfl rfl ⟨f7, f8, f9, f10, f11, f12, f28, f69, f70, f71, f72, f73, f74, f75, g335, f100, trivial⟩ ⟨(hT.2.1 65), (hT.2.1 66), (hT.2.1 67), (hT.2.1 68), (hT.2.1 76), (hT.2.1 77), (hT.2.1 78), (hT.2.1 79), (hT.2.1 80), (hT.2.1 81), (hT.2.1 82), (hT.2.1 83), (hT.2.1 84), (hT.2.1 85), (hT.2.1 86), (hT.2.1 87), (hT.2.1 88), (hT.2.1 89), (hT.2.1 90), (hT.2.1 91), (hT.2.1 92), G336, (hT.2.1 102), (hT.2.1 103), (hT.2.1 104), (hT.2.1 105), (hT.2.1 106), (hT.2.1 107), (hT.2.1 108), trivial⟩) (show (m.1 10) = 0 → (m.1 8) + (m.1 9) ≤ (m.1 6) by first | omega | (intro h9; have h8 := hLx h9; omega))) (fun rr475 k476 => ?_)
        obtain ⟨y477, y479, y481, y483, y485, y487, g478, g480, g482, g484, g486, g488, h489, h490, h491, h492, rfl⟩ := k476
        refine ⟨_, _, rfl, ?_⟩
        refine T_nf2 (st' := []) (l' := [(7, y477), (8, y479), (9, y481), (10, y483), (11, y485), (12, y487), (28, (m.1 28)), (69, (m.1 69)), (70, (m.1 70)), (71, (m.1 71)), (72, (m.1 72)), (73, (m.1 73)), (74, (m.1 74)), (75, (m.1 75)), (99, (m.1 99) + 1), (100, (m.1 100))]) (a' := [(65, (m.2 65)), (66, (m.2 66)), (67, (m.2 67)), (68, (m.2 68)), (76, (m.2 76)), (77, (m.2 77)), (78, (m.2 78)), (79, (m.2 79)), (80, (m.2 80)), (81, (m.2 81)), (82, (m.2 82)), (83, (m.2 83)), (84, (m.2 84)), (85, (m.2 85)), (86, (m.2 86)), (87, (m.2 87)), (88, (m.2 88)), (89, (m.2 89)), (90, (m.2 90)), (91, (m.2 91)), (92, (m.2 92)), (101, upI (m.2 101) (m.1 99) (m.1 7)), (102, (m.2 102)), (103, (m.2 103)), (104, (m.2 104)), (105, (m.2 105)), (106, (m.2 106)), (107, (m.2 107)), (108, (m.2 108))]) [7, 8, 9, 10, 11, 12] [] rfl ⟨rfl, rfl, rfl, rfl, rfl, rfl, rfl, rfl, rfl, rfl, rfl, rfl, rfl, rfl, rfl, rfl, rfl, rfl, rfl, rfl, rfl, rfl, rfl, rfl, rfl, rfl, rfl, rfl, rfl, rfl, rfl, rfl, trivial⟩ ⟨rfl, rfl, rfl, rfl, rfl, rfl, rfl, rfl, rfl, rfl, rfl, rfl, rfl, rfl, rfl, rfl, rfl, rfl, rfl, rfl, rfl, rfl, rfl, rfl, rfl, rfl, rfl, rfl, rfl, rfl, rfl, rfl, rfl, rfl, rfl, rfl, rfl, rfl, rfl, rfl, rfl, rfl, rfl, rfl, rfl, rfl, rfl, rfl, rfl, rfl, rfl, rfl, rfl, rfl, rfl, rfl, rfl, rfl, trivial⟩ rfl rfl (by decide) (by decide) ?_
        by_cases hf493 : y483 = 0
        · skip
          subst hf493
          replace h489 : LxP y477 y479 y481 (m.1 6) (0 : Int) := h489
          have hLx := h489
          replace h490 : (m.1 10) = 0 := h490 rfl
          replace h491 : (m.1 8) ≤ y479 := h491
          replace h492 : (m.1 8) + (m.1 9) ≤ y479 := h492 rfl
          have u494 : (m.1 8) + 1 ≤ y479 := by omega
          have hAgC : agr (m.2 65) (m.2 65) (m.1 28) := by first | exact agr_r _ _ | exact hAgC | exact agr_t hAgC hAg (by omega)
          have u495 : (m.1 28) ≤ (m.1 28) := by omega
          clear g484
          refine T_gf 164 (.ref 263) rfl rfl rfl rfl rfl rfl ?_
          refine T_ld 165 (.int (i32 (m.1 99))) rfl (fun _ => rfl) ?_
          refine T_ld 166 (.ref 189) rfl (fun _ => rfl) ?_
          refine T_ld 167 (.int (i32 4)) rfl (fun _ => rfl) ?_
          have hOL : (0 : Int) = 0 → ∀ k, 0 ≤ k → k < (m.1 13) → (m.2 16) k = 4 → 0 ≤ (m.2 17) k ∧ (m.2 17) k < (m.1 22) := fun _ k h1 h2 h3 => by
            have h4 := PNl_4 pPN k h1 h2 h3
            omega
          refine T_call 170 236 [.ref 189, .int (i32 4)] [.int (i32 (m.1 99)), .ref 263] rfl (fun _ => rfl) rfl (c_oldName w (mO m [(7, y477), (8, y479), (9, y481), (10, 0), (11, y485), (12, y487), (28, (m.1 28)), (69, (m.1 69)), (70, (m.1 70)), (71, (m.1 71)), (72, (m.1 72)), (73, (m.1 73)), (74, (m.1 74)), (75, (m.1 75)), (99, (m.1 99) + 1), (100, (m.1 100))] [(65, (m.2 65)), (66, (m.2 66)), (67, (m.2 67)), (68, (m.2 68)), (76, (m.2 76)), (77, (m.2 77)), (78, (m.2 78)), (79, (m.2 79)), (80, (m.2 80)), (81, (m.2 81)), (82, (m.2 82)), (83, (m.2 83)), (84, (m.2 84)), (85, (m.2 85)), (86, (m.2 86)), (87, (m.2 87)), (88, (m.2 88)), (89, (m.2 89)), (90, (m.2 90)), (91, (m.2 91)), (92, (m.2 92)), (101, upI (m.2 101) (m.1 99) (m.1 7)), (102, (m.2 102)), (103, (m.2 103)), (104, (m.2 104)), (105, (m.2 105)), (106, (m.2 106)), (107, (m.2 107)), (108, (m.2 108))]) c N D (by omega) (Ty_mO hT rfl rfl ⟨g478, g480, g482, ⟨(by omega : (0 : Int) ≤ 0), (by omega : (0 : Int) ≤ 8)⟩, g486, g488, f28, f69, f70, f71, f72, f73, f74, f75, g335, f100, trivial⟩ ⟨(hT.2.1 65), (hT.2.1 66), (hT.2.1 67), (hT.2.1 68), (hT.2.1 76), (hT.2.1 77), (hT.2.1 78), (hT.2.1 79), (hT.2.1 80), (hT.2.1 81), (hT.2.1 82), (hT.2.1 83), (hT.2.1 84), (hT.2.1 85), (hT.2.1 86), (hT.2.1 87), (hT.2.1 88), (hT.2.1 89), (hT.2.1 90), (hT.2.1 91), (hT.2.1 92), G336, (hT.2.1 102), (hT.2.1 103), (hT.2.1 104), (hT.2.1 105), (hT.2.1 106), (hT.2.1 107), (hT.2.1 108), trivial⟩) 4 (m.1 22) ⟨by decide, by decide⟩ (show LxP y477 y479 y481 (m.1 6) (0 : Int) by first | exact hLx | (intro h9; exfalso; omega) | (intro h9; have h8 := hLx (by omega); omega)) (show ∀ k, (m.2 14) k + (m.2 15) k ≤ 4000 by first | exact p1 | exact hNM) (show 1 ≤ (4 : Int) ∧ (4 : Int) ≤ 7 ∧ (4 : Int) ≠ 5 by omega) (show (m.1 22) ≤ 16 by omega) (show (0 : Int) = 0 → ∀ k, 0 ≤ k → k < (m.1 13) → (m.2 16) k = (4 : Int) → 0 ≤ (m.2 17) k ∧ (m.2 17) k < (m.1 22) by first | exact hOL | (intro h; exfalso; omega)) (show (4 : Int) = 3 → 3 ≤ (m.1 22) by omega)) (fun rr496 k497 => ?_)
          obtain ⟨y498, y500, y502, y504, y506, y508, oo, g499, g501, g503, g505, g507, g509, g510, h511, h512, h513, h514, h515, h516, rfl⟩ := k497
          refine ⟨_, _, rfl, ?_⟩
          refine T_nf2 (st' := [.int (i32 oo), .int (i32 (m.1 99)), .ref 263]) (l' := [(7, y498), (8, y500), (9, y502), (10, y504), (11, y506), (12, y508), (28, (m.1 28)), (69, (m.1 69)), (70, (m.1 70)), (71, (m.1 71)), (72, (m.1 72)), (73, (m.1 73)), (74, (m.1 74)), (75, (m.1 75)), (99, (m.1 99) + 1), (100, (m.1 100))]) (a' := [(65, (m.2 65)), (66, (m.2 66)), (67, (m.2 67)), (68, (m.2 68)), (76, (m.2 76)), (77, (m.2 77)), (78, (m.2 78)), (79, (m.2 79)), (80, (m.2 80)), (81, (m.2 81)), (82, (m.2 82)), (83, (m.2 83)), (84, (m.2 84)), (85, (m.2 85)), (86, (m.2 86)), (87, (m.2 87)), (88, (m.2 88)), (89, (m.2 89)), (90, (m.2 90)), (91, (m.2 91)), (92, (m.2 92)), (101, upI (m.2 101) (m.1 99) (m.1 7)), (102, (m.2 102)), (103, (m.2 103)), (104, (m.2 104)), (105, (m.2 105)), (106, (m.2 106)), (107, (m.2 107)), (108, (m.2 108))]) [7, 8, 9, 10, 11, 12] [] rfl ⟨rfl, rfl, rfl, rfl, rfl, rfl, rfl, rfl, rfl, rfl, rfl, rfl, rfl, rfl, rfl, rfl, rfl, rfl, rfl, rfl, rfl, rfl, rfl, rfl, rfl, rfl, rfl, rfl, rfl, rfl, rfl, rfl, trivial⟩ ⟨rfl, rfl, rfl, rfl, rfl, rfl, rfl, rfl, rfl, rfl, rfl, rfl, rfl, rfl, rfl, rfl, rfl, rfl, rfl, rfl, rfl, rfl, rfl, rfl, rfl, rfl, rfl, rfl, rfl, rfl, rfl, rfl, rfl, rfl, rfl, rfl, rfl, rfl, rfl, rfl, rfl, rfl, rfl, rfl, rfl, rfl, rfl, rfl, rfl, rfl, rfl, rfl, rfl, rfl, rfl, rfl, rfl, rfl, trivial⟩ rfl rfl (by decide) (by decide) ?_
          obtain ⟨g510a, g510b⟩ := g510
          by_cases hf517 : y504 = 0
          · skip
            subst hf517
            replace h511 : LxP y498 y500 y502 (m.1 6) (0 : Int) := h511
            have hLx := h511
            replace h512 : y479 ≤ y500 := h512
            replace h513 : (0 : Int) = 0 ∧ y479 + y481 ≤ y500 := h513 rfl
            replace h514 : y477 = 1 := h514 rfl
            replace h515 : 0 ≤ oo ∧ (oo < (m.1 22) ∨ oo = 0) := h515
            replace h516 : oo < (m.1 22) := h516 rfl
            have u518 : (m.1 8) + 1 ≤ y500 := by omega
            have hAgC : agr (m.2 65) (m.2 65) (m.1 28) := by first | exact agr_r _ _ | exact hAgC | exact agr_t hAgC hAg (by omega)
            have u519 : (m.1 28) ≤ (m.1 28) := by omega
            clear g478 g480 g482 g486 g488 h489 h491 h492 u494 g505 h512 h513 h514
            have G520 : ∀ j, 0 ≤ (upI (m.2 103) (m.1 99) oo) j ∧ (upI (m.2 103) (m.1 99) oo) j ≤ 7 := upI_rg (hT.2.1 103) ⟨by omega, by omega⟩
            refine T_iast (a' := [(65, (m.2 65)), (66, (m.2 66)), (67, (m.2 67)), (68, (m.2 68)), (76, (m.2 76)), (77, (m.2 77)), (78, (m.2 78)), (79, (m.2 79)), (80, (m.2 80)), (81, (m.2 81)), (82, (m.2 82)), (83, (m.2 83)), (84, (m.2 84)), (85, (m.2 85)), (86, (m.2 86)), (87, (m.2 87)), (88, (m.2 88)), (89, (m.2 89)), (90, (m.2 90)), (91, (m.2 91)), (92, (m.2 92)), (101, upI (m.2 101) (m.1 99) (m.1 7)), (102, (m.2 102)), (103, upI (m.2 103) (m.1 99) oo), (104, (m.2 104)), (105, (m.2 105)), (106, (m.2 106)), (107, (m.2 107)), (108, (m.2 108))]) 171 103 (m.2 103) rfl rfl rfl (by omega) (show (m.1 99) < (240 : Int) by omega) rfl rfl ?_
            refine T_ld 172 (.ref 189) rfl (fun _ => rfl) ?_
            refine T_ld 173 (.int (i32 (m.1 99))) rfl (fun _ => rfl) ?_
            refine T_call 176 274 [.ref 189, .int (i32 (m.1 99))] [] rfl (fun _ => rfl) rfl (c_takeIndex w (mO m [(7, y498), (8, y500), (9, y502), (10, 0), (11, y506), (12, y508), (28, (m.1 28)), (69, (m.1 69)), (70, (m.1 70)), (71, (m.1 71)), (72, (m.1 72)), (73, (m.1 73)), (74, (m.1 74)), (75, (m.1 75)), (99, (m.1 99) + 1), (100, (m.1 100))] [(65, (m.2 65)), (66, (m.2 66)), (67, (m.2 67)), (68, (m.2 68)), (76, (m.2 76)), (77, (m.2 77)), (78, (m.2 78)), (79, (m.2 79)), (80, (m.2 80)), (81, (m.2 81)), (82, (m.2 82)), (83, (m.2 83)), (84, (m.2 84)), (85, (m.2 85)), (86, (m.2 86)), (87, (m.2 87)), (88, (m.2 88)), (89, (m.2 89)), (90, (m.2 90)), (91, (m.2 91)), (92, (m.2 92)), (101, upI (m.2 101) (m.1 99) (m.1 7)), (102, (m.2 102)), (103, upI (m.2 103) (m.1 99) oo), (104, (m.2 104)), (105, (m.2 105)), (106, (m.2 106)), (107, (m.2 107)), (108, (m.2 108))]) c N D (by omega) (Ty_mO hT rfl rfl ⟨g499, g501, g503, ⟨(by omega : (0 : Int) ≤ 0), (by omega : (0 : Int) ≤ 8)⟩, g507, g509, f28, f69, f70, f71, f72, f73, f74, f75, g335, f100, trivial⟩ ⟨(hT.2.1 65), (hT.2.1 66), (hT.2.1 67), (hT.2.1 68), (hT.2.1 76), (hT.2.1 77), (hT.2.1 78), (hT.2.1 79), (hT.2.1 80), (hT.2.1 81), (hT.2.1 82), (hT.2.1 83), (hT.2.1 84), (hT.2.1 85), (hT.2.1 86), (hT.2.1 87), (hT.2.1 88), (hT.2.1 89), (hT.2.1 90), (hT.2.1 91), (hT.2.1 92), G336, (hT.2.1 102), G520, (hT.2.1 104), (hT.2.1 105), (hT.2.1 106), (hT.2.1 107), (hT.2.1 108), trivial⟩) (m.1 99) (r32 (by omega) (by omega)) (show LxP y498 y500 y502 (m.1 6) (0 : Int) by first | exact hLx | exact (fun _ => hLx (by omega)) | (intro h9; exfalso; omega)) (show ∀ k, (m.2 14) k + (m.2 15) k ≤ 4000 by assumption) (show ∀ k, (m.2 31) k + (m.2 32) k ≤ 4000 by assumption) (show ∀ k, (m.2 47) k + (m.2 48) k ≤ 4000 by assumption) (show 0 ≤ (m.1 99) ∧ (m.1 99) ≤ 239 by omega) (fun _ => ⟨(show PN (m.1 13) (m.1 19) (m.1 20) (m.1 21) (m.1 22) (m.1 23) (m.1 25) (m.1 26) (m.2 16) (m.2 17) by assumption), (show CN (m.2 65) (m.2 67) (m.1 28) by assumption)⟩)) (fun rr521 k522 => ?_)
            obtain ⟨m523, hT524, h525, h526, c527, rfl⟩ := k522
            refine ⟨_, _, rfl, ?_⟩
            refine T_nf2 (st' := []) (l' := [(7, (m523.1 7)), (8, (m523.1 8)), (9, (m523.1 9)), (10, (m523.1 10)), (11, (m523.1 11)), (12, (m523.1 12)), (28, (m523.1 28)), (69, (m523.1 69)), (70, (m523.1 70)), (71, (m523.1 71)), (72, (m523.1 72)), (73, (m523.1 73)), (74, (m523.1 74)), (75, (m523.1 75)), (99, (m.1 99) + 1), (100, (m.1 100))]) (a' := [(65, (m523.2 65)), (66, (m523.2 66)), (67, (m523.2 67)), (68, (m523.2 68)), (76, (m523.2 76)), (77, (m523.2 77)), (78, (m523.2 78)), (79, (m523.2 79)), (80, (m523.2 80)), (81, (m523.2 81)), (82, (m523.2 82)), (83, (m523.2 83)), (84, (m523.2 84)), (85, (m523.2 85)), (86, (m523.2 86)), (87, (m523.2 87)), (88, (m523.2 88)), (89, (m523.2 89)), (90, (m523.2 90)), (91, (m523.2 91)), (92, (m523.2 92)), (101, upI (m.2 101) (m.1 99) (m.1 7)), (102, (m.2 102)), (103, upI (m.2 103) (m.1 99) oo), (104, (m.2 104)), (105, (m523.2 105)), (106, (m523.2 106)), (107, (m.2 107)), (108, (m.2 108))]) [7, 8, 9, 10, 11, 12, 28, 69, 70, 71, 72, 73, 74, 75] [65, 66, 67, 68, 76, 77, 78, 79, 80, 81, 82, 83, 84, 85, 86, 87, 88, 89, 90, 91, 92, 105, 106] rfl ⟨rfl, rfl, rfl, rfl, rfl, rfl, rfl, rfl, rfl, rfl, rfl, rfl, rfl, rfl, rfl, rfl, rfl, rfl, rfl, rfl, rfl, rfl, rfl, rfl, rfl, rfl, rfl, rfl, rfl, rfl, rfl, rfl, trivial⟩ ⟨rfl, rfl, rfl, rfl, rfl, rfl, rfl, rfl, rfl, rfl, rfl, rfl, rfl, rfl, rfl, rfl, rfl, rfl, rfl, rfl, rfl, rfl, rfl, rfl, rfl, rfl, rfl, rfl, rfl, rfl, rfl, rfl, rfl, rfl, rfl, rfl, rfl, rfl, rfl, rfl, rfl, rfl, rfl, rfl, rfl, rfl, rfl, rfl, rfl, rfl, rfl, rfl, rfl, rfl, rfl, rfl, rfl, rfl, rfl, rfl, rfl, rfl, trivial⟩ rfl rfl (by decide) (by decide) ?_
            have g528 : 0 ≤ m523.1 7 ∧ m523.1 7 ≤ 330 := hT524.1 7
            have g529 : 0 ≤ m523.1 8 ∧ m523.1 8 ≤ 4000 := hT524.1 8
            have g530 : 0 ≤ m523.1 9 ∧ m523.1 9 ≤ 4000 := hT524.1 9
            have g531 : 0 ≤ m523.1 10 ∧ m523.1 10 ≤ 8 := hT524.1 10
            have g532 : (-1) ≤ m523.1 11 ∧ m523.1 11 ≤ 4000 := hT524.1 11
            have g533 : (-9223372036854775808) ≤ m523.1 12 ∧ m523.1 12 ≤ 9223372036854775807 := hT524.1 12
            have g534 : 0 ≤ m523.1 28 ∧ m523.1 28 ≤ 800 := hT524.1 28
            have g535 : 0 ≤ m523.1 69 ∧ m523.1 69 ≤ 1024 := hT524.1 69
            have g536 : 0 ≤ m523.1 70 ∧ m523.1 70 ≤ 4000 := hT524.1 70
            have g537 : 0 ≤ m523.1 71 ∧ m523.1 71 ≤ 1 := hT524.1 71
            have g538 : (-9223372036854775808) ≤ m523.1 72 ∧ m523.1 72 ≤ 9223372036854775807 := hT524.1 72
            have g539 : 0 ≤ m523.1 73 ∧ m523.1 73 ≤ 60 := hT524.1 73
            have g540 : 0 ≤ m523.1 74 ∧ m523.1 74 ≤ 24 := hT524.1 74
            have g541 : 0 ≤ m523.1 75 ∧ m523.1 75 ≤ 3 := hT524.1 75
            by_cases hf542 : (m523.1 10) = 0
            · skip
              replace h525 : (0 : Int) = 0 := h525 hf542
              replace h526 : LxP (m523.1 7) (m523.1 8) (m523.1 9) (m.1 6) (m523.1 10) := h526
              have hLx := h526
              obtain ⟨c543, c544, c545, c546, c547, c548, c549⟩ := c527 hf542
              replace c543 : y500 + 1 ≤ (m523.1 8) := c543
              replace c544 : CN (m523.2 65) (m523.2 67) (m523.1 28) := c544
              have hCN := c544
              replace c545 : agr (m.2 65) (m523.2 65) (m.1 28) := c545
              have hAg := c545
              replace c546 : (m.1 28) ≤ (m523.1 28) := c546
              replace c547 : cdr (m523.2 65) (m523.1 28) ((m523.2 105) (m.1 99)) ((m523.2 106) (m.1 99)) := c547
              have hXc := c547
              replace c548 : agr (m.2 105) (m523.2 105) (m.1 99) := c548
              have hI1 := c548
              replace c549 : agr (m.2 106) (m523.2 106) (m.1 99) := c549
              have hI2 := c549
              clear c527
              have u550 : (m.1 8) + 1 ≤ (m523.1 8) := by omega
              have hAgC : agr (m.2 65) (m523.2 65) (m.1 28) := by first | exact agr_r _ _ | exact hAgC | exact agr_t hAgC hAg (by omega)
              have u551 : (m.1 28) ≤ (m523.1 28) := by omega
              clear g499 g501 g503 g507 g509 h511 u518 c543
              refine T_gf 180 (.int (i32 (m523.1 10))) rfl rfl rfl rfl rfl rfl ?_
              refine T_if 229 183 rfl rfl rfl (r32 (by omega) (by omega)) (fun (h552 : (m523.1 10) ≠ 0) => by exfalso; omega) (fun (h552 : ¬ ((m523.1 10) ≠ 0)) => ?_)
              refine T_ld 184 (.ref 189) rfl (fun _ => rfl) ?_
              refine T_ld 185 (.int (i32 (m.1 99))) rfl (fun _ => rfl) ?_
              refine T_gf 189 (.ref 206) rfl rfl rfl rfl rfl rfl ?_
              refine T_gf 193 (.ref 263) rfl rfl rfl rfl rfl rfl ?_
              refine T_ld 194 (.int (i32 (m.1 99))) rfl (fun _ => rfl) ?_
              refine T_iald 195 103 (upI (m.2 103) (m.1 99) oo) rfl rfl rfl (by omega) (show (m.1 99) < (240 : Int) by omega) rfl ?_
              refine T_cast oo upI_s ?_
              refine T_iald 196 36 (m.2 36) rfl rfl rfl (by omega) (show oo < (8 : Int) by omega) rfl ?_
              have e553 : 0 ≤ m.2 36 oo ∧ m.2 36 oo ≤ 64 := hT.2.1 36 oo
              refine T_call 199 272 [.ref 189, .int (i32 (m.1 99)), .int (i32 ((m.2 36) oo))] [] rfl (fun _ => rfl) rfl (c_takeWorth w (mO m [(7, (m523.1 7)), (8, (m523.1 8)), (9, (m523.1 9)), (10, (m523.1 10)), (11, (m523.1 11)), (12, (m523.1 12)), (28, (m523.1 28)), (69, (m523.1 69)), (70, (m523.1 70)), (71, (m523.1 71)), (72, (m523.1 72)), (73, (m523.1 73)), (74, (m523.1 74)), (75, (m523.1 75)), (99, (m.1 99) + 1), (100, (m.1 100))] [(65, (m523.2 65)), (66, (m523.2 66)), (67, (m523.2 67)), (68, (m523.2 68)), (76, (m523.2 76)), (77, (m523.2 77)), (78, (m523.2 78)), (79, (m523.2 79)), (80, (m523.2 80)), (81, (m523.2 81)), (82, (m523.2 82)), (83, (m523.2 83)), (84, (m523.2 84)), (85, (m523.2 85)), (86, (m523.2 86)), (87, (m523.2 87)), (88, (m523.2 88)), (89, (m523.2 89)), (90, (m523.2 90)), (91, (m523.2 91)), (92, (m523.2 92)), (101, upI (m.2 101) (m.1 99) (m.1 7)), (102, (m.2 102)), (103, upI (m.2 103) (m.1 99) oo), (104, (m.2 104)), (105, (m523.2 105)), (106, (m523.2 106)), (107, (m.2 107)), (108, (m.2 108))]) c N D (by omega) (Ty_mO hT rfl rfl ⟨(hT524.1 7), (hT524.1 8), (hT524.1 9), (hT524.1 10), (hT524.1 11), (hT524.1 12), (hT524.1 28), (hT524.1 69), (hT524.1 70), (hT524.1 71), (hT524.1 72), (hT524.1 73), (hT524.1 74), (hT524.1 75), g335, f100, trivial⟩ ⟨(hT524.2.1 65), (hT524.2.1 66), (hT524.2.1 67), (hT524.2.1 68), (hT524.2.1 76), (hT524.2.1 77), (hT524.2.1 78), (hT524.2.1 79), (hT524.2.1 80), (hT524.2.1 81), (hT524.2.1 82), (hT524.2.1 83), (hT524.2.1 84), (hT524.2.1 85), (hT524.2.1 86), (hT524.2.1 87), (hT524.2.1 88), (hT524.2.1 89), (hT524.2.1 90), (hT524.2.1 91), (hT524.2.1 92), G336, (hT.2.1 102), G520, (hT.2.1 104), (hT524.2.1 105), (hT524.2.1 106), (hT.2.1 107), (hT.2.1 108), trivial⟩) (m.1 99) ((m.2 36) oo) (r32 (by omega) (by omega)) (r32 (by omega) (by omega)) (show LxP (m523.1 7) (m523.1 8) (m523.1 9) (m.1 6) (m523.1 10) by first | exact hLx | exact (fun _ => hLx (by omega)) | (intro h9; exfalso; omega)) (show ∀ k, (m.2 14) k + (m.2 15) k ≤ 4000 by assumption) (show ∀ k, (m.2 31) k + (m.2 32) k ≤ 4000 by assumption) (show ∀ k, (m.2 47) k + (m.2 48) k ≤ 4000 by assumption) (show 0 ≤ (m.1 99) ∧ (m.1 99) ≤ 239 by omega) (fun _ => ⟨(show PN (m.1 13) (m.1 19) (m.1 20) (m.1 21) (m.1 22) (m.1 23) (m.1 25) (m.1 26) (m.2 16) (m.2 17) by assumption), (show CN (m523.2 65) (m523.2 67) (m523.1 28) by assumption)⟩)) (fun rr554 k555 => ?_)
              obtain ⟨m556, hT557, h558, h559, c560, rfl⟩ := k555
              refine ⟨_, _, rfl, ?_⟩
              refine T_nf2 (st' := []) (l' := [(7, (m556.1 7)), (8, (m556.1 8)), (9, (m556.1 9)), (10, (m556.1 10)), (11, (m556.1 11)), (12, (m556.1 12)), (28, (m556.1 28)), (69, (m556.1 69)), (70, (m556.1 70)), (71, (m556.1 71)), (72, (m556.1 72)), (73, (m556.1 73)), (74, (m556.1 74)), (75, (m556.1 75)), (99, (m.1 99) + 1), (100, (m.1 100))]) (a' := [(65, (m556.2 65)), (66, (m556.2 66)), (67, (m556.2 67)), (68, (m556.2 68)), (76, (m556.2 76)), (77, (m556.2 77)), (78, (m556.2 78)), (79, (m556.2 79)), (80, (m556.2 80)), (81, (m556.2 81)), (82, (m556.2 82)), (83, (m556.2 83)), (84, (m556.2 84)), (85, (m556.2 85)), (86, (m556.2 86)), (87, (m556.2 87)), (88, (m556.2 88)), (89, (m556.2 89)), (90, (m556.2 90)), (91, (m556.2 91)), (92, (m556.2 92)), (101, upI (m.2 101) (m.1 99) (m.1 7)), (102, (m.2 102)), (103, upI (m.2 103) (m.1 99) oo), (104, (m.2 104)), (105, (m523.2 105)), (106, (m523.2 106)), (107, (m556.2 107)), (108, (m556.2 108))]) [7, 8, 9, 10, 11, 12, 28, 69, 70, 71, 72, 73, 74, 75] [65, 66, 67, 68, 76, 77, 78, 79, 80, 81, 82, 83, 84, 85, 86, 87, 88, 89, 90, 91, 92, 107, 108] rfl ⟨rfl, rfl, rfl, rfl, rfl, rfl, rfl, rfl, rfl, rfl, rfl, rfl, rfl, rfl, rfl, rfl, rfl, rfl, rfl, rfl, rfl, rfl, rfl, rfl, rfl, rfl, rfl, rfl, rfl, rfl, rfl, rfl, trivial⟩ ⟨rfl, rfl, rfl, rfl, rfl, rfl, rfl, rfl, rfl, rfl, rfl, rfl, rfl, rfl, rfl, rfl, rfl, rfl, rfl, rfl, rfl, rfl, rfl, rfl, rfl, rfl, rfl, rfl, rfl, rfl, rfl, rfl, rfl, rfl, rfl, rfl, rfl, rfl, rfl, rfl, rfl, rfl, rfl, rfl, rfl, rfl, rfl, rfl, rfl, rfl, rfl, rfl, rfl, rfl, rfl, rfl, rfl, rfl, rfl, rfl, rfl, rfl, rfl, rfl, trivial⟩ rfl rfl (by decide) (by decide) ?_
              have g561 : 0 ≤ m556.1 7 ∧ m556.1 7 ≤ 330 := hT557.1 7
              have g562 : 0 ≤ m556.1 8 ∧ m556.1 8 ≤ 4000 := hT557.1 8
              have g563 : 0 ≤ m556.1 9 ∧ m556.1 9 ≤ 4000 := hT557.1 9
              have g564 : 0 ≤ m556.1 10 ∧ m556.1 10 ≤ 8 := hT557.1 10
              have g565 : (-1) ≤ m556.1 11 ∧ m556.1 11 ≤ 4000 := hT557.1 11
              have g566 : (-9223372036854775808) ≤ m556.1 12 ∧ m556.1 12 ≤ 9223372036854775807 := hT557.1 12
              have g567 : 0 ≤ m556.1 28 ∧ m556.1 28 ≤ 800 := hT557.1 28
              have g568 : 0 ≤ m556.1 69 ∧ m556.1 69 ≤ 1024 := hT557.1 69
              have g569 : 0 ≤ m556.1 70 ∧ m556.1 70 ≤ 4000 := hT557.1 70
              have g570 : 0 ≤ m556.1 71 ∧ m556.1 71 ≤ 1 := hT557.1 71
              have g571 : (-9223372036854775808) ≤ m556.1 72 ∧ m556.1 72 ≤ 9223372036854775807 := hT557.1 72
              have g572 : 0 ≤ m556.1 73 ∧ m556.1 73 ≤ 60 := hT557.1 73
              have g573 : 0 ≤ m556.1 74 ∧ m556.1 74 ≤ 24 := hT557.1 74
              have g574 : 0 ≤ m556.1 75 ∧ m556.1 75 ≤ 3 := hT557.1 75
              by_cases hf575 : (m556.1 10) = 0
              · skip
                replace h558 : (m523.1 10) = 0 := h558 hf575
                replace h559 : LxP (m556.1 7) (m556.1 8) (m556.1 9) (m.1 6) (m556.1 10) := h559
                have hLx := h559
                obtain ⟨c576, c577, c578, c579, c580, c581, c582⟩ := c560 hf575
                replace c576 : (m523.1 8) + 1 ≤ (m556.1 8) := c576
                replace c577 : CN (m556.2 65) (m556.2 67) (m556.1 28) := c577
                have hCN := c577
                replace c578 : agr (m523.2 65) (m556.2 65) (m523.1 28) := c578
                have hAg := c578
                replace c579 : (m523.1 28) ≤ (m556.1 28) := c579
                replace c580 : cdr (m556.2 65) (m556.1 28) ((m556.2 107) (m.1 99)) ((m556.2 108) (m.1 99)) := c580
                have hEc := c580
                replace c581 : agr (m.2 107) (m556.2 107) (m.1 99) := c581
                have hJ1 := c581
                replace c582 : agr (m.2 108) (m556.2 108) (m.1 99) := c582
                have hJ2 := c582
                clear c560
                have u583 : (m.1 8) + 1 ≤ (m556.1 8) := by omega
                have hAgC : agr (m.2 65) (m556.2 65) (m.1 28) := by first | exact agr_r _ _ | exact hAgC | exact agr_t hAgC hAg (by omega)
                have u584 : (m.1 28) ≤ (m556.1 28) := by omega
                clear g528 g529 g530 g531 g532 g533 g534 g535 g536 g537 g538 g539 g540 g541 h526 c544 c545 c546 c547 u550 u551 h552 h558 c576 c578 c579
                refine T_goto 229 rfl (fun _ => rfl) ?_
                have w1 : agr (m.2 101) (upI (m.2 101) (m.1 99) (m.1 7)) (m.1 99) := by first | exact agr_u (Int.le_refl _) | exact agr_r _ _
                have w2 : agr (m.2 103) (upI (m.2 103) (m.1 99) oo) (m.1 99) := by first | exact agr_u (Int.le_refl _) | exact agr_r _ _
                have w3 : agr (m.2 105) (m523.2 105) (m.1 99) := by first | exact hI1 | exact agr_u (Int.le_refl _) | exact agr_r _ _
                have w4 : agr (m.2 106) (m523.2 106) (m.1 99) := by first | exact hI2 | exact agr_u (Int.le_refl _) | exact agr_r _ _
                have w5 : agr (m.2 107) (m556.2 107) (m.1 99) := by first | exact hJ1 | exact agr_u (Int.le_refl _) | exact agr_r _ _
                have w6 : agr (m.2 108) (m556.2 108) (m.1 99) := by first | exact hJ2 | exact agr_u (Int.le_refl _) | exact agr_r _ _
                have hR : TdR (m556.2 65) (m556.1 28) (m.1 22) (m.1 99) (upI (m.2 101) (m.1 99) (m.1 7)) (upI (m.2 103) (m.1 99) oo) (m523.2 105) (m523.2 106) (m556.2 107) (m556.2 108) := by
                  refine ⟨fun h => ?_, fun h => ?_⟩ <;> rw [upI_s] at h <;> first | exact hEc | exact ⟨hXc, by rw [upI_s]; omega⟩ | exact ⟨cdr_f hXc hAg (by omega), by rw [upI_s]; omega⟩ | omega
                have hTd2 : TdP (m556.2 65) (m556.1 28) (m.1 22) ((m.1 99) + 1) (upI (m.2 101) (m.1 99) (m.1 7)) (upI (m.2 103) (m.1 99) oo) (m523.2 105) (m523.2 106) (m556.2 107) (m556.2 108) := TdP_add (TdP_f pTd hAgC (by omega) w1 w2 w3 w4 w5 w6) hR
                refine T_ld 230 (.ref 189) rfl (fun _ => rfl) ?_
                refine T_ld 232 (.int (i32 59)) rfl (fun _ => rfl) ?_
                refine T_call 235 232 [.ref 189, .int (i32 59)] [] rfl (fun _ => rfl) rfl (c_need w (mO m [(7, (m556.1 7)), (8, (m556.1 8)), (9, (m556.1 9)), (10, (m556.1 10)), (11, (m556.1 11)), (12, (m556.1 12)), (28, (m556.1 28)), (69, (m556.1 69)), (70, (m556.1 70)), (71, (m556.1 71)), (72, (m556.1 72)), (73, (m556.1 73)), (74, (m556.1 74)), (75, (m556.1 75)), (99, (m.1 99) + 1), (100, (m.1 100))] [(65, (m556.2 65)), (66, (m556.2 66)), (67, (m556.2 67)), (68, (m556.2 68)), (76, (m556.2 76)), (77, (m556.2 77)), (78, (m556.2 78)), (79, (m556.2 79)), (80, (m556.2 80)), (81, (m556.2 81)), (82, (m556.2 82)), (83, (m556.2 83)), (84, (m556.2 84)), (85, (m556.2 85)), (86, (m556.2 86)), (87, (m556.2 87)), (88, (m556.2 88)), (89, (m556.2 89)), (90, (m556.2 90)), (91, (m556.2 91)), (92, (m556.2 92)), (101, upI (m.2 101) (m.1 99) (m.1 7)), (102, (m.2 102)), (103, upI (m.2 103) (m.1 99) oo), (104, (m.2 104)), (105, (m523.2 105)), (106, (m523.2 106)), (107, (m556.2 107)), (108, (m556.2 108))]) c N D (by omega) (Ty_mO hT rfl rfl ⟨(hT557.1 7), (hT557.1 8), (hT557.1 9), (hT557.1 10), (hT557.1 11), (hT557.1 12), (hT557.1 28), (hT557.1 69), (hT557.1 70), (hT557.1 71), (hT557.1 72), (hT557.1 73), (hT557.1 74), (hT557.1 75), g335, f100, trivial⟩ ⟨(hT557.2.1 65), (hT557.2.1 66), (hT557.2.1 67), (hT557.2.1 68), (hT557.2.1 76), (hT557.2.1 77), (hT557.2.1 78), (hT557.2.1 79), (hT557.2.1 80), (hT557.2.1 81), (hT557.2.1 82), (hT557.2.1 83), (hT557.2.1 84), (hT557.2.1 85), (hT557.2.1 86), (hT557.2.1 87), (hT557.2.1 88), (hT557.2.1 89), (hT557.2.1 90), (hT557.2.1 91), (hT557.2.1 92), G336, (hT.2.1 102), G520, (hT.2.1 104), (hT524.2.1 105), (hT524.2.1 106), (hT557.2.1 107), (hT557.2.1 108), trivial⟩) 59 ⟨by decide, by decide⟩ (show 1 ≤ (59 : Int) by omega) (show LxP (m556.1 7) (m556.1 8) (m556.1 9) (m.1 6) (m556.1 10) by first | exact hLx | (intro h9; exfalso; omega) | (intro h9; have h8 := hLx (by omega); omega))) (fun rr585 k586 => ?_)
                obtain ⟨y587, y589, y591, y593, y595, y597, g588, g590, g592, g594, g596, g598, h599, h600, h601, h602, rfl⟩ := k586
                refine ⟨_, _, rfl, ?_⟩
                refine T_nf2 (st' := []) (l' := [(7, y587), (8, y589), (9, y591), (10, y593), (11, y595), (12, y597), (28, (m556.1 28)), (69, (m556.1 69)), (70, (m556.1 70)), (71, (m556.1 71)), (72, (m556.1 72)), (73, (m556.1 73)), (74, (m556.1 74)), (75, (m556.1 75)), (99, (m.1 99) + 1), (100, (m.1 100))]) (a' := [(65, (m556.2 65)), (66, (m556.2 66)), (67, (m556.2 67)), (68, (m556.2 68)), (76, (m556.2 76)), (77, (m556.2 77)), (78, (m556.2 78)), (79, (m556.2 79)), (80, (m556.2 80)), (81, (m556.2 81)), (82, (m556.2 82)), (83, (m556.2 83)), (84, (m556.2 84)), (85, (m556.2 85)), (86, (m556.2 86)), (87, (m556.2 87)), (88, (m556.2 88)), (89, (m556.2 89)), (90, (m556.2 90)), (91, (m556.2 91)), (92, (m556.2 92)), (101, upI (m.2 101) (m.1 99) (m.1 7)), (102, (m.2 102)), (103, upI (m.2 103) (m.1 99) oo), (104, (m.2 104)), (105, (m523.2 105)), (106, (m523.2 106)), (107, (m556.2 107)), (108, (m556.2 108))]) [7, 8, 9, 10, 11, 12] [] rfl ⟨rfl, rfl, rfl, rfl, rfl, rfl, rfl, rfl, rfl, rfl, rfl, rfl, rfl, rfl, rfl, rfl, rfl, rfl, rfl, rfl, rfl, rfl, rfl, rfl, rfl, rfl, rfl, rfl, rfl, rfl, rfl, rfl, trivial⟩ ⟨rfl, rfl, rfl, rfl, rfl, rfl, rfl, rfl, rfl, rfl, rfl, rfl, rfl, rfl, rfl, rfl, rfl, rfl, rfl, rfl, rfl, rfl, rfl, rfl, rfl, rfl, rfl, rfl, rfl, rfl, rfl, rfl, rfl, rfl, rfl, rfl, rfl, rfl, rfl, rfl, rfl, rfl, rfl, rfl, rfl, rfl, rfl, rfl, rfl, rfl, rfl, rfl, rfl, rfl, rfl, rfl, rfl, rfl, trivial⟩ rfl rfl (by decide) (by decide) ?_
                by_cases hf603 : y593 = 0
                · skip
                  subst hf603
                  replace h599 : LxP y587 y589 y591 (m.1 6) (0 : Int) := h599
                  have hLx := h599
                  replace h600 : (m556.1 10) = 0 ∧ (m556.1 7) = (59 : Int) := h600 rfl
                  replace h601 : (m556.1 8) ≤ y589 := h601
                  replace h602 : (m556.1 8) + (m556.1 9) ≤ y589 := h602 rfl
                  have u604 : (m.1 8) + 1 ≤ y589 := by omega
                  have hAgC : agr (m.2 65) (m556.2 65) (m.1 28) := by first | exact agr_r _ _ | exact hAgC | exact agr_t hAgC hAg (by omega)
                  have u605 : (m.1 28) ≤ (m556.1 28) := by omega
                  clear g561 g562 g563 g564 g565 g566 h559 u583 g594 h600 h601 h602
                  refine T_ret rfl (fun _ => rfl) ?_
                  exact ⟨(mO m [(7, y587), (8, y589), (9, y591), (10, 0), (11, y595), (12, y597), (28, (m556.1 28)), (69, (m556.1 69)), (70, (m556.1 70)), (71, (m556.1 71)), (72, (m556.1 72)), (73, (m556.1 73)), (74, (m556.1 74)), (75, (m556.1 75)), (99, (m.1 99) + 1), (100, (m.1 100))] [(65, (m556.2 65)), (66, (m556.2 66)), (67, (m556.2 67)), (68, (m556.2 68)), (76, (m556.2 76)), (77, (m556.2 77)), (78, (m556.2 78)), (79, (m556.2 79)), (80, (m556.2 80)), (81, (m556.2 81)), (82, (m556.2 82)), (83, (m556.2 83)), (84, (m556.2 84)), (85, (m556.2 85)), (86, (m556.2 86)), (87, (m556.2 87)), (88, (m556.2 88)), (89, (m556.2 89)), (90, (m556.2 90)), (91, (m556.2 91)), (92, (m556.2 92)), (101, upI (m.2 101) (m.1 99) (m.1 7)), (102, (m.2 102)), (103, upI (m.2 103) (m.1 99) oo), (104, (m.2 104)), (105, (m523.2 105)), (106, (m523.2 106)), (107, (m556.2 107)), (108, (m556.2 108))]), (Ty_mO hT rfl rfl ⟨g588, g590, g592, ⟨(by omega : (0 : Int) ≤ 0), (by omega : (0 : Int) ≤ 8)⟩, g596, g598, (hT557.1 28), (hT557.1 69), (hT557.1 70), (hT557.1 71), (hT557.1 72), (hT557.1 73), (hT557.1 74), (hT557.1 75), g335, f100, trivial⟩ ⟨(hT557.2.1 65), (hT557.2.1 66), (hT557.2.1 67), (hT557.2.1 68), (hT557.2.1 76), (hT557.2.1 77), (hT557.2.1 78), (hT557.2.1 79), (hT557.2.1 80), (hT557.2.1 81), (hT557.2.1 82), (hT557.2.1 83), (hT557.2.1 84), (hT557.2.1 85), (hT557.2.1 86), (hT557.2.1 87), (hT557.2.1 88), (hT557.2.1 89), (hT557.2.1 90), (hT557.2.1 91), (hT557.2.1 92), G336, (hT.2.1 102), G520, (hT.2.1 104), (hT524.2.1 105), (hT524.2.1 106), (hT557.2.1 107), (hT557.2.1 108), trivial⟩), (show (0 : Int) = 0 → (m.1 10) = 0 by omega), (show LxP y587 y589 y591 (m.1 6) (0 : Int) by first | (first | exact hLx | exact (fun _ => hLx (by omega)) | (intro h9; exfalso; omega)) | (exfalso; omega)), (show ((m.1 99) + 1) = (m.1 99) + 1 by omega), (fun _ => ⟨(show (m.1 8) + 1 ≤ y589 by omega), (show (m.1 28) ≤ (m556.1 28) by omega), (show CN (m556.2 65) (m556.2 67) (m556.1 28) by first | (exact hCN) | (exfalso; omega)), (show agr (m.2 65) (m556.2 65) (m.1 28) by first | (exact hAgC) | (exfalso; omega)), (show TdP (m556.2 65) (m556.1 28) (m.1 22) ((m.1 99) + 1) (upI (m.2 101) (m.1 99) (m.1 7)) (upI (m.2 103) (m.1 99) oo) (m523.2 105) (m523.2 106) (m556.2 107) (m556.2 108) by first | (exact hTd2) | (exfalso; omega))⟩), rfl⟩
                · skip
                  replace h599 : LxP y587 y589 y591 (m.1 6) y593 := h599
                  have hLx := h599
                  clear h600
                  replace h601 : (m556.1 8) ≤ y589 := h601
                  clear h602
                  have hf606 : 1 ≤ y593 := by omega
                  clear g561 g562 g563 g564 g565 g566 h559 u583 h601
                  refine Tm_lv (a := [(0, .ref 189), (1, .int (i32 (m.1 99)))]) rfl rfl ⟨rfl, rfl, trivial⟩ ?_
                  exact J235_28 (mO m [(7, y587), (8, y589), (9, y591), (10, y593), (11, y595), (12, y597), (28, (m556.1 28)), (69, (m556.1 69)), (70, (m556.1 70)), (71, (m556.1 71)), (72, (m556.1 72)), (73, (m556.1 73)), (74, (m556.1 74)), (75, (m556.1 75)), (99, (m.1 99) + 1), (100, (m.1 100))] [(65, (m556.2 65)), (66, (m556.2 66)), (67, (m556.2 67)), (68, (m556.2 68)), (76, (m556.2 76)), (77, (m556.2 77)), (78, (m556.2 78)), (79, (m556.2 79)), (80, (m556.2 80)), (81, (m556.2 81)), (82, (m556.2 82)), (83, (m556.2 83)), (84, (m556.2 84)), (85, (m556.2 85)), (86, (m556.2 86)), (87, (m556.2 87)), (88, (m556.2 88)), (89, (m556.2 89)), (90, (m556.2 90)), (91, (m556.2 91)), (92, (m556.2 92)), (101, upI (m.2 101) (m.1 99) (m.1 7)), (102, (m.2 102)), (103, upI (m.2 103) (m.1 99) oo), (104, (m.2 104)), (105, (m523.2 105)), (106, (m523.2 106)), (107, (m556.2 107)), (108, (m556.2 108))]) (Ty_mO hT rfl rfl ⟨g588, g590, g592, g594, g596, g598, (hT557.1 28), (hT557.1 69), (hT557.1 70), (hT557.1 71), (hT557.1 72), (hT557.1 73), (hT557.1 74), (hT557.1 75), g335, f100, trivial⟩ ⟨(hT557.2.1 65), (hT557.2.1 66), (hT557.2.1 67), (hT557.2.1 68), (hT557.2.1 76), (hT557.2.1 77), (hT557.2.1 78), (hT557.2.1 79), (hT557.2.1 80), (hT557.2.1 81), (hT557.2.1 82), (hT557.2.1 83), (hT557.2.1 84), (hT557.2.1 85), (hT557.2.1 86), (hT557.2.1 87), (hT557.2.1 88), (hT557.2.1 89), (hT557.2.1 90), (hT557.2.1 91), (hT557.2.1 92), G336, (hT.2.1 102), G520, (hT.2.1 104), (hT524.2.1 105), (hT524.2.1 106), (hT557.2.1 107), (hT557.2.1 108), trivial⟩) (show 1 ≤ y593 by omega) (show y593 ≤ 8 by omega) (show 0 ≤ ((m.1 99) + 1) ∧ ((m.1 99) + 1) ≤ 240 by omega) (show 0 ≤ (m.1 99) ∧ (m.1 99) ≤ 240 by omega)
              · skip
                clear c560
                clear h558
                replace h559 : LxP (m556.1 7) (m556.1 8) (m556.1 9) (m.1 6) (m556.1 10) := h559
                have hLx := h559
                have hf607 : 1 ≤ (m556.1 10) := by omega
                clear g528 g529 g530 g531 g532 g533 g534 g535 g536 g537 g538 g539 g540 g541 h526 c544 c545 c546 c547 u550 u551 h552
                refine T_goto 229 rfl (fun _ => rfl) ?_
                refine T_ld 230 (.ref 189) rfl (fun _ => rfl) ?_
                refine T_ld 232 (.int (i32 59)) rfl (fun _ => rfl) ?_
                refine T_call 235 232 [.ref 189, .int (i32 59)] [] rfl (fun _ => rfl) rfl (c_need w (mO m [(7, (m556.1 7)), (8, (m556.1 8)), (9, (m556.1 9)), (10, (m556.1 10)), (11, (m556.1 11)), (12, (m556.1 12)), (28, (m556.1 28)), (69, (m556.1 69)), (70, (m556.1 70)), (71, (m556.1 71)), (72, (m556.1 72)), (73, (m556.1 73)), (74, (m556.1 74)), (75, (m556.1 75)), (99, (m.1 99) + 1), (100, (m.1 100))] [(65, (m556.2 65)), (66, (m556.2 66)), (67, (m556.2 67)), (68, (m556.2 68)), (76, (m556.2 76)), (77, (m556.2 77)), (78, (m556.2 78)), (79, (m556.2 79)), (80, (m556.2 80)), (81, (m556.2 81)), (82, (m556.2 82)), (83, (m556.2 83)), (84, (m556.2 84)), (85, (m556.2 85)), (86, (m556.2 86)), (87, (m556.2 87)), (88, (m556.2 88)), (89, (m556.2 89)), (90, (m556.2 90)), (91, (m556.2 91)), (92, (m556.2 92)), (101, upI (m.2 101) (m.1 99) (m.1 7)), (102, (m.2 102)), (103, upI (m.2 103) (m.1 99) oo), (104, (m.2 104)), (105, (m523.2 105)), (106, (m523.2 106)), (107, (m556.2 107)), (108, (m556.2 108))]) c N D (by omega) (Ty_mO hT rfl rfl ⟨(hT557.1 7), (hT557.1 8), (hT557.1 9), (hT557.1 10), (hT557.1 11), (hT557.1 12), (hT557.1 28), (hT557.1 69), (hT557.1 70), (hT557.1 71), (hT557.1 72), (hT557.1 73), (hT557.1 74), (hT557.1 75), g335, f100, trivial⟩ ⟨(hT557.2.1 65), (hT557.2.1 66), (hT557.2.1 67), (hT557.2.1 68), (hT557.2.1 76), (hT557.2.1 77), (hT557.2.1 78), (hT557.2.1 79), (hT557.2.1 80), (hT557.2.1 81), (hT557.2.1 82), (hT557.2.1 83), (hT557.2.1 84), (hT557.2.1 85), (hT557.2.1 86), (hT557.2.1 87), (hT557.2.1 88), (hT557.2.1 89), (hT557.2.1 90), (hT557.2.1 91), (hT557.2.1 92), G336, (hT.2.1 102), G520, (hT.2.1 104), (hT524.2.1 105), (hT524.2.1 106), (hT557.2.1 107), (hT557.2.1 108), trivial⟩) 59 ⟨by decide, by decide⟩ (show 1 ≤ (59 : Int) by omega) (show LxP (m556.1 7) (m556.1 8) (m556.1 9) (m.1 6) (m556.1 10) by first | exact hLx | (intro h9; exfalso; omega) | (intro h9; have h8 := hLx (by omega); omega))) (fun rr608 k609 => ?_)
                obtain ⟨y610, y612, y614, y616, y618, y620, g611, g613, g615, g617, g619, g621, h622, h623, h624, h625, rfl⟩ := k609
                refine ⟨_, _, rfl, ?_⟩
                refine T_nf2 (st' := []) (l' := [(7, y610), (8, y612), (9, y614), (10, y616), (11, y618), (12, y620), (28, (m556.1 28)), (69, (m556.1 69)), (70, (m556.1 70)), (71, (m556.1 71)), (72, (m556.1 72)), (73, (m556.1 73)), (74, (m556.1 74)), (75, (m556.1 75)), (99, (m.1 99) + 1), (100, (m.1 100))]) (a' := [(65, (m556.2 65)), (66, (m556.2 66)), (67, (m556.2 67)), (68, (m556.2 68)), (76, (m556.2 76)), (77, (m556.2 77)), (78, (m556.2 78)), (79, (m556.2 79)), (80, (m556.2 80)), (81, (m556.2 81)), (82, (m556.2 82)), (83, (m556.2 83)), (84, (m556.2 84)), (85, (m556.2 85)), (86, (m556.2 86)), (87, (m556.2 87)), (88, (m556.2 88)), (89, (m556.2 89)), (90, (m556.2 90)), (91, (m556.2 91)), (92, (m556.2 92)), (101, upI (m.2 101) (m.1 99) (m.1 7)), (102, (m.2 102)), (103, upI (m.2 103) (m.1 99) oo), (104, (m.2 104)), (105, (m523.2 105)), (106, (m523.2 106)), (107, (m556.2 107)), (108, (m556.2 108))]) [7, 8, 9, 10, 11, 12] [] rfl ⟨rfl, rfl, rfl, rfl, rfl, rfl, rfl, rfl, rfl, rfl, rfl, rfl, rfl, rfl, rfl, rfl, rfl, rfl, rfl, rfl, rfl, rfl, rfl, rfl, rfl, rfl, rfl, rfl, rfl, rfl, rfl, rfl, trivial⟩ ⟨rfl, rfl, rfl, rfl, rfl, rfl, rfl, rfl, rfl, rfl, rfl, rfl, rfl, rfl, rfl, rfl, rfl, rfl, rfl, rfl, rfl, rfl, rfl, rfl, rfl, rfl, rfl, rfl, rfl, rfl, rfl, rfl, rfl, rfl, rfl, rfl, rfl, rfl, rfl, rfl, rfl, rfl, rfl, rfl, rfl, rfl, rfl, rfl, rfl, rfl, rfl, rfl, rfl, rfl, rfl, rfl, rfl, rfl, trivial⟩ rfl rfl (by decide) (by decide) ?_
                replace h622 : LxP y610 y612 y614 (m.1 6) y616 := h622
                replace h623 : y616 = 0 → (m556.1 10) = 0 ∧ (m556.1 7) = (59 : Int) := h623
                replace h624 : (m556.1 8) ≤ y612 := h624
                replace h625 : y616 = 0 → (m556.1 8) + (m556.1 9) ≤ y612 := h625
                have hf626 : 1 ≤ y616 := by omega
                clear h623
                clear h625
                have hLx := h622
                clear g561 g562 g563 g564 g565 g566 h559 hf607 h624
                refine Tm_lv (a := [(0, .ref 189), (1, .int (i32 (m.1 99)))]) rfl rfl ⟨rfl, rfl, trivial⟩ ?_
                exact J235_28 (mO m [(7, y610), (8, y612), (9, y614), (10, y616), (11, y618), (12, y620), (28, (m556.1 28)), (69, (m556.1 69)), (70, (m556.1 70)), (71, (m556.1 71)), (72, (m556.1 72)), (73, (m556.1 73)), (74, (m556.1 74)), (75, (m556.1 75)), (99, (m.1 99) + 1), (100, (m.1 100))] [(65, (m556.2 65)), (66, (m556.2 66)), (67, (m556.2 67)), (68, (m556.2 68)), (76, (m556.2 76)), (77, (m556.2 77)), (78, (m556.2 78)), (79, (m556.2 79)), (80, (m556.2 80)), (81, (m556.2 81)), (82, (m556.2 82)), (83, (m556.2 83)), (84, (m556.2 84)), (85, (m556.2 85)), (86, (m556.2 86)), (87, (m556.2 87)), (88, (m556.2 88)), (89, (m556.2 89)), (90, (m556.2 90)), (91, (m556.2 91)), (92, (m556.2 92)), (101, upI (m.2 101) (m.1 99) (m.1 7)), (102, (m.2 102)), (103, upI (m.2 103) (m.1 99) oo), (104, (m.2 104)), (105, (m523.2 105)), (106, (m523.2 106)), (107, (m556.2 107)), (108, (m556.2 108))]) (Ty_mO hT rfl rfl ⟨g611, g613, g615, g617, g619, g621, (hT557.1 28), (hT557.1 69), (hT557.1 70), (hT557.1 71), (hT557.1 72), (hT557.1 73), (hT557.1 74), (hT557.1 75), g335, f100, trivial⟩ ⟨(hT557.2.1 65), (hT557.2.1 66), (hT557.2.1 67), (hT557.2.1 68), (hT557.2.1 76), (hT557.2.1 77), (hT557.2.1 78), (hT557.2.1 79), (hT557.2.1 80), (hT557.2.1 81), (hT557.2.1 82), (hT557.2.1 83), (hT557.2.1 84), (hT557.2.1 85), (hT557.2.1 86), (hT557.2.1 87), (hT557.2.1 88), (hT557.2.1 89), (hT557.2.1 90), (hT557.2.1 91), (hT557.2.1 92), G336, (hT.2.1 102), G520, (hT.2.1 104), (hT524.2.1 105), (hT524.2.1 106), (hT557.2.1 107), (hT557.2.1 108), trivial⟩) (show 1 ≤ y616 by omega) (show y616 ≤ 8 by omega) (show 0 ≤ ((m.1 99) + 1) ∧ ((m.1 99) + 1) ≤ 240 by omega) (show 0 ≤ (m.1 99) ∧ (m.1 99) ≤ 240 by omega)
            · skip
              clear c527
              clear h525
              replace h526 : LxP (m523.1 7) (m523.1 8) (m523.1 9) (m.1 6) (m523.1 10) := h526
              have hLx := h526
              have hf627 : 1 ≤ (m523.1 10) := by omega
              clear g499 g501 g503 g507 g509 h511 u518
              refine Tm_lv (a := [(0, .ref 189), (1, .int (i32 (m.1 99)))]) rfl rfl ⟨rfl, rfl, trivial⟩ ?_
              exact J176_68 (mO m [(7, (m523.1 7)), (8, (m523.1 8)), (9, (m523.1 9)), (10, (m523.1 10)), (11, (m523.1 11)), (12, (m523.1 12)), (28, (m523.1 28)), (69, (m523.1 69)), (70, (m523.1 70)), (71, (m523.1 71)), (72, (m523.1 72)), (73, (m523.1 73)), (74, (m523.1 74)), (75, (m523.1 75)), (99, (m.1 99) + 1), (100, (m.1 100))] [(65, (m523.2 65)), (66, (m523.2 66)), (67, (m523.2 67)), (68, (m523.2 68)), (76, (m523.2 76)), (77, (m523.2 77)), (78, (m523.2 78)), (79, (m523.2 79)), (80, (m523.2 80)), (81, (m523.2 81)), (82, (m523.2 82)), (83, (m523.2 83)), (84, (m523.2 84)), (85, (m523.2 85)), (86, (m523.2 86)), (87, (m523.2 87)), (88, (m523.2 88)), (89, (m523.2 89)), (90, (m523.2 90)), (91, (m523.2 91)), (92, (m523.2 92)), (101, upI (m.2 101) (m.1 99) (m.1 7)), (102, (m.2 102)), (103, upI (m.2 103) (m.1 99) oo), (104, (m.2 104)), (105, (m523.2 105)), (106, (m523.2 106)), (107, (m.2 107)), (108, (m.2 108))]) (Ty_mO hT rfl rfl ⟨(hT524.1 7), (hT524.1 8), (hT524.1 9), (hT524.1 10), (hT524.1 11), (hT524.1 12), (hT524.1 28), (hT524.1 69), (hT524.1 70), (hT524.1 71), (hT524.1 72), (hT524.1 73), (hT524.1 74), (hT524.1 75), g335, f100, trivial⟩ ⟨(hT524.2.1 65), (hT524.2.1 66), (hT524.2.1 67), (hT524.2.1 68), (hT524.2.1 76), (hT524.2.1 77), (hT524.2.1 78), (hT524.2.1 79), (hT524.2.1 80), (hT524.2.1 81), (hT524.2.1 82), (hT524.2.1 83), (hT524.2.1 84), (hT524.2.1 85), (hT524.2.1 86), (hT524.2.1 87), (hT524.2.1 88), (hT524.2.1 89), (hT524.2.1 90), (hT524.2.1 91), (hT524.2.1 92), G336, (hT.2.1 102), G520, (hT.2.1 104), (hT524.2.1 105), (hT524.2.1 106), (hT.2.1 107), (hT.2.1 108), trivial⟩) (show 1 ≤ (m523.1 10) by omega) (show (m523.1 10) ≤ 8 by omega) (show 0 ≤ ((m.1 99) + 1) ∧ ((m.1 99) + 1) ≤ 240 by omega) (show 0 ≤ (m.1 99) ∧ (m.1 99) ≤ 240 by omega)
          · skip
            replace h511 : LxP y498 y500 y502 (m.1 6) y504 := h511
            have hLx := h511
            replace h512 : y479 ≤ y500 := h512
            clear h513
            clear h514
            replace h515 : 0 ≤ oo ∧ (oo < (m.1 22) ∨ oo = 0) := h515
            clear h516
            have hf628 : 1 ≤ y504 := by omega
            clear g478 g480 g482 g486 g488 h489 h491 h492 u494 h512
            refine Tm_lv (a := [(0, .ref 189), (1, .int (i32 (m.1 99)))]) rfl rfl ⟨rfl, rfl, trivial⟩ ?_
            exact J170_97 oo (mO m [(7, y498), (8, y500), (9, y502), (10, y504), (11, y506), (12, y508), (28, (m.1 28)), (69, (m.1 69)), (70, (m.1 70)), (71, (m.1 71)), (72, (m.1 72)), (73, (m.1 73)), (74, (m.1 74)), (75, (m.1 75)), (99, (m.1 99) + 1), (100, (m.1 100))] [(65, (m.2 65)), (66, (m.2 66)), (67, (m.2 67)), (68, (m.2 68)), (76, (m.2 76)), (77, (m.2 77)), (78, (m.2 78)), (79, (m.2 79)), (80, (m.2 80)), (81, (m.2 81)), (82, (m.2 82)), (83, (m.2 83)), (84, (m.2 84)), (85, (m.2 85)), (86, (m.2 86)), (87, (m.2 87)), (88, (m.2 88)), (89, (m.2 89)), (90, (m.2 90)), (91, (m.2 91)), (92, (m.2 92)), (101, upI (m.2 101) (m.1 99) (m.1 7)), (102, (m.2 102)), (103, (m.2 103)), (104, (m.2 104)), (105, (m.2 105)), (106, (m.2 106)), (107, (m.2 107)), (108, (m.2 108))]) (r32 (by omega) (by omega)) (Ty_mO hT rfl rfl ⟨g499, g501, g503, g505, g507, g509, f28, f69, f70, f71, f72, f73, f74, f75, g335, f100, trivial⟩ ⟨(hT.2.1 65), (hT.2.1 66), (hT.2.1 67), (hT.2.1 68), (hT.2.1 76), (hT.2.1 77), (hT.2.1 78), (hT.2.1 79), (hT.2.1 80), (hT.2.1 81), (hT.2.1 82), (hT.2.1 83), (hT.2.1 84), (hT.2.1 85), (hT.2.1 86), (hT.2.1 87), (hT.2.1 88), (hT.2.1 89), (hT.2.1 90), (hT.2.1 91), (hT.2.1 92), G336, (hT.2.1 102), (hT.2.1 103), (hT.2.1 104), (hT.2.1 105), (hT.2.1 106), (hT.2.1 107), (hT.2.1 108), trivial⟩) (show 0 ≤ oo by omega) (show oo ≤ 7 by omega) (show 1 ≤ y504 by omega) (show y504 ≤ 8 by omega) (show 0 ≤ ((m.1 99) + 1) ∧ ((m.1 99) + 1) ≤ 240 by omega) (show 0 ≤ (m.1 99) ∧ (m.1 99) ≤ 240 by omega)
        · skip
          replace h489 : LxP y477 y479 y481 (m.1 6) y483 := h489
          have hLx := h489
          clear h490
          replace h491 : (m.1 8) ≤ y479 := h491
          clear h492
          have hf629 : 1 ≤ y483 := by omega
          refine T_gf 164 (.ref 263) rfl rfl rfl rfl rfl rfl ?_
          refine T_ld 165 (.int (i32 (m.1 99))) rfl (fun _ => rfl) ?_
          refine T_ld 166 (.ref 189) rfl (fun _ => rfl) ?_
          refine T_ld 167 (.int (i32 4)) rfl (fun _ => rfl) ?_
          refine T_call 170 236 [.ref 189, .int (i32 4)] [.int (i32 (m.1 99)), .ref 263] rfl (fun _ => rfl) rfl (c_oldName w (mO m [(7, y477), (8, y479), (9, y481), (10, y483), (11, y485), (12, y487), (28, (m.1 28)), (69, (m.1 69)), (70, (m.1 70)), (71, (m.1 71)), (72, (m.1 72)), (73, (m.1 73)), (74, (m.1 74)), (75, (m.1 75)), (99, (m.1 99) + 1), (100, (m.1 100))] [(65, (m.2 65)), (66, (m.2 66)), (67, (m.2 67)), (68, (m.2 68)), (76, (m.2 76)), (77, (m.2 77)), (78, (m.2 78)), (79, (m.2 79)), (80, (m.2 80)), (81, (m.2 81)), (82, (m.2 82)), (83, (m.2 83)), (84, (m.2 84)), (85, (m.2 85)), (86, (m.2 86)), (87, (m.2 87)), (88, (m.2 88)), (89, (m.2 89)), (90, (m.2 90)), (91, (m.2 91)), (92, (m.2 92)), (101, upI (m.2 101) (m.1 99) (m.1 7)), (102, (m.2 102)), (103, (m.2 103)), (104, (m.2 104)), (105, (m.2 105)), (106, (m.2 106)), (107, (m.2 107)), (108, (m.2 108))]) c N D (by omega) (Ty_mO hT rfl rfl ⟨g478, g480, g482, g484, g486, g488, f28, f69, f70, f71, f72, f73, f74, f75, g335, f100, trivial⟩ ⟨(hT.2.1 65), (hT.2.1 66), (hT.2.1 67), (hT.2.1 68), (hT.2.1 76), (hT.2.1 77), (hT.2.1 78), (hT.2.1 79), (hT.2.1 80), (hT.2.1 81), (hT.2.1 82), (hT.2.1 83), (hT.2.1 84), (hT.2.1 85), (hT.2.1 86), (hT.2.1 87), (hT.2.1 88), (hT.2.1 89), (hT.2.1 90), (hT.2.1 91), (hT.2.1 92), G336, (hT.2.1 102), (hT.2.1 103), (hT.2.1 104), (hT.2.1 105), (hT.2.1 106), (hT.2.1 107), (hT.2.1 108), trivial⟩) 4 (m.1 22) ⟨by decide, by decide⟩ (show LxP y477 y479 y481 (m.1 6) y483 by first | exact hLx | (intro h9; exfalso; omega) | (intro h9; have h8 := hLx (by omega); omega)) (show ∀ k, (m.2 14) k + (m.2 15) k ≤ 4000 by first | exact p1 | exact hNM) (show 1 ≤ (4 : Int) ∧ (4 : Int) ≤ 7 ∧ (4 : Int) ≠ 5 by omega) (show (m.1 22) ≤ 16 by omega) (show y483 = 0 → ∀ k, 0 ≤ k → k < (m.1 13) → (m.2 16) k = (4 : Int) → 0 ≤ (m.2 17) k ∧ (m.2 17) k < (m.1 22) by first | exact hOL | (intro h; exfalso; omega)) (show (4 : Int) = 3 → 3 ≤ (m.1 22) by omega)) (fun rr630 k631 => ?_)
          obtain ⟨y632, y634, y636, y638, y640, y642, oo, g633, g635, g637, g639, g641, g643, g644, h645, h646, h647, h648, h649, h650, rfl⟩ := k631
          refine ⟨_, _, rfl, ?_⟩
          refine T_nf2 (st' := [.int (i32 oo), .int (i32 (m.1 99)), .ref 263]) (l' := [(7, y632), (8, y634), (9, y636), (10, y638), (11, y640), (12, y642), (28, (m.1 28)), (69, (m.1 69)), (70, (m.1 70)), (71, (m.1 71)), (72, (m.1 72)), (73, (m.1 73)), (74, (m.1 74)), (75, (m.1 75)), (99, (m.1 99) + 1), (100, (m.1 100))]) (a' := [(65, (m.2 65)), (66, (m.2 66)), (67, (m.2 67)), (68, (m.2 68)), (76, (m.2 76)), (77, (m.2 77)), (78, (m.2 78)), (79, (m.2 79)), (80, (m.2 80)), (81, (m.2 81)), (82, (m.2 82)), (83, (m.2 83)), (84, (m.2 84)), (85, (m.2 85)), (86, (m.2 86)), (87, (m.2 87)), (88, (m.2 88)), (89, (m.2 89)), (90, (m.2 90)), (91, (m.2 91)), (92, (m.2 92)), (101, upI (m.2 101) (m.1 99) (m.1 7)), (102, (m.2 102)), (103, (m.2 103)), (104, (m.2 104)), (105, (m.2 105)), (106, (m.2 106)), (107, (m.2 107)), (108, (m.2 108))]) [7, 8, 9, 10, 11, 12] [] rfl ⟨rfl, rfl, rfl, rfl, rfl, rfl, rfl, rfl, rfl, rfl, rfl, rfl, rfl, rfl, rfl, rfl, rfl, rfl, rfl, rfl, rfl, rfl, rfl, rfl, rfl, rfl, rfl, rfl, rfl, rfl, rfl, rfl, trivial⟩ ⟨rfl, rfl, rfl, rfl, rfl, rfl, rfl, rfl, rfl, rfl, rfl, rfl, rfl, rfl, rfl, rfl, rfl, rfl, rfl, rfl, rfl, rfl, rfl, rfl, rfl, rfl, rfl, rfl, rfl, rfl, rfl, rfl, rfl, rfl, rfl, rfl, rfl, rfl, rfl, rfl, rfl, rfl, rfl, rfl, rfl, rfl, rfl, rfl, rfl, rfl, rfl, rfl, rfl, rfl, rfl, rfl, rfl, rfl, trivial⟩ rfl rfl (by decide) (by decide) ?_
          obtain ⟨g644a, g644b⟩ := g644
          replace h645 : LxP y632 y634 y636 (m.1 6) y638 := h645
          replace h646 : y479 ≤ y634 := h646
          replace h647 : y638 = 0 → y483 = 0 ∧ y479 + y481 ≤ y634 := h647
          replace h648 : y638 = 0 → y477 = 1 := h648
          replace h649 : 0 ≤ oo ∧ (oo < (m.1 22) ∨ oo = 0) := h649
          replace h650 : y638 = 0 → oo < (m.1 22) := h650
          have hf651 : 1 ≤ y638 := by omega
          clear h647
          clear h648
          clear h650
          have hLx := h645
          clear g478 g480 g482 g484 g486 g488 h489 h491 hf629 h646
          refine Tm_lv (a := [(0, .ref 189), (1, .int (i32 (m.1 99)))]) rfl rfl ⟨rfl, rfl, trivial⟩ ?_
          exact J170_97 oo (mO m [(7, y632), (8, y634), (9, y636), (10, y638), (11, y640), (12, y642), (28, (m.1 28)), (69, (m.1 69)), (70, (m.1 70)), (71, (m.1 71)), (72, (m.1 72)), (73, (m.1 73)), (74, (m.1 74)), (75, (m.1 75)), (99, (m.1 99) + 1), (100, (m.1 100))] [(65, (m.2 65)), (66, (m.2 66)), (67, (m.2 67)), (68, (m.2 68)), (76, (m.2 76)), (77, (m.2 77)), (78, (m.2 78)), (79, (m.2 79)), (80, (m.2 80)), (81, (m.2 81)), (82, (m.2 82)), (83, (m.2 83)), (84, (m.2 84)), (85, (m.2 85)), (86, (m.2 86)), (87, (m.2 87)), (88, (m.2 88)), (89, (m.2 89)), (90, (m.2 90)), (91, (m.2 91)), (92, (m.2 92)), (101, upI (m.2 101) (m.1 99) (m.1 7)), (102, (m.2 102)), (103, (m.2 103)), (104, (m.2 104)), (105, (m.2 105)), (106, (m.2 106)), (107, (m.2 107)), (108, (m.2 108))]) (r32 (by omega) (by omega)) (Ty_mO hT rfl rfl ⟨g633, g635, g637, g639, g641, g643, f28, f69, f70, f71, f72, f73, f74, f75, g335, f100, trivial⟩ ⟨(hT.2.1 65), (hT.2.1 66), (hT.2.1 67), (hT.2.1 68), (hT.2.1 76), (hT.2.1 77), (hT.2.1 78), (hT.2.1 79), (hT.2.1 80), (hT.2.1 81), (hT.2.1 82), (hT.2.1 83), (hT.2.1 84), (hT.2.1 85), (hT.2.1 86), (hT.2.1 87), (hT.2.1 88), (hT.2.1 89), (hT.2.1 90), (hT.2.1 91), (hT.2.1 92), G336, (hT.2.1 102), (hT.2.1 103), (hT.2.1 104), (hT.2.1 105), (hT.2.1 106), (hT.2.1 107), (hT.2.1 108), trivial⟩) (show 0 ≤ oo by omega) (show oo ≤ 7 by omega) (show 1 ≤ y638 by omega) (show y638 ≤ 8 by omega) (show 0 ≤ ((m.1 99) + 1) ∧ ((m.1 99) + 1) ≤ 240 by omega) (show 0 ≤ (m.1 99) ∧ (m.1 99) ≤ 240 by omega)
    · skip
      refine T_ld 74 (.ref 189) rfl (fun _ => rfl) ?_
      refine T_call 77 212 [.ref 189] [] rfl (fun _ => rfl) rfl (c_next w (mO m [(7, (m.1 7)), (8, (m.1 8)), (9, (m.1 9)), (10, (m.1 10)), (11, (m.1 11)), (12, (m.1 12)), (28, (m.1 28)), (69, (m.1 69)), (70, (m.1 70)), (71, (m.1 71)), (72, (m.1 72)), (73, (m.1 73)), (74, (m.1 74)), (75, (m.1 75)), (99, (m.1 99) + 1), (100, (m.1 100))] [(65, (m.2 65)), (66, (m.2 66)), (67, (m.2 67)), (68, (m.2 68)), (76, (m.2 76)), (77, (m.2 77)), (78, (m.2 78)), (79, (m.2 79)), (80, (m.2 80)), (81, (m.2 81)), (82, (m.2 82)), (83, (m.2 83)), (84, (m.2 84)), (85, (m.2 85)), (86, (m.2 86)), (87, (m.2 87)), (88, (m.2 88)), (89, (m.2 89)), (90, (m.2 90)), (91, (m.2 91)), (92, (m.2 92)), (101, upI (m.2 101) (m.1 99) (m.1 7)), (102, (m.2 102)), (103, (m.2 103)), (104, (m.2 104)), (105, (m.2 105)), (106, (m.2 106)), (107, (m.2 107)), (108, (m.2 108))]) c N D (by omega) (Ty_mO hT rfl rfl ⟨f7, f8, f9, f10, f11, f12, f28, f69, f70, f71, f72, f73, f74, f75, g335, f100, trivial⟩ ⟨(hT.2.1 65), (hT.2.1 66), (hT.2.1 67), (hT.2.1 68), (hT.2.1 76), (hT.2.1 77), (hT.2.1 78), (hT.2.1 79), (hT.2.1 80), (hT.2.1 81), (hT.2.1 82), (hT.2.1 83), (hT.2.1 84), (hT.2.1 85), (hT.2.1 86), (hT.2.1 87), (hT.2.1 88), (hT.2.1 89), (hT.2.1 90), (hT.2.1 91), (hT.2.1 92), G336, (hT.2.1 102), (hT.2.1 103), (hT.2.1 104), (hT.2.1 105), (hT.2.1 106), (hT.2.1 107), (hT.2.1 108), trivial⟩) (show (m.1 10) = 0 → (m.1 8) + (m.1 9) ≤ (m.1 6) by first | omega | (intro h9; have h8 := hLx h9; omega))) (fun rr652 k653 => ?_)
      obtain ⟨y654, y656, y658, y660, y662, y664, g655, g657, g659, g661, g663, g665, h666, h667, h668, h669, rfl⟩ := k653
      refine ⟨_, _, rfl, ?_⟩
      refine T_nf2 (st' := []) (l' := [(7, y654), (8, y656), (9, y658), (10, y660), (11, y662), (12, y664), (28, (m.1 28)), (69, (m.1 69)), (70, (m.1 70)), (71, (m.1 71)), (72, (m.1 72)), (73, (m.1 73)), (74, (m.1 74)), (75, (m.1 75)), (99, (m.1 99) + 1), (100, (m.1 100))]) (a' := [(65, (m.2 65)), (66, (m.2 66)), (67, (m.2 67)), (68, (m.2 68)), (76, (m.2 76)), (77, (m.2 77)), (78, (m.2 78)), (79, (m.2 79)), (80, (m.2 80)), (81, (m.2 81)), (82, (m.2 82)), (83, (m.2 83)), (84, (m.2 84)), (85, (m.2 85)), (86, (m.2 86)), (87, (m.2 87)), (88, (m.2 88)), (89, (m.2 89)), (90, (m.2 90)), (91, (m.2 91)), (92, (m.2 92)), (101, upI (m.2 101) (m.1 99) (m.1 7)), (102, (m.2 102)), (103, (m.2 103)), (104, (m.2 104)), (105, (m.2 105)), (106, (m.2 106)), (107, (m.2 107)), (108, (m.2 108))]) [7, 8, 9, 10, 11, 12] [] rfl ⟨rfl, rfl, rfl, rfl, rfl, rfl, rfl, rfl, rfl, rfl, rfl, rfl, rfl, rfl, rfl, rfl, rfl, rfl, rfl, rfl, rfl, rfl, rfl, rfl, rfl, rfl, rfl, rfl, rfl, rfl, rfl, rfl, trivial⟩ ⟨rfl, rfl, rfl, rfl, rfl, rfl, rfl, rfl, rfl, rfl, rfl, rfl, rfl, rfl, rfl, rfl, rfl, rfl, rfl, rfl, rfl, rfl, rfl, rfl, rfl, rfl, rfl, rfl, rfl, rfl, rfl, rfl, rfl, rfl, rfl, rfl, rfl, rfl, rfl, rfl, rfl, rfl, rfl, rfl, rfl, rfl, rfl, rfl, rfl, rfl, rfl, rfl, rfl, rfl, rfl, rfl, rfl, rfl, trivial⟩ rfl rfl (by decide) (by decide) ?_
      by_cases hf670 : y660 = 0
      · skip
        subst hf670
        replace h666 : LxP y654 y656 y658 (m.1 6) (0 : Int) := h666
        have hLx := h666
        replace h667 : (m.1 10) = 0 := h667 rfl
        replace h668 : (m.1 8) ≤ y656 := h668
        replace h669 : (m.1 8) + (m.1 9) ≤ y656 := h669 rfl
        have u671 : (m.1 8) + 1 ≤ y656 := by omega
        have hAgC : agr (m.2 65) (m.2 65) (m.1 28) := by first | exact agr_r _ _ | exact hAgC | exact agr_t hAgC hAg (by omega)
        have u672 : (m.1 28) ≤ (m.1 28) := by omega
        clear g661
        refine T_gf 81 (.ref 262) rfl rfl rfl rfl rfl rfl ?_
        refine T_ld 82 (.int (i32 (m.1 99))) rfl (fun _ => rfl) ?_
        refine T_ld 83 (.ref 189) rfl (fun _ => rfl) ?_
        refine T_call 86 271 [.ref 189] [.int (i32 (m.1 99)), .ref 262] rfl (fun _ => rfl) rfl (c_takePlace w (mO m [(7, y654), (8, y656), (9, y658), (10, 0), (11, y662), (12, y664), (28, (m.1 28)), (69, (m.1 69)), (70, (m.1 70)), (71, (m.1 71)), (72, (m.1 72)), (73, (m.1 73)), (74, (m.1 74)), (75, (m.1 75)), (99, (m.1 99) + 1), (100, (m.1 100))] [(65, (m.2 65)), (66, (m.2 66)), (67, (m.2 67)), (68, (m.2 68)), (76, (m.2 76)), (77, (m.2 77)), (78, (m.2 78)), (79, (m.2 79)), (80, (m.2 80)), (81, (m.2 81)), (82, (m.2 82)), (83, (m.2 83)), (84, (m.2 84)), (85, (m.2 85)), (86, (m.2 86)), (87, (m.2 87)), (88, (m.2 88)), (89, (m.2 89)), (90, (m.2 90)), (91, (m.2 91)), (92, (m.2 92)), (101, upI (m.2 101) (m.1 99) (m.1 7)), (102, (m.2 102)), (103, (m.2 103)), (104, (m.2 104)), (105, (m.2 105)), (106, (m.2 106)), (107, (m.2 107)), (108, (m.2 108))]) c N D (by omega) (Ty_mO hT rfl rfl ⟨g655, g657, g659, ⟨(by omega : (0 : Int) ≤ 0), (by omega : (0 : Int) ≤ 8)⟩, g663, g665, f28, f69, f70, f71, f72, f73, f74, f75, g335, f100, trivial⟩ ⟨(hT.2.1 65), (hT.2.1 66), (hT.2.1 67), (hT.2.1 68), (hT.2.1 76), (hT.2.1 77), (hT.2.1 78), (hT.2.1 79), (hT.2.1 80), (hT.2.1 81), (hT.2.1 82), (hT.2.1 83), (hT.2.1 84), (hT.2.1 85), (hT.2.1 86), (hT.2.1 87), (hT.2.1 88), (hT.2.1 89), (hT.2.1 90), (hT.2.1 91), (hT.2.1 92), G336, (hT.2.1 102), (hT.2.1 103), (hT.2.1 104), (hT.2.1 105), (hT.2.1 106), (hT.2.1 107), (hT.2.1 108), trivial⟩) (show LxP y654 y656 y658 (m.1 6) (0 : Int) by first | exact hLx | exact (fun _ => hLx (by omega)) | (intro h9; exfalso; omega)) (show ∀ k, (m.2 14) k + (m.2 15) k ≤ 4000 by assumption) (show ∀ k, (m.2 31) k + (m.2 32) k ≤ 4000 by assumption) (fun _ => (show PN (m.1 13) (m.1 19) (m.1 20) (m.1 21) (m.1 22) (m.1 23) (m.1 25) (m.1 26) (m.2 16) (m.2 17) by assumption))) (fun rr673 k674 => ?_)
        obtain ⟨m675, tp, hT676, g677, h678, h679, c680, rfl⟩ := k674
        refine ⟨_, _, rfl, ?_⟩
        refine T_nf2 (st' := [.int (i32 tp), .int (i32 (m.1 99)), .ref 262]) (l' := [(7, (m675.1 7)), (8, (m675.1 8)), (9, (m675.1 9)), (10, (m675.1 10)), (11, (m675.1 11)), (12, (m675.1 12)), (28, (m.1 28)), (69, (m.1 69)), (70, (m.1 70)), (71, (m.1 71)), (72, (m.1 72)), (73, (m.1 73)), (74, (m.1 74)), (75, (m.1 75)), (99, (m.1 99) + 1), (100, (m675.1 100))]) (a' := [(65, (m.2 65)), (66, (m.2 66)), (67, (m.2 67)), (68, (m.2 68)), (76, (m.2 76)), (77, (m.2 77)), (78, (m.2 78)), (79, (m.2 79)), (80, (m.2 80)), (81, (m.2 81)), (82, (m.2 82)), (83, (m.2 83)), (84, (m.2 84)), (85, (m.2 85)), (86, (m.2 86)), (87, (m.2 87)), (88, (m.2 88)), (89, (m.2 89)), (90, (m.2 90)), (91, (m.2 91)), (92, (m.2 92)), (101, upI (m.2 101) (m.1 99) (m.1 7)), (102, (m.2 102)), (103, (m.2 103)), (104, (m.2 104)), (105, (m.2 105)), (106, (m.2 106)), (107, (m.2 107)), (108, (m.2 108))]) [7, 8, 9, 10, 11, 12, 100] [] rfl ⟨rfl, rfl, rfl, rfl, rfl, rfl, rfl, rfl, rfl, rfl, rfl, rfl, rfl, rfl, rfl, rfl, rfl, rfl, rfl, rfl, rfl, rfl, rfl, rfl, rfl, rfl, rfl, rfl, rfl, rfl, rfl, rfl, rfl, rfl, rfl, rfl, rfl, rfl, rfl, rfl, rfl, trivial⟩ ⟨rfl, rfl, rfl, rfl, rfl, rfl, rfl, rfl, rfl, rfl, rfl, rfl, rfl, rfl, rfl, rfl, rfl, rfl, rfl, rfl, rfl, rfl, rfl, rfl, rfl, rfl, rfl, rfl, rfl, rfl, rfl, rfl, rfl, rfl, rfl, rfl, rfl, rfl, rfl, rfl, rfl, rfl, rfl, rfl, rfl, rfl, rfl, rfl, rfl, rfl, rfl, rfl, rfl, rfl, rfl, rfl, rfl, rfl, trivial⟩ rfl rfl (by decide) (by decide) ?_
        obtain ⟨g677a, g677b⟩ := g677
        have g681 : 0 ≤ m675.1 7 ∧ m675.1 7 ≤ 330 := hT676.1 7
        have g682 : 0 ≤ m675.1 8 ∧ m675.1 8 ≤ 4000 := hT676.1 8
        have g683 : 0 ≤ m675.1 9 ∧ m675.1 9 ≤ 4000 := hT676.1 9
        have g684 : 0 ≤ m675.1 10 ∧ m675.1 10 ≤ 8 := hT676.1 10
        have g685 : (-1) ≤ m675.1 11 ∧ m675.1 11 ≤ 4000 := hT676.1 11
        have g686 : (-9223372036854775808) ≤ m675.1 12 ∧ m675.1 12 ≤ 9223372036854775807 := hT676.1 12
        have g687 : 0 ≤ m675.1 100 ∧ m675.1 100 ≤ 64 := hT676.1 100
        by_cases hf688 : (m675.1 10) = 0
        · skip
          replace h678 : (0 : Int) = 0 := h678 hf688
          replace h679 : LxP (m675.1 7) (m675.1 8) (m675.1 9) (m.1 6) (m675.1 10) := h679
          have hLx := h679
          have c689 := c680 hf688
          replace c689 : y656 + 1 ≤ (m675.1 8) := c689
          clear c680
          have u690 : (m.1 8) + 1 ≤ (m675.1 8) := by omega
          have hAgC : agr (m.2 65) (m.2 65) (m.1 28) := by first | exact agr_r _ _ | exact hAgC | exact agr_t hAgC hAg (by omega)
          have u691 : (m.1 28) ≤ (m.1 28) := by omega
          clear g655 g657 g659 g663 g665 h666 h668 h669 u671 c689
          have G692 : ∀ j, 0 ≤ (upI (m.2 102) (m.1 99) tp) j ∧ (upI (m.2 102) (m.1 99) tp) j ≤ 207 := upI_rg (hT.2.1 102) ⟨by omega, by omega⟩
          refine T_iast (a' := [(65, (m.2 65)), (66, (m.2 66)), (67, (m.2 67)), (68, (m.2 68)), (76, (m.2 76)), (77, (m.2 77)), (78, (m.2 78)), (79, (m.2 79)), (80, (m.2 80)), (81, (m.2 81)), (82, (m.2 82)), (83, (m.2 83)), (84, (m.2 84)), (85, (m.2 85)), (86, (m.2 86)), (87, (m.2 87)), (88, (m.2 88)), (89, (m.2 89)), (90, (m.2 90)), (91, (m.2 91)), (92, (m.2 92)), (101, upI (m.2 101) (m.1 99) (m.1 7)), (102, upI (m.2 102) (m.1 99) tp), (103, (m.2 103)), (104, (m.2 104)), (105, (m.2 105)), (106, (m.2 106)), (107, (m.2 107)), (108, (m.2 108))]) 87 102 (m.2 102) rfl rfl rfl (by omega) (show (m.1 99) < (240 : Int) by omega) rfl rfl ?_
          refine T_gf 91 (.int (i32 (m675.1 8))) rfl rfl rfl rfl rfl rfl ?_
          refine T_sto 92 [(2, .int (i32 (m675.1 8))), (1, .int (i32 (m.1 99))), (0, .ref 189)] rfl (fun _ => rfl) ?_
          refine T_gf 96 (.ref 263) rfl rfl rfl rfl rfl rfl ?_
          refine T_ld 97 (.int (i32 (m.1 99))) rfl (fun _ => rfl) ?_
          refine T_ld 98 (.ref 189) rfl (fun _ => rfl) ?_
          refine T_ld 99 (.int (i32 4)) rfl (fun _ => rfl) ?_
          have hOL : (m675.1 10) = 0 → ∀ k, 0 ≤ k → k < (m.1 13) → (m.2 16) k = 4 → 0 ≤ (m.2 17) k ∧ (m.2 17) k < (m.1 22) := fun _ k h1 h2 h3 => by
            have h4 := PNl_4 pPN k h1 h2 h3
            omega
          refine T_call 102 236 [.ref 189, .int (i32 4)] [.int (i32 (m.1 99)), .ref 263] rfl (fun _ => rfl) rfl (c_oldName w (mO m [(7, (m675.1 7)), (8, (m675.1 8)), (9, (m675.1 9)), (10, (m675.1 10)), (11, (m675.1 11)), (12, (m675.1 12)), (28, (m.1 28)), (69, (m.1 69)), (70, (m.1 70)), (71, (m.1 71)), (72, (m.1 72)), (73, (m.1 73)), (74, (m.1 74)), (75, (m.1 75)), (99, (m.1 99) + 1), (100, (m675.1 100))] [(65, (m.2 65)), (66, (m.2 66)), (67, (m.2 67)), (68, (m.2 68)), (76, (m.2 76)), (77, (m.2 77)), (78, (m.2 78)), (79, (m.2 79)), (80, (m.2 80)), (81, (m.2 81)), (82, (m.2 82)), (83, (m.2 83)), (84, (m.2 84)), (85, (m.2 85)), (86, (m.2 86)), (87, (m.2 87)), (88, (m.2 88)), (89, (m.2 89)), (90, (m.2 90)), (91, (m.2 91)), (92, (m.2 92)), (101, upI (m.2 101) (m.1 99) (m.1 7)), (102, upI (m.2 102) (m.1 99) tp), (103, (m.2 103)), (104, (m.2 104)), (105, (m.2 105)), (106, (m.2 106)), (107, (m.2 107)), (108, (m.2 108))]) c N D (by omega) (Ty_mO hT rfl rfl ⟨(hT676.1 7), (hT676.1 8), (hT676.1 9), (hT676.1 10), (hT676.1 11), (hT676.1 12), f28, f69, f70, f71, f72, f73, f74, f75, g335, (hT676.1 100), trivial⟩ ⟨(hT.2.1 65), (hT.2.1 66), (hT.2.1 67), (hT.2.1 68), (hT.2.1 76), (hT.2.1 77), (hT.2.1 78), (hT.2.1 79), (hT.2.1 80), (hT.2.1 81), (hT.2.1 82), (hT.2.1 83), (hT.2.1 84), (hT.2.1 85), (hT.2.1 86), (hT.2.1 87), (hT.2.1 88), (hT.2.1 89), (hT.2.1 90), (hT.2.1 91), (hT.2.1 92), G336, G692, (hT.2.1 103), (hT.2.1 104), (hT.2.1 105), (hT.2.1 106), (hT.2.1 107), (hT.2.1 108), trivial⟩) 4 (m.1 22) ⟨by decide, by decide⟩ (show LxP (m675.1 7) (m675.1 8) (m675.1 9) (m.1 6) (m675.1 10) by first | exact hLx | (intro h9; exfalso; omega) | (intro h9; have h8 := hLx (by omega); omega)) (show ∀ k, (m.2 14) k + (m.2 15) k ≤ 4000 by first | exact p1 | exact hNM) (show 1 ≤ (4 : Int) ∧ (4 : Int) ≤ 7 ∧ (4 : Int) ≠ 5 by omega) (show (m.1 22) ≤ 16 by omega) (show (m675.1 10) = 0 → ∀ k, 0 ≤ k → k < (m.1 13) → (m.2 16) k = (4 : Int) → 0 ≤ (m.2 17) k ∧ (m.2 17) k < (m.1 22) by first | exact hOL | (intro h; exfalso; omega)) (show (4 : Int) = 3 → 3 ≤ (m.1 22) by omega)) (fun rr693 k694 => ?_)
          obtain ⟨y695, y697, y699, y701, y703, y705, oo, g696, g698, g700, g702, g704, g706, g707, h708, h709, h710, h711, h712, h713, rfl⟩ := k694
          refine ⟨_, _, rfl, ?_⟩
          refine T_nf2 (st' := [.int (i32 oo), .int (i32 (m.1 99)), .ref 263]) (l' := [(7, y695), (8, y697), (9, y699), (10, y701), (11, y703), (12, y705), (28, (m.1 28)), (69, (m.1 69)), (70, (m.1 70)), (71, (m.1 71)), (72, (m.1 72)), (73, (m.1 73)), (74, (m.1 74)), (75, (m.1 75)), (99, (m.1 99) + 1), (100, (m675.1 100))]) (a' := [(65, (m.2 65)), (66, (m.2 66)), (67, (m.2 67)), (68, (m.2 68)), (76, (m.2 76)), (77, (m.2 77)), (78, (m.2 78)), (79, (m.2 79)), (80, (m.2 80)), (81, (m.2 81)), (82, (m.2 82)), (83, (m.2 83)), (84, (m.2 84)), (85, (m.2 85)), (86, (m.2 86)), (87, (m.2 87)), (88, (m.2 88)), (89, (m.2 89)), (90, (m.2 90)), (91, (m.2 91)), (92, (m.2 92)), (101, upI (m.2 101) (m.1 99) (m.1 7)), (102, upI (m.2 102) (m.1 99) tp), (103, (m.2 103)), (104, (m.2 104)), (105, (m.2 105)), (106, (m.2 106)), (107, (m.2 107)), (108, (m.2 108))]) [7, 8, 9, 10, 11, 12] [] rfl ⟨rfl, rfl, rfl, rfl, rfl, rfl, rfl, rfl, rfl, rfl, rfl, rfl, rfl, rfl, rfl, rfl, rfl, rfl, rfl, rfl, rfl, rfl, rfl, rfl, rfl, rfl, rfl, rfl, rfl, rfl, rfl, rfl, trivial⟩ ⟨rfl, rfl, rfl, rfl, rfl, rfl, rfl, rfl, rfl, rfl, rfl, rfl, rfl, rfl, rfl, rfl, rfl, rfl, rfl, rfl, rfl, rfl, rfl, rfl, rfl, rfl, rfl, rfl, rfl, rfl, rfl, rfl, rfl, rfl, rfl, rfl, rfl, rfl, rfl, rfl, rfl, rfl, rfl, rfl, rfl, rfl, rfl, rfl, rfl, rfl, rfl, rfl, rfl, rfl, rfl, rfl, rfl, rfl, trivial⟩ rfl rfl (by decide) (by decide) ?_
          obtain ⟨g707a, g707b⟩ := g707
          by_cases hf714 : y701 = 0
          · skip
            subst hf714
            replace h708 : LxP y695 y697 y699 (m.1 6) (0 : Int) := h708
            have hLx := h708
            replace h709 : (m675.1 8) ≤ y697 := h709
            replace h710 : (m675.1 10) = 0 ∧ (m675.1 8) + (m675.1 9) ≤ y697 := h710 rfl
            replace h711 : (m675.1 7) = 1 := h711 rfl
            replace h712 : 0 ≤ oo ∧ (oo < (m.1 22) ∨ oo = 0) := h712
            replace h713 : oo < (m.1 22) := h713 rfl
            have u715 : (m.1 8) + 1 ≤ y697 := by omega
            have hAgC : agr (m.2 65) (m.2 65) (m.1 28) := by first | exact agr_r _ _ | exact hAgC | exact agr_t hAgC hAg (by omega)
            have u716 : (m.1 28) ≤ (m.1 28) := by omega
            clear g681 g683 g684 g685 g686 h679 g702 h710 h711
            have G717 : ∀ j, 0 ≤ (upI (m.2 103) (m.1 99) oo) j ∧ (upI (m.2 103) (m.1 99) oo) j ≤ 7 := upI_rg (hT.2.1 103) ⟨by omega, by omega⟩
            refine T_iast (a' := [(65, (m.2 65)), (66, (m.2 66)), (67, (m.2 67)), (68, (m.2 68)), (76, (m.2 76)), (77, (m.2 77)), (78, (m.2 78)), (79, (m.2 79)), (80, (m.2 80)), (81, (m.2 81)), (82, (m.2 82)), (83, (m.2 83)), (84, (m.2 84)), (85, (m.2 85)), (86, (m.2 86)), (87, (m.2 87)), (88, (m.2 88)), (89, (m.2 89)), (90, (m.2 90)), (91, (m.2 91)), (92, (m.2 92)), (101, upI (m.2 101) (m.1 99) (m.1 7)), (102, upI (m.2 102) (m.1 99) tp), (103, upI (m.2 103) (m.1 99) oo), (104, (m.2 104)), (105, (m.2 105)), (106, (m.2 106)), (107, (m.2 107)), (108, (m.2 108))]) 103 103 (m.2 103) rfl rfl rfl (by omega) (show (m.1 99) < (240 : Int) by omega) rfl rfl ?_
            refine T_gf 107 (.int (i32 0)) rfl rfl rfl rfl rfl rfl ?_
            refine T_if 138 110 rfl rfl rfl ⟨by decide, by decide⟩ (fun h718 => absurd (show (0 : Int) ≠ 0 from h718) (by decide)) (fun _ => ?_)
            refine T_ld 111 (.ref 189) rfl (fun _ => rfl) ?_
            refine T_gf 115 (.ref 206) rfl rfl rfl rfl rfl rfl ?_
            refine T_gf 119 (.ref 263) rfl rfl rfl rfl rfl rfl ?_
            refine T_ld 120 (.int (i32 (m.1 99))) rfl (fun _ => rfl) ?_
            refine T_iald 121 103 (upI (m.2 103) (m.1 99) oo) rfl rfl rfl (by omega) (show (m.1 99) < (240 : Int) by omega) rfl ?_
            refine T_cast oo upI_s ?_
            refine T_iald 122 36 (m.2 36) rfl rfl rfl (by omega) (show oo < (8 : Int) by omega) rfl ?_
            have e719 : 0 ≤ m.2 36 oo ∧ m.2 36 oo ≤ 64 := hT.2.1 36 oo
            refine T_gf 126 (.int (i32 (m675.1 100))) rfl rfl rfl rfl rfl rfl ?_
            refine T_icmp 133 129 rfl rfl rfl (r32 (by omega) (by omega)) (r32 (by omega) (by omega)) (fun (h720 : (m.2 36) oo ≠ (m675.1 100)) => ?_) (fun (h720 : ¬ ((m.2 36) oo ≠ (m675.1 100))) => ?_)
            · skip
              refine T_ld 134 (.int (i32 0)) rfl (fun _ => rfl) ?_
              refine T_ld 135 (.int (i32 (m675.1 8))) rfl (fun _ => rfl) ?_
              refine T_call 138 256 [.ref 189, .int (i32 0), .int (i32 (m675.1 8))] [] rfl (fun _ => rfl) rfl (c_want w (mO m [(7, y695), (8, y697), (9, y699), (10, 0), (11, y703), (12, y705), (28, (m.1 28)), (69, (m.1 69)), (70, (m.1 70)), (71, (m.1 71)), (72, (m.1 72)), (73, (m.1 73)), (74, (m.1 74)), (75, (m.1 75)), (99, (m.1 99) + 1), (100, (m675.1 100))] [(65, (m.2 65)), (66, (m.2 66)), (67, (m.2 67)), (68, (m.2 68)), (76, (m.2 76)), (77, (m.2 77)), (78, (m.2 78)), (79, (m.2 79)), (80, (m.2 80)), (81, (m.2 81)), (82, (m.2 82)), (83, (m.2 83)), (84, (m.2 84)), (85, (m.2 85)), (86, (m.2 86)), (87, (m.2 87)), (88, (m.2 88)), (89, (m.2 89)), (90, (m.2 90)), (91, (m.2 91)), (92, (m.2 92)), (101, upI (m.2 101) (m.1 99) (m.1 7)), (102, upI (m.2 102) (m.1 99) tp), (103, upI (m.2 103) (m.1 99) oo), (104, (m.2 104)), (105, (m.2 105)), (106, (m.2 106)), (107, (m.2 107)), (108, (m.2 108))]) c N D (by omega) (Ty_mO hT rfl rfl ⟨g696, g698, g700, ⟨(by omega : (0 : Int) ≤ 0), (by omega : (0 : Int) ≤ 8)⟩, g704, g706, f28, f69, f70, f71, f72, f73, f74, f75, g335, (hT676.1 100), trivial⟩ ⟨(hT.2.1 65), (hT.2.1 66), (hT.2.1 67), (hT.2.1 68), (hT.2.1 76), (hT.2.1 77), (hT.2.1 78), (hT.2.1 79), (hT.2.1 80), (hT.2.1 81), (hT.2.1 82), (hT.2.1 83), (hT.2.1 84), (hT.2.1 85), (hT.2.1 86), (hT.2.1 87), (hT.2.1 88), (hT.2.1 89), (hT.2.1 90), (hT.2.1 91), (hT.2.1 92), G336, G692, G717, (hT.2.1 104), (hT.2.1 105), (hT.2.1 106), (hT.2.1 107), (hT.2.1 108), trivial⟩) 0 (m675.1 8) ⟨by decide, by decide⟩ (r32 (by omega) (by omega)) (show 0 ≤ (m675.1 8) ∧ (m675.1 8) ≤ 4000 by omega) (fun _ => trivial)) (fun rr721 k722 => ?_)
              obtain ⟨m723, hT724, h725, c726, rfl⟩ := k722
              refine ⟨_, _, rfl, ?_⟩
              refine T_nf2 (st' := []) (l' := [(7, y695), (8, y697), (9, y699), (10, (m723.1 10)), (11, (m723.1 11)), (12, y705), (28, (m.1 28)), (69, (m.1 69)), (70, (m.1 70)), (71, (m.1 71)), (72, (m.1 72)), (73, (m.1 73)), (74, (m.1 74)), (75, (m.1 75)), (99, (m.1 99) + 1), (100, (m675.1 100))]) (a' := [(65, (m.2 65)), (66, (m.2 66)), (67, (m.2 67)), (68, (m.2 68)), (76, (m.2 76)), (77, (m.2 77)), (78, (m.2 78)), (79, (m.2 79)), (80, (m.2 80)), (81, (m.2 81)), (82, (m.2 82)), (83, (m.2 83)), (84, (m.2 84)), (85, (m.2 85)), (86, (m.2 86)), (87, (m.2 87)), (88, (m.2 88)), (89, (m.2 89)), (90, (m.2 90)), (91, (m.2 91)), (92, (m.2 92)), (101, upI (m.2 101) (m.1 99) (m.1 7)), (102, upI (m.2 102) (m.1 99) tp), (103, upI (m.2 103) (m.1 99) oo), (104, (m.2 104)), (105, (m.2 105)), (106, (m.2 106)), (107, (m.2 107)), (108, (m.2 108))]) [10, 11] [] rfl ⟨rfl, rfl, rfl, rfl, rfl, rfl, rfl, rfl, rfl, rfl, rfl, rfl, rfl, rfl, rfl, rfl, rfl, rfl, rfl, rfl, rfl, rfl, rfl, rfl, rfl, rfl, rfl, rfl, rfl, rfl, rfl, rfl, rfl, rfl, rfl, trivial⟩ ⟨rfl, rfl, rfl, rfl, rfl, rfl, rfl, rfl, rfl, rfl, rfl, rfl, rfl, rfl, rfl, rfl, rfl, rfl, rfl, rfl, rfl, rfl, rfl, rfl, rfl, rfl, rfl, rfl, rfl, rfl, rfl, rfl, rfl, rfl, rfl, rfl, rfl, rfl, rfl, rfl, rfl, rfl, rfl, rfl, rfl, rfl, rfl, rfl, rfl, rfl, rfl, rfl, rfl, rfl, rfl, rfl, rfl, rfl, trivial⟩ rfl rfl (by decide) (by decide) ?_
              have g727 : 0 ≤ m723.1 10 ∧ m723.1 10 ≤ 8 := hT724.1 10
              have g728 : (-1) ≤ m723.1 11 ∧ m723.1 11 ≤ 4000 := hT724.1 11
              by_cases hf729 : (m723.1 10) = 0
              · skip
                replace h725 : (0 : Int) = 0 := h725 hf729
                have c730 := c726 hf729
                replace c730 : (0 : Int) ≠ 0 := c730
                clear c726
                have u731 : (m.1 8) + 1 ≤ y697 := by omega
                have hAgC : agr (m.2 65) (m.2 65) (m.1 28) := by first | exact agr_r _ _ | exact hAgC | exact agr_t hAgC hAg (by omega)
                have u732 : (m.1 28) ≤ (m.1 28) := by omega
                clear g704
                refine T_ld 139 (.ref 189) rfl (fun _ => rfl) ?_
                refine T_ld 140 (.int (i32 (m.1 99))) rfl (fun _ => rfl) ?_
                refine T_call 143 274 [.ref 189, .int (i32 (m.1 99))] [] rfl (fun _ => rfl) rfl (c_takeIndex w (mO m [(7, y695), (8, y697), (9, y699), (10, (m723.1 10)), (11, (m723.1 11)), (12, y705), (28, (m.1 28)), (69, (m.1 69)), (70, (m.1 70)), (71, (m.1 71)), (72, (m.1 72)), (73, (m.1 73)), (74, (m.1 74)), (75, (m.1 75)), (99, (m.1 99) + 1), (100, (m675.1 100))] [(65, (m.2 65)), (66, (m.2 66)), (67, (m.2 67)), (68, (m.2 68)), (76, (m.2 76)), (77, (m.2 77)), (78, (m.2 78)), (79, (m.2 79)), (80, (m.2 80)), (81, (m.2 81)), (82, (m.2 82)), (83, (m.2 83)), (84, (m.2 84)), (85, (m.2 85)), (86, (m.2 86)), (87, (m.2 87)), (88, (m.2 88)), (89, (m.2 89)), (90, (m.2 90)), (91, (m.2 91)), (92, (m.2 92)), (101, upI (m.2 101) (m.1 99) (m.1 7)), (102, upI (m.2 102) (m.1 99) tp), (103, upI (m.2 103) (m.1 99) oo), (104, (m.2 104)), (105, (m.2 105)), (106, (m.2 106)), (107, (m.2 107)), (108, (m.2 108))]) c N D (by omega) (Ty_mO hT rfl rfl ⟨g696, g698, g700, (hT724.1 10), (hT724.1 11), g706, f28, f69, f70, f71, f72, f73, f74, f75, g335, (hT676.1 100), trivial⟩ ⟨(hT.2.1 65), (hT.2.1 66), (hT.2.1 67), (hT.2.1 68), (hT.2.1 76), (hT.2.1 77), (hT.2.1 78), (hT.2.1 79), (hT.2.1 80), (hT.2.1 81), (hT.2.1 82), (hT.2.1 83), (hT.2.1 84), (hT.2.1 85), (hT.2.1 86), (hT.2.1 87), (hT.2.1 88), (hT.2.1 89), (hT.2.1 90), (hT.2.1 91), (hT.2.1 92), G336, G692, G717, (hT.2.1 104), (hT.2.1 105), (hT.2.1 106), (hT.2.1 107), (hT.2.1 108), trivial⟩) (m.1 99) (r32 (by omega) (by omega)) (show LxP y695 y697 y699 (m.1 6) (m723.1 10) by first | exact hLx | exact (fun _ => hLx (by omega)) | (intro h9; exfalso; omega)) (show ∀ k, (m.2 14) k + (m.2 15) k ≤ 4000 by assumption) (show ∀ k, (m.2 31) k + (m.2 32) k ≤ 4000 by assumption) (show ∀ k, (m.2 47) k + (m.2 48) k ≤ 4000 by assumption) (show 0 ≤ (m.1 99) ∧ (m.1 99) ≤ 239 by omega) (fun _ => ⟨(show PN (m.1 13) (m.1 19) (m.1 20) (m.1 21) (m.1 22) (m.1 23) (m.1 25) (m.1 26) (m.2 16) (m.2 17) by assumption), (show CN (m.2 65) (m.2 67) (m.1 28) by assumption)⟩)) (fun rr733 k734 => ?_)
                obtain ⟨m735, hT736, h737, h738, c739, rfl⟩ := k734
                refine ⟨_, _, rfl, ?_⟩
                refine T_nf2 (st' := []) (l' := [(7, (m735.1 7)), (8, (m735.1 8)), (9, (m735.1 9)), (10, (m735.1 10)), (11, (m735.1 11)), (12, (m735.1 12)), (28, (m735.1 28)), (69, (m735.1 69)), (70, (m735.1 70)), (71, (m735.1 71)), (72, (m735.1 72)), (73, (m735.1 73)), (74, (m735.1 74)), (75, (m735.1 75)), (99, (m.1 99) + 1), (100, (m675.1 100))]) (a' := [(65, (m735.2 65)), (66, (m735.2 66)), (67, (m735.2 67)), (68, (m735.2 68)), (76, (m735.2 76)), (77, (m735.2 77)), (78, (m735.2 78)), (79, (m735.2 79)), (80, (m735.2 80)), (81, (m735.2 81)), (82, (m735.2 82)), (83, (m735.2 83)), (84, (m735.2 84)), (85, (m735.2 85)), (86, (m735.2 86)), (87, (m735.2 87)), (88, (m735.2 88)), (89, (m735.2 89)), (90, (m735.2 90)), (91, (m735.2 91)), (92, (m735.2 92)), (101, upI (m.2 101) (m.1 99) (m.1 7)), (102, upI (m.2 102) (m.1 99) tp), (103, upI (m.2 103) (m.1 99) oo), (104, (m.2 104)), (105, (m735.2 105)), (106, (m735.2 106)), (107, (m.2 107)), (108, (m.2 108))]) [7, 8, 9, 10, 11, 12, 28, 69, 70, 71, 72, 73, 74, 75] [65, 66, 67, 68, 76, 77, 78, 79, 80, 81, 82, 83, 84, 85, 86, 87, 88, 89, 90, 91, 92, 105, 106] rfl ⟨rfl, rfl, rfl, rfl, rfl, rfl, rfl, rfl, rfl, rfl, rfl, rfl, rfl, rfl, rfl, rfl, rfl, rfl, rfl, rfl, rfl, rfl, rfl, rfl, rfl, rfl, rfl, rfl, rfl, rfl, rfl, rfl, trivial⟩ ⟨rfl, rfl, rfl, rfl, rfl, rfl, rfl, rfl, rfl, rfl, rfl, rfl, rfl, rfl, rfl, rfl, rfl, rfl, rfl, rfl, rfl, rfl, rfl, rfl, rfl, rfl, rfl, rfl, rfl, rfl, rfl, rfl, rfl, rfl, rfl, rfl, rfl, rfl, rfl, rfl, rfl, rfl, rfl, rfl, rfl, rfl, rfl, rfl, rfl, rfl, rfl, rfl, rfl, rfl, rfl, rfl, rfl, rfl, rfl, rfl, rfl, rfl, trivial⟩ rfl rfl (by decide) (by decide) ?_
                have g740 : 0 ≤ m735.1 7 ∧ m735.1 7 ≤ 330 := hT736.1 7
                have g741 : 0 ≤ m735.1 8 ∧ m735.1 8 ≤ 4000 := hT736.1 8
                have g742 : 0 ≤ m735.1 9 ∧ m735.1 9 ≤ 4000 := hT736.1 9
                have g743 : 0 ≤ m735.1 10 ∧ m735.1 10 ≤ 8 := hT736.1 10
                have g744 : (-1) ≤ m735.1 11 ∧ m735.1 11 ≤ 4000 := hT736.1 11
                have g745 : (-9223372036854775808) ≤ m735.1 12 ∧ m735.1 12 ≤ 9223372036854775807 := hT736.1 12
                have g746 : 0 ≤ m735.1 28 ∧ m735.1 28 ≤ 800 := hT736.1 28
                have g747 : 0 ≤ m735.1 69 ∧ m735.1 69 ≤ 1024 := hT736.1 69
                have g748 : 0 ≤ m735.1 70 ∧ m735.1 70 ≤ 4000 := hT736.1 70
                have g749 : 0 ≤ m735.1 71 ∧ m735.1 71 ≤ 1 := hT736.1 71
                have g750 : (-9223372036854775808) ≤ m735.1 72 ∧ m735.1 72 ≤ 9223372036854775807 := hT736.1 72
                have g751 : 0 ≤ m735.1 73 ∧ m735.1 73 ≤ 60 := hT736.1 73
                have g752 : 0 ≤ m735.1 74 ∧ m735.1 74 ≤ 24 := hT736.1 74
                have g753 : 0 ≤ m735.1 75 ∧ m735.1 75 ≤ 3 := hT736.1 75
                by_cases hf754 : (m735.1 10) = 0
                · skip
                  replace h737 : (m723.1 10) = 0 := h737 hf754
                  replace h738 : LxP (m735.1 7) (m735.1 8) (m735.1 9) (m.1 6) (m735.1 10) := h738
                  have hLx := h738
                  obtain ⟨c755, c756, c757, c758, c759, c760, c761⟩ := c739 hf754
                  replace c755 : y697 + 1 ≤ (m735.1 8) := c755
                  replace c756 : CN (m735.2 65) (m735.2 67) (m735.1 28) := c756
                  have hCN := c756
                  replace c757 : agr (m.2 65) (m735.2 65) (m.1 28) := c757
                  have hAg := c757
                  replace c758 : (m.1 28) ≤ (m735.1 28) := c758
                  replace c759 : cdr (m735.2 65) (m735.1 28) ((m735.2 105) (m.1 99)) ((m735.2 106) (m.1 99)) := c759
                  have hXc := c759
                  replace c760 : agr (m.2 105) (m735.2 105) (m.1 99) := c760
                  have hI1 := c760
                  replace c761 : agr (m.2 106) (m735.2 106) (m.1 99) := c761
                  have hI2 := c761
                  clear c739
                  have u762 : (m.1 8) + 1 ≤ (m735.1 8) := by omega
                  have hAgC : agr (m.2 65) (m735.2 65) (m.1 28) := by first | exact agr_r _ _ | exact hAgC | exact agr_t hAgC hAg (by omega)
                  have u763 : (m.1 28) ≤ (m735.1 28) := by omega
                  clear g696 g698 g700 g706 h708 h709 u715 g727 g728 u731 h737 c755
                  refine T_goto 229 rfl (fun _ => rfl) ?_
                  have w1 : agr (m.2 101) (upI (m.2 101) (m.1 99) (m.1 7)) (m.1 99) := by first | exact agr_u (Int.le_refl _) | exact agr_r _ _
                  have w2 : agr (m.2 103) (upI (m.2 103) (m.1 99) oo) (m.1 99) := by first | exact agr_u (Int.le_refl _) | exact agr_r _ _
                  have w3 : agr (m.2 105) (m735.2 105) (m.1 99) := by first | exact hI1 | exact agr_u (Int.le_refl _) | exact agr_r _ _
                  have w4 : agr (m.2 106) (m735.2 106) (m.1 99) := by first | exact hI2 | exact agr_u (Int.le_refl _) | exact agr_r _ _
                  have w5 : agr (m.2 107) (m.2 107) (m.1 99) := by first | exact hJ1 | exact agr_u (Int.le_refl _) | exact agr_r _ _
                  have w6 : agr (m.2 108) (m.2 108) (m.1 99) := by first | exact hJ2 | exact agr_u (Int.le_refl _) | exact agr_r _ _
                  have hR : TdR (m735.2 65) (m735.1 28) (m.1 22) (m.1 99) (upI (m.2 101) (m.1 99) (m.1 7)) (upI (m.2 103) (m.1 99) oo) (m735.2 105) (m735.2 106) (m.2 107) (m.2 108) := by
                    refine ⟨fun h => ?_, fun h => ?_⟩ <;> rw [upI_s] at h <;> first | exact hEc | exact ⟨hXc, by rw [upI_s]; omega⟩ | exact ⟨cdr_f hXc hAg (by omega), by rw [upI_s]; omega⟩ | omega
                  have hTd2 : TdP (m735.2 65) (m735.1 28) (m.1 22) ((m.1 99) + 1) (upI (m.2 101) (m.1 99) (m.1 7)) (upI (m.2 103) (m.1 99) oo) (m735.2 105) (m735.2 106) (m.2 107) (m.2 108) := TdP_add (TdP_f pTd hAgC (by omega) w1 w2 w3 w4 w5 w6) hR
                  refine T_ld 230 (.ref 189) rfl (fun _ => rfl) ?_
                  refine T_ld 232 (.int (i32 59)) rfl (fun _ => rfl) ?_
                  refine T_call 235 232 [.ref 189, .int (i32 59)] [] rfl (fun _ => rfl) rfl (c_need w (mO m [(7, (m735.1 7)), (8, (m735.1 8)), (9, (m735.1 9)), (10, (m735.1 10)), (11, (m735.1 11)), (12, (m735.1 12)), (28, (m735.1 28)), (69, (m735.1 69)), (70, (m735.1 70)), (71, (m735.1 71)), (72, (m735.1 72)), (73, (m735.1 73)), (74, (m735.1 74)), (75, (m735.1 75)), (99, (m.1 99) + 1), (100, (m675.1 100))] [(65, (m735.2 65)), (66, (m735.2 66)), (67, (m735.2 67)), (68, (m735.2 68)), (76, (m735.2 76)), (77, (m735.2 77)), (78, (m735.2 78)), (79, (m735.2 79)), (80, (m735.2 80)), (81, (m735.2 81)), (82, (m735.2 82)), (83, (m735.2 83)), (84, (m735.2 84)), (85, (m735.2 85)), (86, (m735.2 86)), (87, (m735.2 87)), (88, (m735.2 88)), (89, (m735.2 89)), (90, (m735.2 90)), (91, (m735.2 91)), (92, (m735.2 92)), (101, upI (m.2 101) (m.1 99) (m.1 7)), (102, upI (m.2 102) (m.1 99) tp), (103, upI (m.2 103) (m.1 99) oo), (104, (m.2 104)), (105, (m735.2 105)), (106, (m735.2 106)), (107, (m.2 107)), (108, (m.2 108))]) c N D (by omega) (Ty_mO hT rfl rfl ⟨(hT736.1 7), (hT736.1 8), (hT736.1 9), (hT736.1 10), (hT736.1 11), (hT736.1 12), (hT736.1 28), (hT736.1 69), (hT736.1 70), (hT736.1 71), (hT736.1 72), (hT736.1 73), (hT736.1 74), (hT736.1 75), g335, (hT676.1 100), trivial⟩ ⟨(hT736.2.1 65), (hT736.2.1 66), (hT736.2.1 67), (hT736.2.1 68), (hT736.2.1 76), (hT736.2.1 77), (hT736.2.1 78), (hT736.2.1 79), (hT736.2.1 80), (hT736.2.1 81), (hT736.2.1 82), (hT736.2.1 83), (hT736.2.1 84), (hT736.2.1 85), (hT736.2.1 86), (hT736.2.1 87), (hT736.2.1 88), (hT736.2.1 89), (hT736.2.1 90), (hT736.2.1 91), (hT736.2.1 92), G336, G692, G717, (hT.2.1 104), (hT736.2.1 105), (hT736.2.1 106), (hT.2.1 107), (hT.2.1 108), trivial⟩) 59 ⟨by decide, by decide⟩ (show 1 ≤ (59 : Int) by omega) (show LxP (m735.1 7) (m735.1 8) (m735.1 9) (m.1 6) (m735.1 10) by first | exact hLx | (intro h9; exfalso; omega) | (intro h9; have h8 := hLx (by omega); omega))) (fun rr764 k765 => ?_)
                  obtain ⟨y766, y768, y770, y772, y774, y776, g767, g769, g771, g773, g775, g777, h778, h779, h780, h781, rfl⟩ := k765
                  refine ⟨_, _, rfl, ?_⟩
                  refine T_nf2 (st' := []) (l' := [(7, y766), (8, y768), (9, y770), (10, y772), (11, y774), (12, y776), (28, (m735.1 28)), (69, (m735.1 69)), (70, (m735.1 70)), (71, (m735.1 71)), (72, (m735.1 72)), (73, (m735.1 73)), (74, (m735.1 74)), (75, (m735.1 75)), (99, (m.1 99) + 1), (100, (m675.1 100))]) (a' := [(65, (m735.2 65)), (66, (m735.2 66)), (67, (m735.2 67)), (68, (m735.2 68)), (76, (m735.2 76)), (77, (m735.2 77)), (78, (m735.2 78)), (79, (m735.2 79)), (80, (m735.2 80)), (81, (m735.2 81)), (82, (m735.2 82)), (83, (m735.2 83)), (84, (m735.2 84)), (85, (m735.2 85)), (86, (m735.2 86)), (87, (m735.2 87)), (88, (m735.2 88)), (89, (m735.2 89)), (90, (m735.2 90)), (91, (m735.2 91)), (92, (m735.2 92)), (101, upI (m.2 101) (m.1 99) (m.1 7)), (102, upI (m.2 102) (m.1 99) tp), (103, upI (m.2 103) (m.1 99) oo), (104, (m.2 104)), (105, (m735.2 105)), (106, (m735.2 106)), (107, (m.2 107)), (108, (m.2 108))]) [7, 8, 9, 10, 11, 12] [] rfl ⟨rfl, rfl, rfl, rfl, rfl, rfl, rfl, rfl, rfl, rfl, rfl, rfl, rfl, rfl, rfl, rfl, rfl, rfl, rfl, rfl, rfl, rfl, rfl, rfl, rfl, rfl, rfl, rfl, rfl, rfl, rfl, rfl, trivial⟩ ⟨rfl, rfl, rfl, rfl, rfl, rfl, rfl, rfl, rfl, rfl, rfl, rfl, rfl, rfl, rfl, rfl, rfl, rfl, rfl, rfl, rfl, rfl, rfl, rfl, rfl, rfl, rfl, rfl, rfl, rfl, rfl, rfl, rfl, rfl, rfl, rfl, rfl, rfl, rfl, rfl, rfl, rfl, rfl, rfl, rfl, rfl, rfl, rfl, rfl, rfl, rfl, rfl, rfl, rfl, rfl, rfl, rfl, rfl, trivial⟩ rfl rfl (by decide) (by decide) ?_
                  by_cases hf782 : y772 = 0
                  · skip
                    subst hf782
                    replace h778 : LxP y766 y768 y770 (m.1 6) (0 : Int) := h778
                    have hLx := h778
                    replace h779 : (m735.1 10) = 0 ∧ (m735.1 7) = (59 : Int) := h779 rfl
                    replace h780 : (m735.1 8) ≤ y768 := h780
                    replace h781 : (m735.1 8) + (m735.1 9) ≤ y768 := h781 rfl
                    have u783 : (m.1 8) + 1 ≤ y768 := by omega
                    have hAgC : agr (m.2 65) (m735.2 65) (m.1 28) := by first | exact agr_r _ _ | exact hAgC | exact agr_t hAgC hAg (by omega)
                    have u784 : (m.1 28) ≤ (m735.1 28) := by omega
                    clear g740 g741 g742 g743 g744 g745 h738 u762 g773 h779 h780 h781
                    refine T_ret rfl (fun _ => rfl) ?_
                    exact ⟨(mO m [(7, y766), (8, y768), (9, y770), (10, 0), (11, y774), (12, y776), (28, (m735.1 28)), (69, (m735.1 69)), (70, (m735.1 70)), (71, (m735.1 71)), (72, (m735.1 72)), (73, (m735.1 73)), (74, (m735.1 74)), (75, (m735.1 75)), (99, (m.1 99) + 1), (100, (m675.1 100))] [(65, (m735.2 65)), (66, (m735.2 66)), (67, (m735.2 67)), (68, (m735.2 68)), (76, (m735.2 76)), (77, (m735.2 77)), (78, (m735.2 78)), (79, (m735.2 79)), (80, (m735.2 80)), (81, (m735.2 81)), (82, (m735.2 82)), (83, (m735.2 83)), (84, (m735.2 84)), (85, (m735.2 85)), (86, (m735.2 86)), (87, (m735.2 87)), (88, (m735.2 88)), (89, (m735.2 89)), (90, (m735.2 90)), (91, (m735.2 91)), (92, (m735.2 92)), (101, upI (m.2 101) (m.1 99) (m.1 7)), (102, upI (m.2 102) (m.1 99) tp), (103, upI (m.2 103) (m.1 99) oo), (104, (m.2 104)), (105, (m735.2 105)), (106, (m735.2 106)), (107, (m.2 107)), (108, (m.2 108))]), (Ty_mO hT rfl rfl ⟨g767, g769, g771, ⟨(by omega : (0 : Int) ≤ 0), (by omega : (0 : Int) ≤ 8)⟩, g775, g777, (hT736.1 28), (hT736.1 69), (hT736.1 70), (hT736.1 71), (hT736.1 72), (hT736.1 73), (hT736.1 74), (hT736.1 75), g335, (hT676.1 100), trivial⟩ ⟨(hT736.2.1 65), (hT736.2.1 66), (hT736.2.1 67), (hT736.2.1 68), (hT736.2.1 76), (hT736.2.1 77), (hT736.2.1 78), (hT736.2.1 79), (hT736.2.1 80), (hT736.2.1 81), (hT736.2.1 82), (hT736.2.1 83), (hT736.2.1 84), (hT736.2.1 85), (hT736.2.1 86), (hT736.2.1 87), (hT736.2.1 88), (hT736.2.1 89), (hT736.2.1 90), (hT736.2.1 91), (hT736.2.1 92), G336, G692, G717, (hT.2.1 104), (hT736.2.1 105), (hT736.2.1 106), (hT.2.1 107), (hT.2.1 108), trivial⟩), (show (0 : Int) = 0 → (m.1 10) = 0 by omega), (show LxP y766 y768 y770 (m.1 6) (0 : Int) by first | (first | exact hLx | exact (fun _ => hLx (by omega)) | (intro h9; exfalso; omega)) | (exfalso; omega)), (show ((m.1 99) + 1) = (m.1 99) + 1 by omega), (fun _ => ⟨(show (m.1 8) + 1 ≤ y768 by omega), (show (m.1 28) ≤ (m735.1 28) by omega), (show CN (m735.2 65) (m735.2 67) (m735.1 28) by first | (exact hCN) | (exfalso; omega)), (show agr (m.2 65) (m735.2 65) (m.1 28) by first | (exact hAgC) | (exfalso; omega)), (show TdP (m735.2 65) (m735.1 28) (m.1 22) ((m.1 99) + 1) (upI (m.2 101) (m.1 99) (m.1 7)) (upI (m.2 103) (m.1 99) oo) (m735.2 105) (m735.2 106) (m.2 107) (m.2 108) by first | (exact hTd2) | (exfalso; omega))⟩), rfl⟩
                  · skip
                    replace h778 : LxP y766 y768 y770 (m.1 6) y772 := h778
                    have hLx := h778
                    clear h779
                    replace h780 : (m735.1 8) ≤ y768 := h780
                    clear h781
                    have hf785 : 1 ≤ y772 := by omega
                    clear g740 g741 g742 g743 g744 g745 h738 u762 h780
                    refine Tm_lv (a := [(0, .ref 189), (1, .int (i32 (m.1 99)))]) rfl rfl ⟨rfl, rfl, trivial⟩ ?_
                    exact J235_28 (mO m [(7, y766), (8, y768), (9, y770), (10, y772), (11, y774), (12, y776), (28, (m735.1 28)), (69, (m735.1 69)), (70, (m735.1 70)), (71, (m735.1 71)), (72, (m735.1 72)), (73, (m735.1 73)), (74, (m735.1 74)), (75, (m735.1 75)), (99, (m.1 99) + 1), (100, (m675.1 100))] [(65, (m735.2 65)), (66, (m735.2 66)), (67, (m735.2 67)), (68, (m735.2 68)), (76, (m735.2 76)), (77, (m735.2 77)), (78, (m735.2 78)), (79, (m735.2 79)), (80, (m735.2 80)), (81, (m735.2 81)), (82, (m735.2 82)), (83, (m735.2 83)), (84, (m735.2 84)), (85, (m735.2 85)), (86, (m735.2 86)), (87, (m735.2 87)), (88, (m735.2 88)), (89, (m735.2 89)), (90, (m735.2 90)), (91, (m735.2 91)), (92, (m735.2 92)), (101, upI (m.2 101) (m.1 99) (m.1 7)), (102, upI (m.2 102) (m.1 99) tp), (103, upI (m.2 103) (m.1 99) oo), (104, (m.2 104)), (105, (m735.2 105)), (106, (m735.2 106)), (107, (m.2 107)), (108, (m.2 108))]) (Ty_mO hT rfl rfl ⟨g767, g769, g771, g773, g775, g777, (hT736.1 28), (hT736.1 69), (hT736.1 70), (hT736.1 71), (hT736.1 72), (hT736.1 73), (hT736.1 74), (hT736.1 75), g335, (hT676.1 100), trivial⟩ ⟨(hT736.2.1 65), (hT736.2.1 66), (hT736.2.1 67), (hT736.2.1 68), (hT736.2.1 76), (hT736.2.1 77), (hT736.2.1 78), (hT736.2.1 79), (hT736.2.1 80), (hT736.2.1 81), (hT736.2.1 82), (hT736.2.1 83), (hT736.2.1 84), (hT736.2.1 85), (hT736.2.1 86), (hT736.2.1 87), (hT736.2.1 88), (hT736.2.1 89), (hT736.2.1 90), (hT736.2.1 91), (hT736.2.1 92), G336, G692, G717, (hT.2.1 104), (hT736.2.1 105), (hT736.2.1 106), (hT.2.1 107), (hT.2.1 108), trivial⟩) (show 1 ≤ y772 by omega) (show y772 ≤ 8 by omega) (show 0 ≤ ((m.1 99) + 1) ∧ ((m.1 99) + 1) ≤ 240 by omega) (show 0 ≤ (m.1 99) ∧ (m.1 99) ≤ 240 by omega)
                · skip
                  clear c739
                  clear h737
                  replace h738 : LxP (m735.1 7) (m735.1 8) (m735.1 9) (m.1 6) (m735.1 10) := h738
                  have hLx := h738
                  have hf786 : 1 ≤ (m735.1 10) := by omega
                  clear g696 g698 g700 g706 h708 h709 u715 g727 g728 u731
                  refine Tm_lv (a := [(0, .ref 189), (1, .int (i32 (m.1 99))), (2, .int (i32 (m675.1 8)))]) rfl rfl ⟨rfl, rfl, rfl, trivial⟩ ?_
                  exact J143_132 (m675.1 8) (mO m [(7, (m735.1 7)), (8, (m735.1 8)), (9, (m735.1 9)), (10, (m735.1 10)), (11, (m735.1 11)), (12, (m735.1 12)), (28, (m735.1 28)), (69, (m735.1 69)), (70, (m735.1 70)), (71, (m735.1 71)), (72, (m735.1 72)), (73, (m735.1 73)), (74, (m735.1 74)), (75, (m735.1 75)), (99, (m.1 99) + 1), (100, (m675.1 100))] [(65, (m735.2 65)), (66, (m735.2 66)), (67, (m735.2 67)), (68, (m735.2 68)), (76, (m735.2 76)), (77, (m735.2 77)), (78, (m735.2 78)), (79, (m735.2 79)), (80, (m735.2 80)), (81, (m735.2 81)), (82, (m735.2 82)), (83, (m735.2 83)), (84, (m735.2 84)), (85, (m735.2 85)), (86, (m735.2 86)), (87, (m735.2 87)), (88, (m735.2 88)), (89, (m735.2 89)), (90, (m735.2 90)), (91, (m735.2 91)), (92, (m735.2 92)), (101, upI (m.2 101) (m.1 99) (m.1 7)), (102, upI (m.2 102) (m.1 99) tp), (103, upI (m.2 103) (m.1 99) oo), (104, (m.2 104)), (105, (m735.2 105)), (106, (m735.2 106)), (107, (m.2 107)), (108, (m.2 108))]) (r32 (by omega) (by omega)) (Ty_mO hT rfl rfl ⟨(hT736.1 7), (hT736.1 8), (hT736.1 9), (hT736.1 10), (hT736.1 11), (hT736.1 12), (hT736.1 28), (hT736.1 69), (hT736.1 70), (hT736.1 71), (hT736.1 72), (hT736.1 73), (hT736.1 74), (hT736.1 75), g335, (hT676.1 100), trivial⟩ ⟨(hT736.2.1 65), (hT736.2.1 66), (hT736.2.1 67), (hT736.2.1 68), (hT736.2.1 76), (hT736.2.1 77), (hT736.2.1 78), (hT736.2.1 79), (hT736.2.1 80), (hT736.2.1 81), (hT736.2.1 82), (hT736.2.1 83), (hT736.2.1 84), (hT736.2.1 85), (hT736.2.1 86), (hT736.2.1 87), (hT736.2.1 88), (hT736.2.1 89), (hT736.2.1 90), (hT736.2.1 91), (hT736.2.1 92), G336, G692, G717, (hT.2.1 104), (hT736.2.1 105), (hT736.2.1 106), (hT.2.1 107), (hT.2.1 108), trivial⟩) (show 0 ≤ (m675.1 8) by omega) (show (m675.1 8) ≤ 4000 by omega) (show 1 ≤ (m735.1 10) by omega) (show (m735.1 10) ≤ 8 by omega) (show 0 ≤ ((m.1 99) + 1) ∧ ((m.1 99) + 1) ≤ 240 by omega) (show 0 ≤ (m.1 99) ∧ (m.1 99) ≤ 240 by omega)
              · skip
                clear c726
                clear h725
                have hf787 : 1 ≤ (m723.1 10) := by omega
                clear g704
                refine Tm_lv (a := [(0, .ref 189), (1, .int (i32 (m.1 99))), (2, .int (i32 (m675.1 8)))]) rfl rfl ⟨rfl, rfl, rfl, trivial⟩ ?_
                exact J138_163 (m675.1 8) (mO m [(7, y695), (8, y697), (9, y699), (10, (m723.1 10)), (11, (m723.1 11)), (12, y705), (28, (m.1 28)), (69, (m.1 69)), (70, (m.1 70)), (71, (m.1 71)), (72, (m.1 72)), (73, (m.1 73)), (74, (m.1 74)), (75, (m.1 75)), (99, (m.1 99) + 1), (100, (m675.1 100))] [(65, (m.2 65)), (66, (m.2 66)), (67, (m.2 67)), (68, (m.2 68)), (76, (m.2 76)), (77, (m.2 77)), (78, (m.2 78)), (79, (m.2 79)), (80, (m.2 80)), (81, (m.2 81)), (82, (m.2 82)), (83, (m.2 83)), (84, (m.2 84)), (85, (m.2 85)), (86, (m.2 86)), (87, (m.2 87)), (88, (m.2 88)), (89, (m.2 89)), (90, (m.2 90)), (91, (m.2 91)), (92, (m.2 92)), (101, upI (m.2 101) (m.1 99) (m.1 7)), (102, upI (m.2 102) (m.1 99) tp), (103, upI (m.2 103) (m.1 99) oo), (104, (m.2 104)), (105, (m.2 105)), (106, (m.2 106)), (107, (m.2 107)), (108, (m.2 108))]) (r32 (by omega) (by omega)) (Ty_mO hT rfl rfl ⟨g696, g698, g700, (hT724.1 10), (hT724.1 11), g706, f28, f69, f70, f71, f72, f73, f74, f75, g335, (hT676.1 100), trivial⟩ ⟨(hT.2.1 65), (hT.2.1 66), (hT.2.1 67), (hT.2.1 68), (hT.2.1 76), (hT.2.1 77), (hT.2.1 78), (hT.2.1 79), (hT.2.1 80), (hT.2.1 81), (hT.2.1 82), (hT.2.1 83), (hT.2.1 84), (hT.2.1 85), (hT.2.1 86), (hT.2.1 87), (hT.2.1 88), (hT.2.1 89), (hT.2.1 90), (hT.2.1 91), (hT.2.1 92), G336, G692, G717, (hT.2.1 104), (hT.2.1 105), (hT.2.1 106), (hT.2.1 107), (hT.2.1 108), trivial⟩) (show 0 ≤ (m675.1 8) by omega) (show (m675.1 8) ≤ 4000 by omega) (show 1 ≤ (m723.1 10) by omega) (show (m723.1 10) ≤ 8 by omega) (show 0 ≤ ((m.1 99) + 1) ∧ ((m.1 99) + 1) ≤ 240 by omega) (show 0 ≤ (m.1 99) ∧ (m.1 99) ≤ 240 by omega)
            · skip
              refine T_ld 130 (.int (i32 1)) rfl (fun _ => rfl) ?_
              refine T_goto 134 rfl (fun _ => rfl) ?_
              refine T_ld 135 (.int (i32 (m675.1 8))) rfl (fun _ => rfl) ?_
              refine T_call 138 256 [.ref 189, .int (i32 1), .int (i32 (m675.1 8))] [] rfl (fun _ => rfl) rfl (c_want w (mO m [(7, y695), (8, y697), (9, y699), (10, 0), (11, y703), (12, y705), (28, (m.1 28)), (69, (m.1 69)), (70, (m.1 70)), (71, (m.1 71)), (72, (m.1 72)), (73, (m.1 73)), (74, (m.1 74)), (75, (m.1 75)), (99, (m.1 99) + 1), (100, (m675.1 100))] [(65, (m.2 65)), (66, (m.2 66)), (67, (m.2 67)), (68, (m.2 68)), (76, (m.2 76)), (77, (m.2 77)), (78, (m.2 78)), (79, (m.2 79)), (80, (m.2 80)), (81, (m.2 81)), (82, (m.2 82)), (83, (m.2 83)), (84, (m.2 84)), (85, (m.2 85)), (86, (m.2 86)), (87, (m.2 87)), (88, (m.2 88)), (89, (m.2 89)), (90, (m.2 90)), (91, (m.2 91)), (92, (m.2 92)), (101, upI (m.2 101) (m.1 99) (m.1 7)), (102, upI (m.2 102) (m.1 99) tp), (103, upI (m.2 103) (m.1 99) oo), (104, (m.2 104)), (105, (m.2 105)), (106, (m.2 106)), (107, (m.2 107)), (108, (m.2 108))]) c N D (by omega) (Ty_mO hT rfl rfl ⟨g696, g698, g700, ⟨(by omega : (0 : Int) ≤ 0), (by omega : (0 : Int) ≤ 8)⟩, g704, g706, f28, f69, f70, f71, f72, f73, f74, f75, g335, (hT676.1 100), trivial⟩ ⟨(hT.2.1 65), (hT.2.1 66), (hT.2.1 67), (hT.2.1 68), (hT.2.1 76), (hT.2.1 77), (hT.2.1 78), (hT.2.1 79), (hT.2.1 80), (hT.2.1 81), (hT.2.1 82), (hT.2.1 83), (hT.2.1 84), (hT.2.1 85), (hT.2.1 86), (hT.2.1 87), (hT.2.1 88), (hT.2.1 89), (hT.2.1 90), (hT.2.1 91), (hT.2.1 92), G336, G692, G717, (hT.2.1 104), (hT.2.1 105), (hT.2.1 106), (hT.2.1 107), (hT.2.1 108), trivial⟩) 1 (m675.1 8) ⟨by decide, by decide⟩ (r32 (by omega) (by omega)) (show 0 ≤ (m675.1 8) ∧ (m675.1 8) ≤ 4000 by omega) (fun _ => trivial)) (fun rr788 k789 => ?_)
              obtain ⟨m790, hT791, h792, c793, rfl⟩ := k789
              refine ⟨_, _, rfl, ?_⟩
              refine T_nf2 (st' := []) (l' := [(7, y695), (8, y697), (9, y699), (10, (m790.1 10)), (11, (m790.1 11)), (12, y705), (28, (m.1 28)), (69, (m.1 69)), (70, (m.1 70)), (71, (m.1 71)), (72, (m.1 72)), (73, (m.1 73)), (74, (m.1 74)), (75, (m.1 75)), (99, (m.1 99) + 1), (100, (m675.1 100))]) (a' := [(65, (m.2 65)), (66, (m.2 66)), (67, (m.2 67)), (68, (m.2 68)), (76, (m.2 76)), (77, (m.2 77)), (78, (m.2 78)), (79, (m.2 79)), (80, (m.2 80)), (81, (m.2 81)), (82, (m.2 82)), (83, (m.2 83)), (84, (m.2 84)), (85, (m.2 85)), (86, (m.2 86)), (87, (m.2 87)), (88, (m.2 88)), (89, (m.2 89)), (90, (m.2 90)), (91, (m.2 91)), (92, (m.2 92)), (101, upI (m.2 101) (m.1 99) (m.1 7)), (102, upI (m.2 102) (m.1 99) tp), (103, upI (m.2 103) (m.1 99) oo), (104, (m.2 104)), (105, (m.2 105)), (106, (m.2 106)), (107, (m.2 107)), (108, (m.2 108))]) [10, 11] [] rfl ⟨rfl, rfl, rfl, rfl, rfl, rfl, rfl, rfl, rfl, rfl, rfl, rfl, rfl, rfl, rfl, rfl, rfl, rfl, rfl, rfl, rfl, rfl, rfl, rfl, rfl, rfl, rfl, rfl, rfl, rfl, rfl, rfl, rfl, rfl, rfl, trivial⟩ ⟨rfl, rfl, rfl, rfl, rfl, rfl, rfl, rfl, rfl, rfl, rfl, rfl, rfl, rfl, rfl, rfl, rfl, rfl, rfl, rfl, rfl, rfl, rfl, rfl, rfl, rfl, rfl, rfl, rfl, rfl, rfl, rfl, rfl, rfl, rfl, rfl, rfl, rfl, rfl, rfl, rfl, rfl, rfl, rfl, rfl, rfl, rfl, rfl, rfl, rfl, rfl, rfl, rfl, rfl, rfl, rfl, rfl, rfl, trivial⟩ rfl rfl (by decide) (by decide) ?_
              have g794 : 0 ≤ m790.1 10 ∧ m790.1 10 ≤ 8 := hT791.1 10
              have g795 : (-1) ≤ m790.1 11 ∧ m790.1 11 ≤ 4000 := hT791.1 11
              by_cases hf796 : (m790.1 10) = 0
              · skip
                replace h792 : (0 : Int) = 0 := h792 hf796
                have c797 := c793 hf796
                replace c797 : (1 : Int) ≠ 0 := c797
                clear c793
                have u798 : (m.1 8) + 1 ≤ y697 := by omega
                have hAgC : agr (m.2 65) (m.2 65) (m.1 28) := by first | exact agr_r _ _ | exact hAgC | exact agr_t hAgC hAg (by omega)
                have u799 : (m.1 28) ≤ (m.1 28) := by omega
                clear g704
                refine T_ld 139 (.ref 189) rfl (fun _ => rfl) ?_
                refine T_ld 140 (.int (i32 (m.1 99))) rfl (fun _ => rfl) ?_
                refine T_call 143 274 [.ref 189, .int (i32 (m.1 99))] [] rfl (fun _ => rfl) rfl (c_takeIndex w (mO m [(7, y695), (8, y697), (9, y699), (10, (m790.1 10)), (11, (m790.1 11)), (12, y705), (28, (m.1 28)), (69, (m.1 69)), (70, (m.1 70)), (71, (m.1 71)), (72, (m.1 72)), (73, (m.1 73)), (74, (m.1 74)), (75, (m.1 75)), (99, (m.1 99) + 1), (100, (m675.1 100))] [(65, (m.2 65)), (66, (m.2 66)), (67, (m.2 67)), (68, (m.2 68)), (76, (m.2 76)), (77, (m.2 77)), (78, (m.2 78)), (79, (m.2 79)), (80, (m.2 80)), (81, (m.2 81)), (82, (m.2 82)), (83, (m.2 83)), (84, (m.2 84)), (85, (m.2 85)), (86, (m.2 86)), (87, (m.2 87)), (88, (m.2 88)), (89, (m.2 89)), (90, (m.2 90)), (91, (m.2 91)), (92, (m.2 92)), (101, upI (m.2 101) (m.1 99) (m.1 7)), (102, upI (m.2 102) (m.1 99) tp), (103, upI (m.2 103) (m.1 99) oo), (104, (m.2 104)), (105, (m.2 105)), (106, (m.2 106)), (107, (m.2 107)), (108, (m.2 108))]) c N D (by omega) (Ty_mO hT rfl rfl ⟨g696, g698, g700, (hT791.1 10), (hT791.1 11), g706, f28, f69, f70, f71, f72, f73, f74, f75, g335, (hT676.1 100), trivial⟩ ⟨(hT.2.1 65), (hT.2.1 66), (hT.2.1 67), (hT.2.1 68), (hT.2.1 76), (hT.2.1 77), (hT.2.1 78), (hT.2.1 79), (hT.2.1 80), (hT.2.1 81), (hT.2.1 82), (hT.2.1 83), (hT.2.1 84), (hT.2.1 85), (hT.2.1 86), (hT.2.1 87), (hT.2.1 88), (hT.2.1 89), (hT.2.1 90), (hT.2.1 91), (hT.2.1 92), G336, G692, G717, (hT.2.1 104), (hT.2.1 105), (hT.2.1 106), (hT.2.1 107), (hT.2.1 108), trivial⟩) (m.1 99) (r32 (by omega) (by omega)) (show LxP y695 y697 y699 (m.1 6) (m790.1 10) by first | exact hLx | exact (fun _ => hLx (by omega)) | (intro h9; exfalso; omega)) (show ∀ k, (m.2 14) k + (m.2 15) k ≤ 4000 by assumption) (show ∀ k, (m.2 31) k + (m.2 32) k ≤ 4000 by assumption) (show ∀ k, (m.2 47) k + (m.2 48) k ≤ 4000 by assumption) (show 0 ≤ (m.1 99) ∧ (m.1 99) ≤ 239 by omega) (fun _ => ⟨(show PN (m.1 13) (m.1 19) (m.1 20) (m.1 21) (m.1 22) (m.1 23) (m.1 25) (m.1 26) (m.2 16) (m.2 17) by assumption), (show CN (m.2 65) (m.2 67) (m.1 28) by assumption)⟩)) (fun rr800 k801 => ?_)
                obtain ⟨m802, hT803, h804, h805, c806, rfl⟩ := k801
                refine ⟨_, _, rfl, ?_⟩
                refine T_nf2 (st' := []) (l' := [(7, (m802.1 7)), (8, (m802.1 8)), (9, (m802.1 9)), (10, (m802.1 10)), (11, (m802.1 11)), (12, (m802.1 12)), (28, (m802.1 28)), (69, (m802.1 69)), (70, (m802.1 70)), (71, (m802.1 71)), (72, (m802.1 72)), (73, (m802.1 73)), (74, (m802.1 74)), (75, (m802.1 75)), (99, (m.1 99) + 1), (100, (m675.1 100))]) (a' := [(65, (m802.2 65)), (66, (m802.2 66)), (67, (m802.2 67)), (68, (m802.2 68)), (76, (m802.2 76)), (77, (m802.2 77)), (78, (m802.2 78)), (79, (m802.2 79)), (80, (m802.2 80)), (81, (m802.2 81)), (82, (m802.2 82)), (83, (m802.2 83)), (84, (m802.2 84)), (85, (m802.2 85)), (86, (m802.2 86)), (87, (m802.2 87)), (88, (m802.2 88)), (89, (m802.2 89)), (90, (m802.2 90)), (91, (m802.2 91)), (92, (m802.2 92)), (101, upI (m.2 101) (m.1 99) (m.1 7)), (102, upI (m.2 102) (m.1 99) tp), (103, upI (m.2 103) (m.1 99) oo), (104, (m.2 104)), (105, (m802.2 105)), (106, (m802.2 106)), (107, (m.2 107)), (108, (m.2 108))]) [7, 8, 9, 10, 11, 12, 28, 69, 70, 71, 72, 73, 74, 75] [65, 66, 67, 68, 76, 77, 78, 79, 80, 81, 82, 83, 84, 85, 86, 87, 88, 89, 90, 91, 92, 105, 106] rfl ⟨rfl, rfl, rfl, rfl, rfl, rfl, rfl, rfl, rfl, rfl, rfl, rfl, rfl, rfl, rfl, rfl, rfl, rfl, rfl, rfl, rfl, rfl, rfl, rfl, rfl, rfl, rfl, rfl, rfl, rfl, rfl, rfl, trivial⟩ ⟨rfl, rfl, rfl, rfl, rfl, rfl, rfl, rfl, rfl, rfl, rfl, rfl, rfl, rfl, rfl, rfl, rfl, rfl, rfl, rfl, rfl, rfl, rfl, rfl, rfl, rfl, rfl, rfl, rfl, rfl, rfl, rfl, rfl, rfl, rfl, rfl, rfl, rfl, rfl, rfl, rfl, rfl, rfl, rfl, rfl, rfl, rfl, rfl, rfl, rfl, rfl, rfl, rfl, rfl, rfl, rfl, rfl, rfl, rfl, rfl, rfl, rfl, trivial⟩ rfl rfl (by decide) (by decide) ?_
                have g807 : 0 ≤ m802.1 7 ∧ m802.1 7 ≤ 330 := hT803.1 7
                have g808 : 0 ≤ m802.1 8 ∧ m802.1 8 ≤ 4000 := hT803.1 8
                have g809 : 0 ≤ m802.1 9 ∧ m802.1 9 ≤ 4000 := hT803.1 9
                have g810 : 0 ≤ m802.1 10 ∧ m802.1 10 ≤ 8 := hT803.1 10
                have g811 : (-1) ≤ m802.1 11 ∧ m802.1 11 ≤ 4000 := hT803.1 11
                have g812 : (-9223372036854775808) ≤ m802.1 12 ∧ m802.1 12 ≤ 9223372036854775807 := hT803.1 12
                have g813 : 0 ≤ m802.1 28 ∧ m802.1 28 ≤ 800 := hT803.1 28
                have g814 : 0 ≤ m802.1 69 ∧ m802.1 69 ≤ 1024 := hT803.1 69
                have g815 : 0 ≤ m802.1 70 ∧ m802.1 70 ≤ 4000 := hT803.1 70
                have g816 : 0 ≤ m802.1 71 ∧ m802.1 71 ≤ 1 := hT803.1 71
                have g817 : (-9223372036854775808) ≤ m802.1 72 ∧ m802.1 72 ≤ 9223372036854775807 := hT803.1 72
                have g818 : 0 ≤ m802.1 73 ∧ m802.1 73 ≤ 60 := hT803.1 73
                have g819 : 0 ≤ m802.1 74 ∧ m802.1 74 ≤ 24 := hT803.1 74
                have g820 : 0 ≤ m802.1 75 ∧ m802.1 75 ≤ 3 := hT803.1 75
                by_cases hf821 : (m802.1 10) = 0
                · skip
                  replace h804 : (m790.1 10) = 0 := h804 hf821
                  replace h805 : LxP (m802.1 7) (m802.1 8) (m802.1 9) (m.1 6) (m802.1 10) := h805
                  have hLx := h805
                  obtain ⟨c822, c823, c824, c825, c826, c827, c828⟩ := c806 hf821
                  replace c822 : y697 + 1 ≤ (m802.1 8) := c822
                  replace c823 : CN (m802.2 65) (m802.2 67) (m802.1 28) := c823
                  have hCN := c823
                  replace c824 : agr (m.2 65) (m802.2 65) (m.1 28) := c824
                  have hAg := c824
                  replace c825 : (m.1 28) ≤ (m802.1 28) := c825
                  replace c826 : cdr (m802.2 65) (m802.1 28) ((m802.2 105) (m.1 99)) ((m802.2 106) (m.1 99)) := c826
                  have hXc := c826
                  replace c827 : agr (m.2 105) (m802.2 105) (m.1 99) := c827
                  have hI1 := c827
                  replace c828 : agr (m.2 106) (m802.2 106) (m.1 99) := c828
                  have hI2 := c828
                  clear c806
                  have u829 : (m.1 8) + 1 ≤ (m802.1 8) := by omega
                  have hAgC : agr (m.2 65) (m802.2 65) (m.1 28) := by first | exact agr_r _ _ | exact hAgC | exact agr_t hAgC hAg (by omega)
                  have u830 : (m.1 28) ≤ (m802.1 28) := by omega
                  clear g696 g698 g700 g706 h708 h709 u715 g794 g795 u798 h804 c822
                  refine T_goto 229 rfl (fun _ => rfl) ?_
                  have w1 : agr (m.2 101) (upI (m.2 101) (m.1 99) (m.1 7)) (m.1 99) := by first | exact agr_u (Int.le_refl _) | exact agr_r _ _
                  have w2 : agr (m.2 103) (upI (m.2 103) (m.1 99) oo) (m.1 99) := by first | exact agr_u (Int.le_refl _) | exact agr_r _ _
                  have w3 : agr (m.2 105) (m802.2 105) (m.1 99) := by first | exact hI1 | exact agr_u (Int.le_refl _) | exact agr_r _ _
                  have w4 : agr (m.2 106) (m802.2 106) (m.1 99) := by first | exact hI2 | exact agr_u (Int.le_refl _) | exact agr_r _ _
                  have w5 : agr (m.2 107) (m.2 107) (m.1 99) := by first | exact hJ1 | exact agr_u (Int.le_refl _) | exact agr_r _ _
                  have w6 : agr (m.2 108) (m.2 108) (m.1 99) := by first | exact hJ2 | exact agr_u (Int.le_refl _) | exact agr_r _ _
                  have hR : TdR (m802.2 65) (m802.1 28) (m.1 22) (m.1 99) (upI (m.2 101) (m.1 99) (m.1 7)) (upI (m.2 103) (m.1 99) oo) (m802.2 105) (m802.2 106) (m.2 107) (m.2 108) := by
                    refine ⟨fun h => ?_, fun h => ?_⟩ <;> rw [upI_s] at h <;> first | exact hEc | exact ⟨hXc, by rw [upI_s]; omega⟩ | exact ⟨cdr_f hXc hAg (by omega), by rw [upI_s]; omega⟩ | omega
                  have hTd2 : TdP (m802.2 65) (m802.1 28) (m.1 22) ((m.1 99) + 1) (upI (m.2 101) (m.1 99) (m.1 7)) (upI (m.2 103) (m.1 99) oo) (m802.2 105) (m802.2 106) (m.2 107) (m.2 108) := TdP_add (TdP_f pTd hAgC (by omega) w1 w2 w3 w4 w5 w6) hR
                  refine T_ld 230 (.ref 189) rfl (fun _ => rfl) ?_
                  refine T_ld 232 (.int (i32 59)) rfl (fun _ => rfl) ?_
                  refine T_call 235 232 [.ref 189, .int (i32 59)] [] rfl (fun _ => rfl) rfl (c_need w (mO m [(7, (m802.1 7)), (8, (m802.1 8)), (9, (m802.1 9)), (10, (m802.1 10)), (11, (m802.1 11)), (12, (m802.1 12)), (28, (m802.1 28)), (69, (m802.1 69)), (70, (m802.1 70)), (71, (m802.1 71)), (72, (m802.1 72)), (73, (m802.1 73)), (74, (m802.1 74)), (75, (m802.1 75)), (99, (m.1 99) + 1), (100, (m675.1 100))] [(65, (m802.2 65)), (66, (m802.2 66)), (67, (m802.2 67)), (68, (m802.2 68)), (76, (m802.2 76)), (77, (m802.2 77)), (78, (m802.2 78)), (79, (m802.2 79)), (80, (m802.2 80)), (81, (m802.2 81)), (82, (m802.2 82)), (83, (m802.2 83)), (84, (m802.2 84)), (85, (m802.2 85)), (86, (m802.2 86)), (87, (m802.2 87)), (88, (m802.2 88)), (89, (m802.2 89)), (90, (m802.2 90)), (91, (m802.2 91)), (92, (m802.2 92)), (101, upI (m.2 101) (m.1 99) (m.1 7)), (102, upI (m.2 102) (m.1 99) tp), (103, upI (m.2 103) (m.1 99) oo), (104, (m.2 104)), (105, (m802.2 105)), (106, (m802.2 106)), (107, (m.2 107)), (108, (m.2 108))]) c N D (by omega) (Ty_mO hT rfl rfl ⟨(hT803.1 7), (hT803.1 8), (hT803.1 9), (hT803.1 10), (hT803.1 11), (hT803.1 12), (hT803.1 28), (hT803.1 69), (hT803.1 70), (hT803.1 71), (hT803.1 72), (hT803.1 73), (hT803.1 74), (hT803.1 75), g335, (hT676.1 100), trivial⟩ ⟨(hT803.2.1 65), (hT803.2.1 66), (hT803.2.1 67), (hT803.2.1 68), (hT803.2.1 76), (hT803.2.1 77), (hT803.2.1 78), (hT803.2.1 79), (hT803.2.1 80), (hT803.2.1 81), (hT803.2.1 82), (hT803.2.1 83), (hT803.2.1 84), (hT803.2.1 85), (hT803.2.1 86), (hT803.2.1 87), (hT803.2.1 88), (hT803.2.1 89), (hT803.2.1 90), (hT803.2.1 91), (hT803.2.1 92), G336, G692, G717, (hT.2.1 104), (hT803.2.1 105), (hT803.2.1 106), (hT.2.1 107), (hT.2.1 108), trivial⟩) 59 ⟨by decide, by decide⟩ (show 1 ≤ (59 : Int) by omega) (show LxP (m802.1 7) (m802.1 8) (m802.1 9) (m.1 6) (m802.1 10) by first | exact hLx | (intro h9; exfalso; omega) | (intro h9; have h8 := hLx (by omega); omega))) (fun rr831 k832 => ?_)
                  obtain ⟨y833, y835, y837, y839, y841, y843, g834, g836, g838, g840, g842, g844, h845, h846, h847, h848, rfl⟩ := k832
                  refine ⟨_, _, rfl, ?_⟩
                  refine T_nf2 (st' := []) (l' := [(7, y833), (8, y835), (9, y837), (10, y839), (11, y841), (12, y843), (28, (m802.1 28)), (69, (m802.1 69)), (70, (m802.1 70)), (71, (m802.1 71)), (72, (m802.1 72)), (73, (m802.1 73)), (74, (m802.1 74)), (75, (m802.1 75)), (99, (m.1 99) + 1), (100, (m675.1 100))]) (a' := [(65, (m802.2 65)), (66, (m802.2 66)), (67, (m802.2 67)), (68, (m802.2 68)), (76, (m802.2 76)), (77, (m802.2 77)), (78, (m802.2 78)), (79, (m802.2 79)), (80, (m802.2 80)), (81, (m802.2 81)), (82, (m802.2 82)), (83, (m802.2 83)), (84, (m802.2 84)), (85, (m802.2 85)), (86, (m802.2 86)), (87, (m802.2 87)), (88, (m802.2 88)), (89, (m802.2 89)), (90, (m802.2 90)), (91, (m802.2 91)), (92, (m802.2 92)), (101, upI (m.2 101) (m.1 99) (m.1 7)), (102, upI (m.2 102) (m.1 99) tp), (103, upI (m.2 103) (m.1 99) oo), (104, (m.2 104)), (105, (m802.2 105)), (106, (m802.2 106)), (107, (m.2 107)), (108, (m.2 108))]) [7, 8, 9, 10, 11, 12] [] rfl ⟨rfl, rfl, rfl, rfl, rfl, rfl, rfl, rfl, rfl, rfl, rfl, rfl, rfl, rfl, rfl, rfl, rfl, rfl, rfl, rfl, rfl, rfl, rfl, rfl, rfl, rfl, rfl, rfl, rfl, rfl, rfl, rfl, trivial⟩ ⟨rfl, rfl, rfl, rfl, rfl, rfl, rfl, rfl, rfl, rfl, rfl, rfl, rfl, rfl, rfl, rfl, rfl, rfl, rfl, rfl, rfl, rfl, rfl, rfl, rfl, rfl, rfl, rfl, rfl, rfl, rfl, rfl, rfl, rfl, rfl, rfl, rfl, rfl, rfl, rfl, rfl, rfl, rfl, rfl, rfl, rfl, rfl, rfl, rfl, rfl, rfl, rfl, rfl, rfl, rfl, rfl, rfl, rfl, trivial⟩ rfl rfl (by decide) (by decide) ?_
                  by_cases hf849 : y839 = 0
                  · skip
                    subst hf849
                    replace h845 : LxP y833 y835 y837 (m.1 6) (0 : Int) := h845
                    have hLx := h845
                    replace h846 : (m802.1 10) = 0 ∧ (m802.1 7) = (59 : Int) := h846 rfl
                    replace h847 : (m802.1 8) ≤ y835 := h847
                    replace h848 : (m802.1 8) + (m802.1 9) ≤ y835 := h848 rfl
                    have u850 : (m.1 8) + 1 ≤ y835 := by omega
                    have hAgC : agr (m.2 65) (m802.2 65) (m.1 28) := by first | exact agr_r _ _ | exact hAgC | exact agr_t hAgC hAg (by omega)
                    have u851 : (m.1 28) ≤ (m802.1 28) := by omega
                    clear g807 g808 g809 g810 g811 g812 h805 u829 g840 h846 h847 h848
                    refine T_ret rfl (fun _ => rfl) ?_
                    exact ⟨(mO m [(7, y833), (8, y835), (9, y837), (10, 0), (11, y841), (12, y843), (28, (m802.1 28)), (69, (m802.1 69)), (70, (m802.1 70)), (71, (m802.1 71)), (72, (m802.1 72)), (73, (m802.1 73)), (74, (m802.1 74)), (75, (m802.1 75)), (99, (m.1 99) + 1), (100, (m675.1 100))] [(65, (m802.2 65)), (66, (m802.2 66)), (67, (m802.2 67)), (68, (m802.2 68)), (76, (m802.2 76)), (77, (m802.2 77)), (78, (m802.2 78)), (79, (m802.2 79)), (80, (m802.2 80)), (81, (m802.2 81)), (82, (m802.2 82)), (83, (m802.2 83)), (84, (m802.2 84)), (85, (m802.2 85)), (86, (m802.2 86)), (87, (m802.2 87)), (88, (m802.2 88)), (89, (m802.2 89)), (90, (m802.2 90)), (91, (m802.2 91)), (92, (m802.2 92)), (101, upI (m.2 101) (m.1 99) (m.1 7)), (102, upI (m.2 102) (m.1 99) tp), (103, upI (m.2 103) (m.1 99) oo), (104, (m.2 104)), (105, (m802.2 105)), (106, (m802.2 106)), (107, (m.2 107)), (108, (m.2 108))]), (Ty_mO hT rfl rfl ⟨g834, g836, g838, ⟨(by omega : (0 : Int) ≤ 0), (by omega : (0 : Int) ≤ 8)⟩, g842, g844, (hT803.1 28), (hT803.1 69), (hT803.1 70), (hT803.1 71), (hT803.1 72), (hT803.1 73), (hT803.1 74), (hT803.1 75), g335, (hT676.1 100), trivial⟩ ⟨(hT803.2.1 65), (hT803.2.1 66), (hT803.2.1 67), (hT803.2.1 68), (hT803.2.1 76), (hT803.2.1 77), (hT803.2.1 78), (hT803.2.1 79), (hT803.2.1 80), (hT803.2.1 81), (hT803.2.1 82), (hT803.2.1 83), (hT803.2.1 84), (hT803.2.1 85), (hT803.2.1 86), (hT803.2.1 87), (hT803.2.1 88), (hT803.2.1 89), (hT803.2.1 90), (hT803.2.1 91), (hT803.2.1 92), G336, G692, G717, (hT.2.1 104), (hT803.2.1 105), (hT803.2.1 106), (hT.2.1 107), (hT.2.1 108), trivial⟩), (show (0 : Int) = 0 → (m.1 10) = 0 by omega), (show LxP y833 y835 y837 (m.1 6) (0 : Int) by first | (first | exact hLx | exact (fun _ => hLx (by omega)) | (intro h9; exfalso; omega)) | (exfalso; omega)), (show ((m.1 99) + 1) = (m.1 99) + 1 by omega), (fun _ => ⟨(show (m.1 8) + 1 ≤ y835 by omega), (show (m.1 28) ≤ (m802.1 28) by omega), (show CN (m802.2 65) (m802.2 67) (m802.1 28) by first | (exact hCN) | (exfalso; omega)), (show agr (m.2 65) (m802.2 65) (m.1 28) by first | (exact hAgC) | (exfalso; omega)), (show TdP (m802.2 65) (m802.1 28) (m.1 22) ((m.1 99) + 1) (upI (m.2 101) (m.1 99) (m.1 7)) (upI (m.2 103) (m.1 99) oo) (m802.2 105) (m802.2 106) (m.2 107) (m.2 108) by first | (exact hTd2) | (exfalso; omega))⟩), rfl⟩
                  · skip
                    replace h845 : LxP y833 y835 y837 (m.1 6) y839 := h845
                    have hLx := h845
                    clear h846
                    replace h847 : (m802.1 8) ≤ y835 := h847
                    clear h848
                    have hf852 : 1 ≤ y839 := by omega
                    clear g807 g808 g809 g810 g811 g812 h805 u829 h847
                    refine Tm_lv (a := [(0, .ref 189), (1, .int (i32 (m.1 99)))]) rfl rfl ⟨rfl, rfl, trivial⟩ ?_
                    exact J235_28 (mO m [(7, y833), (8, y835), (9, y837), (10, y839), (11, y841), (12, y843), (28, (m802.1 28)), (69, (m802.1 69)), (70, (m802.1 70)), (71, (m802.1 71)), (72, (m802.1 72)), (73, (m802.1 73)), (74, (m802.1 74)), (75, (m802.1 75)), (99, (m.1 99) + 1), (100, (m675.1 100))] [(65, (m802.2 65)), (66, (m802.2 66)), (67, (m802.2 67)), (68, (m802.2 68)), (76, (m802.2 76)), (77, (m802.2 77)), (78, (m802.2 78)), (79, (m802.2 79)), (80, (m802.2 80)), (81, (m802.2 81)), (82, (m802.2 82)), (83, (m802.2 83)), (84, (m802.2 84)), (85, (m802.2 85)), (86, (m802.2 86)), (87, (m802.2 87)), (88, (m802.2 88)), (89, (m802.2 89)), (90, (m802.2 90)), (91, (m802.2 91)), (92, (m802.2 92)), (101, upI (m.2 101) (m.1 99) (m.1 7)), (102, upI (m.2 102) (m.1 99) tp), (103, upI (m.2 103) (m.1 99) oo), (104, (m.2 104)), (105, (m802.2 105)), (106, (m802.2 106)), (107, (m.2 107)), (108, (m.2 108))]) (Ty_mO hT rfl rfl ⟨g834, g836, g838, g840, g842, g844, (hT803.1 28), (hT803.1 69), (hT803.1 70), (hT803.1 71), (hT803.1 72), (hT803.1 73), (hT803.1 74), (hT803.1 75), g335, (hT676.1 100), trivial⟩ ⟨(hT803.2.1 65), (hT803.2.1 66), (hT803.2.1 67), (hT803.2.1 68), (hT803.2.1 76), (hT803.2.1 77), (hT803.2.1 78), (hT803.2.1 79), (hT803.2.1 80), (hT803.2.1 81), (hT803.2.1 82), (hT803.2.1 83), (hT803.2.1 84), (hT803.2.1 85), (hT803.2.1 86), (hT803.2.1 87), (hT803.2.1 88), (hT803.2.1 89), (hT803.2.1 90), (hT803.2.1 91), (hT803.2.1 92), G336, G692, G717, (hT.2.1 104), (hT803.2.1 105), (hT803.2.1 106), (hT.2.1 107), (hT.2.1 108), trivial⟩) (show 1 ≤ y839 by omega) (show y839 ≤ 8 by omega) (show 0 ≤ ((m.1 99) + 1) ∧ ((m.1 99) + 1) ≤ 240 by omega) (show 0 ≤ (m.1 99) ∧ (m.1 99) ≤ 240 by omega)
                · skip
                  clear c806
                  clear h804
                  replace h805 : LxP (m802.1 7) (m802.1 8) (m802.1 9) (m.1 6) (m802.1 10) := h805
                  have hLx := h805
                  have hf853 : 1 ≤ (m802.1 10) := by omega
                  clear g696 g698 g700 g706 h708 h709 u715 g794 g795 u798
                  refine Tm_lv (a := [(0, .ref 189), (1, .int (i32 (m.1 99))), (2, .int (i32 (m675.1 8)))]) rfl rfl ⟨rfl, rfl, rfl, trivial⟩ ?_
                  exact J143_132 (m675.1 8) (mO m [(7, (m802.1 7)), (8, (m802.1 8)), (9, (m802.1 9)), (10, (m802.1 10)), (11, (m802.1 11)), (12, (m802.1 12)), (28, (m802.1 28)), (69, (m802.1 69)), (70, (m802.1 70)), (71, (m802.1 71)), (72, (m802.1 72)), (73, (m802.1 73)), (74, (m802.1 74)), (75, (m802.1 75)), (99, (m.1 99) + 1), (100, (m675.1 100))] [(65, (m802.2 65)), (66, (m802.2 66)), (67, (m802.2 67)), (68, (m802.2 68)), (76, (m802.2 76)), (77, (m802.2 77)), (78, (m802.2 78)), (79, (m802.2 79)), (80, (m802.2 80)), (81, (m802.2 81)), (82, (m802.2 82)), (83, (m802.2 83)), (84, (m802.2 84)), (85, (m802.2 85)), (86, (m802.2 86)), (87, (m802.2 87)), (88, (m802.2 88)), (89, (m802.2 89)), (90, (m802.2 90)), (91, (m802.2 91)), (92, (m802.2 92)), (101, upI (m.2 101) (m.1 99) (m.1 7)), (102, upI (m.2 102) (m.1 99) tp), (103, upI (m.2 103) (m.1 99) oo), (104, (m.2 104)), (105, (m802.2 105)), (106, (m802.2 106)), (107, (m.2 107)), (108, (m.2 108))]) (r32 (by omega) (by omega)) (Ty_mO hT rfl rfl ⟨(hT803.1 7), (hT803.1 8), (hT803.1 9), (hT803.1 10), (hT803.1 11), (hT803.1 12), (hT803.1 28), (hT803.1 69), (hT803.1 70), (hT803.1 71), (hT803.1 72), (hT803.1 73), (hT803.1 74), (hT803.1 75), g335, (hT676.1 100), trivial⟩ ⟨(hT803.2.1 65), (hT803.2.1 66), (hT803.2.1 67), (hT803.2.1 68), (hT803.2.1 76), (hT803.2.1 77), (hT803.2.1 78), (hT803.2.1 79), (hT803.2.1 80), (hT803.2.1 81), (hT803.2.1 82), (hT803.2.1 83), (hT803.2.1 84), (hT803.2.1 85), (hT803.2.1 86), (hT803.2.1 87), (hT803.2.1 88), (hT803.2.1 89), (hT803.2.1 90), (hT803.2.1 91), (hT803.2.1 92), G336, G692, G717, (hT.2.1 104), (hT803.2.1 105), (hT803.2.1 106), (hT.2.1 107), (hT.2.1 108), trivial⟩) (show 0 ≤ (m675.1 8) by omega) (show (m675.1 8) ≤ 4000 by omega) (show 1 ≤ (m802.1 10) by omega) (show (m802.1 10) ≤ 8 by omega) (show 0 ≤ ((m.1 99) + 1) ∧ ((m.1 99) + 1) ≤ 240 by omega) (show 0 ≤ (m.1 99) ∧ (m.1 99) ≤ 240 by omega)
              · skip
                clear c793
                clear h792
                have hf854 : 1 ≤ (m790.1 10) := by omega
                clear g704
                refine Tm_lv (a := [(0, .ref 189), (1, .int (i32 (m.1 99))), (2, .int (i32 (m675.1 8)))]) rfl rfl ⟨rfl, rfl, rfl, trivial⟩ ?_
                exact J138_163 (m675.1 8) (mO m [(7, y695), (8, y697), (9, y699), (10, (m790.1 10)), (11, (m790.1 11)), (12, y705), (28, (m.1 28)), (69, (m.1 69)), (70, (m.1 70)), (71, (m.1 71)), (72, (m.1 72)), (73, (m.1 73)), (74, (m.1 74)), (75, (m.1 75)), (99, (m.1 99) + 1), (100, (m675.1 100))] [(65, (m.2 65)), (66, (m.2 66)), (67, (m.2 67)), (68, (m.2 68)), (76, (m.2 76)), (77, (m.2 77)), (78, (m.2 78)), (79, (m.2 79)), (80, (m.2 80)), (81, (m.2 81)), (82, (m.2 82)), (83, (m.2 83)), (84, (m.2 84)), (85, (m.2 85)), (86, (m.2 86)), (87, (m.2 87)), (88, (m.2 88)), (89, (m.2 89)), (90, (m.2 90)), (91, (m.2 91)), (92, (m.2 92)), (101, upI (m.2 101) (m.1 99) (m.1 7)), (102, upI (m.2 102) (m.1 99) tp), (103, upI (m.2 103) (m.1 99) oo), (104, (m.2 104)), (105, (m.2 105)), (106, (m.2 106)), (107, (m.2 107)), (108, (m.2 108))]) (r32 (by omega) (by omega)) (Ty_mO hT rfl rfl ⟨g696, g698, g700, (hT791.1 10), (hT791.1 11), g706, f28, f69, f70, f71, f72, f73, f74, f75, g335, (hT676.1 100), trivial⟩ ⟨(hT.2.1 65), (hT.2.1 66), (hT.2.1 67), (hT.2.1 68), (hT.2.1 76), (hT.2.1 77), (hT.2.1 78), (hT.2.1 79), (hT.2.1 80), (hT.2.1 81), (hT.2.1 82), (hT.2.1 83), (hT.2.1 84), (hT.2.1 85), (hT.2.1 86), (hT.2.1 87), (hT.2.1 88), (hT.2.1 89), (hT.2.1 90), (hT.2.1 91), (hT.2.1 92), G336, G692, G717, (hT.2.1 104), (hT.2.1 105), (hT.2.1 106), (hT.2.1 107), (hT.2.1 108), trivial⟩) (show 0 ≤ (m675.1 8) by omega) (show (m675.1 8) ≤ 4000 by omega) (show 1 ≤ (m790.1 10) by omega) (show (m790.1 10) ≤ 8 by omega) (show 0 ≤ ((m.1 99) + 1) ∧ ((m.1 99) + 1) ≤ 240 by omega) (show 0 ≤ (m.1 99) ∧ (m.1 99) ≤ 240 by omega)
          · skip
            replace h708 : LxP y695 y697 y699 (m.1 6) y701 := h708
            have hLx := h708
            replace h709 : (m675.1 8) ≤ y697 := h709
            clear h710
            clear h711
            replace h712 : 0 ≤ oo ∧ (oo < (m.1 22) ∨ oo = 0) := h712
            clear h713
            have hf855 : 1 ≤ y701 := by omega
            clear g681 g683 g684 g685 g686 h679
            refine Tm_lv (a := [(0, .ref 189), (1, .int (i32 (m.1 99))), (2, .int (i32 (m675.1 8)))]) rfl rfl ⟨rfl, rfl, rfl, trivial⟩ ?_
            exact J102_198 (m675.1 8) oo (mO m [(7, y695), (8, y697), (9, y699), (10, y701), (11, y703), (12, y705), (28, (m.1 28)), (69, (m.1 69)), (70, (m.1 70)), (71, (m.1 71)), (72, (m.1 72)), (73, (m.1 73)), (74, (m.1 74)), (75, (m.1 75)), (99, (m.1 99) + 1), (100, (m675.1 100))] [(65, (m.2 65)), (66, (m.2 66)), (67, (m.2 67)), (68, (m.2 68)), (76, (m.2 76)), (77, (m.2 77)), (78, (m.2 78)), (79, (m.2 79)), (80, (m.2 80)), (81, (m.2 81)), (82, (m.2 82)), (83, (m.2 83)), (84, (m.2 84)), (85, (m.2 85)), (86, (m.2 86)), (87, (m.2 87)), (88, (m.2 88)), (89, (m.2 89)), (90, (m.2 90)), (91, (m.2 91)), (92, (m.2 92)), (101, upI (m.2 101) (m.1 99) (m.1 7)), (102, upI (m.2 102) (m.1 99) tp), (103, (m.2 103)), (104, (m.2 104)), (105, (m.2 105)), (106, (m.2 106)), (107, (m.2 107)), (108, (m.2 108))]) (r32 (by omega) (by omega)) (r32 (by omega) (by omega)) (Ty_mO hT rfl rfl ⟨g696, g698, g700, g702, g704, g706, f28, f69, f70, f71, f72, f73, f74, f75, g335, (hT676.1 100), trivial⟩ ⟨(hT.2.1 65), (hT.2.1 66), (hT.2.1 67), (hT.2.1 68), (hT.2.1 76), (hT.2.1 77), (hT.2.1 78), (hT.2.1 79), (hT.2.1 80), (hT.2.1 81), (hT.2.1 82), (hT.2.1 83), (hT.2.1 84), (hT.2.1 85), (hT.2.1 86), (hT.2.1 87), (hT.2.1 88), (hT.2.1 89), (hT.2.1 90), (hT.2.1 91), (hT.2.1 92), G336, G692, (hT.2.1 103), (hT.2.1 104), (hT.2.1 105), (hT.2.1 106), (hT.2.1 107), (hT.2.1 108), trivial⟩) (show 0 ≤ (m675.1 8) by omega) (show (m675.1 8) ≤ 4000 by omega) (show 0 ≤ oo by omega) (show oo ≤ 7 by omega) (show 1 ≤ y701 by omega) (show y701 ≤ 8 by omega) (show 0 ≤ ((m.1 99) + 1) ∧ ((m.1 99) + 1) ≤ 240 by omega) (show 0 ≤ (m.1 99) ∧ (m.1 99) ≤ 240 by omega)
        · skip
          clear c680
          clear h678
          replace h679 : LxP (m675.1 7) (m675.1 8) (m675.1 9) (m.1 6) (m675.1 10) := h679
          have hLx := h679
          have hf856 : 1 ≤ (m675.1 10) := by omega
          clear g655 g657 g659 g663 g665 h666 h668 h669 u671
          refine Tm_lv (a := [(0, .ref 189), (1, .int (i32 (m.1 99)))]) rfl rfl ⟨rfl, rfl, trivial⟩ ?_
          exact J86_237 tp (mO m [(7, (m675.1 7)), (8, (m675.1 8)), (9, (m675.1 9)), (10, (m675.1 10)), (11, (m675.1 11)), (12, (m675.1 12)), (28, (m.1 28)), (69, (m.1 69)), (70, (m.1 70)), (71, (m.1 71)), (72, (m.1 72)), (73, (m.1 73)), (74, (m.1 74)), (75, (m.1 75)), (99, (m.1 99) + 1), (100, (m675.1 100))] [(65, (m.2 65)), (66, (m.2 66)), (67, (m.2 67)), (68, (m.2 68)), (76, (m.2 76)), (77, (m.2 77)), (78, (m.2 78)), (79, (m.2 79)), (80, (m.2 80)), (81, (m.2 81)), (82, (m.2 82)), (83, (m.2 83)), (84, (m.2 84)), (85, (m.2 85)), (86, (m.2 86)), (87, (m.2 87)), (88, (m.2 88)), (89, (m.2 89)), (90, (m.2 90)), (91, (m.2 91)), (92, (m.2 92)), (101, upI (m.2 101) (m.1 99) (m.1 7)), (102, (m.2 102)), (103, (m.2 103)), (104, (m.2 104)), (105, (m.2 105)), (106, (m.2 106)), (107, (m.2 107)), (108, (m.2 108))]) (r32 (by omega) (by omega)) (Ty_mO hT rfl rfl ⟨(hT676.1 7), (hT676.1 8), (hT676.1 9), (hT676.1 10), (hT676.1 11), (hT676.1 12), f28, f69, f70, f71, f72, f73, f74, f75, g335, (hT676.1 100), trivial⟩ ⟨(hT.2.1 65), (hT.2.1 66), (hT.2.1 67), (hT.2.1 68), (hT.2.1 76), (hT.2.1 77), (hT.2.1 78), (hT.2.1 79), (hT.2.1 80), (hT.2.1 81), (hT.2.1 82), (hT.2.1 83), (hT.2.1 84), (hT.2.1 85), (hT.2.1 86), (hT.2.1 87), (hT.2.1 88), (hT.2.1 89), (hT.2.1 90), (hT.2.1 91), (hT.2.1 92), G336, (hT.2.1 102), (hT.2.1 103), (hT.2.1 104), (hT.2.1 105), (hT.2.1 106), (hT.2.1 107), (hT.2.1 108), trivial⟩) (show 0 ≤ tp by omega) (show tp ≤ 207 by omega) (show 1 ≤ (m675.1 10) by omega) (show (m675.1 10) ≤ 8 by omega) (show 0 ≤ ((m.1 99) + 1) ∧ ((m.1 99) + 1) ≤ 240 by omega) (show 0 ≤ (m.1 99) ∧ (m.1 99) ≤ 240 by omega)
      · skip
        replace h666 : LxP y654 y656 y658 (m.1 6) y660 := h666
        have hLx := h666
        clear h667
        replace h668 : (m.1 8) ≤ y656 := h668
        clear h669
        have hf857 : 1 ≤ y660 := by omega
        refine T_gf 81 (.ref 262) rfl rfl rfl rfl rfl rfl ?_
        refine T_ld 82 (.int (i32 (m.1 99))) rfl (fun _ => rfl) ?_
        refine T_ld 83 (.ref 189) rfl (fun _ => rfl) ?_
        refine T_call 86 271 [.ref 189] [.int (i32 (m.1 99)), .ref 262] rfl (fun _ => rfl) rfl (c_takePlace w (mO m [(7, y654), (8, y656), (9, y658), (10, y660), (11, y662), (12, y664), (28, (m.1 28)), (69, (m.1 69)), (70, (m.1 70)), (71, (m.1 71)), (72, (m.1 72)), (73, (m.1 73)), (74, (m.1 74)), (75, (m.1 75)), (99, (m.1 99) + 1), (100, (m.1 100))] [(65, (m.2 65)), (66, (m.2 66)), (67, (m.2 67)), (68, (m.2 68)), (76, (m.2 76)), (77, (m.2 77)), (78, (m.2 78)), (79, (m.2 79)), (80, (m.2 80)), (81, (m.2 81)), (82, (m.2 82)), (83, (m.2 83)), (84, (m.2 84)), (85, (m.2 85)), (86, (m.2 86)), (87, (m.2 87)), (88, (m.2 88)), (89, (m.2 89)), (90, (m.2 90)), (91, (m.2 91)), (92, (m.2 92)), (101, upI (m.2 101) (m.1 99) (m.1 7)), (102, (m.2 102)), (103, (m.2 103)), (104, (m.2 104)), (105, (m.2 105)), (106, (m.2 106)), (107, (m.2 107)), (108, (m.2 108))]) c N D (by omega) (Ty_mO hT rfl rfl ⟨g655, g657, g659, g661, g663, g665, f28, f69, f70, f71, f72, f73, f74, f75, g335, f100, trivial⟩ ⟨(hT.2.1 65), (hT.2.1 66), (hT.2.1 67), (hT.2.1 68), (hT.2.1 76), (hT.2.1 77), (hT.2.1 78), (hT.2.1 79), (hT.2.1 80), (hT.2.1 81), (hT.2.1 82), (hT.2.1 83), (hT.2.1 84), (hT.2.1 85), (hT.2.1 86), (hT.2.1 87), (hT.2.1 88), (hT.2.1 89), (hT.2.1 90), (hT.2.1 91), (hT.2.1 92), G336, (hT.2.1 102), (hT.2.1 103), (hT.2.1 104), (hT.2.1 105), (hT.2.1 106), (hT.2.1 107), (hT.2.1 108), trivial⟩) (show LxP y654 y656 y658 (m.1 6) y660 by first | exact hLx | exact (fun _ => hLx (by omega)) | (intro h9; exfalso; omega)) (show ∀ k, (m.2 14) k + (m.2 15) k ≤ 4000 by assumption) (show ∀ k, (m.2 31) k + (m.2 32) k ≤ 4000 by assumption) (fun (h : y660 = 0) => absurd h (by omega))) (fun rr858 k859 => ?_)
        obtain ⟨m860, tp, hT861, g862, h863, h864, c865, rfl⟩ := k859
        refine ⟨_, _, rfl, ?_⟩
        refine T_nf2 (st' := [.int (i32 tp), .int (i32 (m.1 99)), .ref 262]) (l' := [(7, (m860.1 7)), (8, (m860.1 8)), (9, (m860.1 9)), (10, (m860.1 10)), (11, (m860.1 11)), (12, (m860.1 12)), (28, (m.1 28)), (69, (m.1 69)), (70, (m.1 70)), (71, (m.1 71)), (72, (m.1 72)), (73, (m.1 73)), (74, (m.1 74)), (75, (m.1 75)), (99, (m.1 99) + 1), (100, (m860.1 100))]) (a' := [(65, (m.2 65)), (66, (m.2 66)), (67, (m.2 67)), (68, (m.2 68)), (76, (m.2 76)), (77, (m.2 77)), (78, (m.2 78)), (79, (m.2 79)), (80, (m.2 80)), (81, (m.2 81)), (82, (m.2 82)), (83, (m.2 83)), (84, (m.2 84)), (85, (m.2 85)), (86, (m.2 86)), (87, (m.2 87)), (88, (m.2 88)), (89, (m.2 89)), (90, (m.2 90)), (91, (m.2 91)), (92, (m.2 92)), (101, upI (m.2 101) (m.1 99) (m.1 7)), (102, (m.2 102)), (103, (m.2 103)), (104, (m.2 104)), (105, (m.2 105)), (106, (m.2 106)), (107, (m.2 107)), (108, (m.2 108))]) [7, 8, 9, 10, 11, 12, 100] [] rfl ⟨rfl, rfl, rfl, rfl, rfl, rfl, rfl, rfl, rfl, rfl, rfl, rfl, rfl, rfl, rfl, rfl, rfl, rfl, rfl, rfl, rfl, rfl, rfl, rfl, rfl, rfl, rfl, rfl, rfl, rfl, rfl, rfl, rfl, rfl, rfl, rfl, rfl, rfl, rfl, rfl, rfl, trivial⟩ ⟨rfl, rfl, rfl, rfl, rfl, rfl, rfl, rfl, rfl, rfl, rfl, rfl, rfl, rfl, rfl, rfl, rfl, rfl, rfl, rfl, rfl, rfl, rfl, rfl, rfl, rfl, rfl, rfl, rfl, rfl, rfl, rfl, rfl, rfl, rfl, rfl, rfl, rfl, rfl, rfl, rfl, rfl, rfl, rfl, rfl, rfl, rfl, rfl, rfl, rfl, rfl, rfl, rfl, rfl, rfl, rfl, rfl, rfl, trivial⟩ rfl rfl (by decide) (by decide) ?_
        obtain ⟨g862a, g862b⟩ := g862
        have g866 : 0 ≤ m860.1 7 ∧ m860.1 7 ≤ 330 := hT861.1 7
        have g867 : 0 ≤ m860.1 8 ∧ m860.1 8 ≤ 4000 := hT861.1 8
        have g868 : 0 ≤ m860.1 9 ∧ m860.1 9 ≤ 4000 := hT861.1 9
        have g869 : 0 ≤ m860.1 10 ∧ m860.1 10 ≤ 8 := hT861.1 10
        have g870 : (-1) ≤ m860.1 11 ∧ m860.1 11 ≤ 4000 := hT861.1 11
        have g871 : (-9223372036854775808) ≤ m860.1 12 ∧ m860.1 12 ≤ 9223372036854775807 := hT861.1 12
        have g872 : 0 ≤ m860.1 100 ∧ m860.1 100 ≤ 64 := hT861.1 100
        replace h863 : (m860.1 10) = 0 → y660 = 0 := h863
        replace h864 : LxP (m860.1 7) (m860.1 8) (m860.1 9) (m.1 6) (m860.1 10) := h864
        have hf873 : 1 ≤ (m860.1 10) := by omega
        clear c865
        clear h863
        have hLx := h864
        clear g655 g657 g659 g661 g663 g665 h666 h668 hf857
        refine Tm_lv (a := [(0, .ref 189), (1, .int (i32 (m.1 99)))]) rfl rfl ⟨rfl, rfl, trivial⟩ ?_
        exact J86_237 tp (mO m [(7, (m860.1 7)), (8, (m860.1 8)), (9, (m860.1 9)), (10, (m860.1 10)), (11, (m860.1 11)), (12, (m860.1 12)), (28, (m.1 28)), (69, (m.1 69)), (70, (m.1 70)), (71, (m.1 71)), (72, (m.1 72)), (73, (m.1 73)), (74, (m.1 74)), (75, (m.1 75)), (99, (m.1 99) + 1), (100, (m860.1 100))] [(65, (m.2 65)), (66, (m.2 66)), (67, (m.2 67)), (68, (m.2 68)), (76, (m.2 76)), (77, (m.2 77)), (78, (m.2 78)), (79, (m.2 79)), (80, (m.2 80)), (81, (m.2 81)), (82, (m.2 82)), (83, (m.2 83)), (84, (m.2 84)), (85, (m.2 85)), (86, (m.2 86)), (87, (m.2 87)), (88, (m.2 88)), (89, (m.2 89)), (90, (m.2 90)), (91, (m.2 91)), (92, (m.2 92)), (101, upI (m.2 101) (m.1 99) (m.1 7)), (102, (m.2 102)), (103, (m.2 103)), (104, (m.2 104)), (105, (m.2 105)), (106, (m.2 106)), (107, (m.2 107)), (108, (m.2 108))]) (r32 (by omega) (by omega)) (Ty_mO hT rfl rfl ⟨(hT861.1 7), (hT861.1 8), (hT861.1 9), (hT861.1 10), (hT861.1 11), (hT861.1 12), f28, f69, f70, f71, f72, f73, f74, f75, g335, (hT861.1 100), trivial⟩ ⟨(hT.2.1 65), (hT.2.1 66), (hT.2.1 67), (hT.2.1 68), (hT.2.1 76), (hT.2.1 77), (hT.2.1 78), (hT.2.1 79), (hT.2.1 80), (hT.2.1 81), (hT.2.1 82), (hT.2.1 83), (hT.2.1 84), (hT.2.1 85), (hT.2.1 86), (hT.2.1 87), (hT.2.1 88), (hT.2.1 89), (hT.2.1 90), (hT.2.1 91), (hT.2.1 92), G336, (hT.2.1 102), (hT.2.1 103), (hT.2.1 104), (hT.2.1 105), (hT.2.1 106), (hT.2.1 107), (hT.2.1 108), trivial⟩) (show 0 ≤ tp by omega) (show tp ≤ 207 by omega) (show 1 ≤ (m860.1 10) by omega) (show (m860.1 10) ≤ 8 by omega) (show 0 ≤ ((m.1 99) + 1) ∧ ((m.1 99) + 1) ≤ 240 by omega) (show 0 ≤ (m.1 99) ∧ (m.1 99) ≤ 240 by omega)
  · skip
    refine T_gf 37 (.ref 262) rfl rfl rfl rfl rfl rfl ?_
    refine T_ld 38 (.int (i32 (m.1 99))) rfl (fun _ => rfl) ?_
    refine T_ld 39 (.ref 189) rfl (fun _ => rfl) ?_
    refine T_call 42 271 [.ref 189] [.int (i32 (m.1 99)), .ref 262] rfl (fun _ => rfl) rfl (c_takePlace w (mO m [(7, (m.1 7)), (8, (m.1 8)), (9, (m.1 9)), (10, (m.1 10)), (11, (m.1 11)), (12, (m.1 12)), (28, (m.1 28)), (69, (m.1 69)), (70, (m.1 70)), (71, (m.1 71)), (72, (m.1 72)), (73, (m.1 73)), (74, (m.1 74)), (75, (m.1 75)), (99, (m.1 99) + 1), (100, (m.1 100))] [(65, (m.2 65)), (66, (m.2 66)), (67, (m.2 67)), (68, (m.2 68)), (76, (m.2 76)), (77, (m.2 77)), (78, (m.2 78)), (79, (m.2 79)), (80, (m.2 80)), (81, (m.2 81)), (82, (m.2 82)), (83, (m.2 83)), (84, (m.2 84)), (85, (m.2 85)), (86, (m.2 86)), (87, (m.2 87)), (88, (m.2 88)), (89, (m.2 89)), (90, (m.2 90)), (91, (m.2 91)), (92, (m.2 92)), (101, upI (m.2 101) (m.1 99) (m.1 7)), (102, (m.2 102)), (103, (m.2 103)), (104, (m.2 104)), (105, (m.2 105)), (106, (m.2 106)), (107, (m.2 107)), (108, (m.2 108))]) c N D (by omega) (Ty_mO hT rfl rfl ⟨f7, f8, f9, f10, f11, f12, f28, f69, f70, f71, f72, f73, f74, f75, g335, f100, trivial⟩ ⟨(hT.2.1 65), (hT.2.1 66), (hT.2.1 67), (hT.2.1 68), (hT.2.1 76), (hT.2.1 77), (hT.2.1 78), (hT.2.1 79), (hT.2.1 80), (hT.2.1 81), (hT.2.1 82), (hT.2.1 83), (hT.2.1 84), (hT.2.1 85), (hT.2.1 86), (hT.2.1 87), (hT.2.1 88), (hT.2.1 89), (hT.2.1 90), (hT.2.1 91), (hT.2.1 92), G336, (hT.2.1 102), (hT.2.1 103), (hT.2.1 104), (hT.2.1 105), (hT.2.1 106), (hT.2.1 107), (hT.2.1 108), trivial⟩) (show LxP (m.1 7) (m.1 8) (m.1 9) (m.1 6) (m.1 10) by first | exact hLx | exact (fun _ => hLx (by omega)) | (intro h9; exfalso; omega)) (show ∀ k, (m.2 14) k + (m.2 15) k ≤ 4000 by assumption) (show ∀ k, (m.2 31) k + (m.2 32) k ≤ 4000 by assumption) (fun _ => (show PN (m.1 13) (m.1 19) (m.1 20) (m.1 21) (m.1 22) (m.1 23) (m.1 25) (m.1 26) (m.2 16) (m.2 17) by assumption))) (fun rr874 k875 => ?_)
    obtain ⟨m876, tp, hT877, g878, h879, h880, c881, rfl⟩ := k875
    refine ⟨_, _, rfl, ?_⟩
    refine T_nf2 (st' := [.int (i32 tp), .int (i32 (m.1 99)), .ref 262]) (l' := [(7, (m876.1 7)), (8, (m876.1 8)), (9, (m876.1 9)), (10, (m876.1 10)), (11, (m876.1 11)), (12, (m876.1 12)), (28, (m.1 28)), (69, (m.1 69)), (70, (m.1 70)), (71, (m.1 71)), (72, (m.1 72)), (73, (m.1 73)), (74, (m.1 74)), (75, (m.1 75)), (99, (m.1 99) + 1), (100, (m876.1 100))]) (a' := [(65, (m.2 65)), (66, (m.2 66)), (67, (m.2 67)), (68, (m.2 68)), (76, (m.2 76)), (77, (m.2 77)), (78, (m.2 78)), (79, (m.2 79)), (80, (m.2 80)), (81, (m.2 81)), (82, (m.2 82)), (83, (m.2 83)), (84, (m.2 84)), (85, (m.2 85)), (86, (m.2 86)), (87, (m.2 87)), (88, (m.2 88)), (89, (m.2 89)), (90, (m.2 90)), (91, (m.2 91)), (92, (m.2 92)), (101, upI (m.2 101) (m.1 99) (m.1 7)), (102, (m.2 102)), (103, (m.2 103)), (104, (m.2 104)), (105, (m.2 105)), (106, (m.2 106)), (107, (m.2 107)), (108, (m.2 108))]) [7, 8, 9, 10, 11, 12, 100] [] rfl ⟨rfl, rfl, rfl, rfl, rfl, rfl, rfl, rfl, rfl, rfl, rfl, rfl, rfl, rfl, rfl, rfl, rfl, rfl, rfl, rfl, rfl, rfl, rfl, rfl, rfl, rfl, rfl, rfl, rfl, rfl, rfl, rfl, rfl, rfl, rfl, rfl, rfl, rfl, rfl, rfl, rfl, trivial⟩ ⟨rfl, rfl, rfl, rfl, rfl, rfl, rfl, rfl, rfl, rfl, rfl, rfl, rfl, rfl, rfl, rfl, rfl, rfl, rfl, rfl, rfl, rfl, rfl, rfl, rfl, rfl, rfl, rfl, rfl, rfl, rfl, rfl, rfl, rfl, rfl, rfl, rfl, rfl, rfl, rfl, rfl, rfl, rfl, rfl, rfl, rfl, rfl, rfl, rfl, rfl, rfl, rfl, rfl, rfl, rfl, rfl, rfl, rfl, trivial⟩ rfl rfl (by decide) (by decide) ?_
    obtain ⟨g878a, g878b⟩ := g878
    have g882 : 0 ≤ m876.1 7 ∧ m876.1 7 ≤ 330 := hT877.1 7
    have g883 : 0 ≤ m876.1 8 ∧ m876.1 8 ≤ 4000 := hT877.1 8
    have g884 : 0 ≤ m876.1 9 ∧ m876.1 9 ≤ 4000 := hT877.1 9
    have g885 : 0 ≤ m876.1 10 ∧ m876.1 10 ≤ 8 := hT877.1 10
    have g886 : (-1) ≤ m876.1 11 ∧ m876.1 11 ≤ 4000 := hT877.1 11
    have g887 : (-9223372036854775808) ≤ m876.1 12 ∧ m876.1 12 ≤ 9223372036854775807 := hT877.1 12
    have g888 : 0 ≤ m876.1 100 ∧ m876.1 100 ≤ 64 := hT877.1 100
    by_cases hf889 : (m876.1 10) = 0
    · skip
      replace h879 : (m.1 10) = 0 := h879 hf889
      replace h880 : LxP (m876.1 7) (m876.1 8) (m876.1 9) (m.1 6) (m876.1 10) := h880
      have hLx := h880
      have c890 := c881 hf889
      replace c890 : (m.1 8) + 1 ≤ (m876.1 8) := c890
      clear c881
      have u891 : (m.1 8) + 1 ≤ (m876.1 8) := by omega
      have hAgC : agr (m.2 65) (m.2 65) (m.1 28) := by first | exact agr_r _ _ | exact hAgC | exact agr_t hAgC hAg (by omega)
      have u892 : (m.1 28) ≤ (m.1 28) := by omega
      have G893 : ∀ j, 0 ≤ (upI (m.2 102) (m.1 99) tp) j ∧ (upI (m.2 102) (m.1 99) tp) j ≤ 207 := upI_rg (hT.2.1 102) ⟨by omega, by omega⟩
      refine T_iast (a' := [(65, (m.2 65)), (66, (m.2 66)), (67, (m.2 67)), (68, (m.2 68)), (76, (m.2 76)), (77, (m.2 77)), (78, (m.2 78)), (79, (m.2 79)), (80, (m.2 80)), (81, (m.2 81)), (82, (m.2 82)), (83, (m.2 83)), (84, (m.2 84)), (85, (m.2 85)), (86, (m.2 86)), (87, (m.2 87)), (88, (m.2 88)), (89, (m.2 89)), (90, (m.2 90)), (91, (m.2 91)), (92, (m.2 92)), (101, upI (m.2 101) (m.1 99) (m.1 7)), (102, upI (m.2 102) (m.1 99) tp), (103, (m.2 103)), (104, (m.2 104)), (105, (m.2 105)), (106, (m.2 106)), (107, (m.2 107)), (108, (m.2 108))]) 43 102 (m.2 102) rfl rfl rfl (by omega) (show (m.1 99) < (240 : Int) by omega) rfl rfl ?_
      refine T_gf 47 (.int (i32 (m876.1 100))) rfl rfl rfl rfl rfl rfl ?_
      refine T_sto 48 [(2, .int (i32 (m876.1 100))), (1, .int (i32 (m.1 99))), (0, .ref 189)] rfl (fun _ => rfl) ?_
      refine T_ld 49 (.ref 189) rfl (fun _ => rfl) ?_
      refine T_ld 51 (.int (i32 61)) rfl (fun _ => rfl) ?_
      refine T_call 54 232 [.ref 189, .int (i32 61)] [] rfl (fun _ => rfl) rfl (c_need w (mO m [(7, (m876.1 7)), (8, (m876.1 8)), (9, (m876.1 9)), (10, (m876.1 10)), (11, (m876.1 11)), (12, (m876.1 12)), (28, (m.1 28)), (69, (m.1 69)), (70, (m.1 70)), (71, (m.1 71)), (72, (m.1 72)), (73, (m.1 73)), (74, (m.1 74)), (75, (m.1 75)), (99, (m.1 99) + 1), (100, (m876.1 100))] [(65, (m.2 65)), (66, (m.2 66)), (67, (m.2 67)), (68, (m.2 68)), (76, (m.2 76)), (77, (m.2 77)), (78, (m.2 78)), (79, (m.2 79)), (80, (m.2 80)), (81, (m.2 81)), (82, (m.2 82)), (83, (m.2 83)), (84, (m.2 84)), (85, (m.2 85)), (86, (m.2 86)), (87, (m.2 87)), (88, (m.2 88)), (89, (m.2 89)), (90, (m.2 90)), (91, (m.2 91)), (92, (m.2 92)), (101, upI (m.2 101) (m.1 99) (m.1 7)), (102, upI (m.2 102) (m.1 99) tp), (103, (m.2 103)), (104, (m.2 104)), (105, (m.2 105)), (106, (m.2 106)), (107, (m.2 107)), (108, (m.2 108))]) c N D (by omega) (Ty_mO hT rfl rfl ⟨(hT877.1 7), (hT877.1 8), (hT877.1 9), (hT877.1 10), (hT877.1 11), (hT877.1 12), f28, f69, f70, f71, f72, f73, f74, f75, g335, (hT877.1 100), trivial⟩ ⟨(hT.2.1 65), (hT.2.1 66), (hT.2.1 67), (hT.2.1 68), (hT.2.1 76), (hT.2.1 77), (hT.2.1 78), (hT.2.1 79), (hT.2.1 80), (hT.2.1 81), (hT.2.1 82), (hT.2.1 83), (hT.2.1 84), (hT.2.1 85), (hT.2.1 86), (hT.2.1 87), (hT.2.1 88), (hT.2.1 89), (hT.2.1 90), (hT.2.1 91), (hT.2.1 92), G336, G893, (hT.2.1 103), (hT.2.1 104), (hT.2.1 105), (hT.2.1 106), (hT.2.1 107), (hT.2.1 108), trivial⟩) 61 ⟨by decide, by decide⟩ (show 1 ≤ (61 : Int) by omega) (show LxP (m876.1 7) (m876.1 8) (m876.1 9) (m.1 6) (m876.1 10) by first | exact hLx | (intro h9; exfalso; omega) | (intro h9; have h8 := hLx (by omega); omega))) (fun rr894 k895 => ?_)
      obtain ⟨y896, y898, y900, y902, y904, y906, g897, g899, g901, g903, g905, g907, h908, h909, h910, h911, rfl⟩ := k895
      refine ⟨_, _, rfl, ?_⟩
      refine T_nf2 (st' := []) (l' := [(7, y896), (8, y898), (9, y900), (10, y902), (11, y904), (12, y906), (28, (m.1 28)), (69, (m.1 69)), (70, (m.1 70)), (71, (m.1 71)), (72, (m.1 72)), (73, (m.1 73)), (74, (m.1 74)), (75, (m.1 75)), (99, (m.1 99) + 1), (100, (m876.1 100))]) (a' := [(65, (m.2 65)), (66, (m.2 66)), (67, (m.2 67)), (68, (m.2 68)), (76, (m.2 76)), (77, (m.2 77)), (78, (m.2 78)), (79, (m.2 79)), (80, (m.2 80)), (81, (m.2 81)), (82, (m.2 82)), (83, (m.2 83)), (84, (m.2 84)), (85, (m.2 85)), (86, (m.2 86)), (87, (m.2 87)), (88, (m.2 88)), (89, (m.2 89)), (90, (m.2 90)), (91, (m.2 91)), (92, (m.2 92)), (101, upI (m.2 101) (m.1 99) (m.1 7)), (102, upI (m.2 102) (m.1 99) tp), (103, (m.2 103)), (104, (m.2 104)), (105, (m.2 105)), (106, (m.2 106)), (107, (m.2 107)), (108, (m.2 108))]) [7, 8, 9, 10, 11, 12] [] rfl ⟨rfl, rfl, rfl, rfl, rfl, rfl, rfl, rfl, rfl, rfl, rfl, rfl, rfl, rfl, rfl, rfl, rfl, rfl, rfl, rfl, rfl, rfl, rfl, rfl, rfl, rfl, rfl, rfl, rfl, rfl, rfl, rfl, trivial⟩ ⟨rfl, rfl, rfl, rfl, rfl, rfl, rfl, rfl, rfl, rfl, rfl, rfl, rfl, rfl, rfl, rfl, rfl, rfl, rfl, rfl, rfl, rfl, rfl, rfl, rfl, rfl, rfl, rfl, rfl, rfl, rfl, rfl, rfl, rfl, rfl, rfl, rfl, rfl, rfl, rfl, rfl, rfl, rfl, rfl, rfl, rfl, rfl, rfl, rfl, rfl, rfl, rfl, rfl, rfl, rfl, rfl, rfl, rfl, trivial⟩ rfl rfl (by decide) (by decide) ?_
      by_cases hf912 : y902 = 0
      · skip
        subst hf912
        replace h908 : LxP y896 y898 y900 (m.1 6) (0 : Int) := h908
        have hLx := h908
        replace h909 : (m876.1 10) = 0 ∧ (m876.1 7) = (61 : Int) := h909 rfl
        replace h910 : (m876.1 8) ≤ y898 := h910
        replace h911 : (m876.1 8) + (m876.1 9) ≤ y898 := h911 rfl
        have u913 : (m.1 8) + 1 ≤ y898 := by omega
        have hAgC : agr (m.2 65) (m.2 65) (m.1 28) := by first | exact agr_r _ _ | exact hAgC | exact agr_t hAgC hAg (by omega)
        have u914 : (m.1 28) ≤ (m.1 28) := by omega
        clear g882 g883 g884 g885 g886 g887 h880 c890 u891 g903 h909 h910 h911
        refine T_ld 55 (.ref 189) rfl (fun _ => rfl) ?_
        refine T_ld 56 (.int (i32 (m.1 99))) rfl (fun _ => rfl) ?_
        refine T_ld 57 (.int (i32 (m876.1 100))) rfl (fun _ => rfl) ?_
        refine T_call 60 272 [.ref 189, .int (i32 (m.1 99)), .int (i32 (m876.1 100))] [] rfl (fun _ => rfl) rfl (c_takeWorth w (mO m [(7, y896), (8, y898), (9, y900), (10, 0), (11, y904), (12, y906), (28, (m.1 28)), (69, (m.1 69)), (70, (m.1 70)), (71, (m.1 71)), (72, (m.1 72)), (73, (m.1 73)), (74, (m.1 74)), (75, (m.1 75)), (99, (m.1 99) + 1), (100, (m876.1 100))] [(65, (m.2 65)), (66, (m.2 66)), (67, (m.2 67)), (68, (m.2 68)), (76, (m.2 76)), (77, (m.2 77)), (78, (m.2 78)), (79, (m.2 79)), (80, (m.2 80)), (81, (m.2 81)), (82, (m.2 82)), (83, (m.2 83)), (84, (m.2 84)), (85, (m.2 85)), (86, (m.2 86)), (87, (m.2 87)), (88, (m.2 88)), (89, (m.2 89)), (90, (m.2 90)), (91, (m.2 91)), (92, (m.2 92)), (101, upI (m.2 101) (m.1 99) (m.1 7)), (102, upI (m.2 102) (m.1 99) tp), (103, (m.2 103)), (104, (m.2 104)), (105, (m.2 105)), (106, (m.2 106)), (107, (m.2 107)), (108, (m.2 108))]) c N D (by omega) (Ty_mO hT rfl rfl ⟨g897, g899, g901, ⟨(by omega : (0 : Int) ≤ 0), (by omega : (0 : Int) ≤ 8)⟩, g905, g907, f28, f69, f70, f71, f72, f73, f74, f75, g335, (hT877.1 100), trivial⟩ ⟨(hT.2.1 65), (hT.2.1 66), (hT.2.1 67), (hT.2.1 68), (hT.2.1 76), (hT.2.1 77), (hT.2.1 78), (hT.2.1 79), (hT.2.1 80), (hT.2.1 81), (hT.2.1 82), (hT.2.1 83), (hT.2.1 84), (hT.2.1 85), (hT.2.1 86), (hT.2.1 87), (hT.2.1 88), (hT.2.1 89), (hT.2.1 90), (hT.2.1 91), (hT.2.1 92), G336, G893, (hT.2.1 103), (hT.2.1 104), (hT.2.1 105), (hT.2.1 106), (hT.2.1 107), (hT.2.1 108), trivial⟩) (m.1 99) (m876.1 100) (r32 (by omega) (by omega)) (r32 (by omega) (by omega)) (show LxP y896 y898 y900 (m.1 6) (0 : Int) by first | exact hLx | exact (fun _ => hLx (by omega)) | (intro h9; exfalso; omega)) (show ∀ k, (m.2 14) k + (m.2 15) k ≤ 4000 by assumption) (show ∀ k, (m.2 31) k + (m.2 32) k ≤ 4000 by assumption) (show ∀ k, (m.2 47) k + (m.2 48) k ≤ 4000 by assumption) (show 0 ≤ (m.1 99) ∧ (m.1 99) ≤ 239 by omega) (fun _ => ⟨(show PN (m.1 13) (m.1 19) (m.1 20) (m.1 21) (m.1 22) (m.1 23) (m.1 25) (m.1 26) (m.2 16) (m.2 17) by assumption), (show CN (m.2 65) (m.2 67) (m.1 28) by assumption)⟩)) (fun rr915 k916 => ?_)
        obtain ⟨m917, hT918, h919, h920, c921, rfl⟩ := k916
        refine ⟨_, _, rfl, ?_⟩
        refine T_nf2 (st' := []) (l' := [(7, (m917.1 7)), (8, (m917.1 8)), (9, (m917.1 9)), (10, (m917.1 10)), (11, (m917.1 11)), (12, (m917.1 12)), (28, (m917.1 28)), (69, (m917.1 69)), (70, (m917.1 70)), (71, (m917.1 71)), (72, (m917.1 72)), (73, (m917.1 73)), (74, (m917.1 74)), (75, (m917.1 75)), (99, (m.1 99) + 1), (100, (m876.1 100))]) (a' := [(65, (m917.2 65)), (66, (m917.2 66)), (67, (m917.2 67)), (68, (m917.2 68)), (76, (m917.2 76)), (77, (m917.2 77)), (78, (m917.2 78)), (79, (m917.2 79)), (80, (m917.2 80)), (81, (m917.2 81)), (82, (m917.2 82)), (83, (m917.2 83)), (84, (m917.2 84)), (85, (m917.2 85)), (86, (m917.2 86)), (87, (m917.2 87)), (88, (m917.2 88)), (89, (m917.2 89)), (90, (m917.2 90)), (91, (m917.2 91)), (92, (m917.2 92)), (101, upI (m.2 101) (m.1 99) (m.1 7)), (102, upI (m.2 102) (m.1 99) tp), (103, (m.2 103)), (104, (m.2 104)), (105, (m.2 105)), (106, (m.2 106)), (107, (m917.2 107)), (108, (m917.2 108))]) [7, 8, 9, 10, 11, 12, 28, 69, 70, 71, 72, 73, 74, 75] [65, 66, 67, 68, 76, 77, 78, 79, 80, 81, 82, 83, 84, 85, 86, 87, 88, 89, 90, 91, 92, 107, 108] rfl ⟨rfl, rfl, rfl, rfl, rfl, rfl, rfl, rfl, rfl, rfl, rfl, rfl, rfl, rfl, rfl, rfl, rfl, rfl, rfl, rfl, rfl, rfl, rfl, rfl, rfl, rfl, rfl, rfl, rfl, rfl, rfl, rfl, trivial⟩ ⟨rfl, rfl, rfl, rfl, rfl, rfl, rfl, rfl, rfl, rfl, rfl, rfl, rfl, rfl, rfl, rfl, rfl, rfl, rfl, rfl, rfl, rfl, rfl, rfl, rfl, rfl, rfl, rfl, rfl, rfl, rfl, rfl, rfl, rfl, rfl, rfl, rfl, rfl, rfl, rfl, rfl, rfl, rfl, rfl, rfl, rfl, rfl, rfl, rfl, rfl, rfl, rfl, rfl, rfl, rfl, rfl, rfl, rfl, rfl, rfl, rfl, rfl, rfl, rfl, trivial⟩ rfl rfl (by decide) (by decide) ?_
        have g922 : 0 ≤ m917.1 7 ∧ m917.1 7 ≤ 330 := hT918.1 7
        have g923 : 0 ≤ m917.1 8 ∧ m917.1 8 ≤ 4000 := hT918.1 8
        have g924 : 0 ≤ m917.1 9 ∧ m917.1 9 ≤ 4000 := hT918.1 9
        have g925 : 0 ≤ m917.1 10 ∧ m917.1 10 ≤ 8 := hT918.1 10
        have g926 : (-1) ≤ m917.1 11 ∧ m917.1 11 ≤ 4000 := hT918.1 11
        have g927 : (-9223372036854775808) ≤ m917.1 12 ∧ m917.1 12 ≤ 9223372036854775807 := hT918.1 12
        have g928 : 0 ≤ m917.1 28 ∧ m917.1 28 ≤ 800 := hT918.1 28
        have g929 : 0 ≤ m917.1 69 ∧ m917.1 69 ≤ 1024 := hT918.1 69
        have g930 : 0 ≤ m917.1 70 ∧ m917.1 70 ≤ 4000 := hT918.1 70
        have g931 : 0 ≤ m917.1 71 ∧ m917.1 71 ≤ 1 := hT918.1 71
        have g932 : (-9223372036854775808) ≤ m917.1 72 ∧ m917.1 72 ≤ 9223372036854775807 := hT918.1 72
        have g933 : 0 ≤ m917.1 73 ∧ m917.1 73 ≤ 60 := hT918.1 73
        have g934 : 0 ≤ m917.1 74 ∧ m917.1 74 ≤ 24 := hT918.1 74
        have g935 : 0 ≤ m917.1 75 ∧ m917.1 75 ≤ 3 := hT918.1 75
        by_cases hf936 : (m917.1 10) = 0
        · skip
          replace h919 : (0 : Int) = 0 := h919 hf936
          replace h920 : LxP (m917.1 7) (m917.1 8) (m917.1 9) (m.1 6) (m917.1 10) := h920
          have hLx := h920
          obtain ⟨c937, c938, c939, c940, c941, c942, c943⟩ := c921 hf936
          replace c937 : y898 + 1 ≤ (m917.1 8) := c937
          replace c938 : CN (m917.2 65) (m917.2 67) (m917.1 28) := c938
          have hCN := c938
          replace c939 : agr (m.2 65) (m917.2 65) (m.1 28) := c939
          have hAg := c939
          replace c940 : (m.1 28) ≤ (m917.1 28) := c940
          replace c941 : cdr (m917.2 65) (m917.1 28) ((m917.2 107) (m.1 99)) ((m917.2 108) (m.1 99)) := c941
          have hEc := c941
          replace c942 : agr (m.2 107) (m917.2 107) (m.1 99) := c942
          have hJ1 := c942
          replace c943 : agr (m.2 108) (m917.2 108) (m.1 99) := c943
          have hJ2 := c943
          clear c921
          have u944 : (m.1 8) + 1 ≤ (m917.1 8) := by omega
          have hAgC : agr (m.2 65) (m917.2 65) (m.1 28) := by first | exact agr_r _ _ | exact hAgC | exact agr_t hAgC hAg (by omega)
          have u945 : (m.1 28) ≤ (m917.1 28) := by omega
          clear g897 g899 g901 g905 g907 h908 u913 c937
          refine T_goto 229 rfl (fun _ => rfl) ?_
          have w1 : agr (m.2 101) (upI (m.2 101) (m.1 99) (m.1 7)) (m.1 99) := by first | exact agr_u (Int.le_refl _) | exact agr_r _ _
          have w2 : agr (m.2 103) (m.2 103) (m.1 99) := by first | exact agr_u (Int.le_refl _) | exact agr_r _ _
          have w3 : agr (m.2 105) (m.2 105) (m.1 99) := by first | exact hI1 | exact agr_u (Int.le_refl _) | exact agr_r _ _
          have w4 : agr (m.2 106) (m.2 106) (m.1 99) := by first | exact hI2 | exact agr_u (Int.le_refl _) | exact agr_r _ _
          have w5 : agr (m.2 107) (m917.2 107) (m.1 99) := by first | exact hJ1 | exact agr_u (Int.le_refl _) | exact agr_r _ _
          have w6 : agr (m.2 108) (m917.2 108) (m.1 99) := by first | exact hJ2 | exact agr_u (Int.le_refl _) | exact agr_r _ _
          have hR : TdR (m917.2 65) (m917.1 28) (m.1 22) (m.1 99) (upI (m.2 101) (m.1 99) (m.1 7)) (m.2 103) (m.2 105) (m.2 106) (m917.2 107) (m917.2 108) := by
            refine ⟨fun h => ?_, fun h => ?_⟩ <;> rw [upI_s] at h <;> first | exact hEc | exact ⟨hXc, by rw [upI_s]; omega⟩ | exact ⟨cdr_f hXc hAg (by omega), by rw [upI_s]; omega⟩ | omega
          have hTd2 : TdP (m917.2 65) (m917.1 28) (m.1 22) ((m.1 99) + 1) (upI (m.2 101) (m.1 99) (m.1 7)) (m.2 103) (m.2 105) (m.2 106) (m917.2 107) (m917.2 108) := TdP_add (TdP_f pTd hAgC (by omega) w1 w2 w3 w4 w5 w6) hR
          refine T_ld 230 (.ref 189) rfl (fun _ => rfl) ?_
          refine T_ld 232 (.int (i32 59)) rfl (fun _ => rfl) ?_
          refine T_call 235 232 [.ref 189, .int (i32 59)] [] rfl (fun _ => rfl) rfl (c_need w (mO m [(7, (m917.1 7)), (8, (m917.1 8)), (9, (m917.1 9)), (10, (m917.1 10)), (11, (m917.1 11)), (12, (m917.1 12)), (28, (m917.1 28)), (69, (m917.1 69)), (70, (m917.1 70)), (71, (m917.1 71)), (72, (m917.1 72)), (73, (m917.1 73)), (74, (m917.1 74)), (75, (m917.1 75)), (99, (m.1 99) + 1), (100, (m876.1 100))] [(65, (m917.2 65)), (66, (m917.2 66)), (67, (m917.2 67)), (68, (m917.2 68)), (76, (m917.2 76)), (77, (m917.2 77)), (78, (m917.2 78)), (79, (m917.2 79)), (80, (m917.2 80)), (81, (m917.2 81)), (82, (m917.2 82)), (83, (m917.2 83)), (84, (m917.2 84)), (85, (m917.2 85)), (86, (m917.2 86)), (87, (m917.2 87)), (88, (m917.2 88)), (89, (m917.2 89)), (90, (m917.2 90)), (91, (m917.2 91)), (92, (m917.2 92)), (101, upI (m.2 101) (m.1 99) (m.1 7)), (102, upI (m.2 102) (m.1 99) tp), (103, (m.2 103)), (104, (m.2 104)), (105, (m.2 105)), (106, (m.2 106)), (107, (m917.2 107)), (108, (m917.2 108))]) c N D (by omega) (Ty_mO hT rfl rfl ⟨(hT918.1 7), (hT918.1 8), (hT918.1 9), (hT918.1 10), (hT918.1 11), (hT918.1 12), (hT918.1 28), (hT918.1 69), (hT918.1 70), (hT918.1 71), (hT918.1 72), (hT918.1 73), (hT918.1 74), (hT918.1 75), g335, (hT877.1 100), trivial⟩ ⟨(hT918.2.1 65), (hT918.2.1 66), (hT918.2.1 67), (hT918.2.1 68), (hT918.2.1 76), (hT918.2.1 77), (hT918.2.1 78), (hT918.2.1 79), (hT918.2.1 80), (hT918.2.1 81), (hT918.2.1 82), (hT918.2.1 83), (hT918.2.1 84), (hT918.2.1 85), (hT918.2.1 86), (hT918.2.1 87), (hT918.2.1 88), (hT918.2.1 89), (hT918.2.1 90), (hT918.2.1 91), (hT918.2.1 92), G336, G893, (hT.2.1 103), (hT.2.1 104), (hT.2.1 105), (hT.2.1 106), (hT918.2.1 107), (hT918.2.1 108), trivial⟩) 59 ⟨by decide, by decide⟩ (show 1 ≤ (59 : Int) by omega) (show LxP (m917.1 7) (m917.1 8) (m917.1 9) (m.1 6) (m917.1 10) by first | exact hLx | (intro h9; exfalso; omega) | (intro h9; have h8 := hLx (by omega); omega))) (fun rr946 k947 => ?_)
          obtain ⟨y948, y950, y952, y954, y956, y958, g949, g951, g953, g955, g957, g959, h960, h961, h962, h963, rfl⟩ := k947
          refine ⟨_, _, rfl, ?_⟩
          refine T_nf2 (st' := []) (l' := [(7, y948), (8, y950), (9, y952), (10, y954), (11, y956), (12, y958), (28, (m917.1 28)), (69, (m917.1 69)), (70, (m917.1 70)), (71, (m917.1 71)), (72, (m917.1 72)), (73, (m917.1 73)), (74, (m917.1 74)), (75, (m917.1 75)), (99, (m.1 99) + 1), (100, (m876.1 100))]) (a' := [(65, (m917.2 65)), (66, (m917.2 66)), (67, (m917.2 67)), (68, (m917.2 68)), (76, (m917.2 76)), (77, (m917.2 77)), (78, (m917.2 78)), (79, (m917.2 79)), (80, (m917.2 80)), (81, (m917.2 81)), (82, (m917.2 82)), (83, (m917.2 83)), (84, (m917.2 84)), (85, (m917.2 85)), (86, (m917.2 86)), (87, (m917.2 87)), (88, (m917.2 88)), (89, (m917.2 89)), (90, (m917.2 90)), (91, (m917.2 91)), (92, (m917.2 92)), (101, upI (m.2 101) (m.1 99) (m.1 7)), (102, upI (m.2 102) (m.1 99) tp), (103, (m.2 103)), (104, (m.2 104)), (105, (m.2 105)), (106, (m.2 106)), (107, (m917.2 107)), (108, (m917.2 108))]) [7, 8, 9, 10, 11, 12] [] rfl ⟨rfl, rfl, rfl, rfl, rfl, rfl, rfl, rfl, rfl, rfl, rfl, rfl, rfl, rfl, rfl, rfl, rfl, rfl, rfl, rfl, rfl, rfl, rfl, rfl, rfl, rfl, rfl, rfl, rfl, rfl, rfl, rfl, trivial⟩ ⟨rfl, rfl, rfl, rfl, rfl, rfl, rfl, rfl, rfl, rfl, rfl, rfl, rfl, rfl, rfl, rfl, rfl, rfl, rfl, rfl, rfl, rfl, rfl, rfl, rfl, rfl, rfl, rfl, rfl, rfl, rfl, rfl, rfl, rfl, rfl, rfl, rfl, rfl, rfl, rfl, rfl, rfl, rfl, rfl, rfl, rfl, rfl, rfl, rfl, rfl, rfl, rfl, rfl, rfl, rfl, rfl, rfl, rfl, trivial⟩ rfl rfl (by decide) (by decide) ?_
          by_cases hf964 : y954 = 0
          · skip
            subst hf964
            replace h960 : LxP y948 y950 y952 (m.1 6) (0 : Int) := h960
            have hLx := h960
            replace h961 : (m917.1 10) = 0 ∧ (m917.1 7) = (59 : Int) := h961 rfl
            replace h962 : (m917.1 8) ≤ y950 := h962
            replace h963 : (m917.1 8) + (m917.1 9) ≤ y950 := h963 rfl
            have u965 : (m.1 8) + 1 ≤ y950 := by omega
            have hAgC : agr (m.2 65) (m917.2 65) (m.1 28) := by first | exact agr_r _ _ | exact hAgC | exact agr_t hAgC hAg (by omega)
            have u966 : (m.1 28) ≤ (m917.1 28) := by omega
            clear g922 g923 g924 g925 g926 g927 h920 u944 g955 h961 h962 h963
            refine T_ret rfl (fun _ => rfl) ?_
            exact ⟨(mO m [(7, y948), (8, y950), (9, y952), (10, 0), (11, y956), (12, y958), (28, (m917.1 28)), (69, (m917.1 69)), (70, (m917.1 70)), (71, (m917.1 71)), (72, (m917.1 72)), (73, (m917.1 73)), (74, (m917.1 74)), (75, (m917.1 75)), (99, (m.1 99) + 1), (100, (m876.1 100))] [(65, (m917.2 65)), (66, (m917.2 66)), (67, (m917.2 67)), (68, (m917.2 68)), (76, (m917.2 76)), (77, (m917.2 77)), (78, (m917.2 78)), (79, (m917.2 79)), (80, (m917.2 80)), (81, (m917.2 81)), (82, (m917.2 82)), (83, (m917.2 83)), (84, (m917.2 84)), (85, (m917.2 85)), (86, (m917.2 86)), (87, (m917.2 87)), (88, (m917.2 88)), (89, (m917.2 89)), (90, (m917.2 90)), (91, (m917.2 91)), (92, (m917.2 92)), (101, upI (m.2 101) (m.1 99) (m.1 7)), (102, upI (m.2 102) (m.1 99) tp), (103, (m.2 103)), (104, (m.2 104)), (105, (m.2 105)), (106, (m.2 106)), (107, (m917.2 107)), (108, (m917.2 108))]), (Ty_mO hT rfl rfl ⟨g949, g951, g953, ⟨(by omega : (0 : Int) ≤ 0), (by omega : (0 : Int) ≤ 8)⟩, g957, g959, (hT918.1 28), (hT918.1 69), (hT918.1 70), (hT918.1 71), (hT918.1 72), (hT918.1 73), (hT918.1 74), (hT918.1 75), g335, (hT877.1 100), trivial⟩ ⟨(hT918.2.1 65), (hT918.2.1 66), (hT918.2.1 67), (hT918.2.1 68), (hT918.2.1 76), (hT918.2.1 77), (hT918.2.1 78), (hT918.2.1 79), (hT918.2.1 80), (hT918.2.1 81), (hT918.2.1 82), (hT918.2.1 83), (hT918.2.1 84), (hT918.2.1 85), (hT918.2.1 86), (hT918.2.1 87), (hT918.2.1 88), (hT918.2.1 89), (hT918.2.1 90), (hT918.2.1 91), (hT918.2.1 92), G336, G893, (hT.2.1 103), (hT.2.1 104), (hT.2.1 105), (hT.2.1 106), (hT918.2.1 107), (hT918.2.1 108), trivial⟩), (show (0 : Int) = 0 → (m.1 10) = 0 by omega), (show LxP y948 y950 y952 (m.1 6) (0 : Int) by first | (first | exact hLx | exact (fun _ => hLx (by omega)) | (intro h9; exfalso; omega)) | (exfalso; omega)), (show ((m.1 99) + 1) = (m.1 99) + 1 by omega), (fun _ => ⟨(show (m.1 8) + 1 ≤ y950 by omega), (show (m.1 28) ≤ (m917.1 28) by omega), (show CN (m917.2 65) (m917.2 67) (m917.1 28) by first | (exact hCN) | (exfalso; omega)), (show agr (m.2 65) (m917.2 65) (m.1 28) by first | (exact hAgC) | (exfalso; omega)), (show TdP (m917.2 65) (m917.1 28) (m.1 22) ((m.1 99) + 1) (upI (m.2 101) (m.1 99) (m.1 7)) (m.2 103) (m.2 105) (m.2 106) (m917.2 107) (m917.2 108) by first | (exact hTd2) | (exfalso; omega))⟩), rfl⟩
          · skip
            replace h960 : LxP y948 y950 y952 (m.1 6) y954 := h960
            have hLx := h960
            clear h961
            replace h962 : (m917.1 8) ≤ y950 := h962
            clear h963
            have hf967 : 1 ≤ y954 := by omega
            clear g922 g923 g924 g925 g926 g927 h920 u944 h962
            refine Tm_lv (a := [(0, .ref 189), (1, .int (i32 (m.1 99)))]) rfl rfl ⟨rfl, rfl, trivial⟩ ?_
            exact J235_28 (mO m [(7, y948), (8, y950), (9, y952), (10, y954), (11, y956), (12, y958), (28, (m917.1 28)), (69, (m917.1 69)), (70, (m917.1 70)), (71, (m917.1 71)), (72, (m917.1 72)), (73, (m917.1 73)), (74, (m917.1 74)), (75, (m917.1 75)), (99, (m.1 99) + 1), (100, (m876.1 100))] [(65, (m917.2 65)), (66, (m917.2 66)), (67, (m917.2 67)), (68, (m917.2 68)), (76, (m917.2 76)), (77, (m917.2 77)), (78, (m917.2 78)), (79, (m917.2 79)), (80, (m917.2 80)), (81, (m917.2 81)), (82, (m917.2 82)), (83, (m917.2 83)), (84, (m917.2 84)), (85, (m917.2 85)), (86, (m917.2 86)), (87, (m917.2 87)), (88, (m917.2 88)), (89, (m917.2 89)), (90, (m917.2 90)), (91, (m917.2 91)), (92, (m917.2 92)), (101, upI (m.2 101) (m.1 99) (m.1 7)), (102, upI (m.2 102) (m.1 99) tp), (103, (m.2 103)), (104, (m.2 104)), (105, (m.2 105)), (106, (m.2 106)), (107, (m917.2 107)), (108, (m917.2 108))]) (Ty_mO hT rfl rfl ⟨g949, g951, g953, g955, g957, g959, (hT918.1 28), (hT918.1 69), (hT918.1 70), (hT918.1 71), (hT918.1 72), (hT918.1 73), (hT918.1 74), (hT918.1 75), g335, (hT877.1 100), trivial⟩ ⟨(hT918.2.1 65), (hT918.2.1 66), (hT918.2.1 67), (hT918.2.1 68), (hT918.2.1 76), (hT918.2.1 77), (hT918.2.1 78), (hT918.2.1 79), (hT918.2.1 80), (hT918.2.1 81), (hT918.2.1 82), (hT918.2.1 83), (hT918.2.1 84), (hT918.2.1 85), (hT918.2.1 86), (hT918.2.1 87), (hT918.2.1 88), (hT918.2.1 89), (hT918.2.1 90), (hT918.2.1 91), (hT918.2.1 92), G336, G893, (hT.2.1 103), (hT.2.1 104), (hT.2.1 105), (hT.2.1 106), (hT918.2.1 107), (hT918.2.1 108), trivial⟩) (show 1 ≤ y954 by omega) (show y954 ≤ 8 by omega) (show 0 ≤ ((m.1 99) + 1) ∧ ((m.1 99) + 1) ≤ 240 by omega) (show 0 ≤ (m.1 99) ∧ (m.1 99) ≤ 240 by omega)
        · skip
          clear c921
          clear h919
          replace h920 : LxP (m917.1 7) (m917.1 8) (m917.1 9) (m.1 6) (m917.1 10) := h920
          have hLx := h920
          have hf968 : 1 ≤ (m917.1 10) := by omega
          clear g897 g899 g901 g905 g907 h908 u913
          refine Tm_lv (a := [(0, .ref 189), (1, .int (i32 (m.1 99))), (2, .int (i32 (m876.1 100)))]) rfl rfl ⟨rfl, rfl, rfl, trivial⟩ ?_
          exact J60_272 (m876.1 100) (mO m [(7, (m917.1 7)), (8, (m917.1 8)), (9, (m917.1 9)), (10, (m917.1 10)), (11, (m917.1 11)), (12, (m917.1 12)), (28, (m917.1 28)), (69, (m917.1 69)), (70, (m917.1 70)), (71, (m917.1 71)), (72, (m917.1 72)), (73, (m917.1 73)), (74, (m917.1 74)), (75, (m917.1 75)), (99, (m.1 99) + 1), (100, (m876.1 100))] [(65, (m917.2 65)), (66, (m917.2 66)), (67, (m917.2 67)), (68, (m917.2 68)), (76, (m917.2 76)), (77, (m917.2 77)), (78, (m917.2 78)), (79, (m917.2 79)), (80, (m917.2 80)), (81, (m917.2 81)), (82, (m917.2 82)), (83, (m917.2 83)), (84, (m917.2 84)), (85, (m917.2 85)), (86, (m917.2 86)), (87, (m917.2 87)), (88, (m917.2 88)), (89, (m917.2 89)), (90, (m917.2 90)), (91, (m917.2 91)), (92, (m917.2 92)), (101, upI (m.2 101) (m.1 99) (m.1 7)), (102, upI (m.2 102) (m.1 99) tp), (103, (m.2 103)), (104, (m.2 104)), (105, (m.2 105)), (106, (m.2 106)), (107, (m917.2 107)), (108, (m917.2 108))]) (r32 (by omega) (by omega)) (Ty_mO hT rfl rfl ⟨(hT918.1 7), (hT918.1 8), (hT918.1 9), (hT918.1 10), (hT918.1 11), (hT918.1 12), (hT918.1 28), (hT918.1 69), (hT918.1 70), (hT918.1 71), (hT918.1 72), (hT918.1 73), (hT918.1 74), (hT918.1 75), g335, (hT877.1 100), trivial⟩ ⟨(hT918.2.1 65), (hT918.2.1 66), (hT918.2.1 67), (hT918.2.1 68), (hT918.2.1 76), (hT918.2.1 77), (hT918.2.1 78), (hT918.2.1 79), (hT918.2.1 80), (hT918.2.1 81), (hT918.2.1 82), (hT918.2.1 83), (hT918.2.1 84), (hT918.2.1 85), (hT918.2.1 86), (hT918.2.1 87), (hT918.2.1 88), (hT918.2.1 89), (hT918.2.1 90), (hT918.2.1 91), (hT918.2.1 92), G336, G893, (hT.2.1 103), (hT.2.1 104), (hT.2.1 105), (hT.2.1 106), (hT918.2.1 107), (hT918.2.1 108), trivial⟩) (show 0 ≤ (m876.1 100) by omega) (show (m876.1 100) ≤ 64 by omega) (show 1 ≤ (m917.1 10) by omega) (show (m917.1 10) ≤ 8 by omega) (show 0 ≤ ((m.1 99) + 1) ∧ ((m.1 99) + 1) ≤ 240 by omega) (show 0 ≤ (m.1 99) ∧ (m.1 99) ≤ 240 by omega)
      · skip
        replace h908 : LxP y896 y898 y900 (m.1 6) y902 := h908
        have hLx := h908
        clear h909
        replace h910 : (m876.1 8) ≤ y898 := h910
        clear h911
        have hf969 : 1 ≤ y902 := by omega
        clear g882 g883 g884 g885 g886 g887 h880 c890 u891 h910
        refine Tm_lv (a := [(0, .ref 189), (1, .int (i32 (m.1 99))), (2, .int (i32 (m876.1 100)))]) rfl rfl ⟨rfl, rfl, rfl, trivial⟩ ?_
        exact J54_303 (m876.1 100) (mO m [(7, y896), (8, y898), (9, y900), (10, y902), (11, y904), (12, y906), (28, (m.1 28)), (69, (m.1 69)), (70, (m.1 70)), (71, (m.1 71)), (72, (m.1 72)), (73, (m.1 73)), (74, (m.1 74)), (75, (m.1 75)), (99, (m.1 99) + 1), (100, (m876.1 100))] [(65, (m.2 65)), (66, (m.2 66)), (67, (m.2 67)), (68, (m.2 68)), (76, (m.2 76)), (77, (m.2 77)), (78, (m.2 78)), (79, (m.2 79)), (80, (m.2 80)), (81, (m.2 81)), (82, (m.2 82)), (83, (m.2 83)), (84, (m.2 84)), (85, (m.2 85)), (86, (m.2 86)), (87, (m.2 87)), (88, (m.2 88)), (89, (m.2 89)), (90, (m.2 90)), (91, (m.2 91)), (92, (m.2 92)), (101, upI (m.2 101) (m.1 99) (m.1 7)), (102, upI (m.2 102) (m.1 99) tp), (103, (m.2 103)), (104, (m.2 104)), (105, (m.2 105)), (106, (m.2 106)), (107, (m.2 107)), (108, (m.2 108))]) (r32 (by omega) (by omega)) (Ty_mO hT rfl rfl ⟨g897, g899, g901, g903, g905, g907, f28, f69, f70, f71, f72, f73, f74, f75, g335, (hT877.1 100), trivial⟩ ⟨(hT.2.1 65), (hT.2.1 66), (hT.2.1 67), (hT.2.1 68), (hT.2.1 76), (hT.2.1 77), (hT.2.1 78), (hT.2.1 79), (hT.2.1 80), (hT.2.1 81), (hT.2.1 82), (hT.2.1 83), (hT.2.1 84), (hT.2.1 85), (hT.2.1 86), (hT.2.1 87), (hT.2.1 88), (hT.2.1 89), (hT.2.1 90), (hT.2.1 91), (hT.2.1 92), G336, G893, (hT.2.1 103), (hT.2.1 104), (hT.2.1 105), (hT.2.1 106), (hT.2.1 107), (hT.2.1 108), trivial⟩) (show 0 ≤ (m876.1 100) by omega) (show (m876.1 100) ≤ 64 by omega) (show 1 ≤ y902 by omega) (show y902 ≤ 8 by omega) (show 0 ≤ ((m.1 99) + 1) ∧ ((m.1 99) + 1) ≤ 240 by omega) (show 0 ≤ (m.1 99) ∧ (m.1 99) ≤ 240 by omega)
    · skip
      clear c881
      clear h879
      replace h880 : LxP (m876.1 7) (m876.1 8) (m876.1 9) (m.1 6) (m876.1 10) := h880
      have hLx := h880
      have hf970 : 1 ≤ (m876.1 10) := by omega
      have G971 : ∀ j, 0 ≤ (upI (m.2 102) (m.1 99) tp) j ∧ (upI (m.2 102) (m.1 99) tp) j ≤ 207 := upI_rg (hT.2.1 102) ⟨by omega, by omega⟩
      refine T_iast (a' := [(65, (m.2 65)), (66, (m.2 66)), (67, (m.2 67)), (68, (m.2 68)), (76, (m.2 76)), (77, (m.2 77)), (78, (m.2 78)), (79, (m.2 79)), (80, (m.2 80)), (81, (m.2 81)), (82, (m.2 82)), (83, (m.2 83)), (84, (m.2 84)), (85, (m.2 85)), (86, (m.2 86)), (87, (m.2 87)), (88, (m.2 88)), (89, (m.2 89)), (90, (m.2 90)), (91, (m.2 91)), (92, (m.2 92)), (101, upI (m.2 101) (m.1 99) (m.1 7)), (102, upI (m.2 102) (m.1 99) tp), (103, (m.2 103)), (104, (m.2 104)), (105, (m.2 105)), (106, (m.2 106)), (107, (m.2 107)), (108, (m.2 108))]) 43 102 (m.2 102) rfl rfl rfl (by omega) (show (m.1 99) < (240 : Int) by omega) rfl rfl ?_
      refine T_gf 47 (.int (i32 (m876.1 100))) rfl rfl rfl rfl rfl rfl ?_
      refine T_sto 48 [(2, .int (i32 (m876.1 100))), (1, .int (i32 (m.1 99))), (0, .ref 189)] rfl (fun _ => rfl) ?_
      refine T_ld 49 (.ref 189) rfl (fun _ => rfl) ?_
      refine T_ld 51 (.int (i32 61)) rfl (fun _ => rfl) ?_
      refine T_call 54 232 [.ref 189, .int (i32 61)] [] rfl (fun _ => rfl) rfl (c_need w (mO m [(7, (m876.1 7)), (8, (m876.1 8)), (9, (m876.1 9)), (10, (m876.1 10)), (11, (m876.1 11)), (12, (m876.1 12)), (28, (m.1 28)), (69, (m.1 69)), (70, (m.1 70)), (71, (m.1 71)), (72, (m.1 72)), (73, (m.1 73)), (74, (m.1 74)), (75, (m.1 75)), (99, (m.1 99) + 1), (100, (m876.1 100))] [(65, (m.2 65)), (66, (m.2 66)), (67, (m.2 67)), (68, (m.2 68)), (76, (m.2 76)), (77, (m.2 77)), (78, (m.2 78)), (79, (m.2 79)), (80, (m.2 80)), (81, (m.2 81)), (82, (m.2 82)), (83, (m.2 83)), (84, (m.2 84)), (85, (m.2 85)), (86, (m.2 86)), (87, (m.2 87)), (88, (m.2 88)), (89, (m.2 89)), (90, (m.2 90)), (91, (m.2 91)), (92, (m.2 92)), (101, upI (m.2 101) (m.1 99) (m.1 7)), (102, upI (m.2 102) (m.1 99) tp), (103, (m.2 103)), (104, (m.2 104)), (105, (m.2 105)), (106, (m.2 106)), (107, (m.2 107)), (108, (m.2 108))]) c N D (by omega) (Ty_mO hT rfl rfl ⟨(hT877.1 7), (hT877.1 8), (hT877.1 9), (hT877.1 10), (hT877.1 11), (hT877.1 12), f28, f69, f70, f71, f72, f73, f74, f75, g335, (hT877.1 100), trivial⟩ ⟨(hT.2.1 65), (hT.2.1 66), (hT.2.1 67), (hT.2.1 68), (hT.2.1 76), (hT.2.1 77), (hT.2.1 78), (hT.2.1 79), (hT.2.1 80), (hT.2.1 81), (hT.2.1 82), (hT.2.1 83), (hT.2.1 84), (hT.2.1 85), (hT.2.1 86), (hT.2.1 87), (hT.2.1 88), (hT.2.1 89), (hT.2.1 90), (hT.2.1 91), (hT.2.1 92), G336, G971, (hT.2.1 103), (hT.2.1 104), (hT.2.1 105), (hT.2.1 106), (hT.2.1 107), (hT.2.1 108), trivial⟩) 61 ⟨by decide, by decide⟩ (show 1 ≤ (61 : Int) by omega) (show LxP (m876.1 7) (m876.1 8) (m876.1 9) (m.1 6) (m876.1 10) by first | exact hLx | (intro h9; exfalso; omega) | (intro h9; have h8 := hLx (by omega); omega))) (fun rr972 k973 => ?_)
      obtain ⟨y974, y976, y978, y980, y982, y984, g975, g977, g979, g981, g983, g985, h986, h987, h988, h989, rfl⟩ := k973
      refine ⟨_, _, rfl, ?_⟩
      refine T_nf2 (st' := []) (l' := [(7, y974), (8, y976), (9, y978), (10, y980), (11, y982), (12, y984), (28, (m.1 28)), (69, (m.1 69)), (70, (m.1 70)), (71, (m.1 71)), (72, (m.1 72)), (73, (m.1 73)), (74, (m.1 74)), (75, (m.1 75)), (99, (m.1 99) + 1), (100, (m876.1 100))]) (a' := [(65, (m.2 65)), (66, (m.2 66)), (67, (m.2 67)), (68, (m.2 68)), (76, (m.2 76)), (77, (m.2 77)), (78, (m.2 78)), (79, (m.2 79)), (80, (m.2 80)), (81, (m.2 81)), (82, (m.2 82)), (83, (m.2 83)), (84, (m.2 84)), (85, (m.2 85)), (86, (m.2 86)), (87, (m.2 87)), (88, (m.2 88)), (89, (m.2 89)), (90, (m.2 90)), (91, (m.2 91)), (92, (m.2 92)), (101, upI (m.2 101) (m.1 99) (m.1 7)), (102, upI (m.2 102) (m.1 99) tp), (103, (m.2 103)), (104, (m.2 104)), (105, (m.2 105)), (106, (m.2 106)), (107, (m.2 107)), (108, (m.2 108))]) [7, 8, 9, 10, 11, 12] [] rfl ⟨rfl, rfl, rfl, rfl, rfl, rfl, rfl, rfl, rfl, rfl, rfl, rfl, rfl, rfl, rfl, rfl, rfl, rfl, rfl, rfl, rfl, rfl, rfl, rfl, rfl, rfl, rfl, rfl, rfl, rfl, rfl, rfl, trivial⟩ ⟨rfl, rfl, rfl, rfl, rfl, rfl, rfl, rfl, rfl, rfl, rfl, rfl, rfl, rfl, rfl, rfl, rfl, rfl, rfl, rfl, rfl, rfl, rfl, rfl, rfl, rfl, rfl, rfl, rfl, rfl, rfl, rfl, rfl, rfl, rfl, rfl, rfl, rfl, rfl, rfl, rfl, rfl, rfl, rfl, rfl, rfl, rfl, rfl, rfl, rfl, rfl, rfl, rfl, rfl, rfl, rfl, rfl, rfl, trivial⟩ rfl rfl (by decide) (by decide) ?_
      replace h986 : LxP y974 y976 y978 (m.1 6) y980 := h986
      replace h987 : y980 = 0 → (m876.1 10) = 0 ∧ (m876.1 7) = (61 : Int) := h987
      replace h988 : (m876.1 8) ≤ y976 := h988
      replace h989 : y980 = 0 → (m876.1 8) + (m876.1 9) ≤ y976 := h989
      have hf990 : 1 ≤ y980 := by omega
      clear h987
      clear h989
      have hLx := h986
      clear g882 g883 g884 g885 g886 g887 h880 hf970 h988
      refine Tm_lv (a := [(0, .ref 189), (1, .int (i32 (m.1 99))), (2, .int (i32 (m876.1 100)))]) rfl rfl ⟨rfl, rfl, rfl, trivial⟩ ?_
      exact J54_303 (m876.1 100) (mO m [(7, y974), (8, y976), (9, y978), (10, y980), (11, y982), (12, y984), (28, (m.1 28)), (69, (m.1 69)), (70, (m.1 70)), (71, (m.1 71)), (72, (m.1 72)), (73, (m.1 73)), (74, (m.1 74)), (75, (m.1 75)), (99, (m.1 99) + 1), (100, (m876.1 100))] [(65, (m.2 65)), (66, (m.2 66)), (67, (m.2 67)), (68, (m.2 68)), (76, (m.2 76)), (77, (m.2 77)), (78, (m.2 78)), (79, (m.2 79)), (80, (m.2 80)), (81, (m.2 81)), (82, (m.2 82)), (83, (m.2 83)), (84, (m.2 84)), (85, (m.2 85)), (86, (m.2 86)), (87, (m.2 87)), (88, (m.2 88)), (89, (m.2 89)), (90, (m.2 90)), (91, (m.2 91)), (92, (m.2 92)), (101, upI (m.2 101) (m.1 99) (m.1 7)), (102, upI (m.2 102) (m.1 99) tp), (103, (m.2 103)), (104, (m.2 104)), (105, (m.2 105)), (106, (m.2 106)), (107, (m.2 107)), (108, (m.2 108))]) (r32 (by omega) (by omega)) (Ty_mO hT rfl rfl ⟨g975, g977, g979, g981, g983, g985, f28, f69, f70, f71, f72, f73, f74, f75, g335, (hT877.1 100), trivial⟩ ⟨(hT.2.1 65), (hT.2.1 66), (hT.2.1 67), (hT.2.1 68), (hT.2.1 76), (hT.2.1 77), (hT.2.1 78), (hT.2.1 79), (hT.2.1 80), (hT.2.1 81), (hT.2.1 82), (hT.2.1 83), (hT.2.1 84), (hT.2.1 85), (hT.2.1 86), (hT.2.1 87), (hT.2.1 88), (hT.2.1 89), (hT.2.1 90), (hT.2.1 91), (hT.2.1 92), G336, G971, (hT.2.1 103), (hT.2.1 104), (hT.2.1 105), (hT.2.1 106), (hT.2.1 107), (hT.2.1 108), trivial⟩) (show 0 ≤ (m876.1 100) by omega) (show (m876.1 100) ≤ 64 by omega) (show 1 ≤ y980 by omega) (show y980 ≤ 8 by omega) (show 0 ≤ ((m.1 99) + 1) ∧ ((m.1 99) + 1) ≤ 240 by omega) (show 0 ≤ (m.1 99) ∧ (m.1 99) ≤ 240 by omega)
