def Q_pw_out (m : mR) (c : Nat → Option am_C) (N : Nat) (i : Int) (k : Int) : ag_Re af_T → Prop := fun R => (∃ (r : Int), ((-2147483648) ≤ r ∧ r ≤ 2147483647) ∧ R = (.inl (some (.int (i32 r))), (khp m c, N), 0, 0))
set_option maxHeartbeats 3000000 in
theorem c_pw_out (w : wX) (m : mR) (c : Nat → Option am_C) (N D : Nat) (hD : 2 ≤ D) (hT : KTy m) (i : Int) (k : Int) (qi : R32 i) (qk : R32 k) : TC w D 34 [.ref 0, .int (i32 i), .int (i32 k)] (khp m c, N) (Q_pw_out m c N i k) := by
  obtain ⟨D, rfl⟩ : ∃ k, D = k + 1 := ⟨D - 1, by omega⟩
  obtain ⟨qia, qib⟩ := id qi
  obtain ⟨qka, qkb⟩ := id qk
  refine Tc_of rfl ?_
  rw [show (khp m c, N) = (khp (mO m [] []) c, N) from by rw [mO_nil m]]
  show TT w D pm_34 (0, [(0, .ref 0), (1, .int (i32 i)), (2, .int (i32 k))], [], (khp (mO m [] []) c, N), 0, 0) (Q_pw_out m c N i k)
  refine T_ld 1 (.ref 0) rfl (fun _ => rfl) ?_
  refine K_gf 4 (.ref 185) rfl rfl kd_0 rfl rfl rfl ?_
  refine T_ld 5 (.int (i32 i)) rfl (fun _ => rfl) ?_
  refine T_callx 8 35 [.ref 185, .int (i32 i)] [] rfl (fun _ => rfl) rfl rfl (c_pi_goneOut w (mO m [] []) c N D (by omega) hT i (r32 (by omega) (by omega))) (fun rr1 k2 => ?_)
  rcases k2 with rfl | ⟨x3, ⟨g4a, g4b⟩, ok5, rfl⟩
  · skip
    refine Or.inl ⟨_, _, _, _, rfl, ?_⟩
    refine T_ns (st' := [.null]) rfl ?_
    refine T_sto 9 [(3, .null), (0, .ref 0), (1, .int (i32 i)), (2, .int (i32 k))] rfl (fun _ => rfl) ?_
    refine T_ld 10 (.null) rfl (fun _ => rfl) ?_
    refine T_pop 13 rfl (fun _ => rfl) ?_
    refine T_ld 14 (.int (i32 (-1))) rfl (fun _ => rfl) ?_
    refine T_ret rfl (fun _ => rfl) ?_
    exact ⟨(-1), ⟨by omega, by omega⟩, rfl⟩
  · skip
    have ok6 : OKr m x3 := OKr_c rfl.symm rfl.symm ok5
    refine Or.inl ⟨_, _, _, _, rfl, ?_⟩
    refine T_ns (st' := [.ref (obq (m.2 107) x3)]) rfl ?_
    refine T_sto 9 [(3, .ref (obq (m.2 107) x3)), (0, .ref 0), (1, .int (i32 i)), (2, .int (i32 k))] rfl (fun _ => rfl) ?_
    refine T_ld 10 (.ref (obq (m.2 107) x3)) rfl (fun _ => rfl) ?_
    refine T_pop 15 rfl (fun _ => rfl) ?_
    refine T_ld 16 (.ref (obq (m.2 107) x3)) rfl (fun _ => rfl) ?_
    refine T_callx 19 36 [.ref (obq (m.2 107) x3)] [] rfl (inv_vt (args := []) (obe_c rfl (khp_o0 _ ok6)) rfl rfl rfl) rfl rfl (c_op_isSent w (mO m [] []) c N D (by omega) hT x3 (r32 (by omega) (by omega)) ok6) (fun rr7 k8 => ?_)
    obtain ⟨x9, g10, h11, rfl⟩ := k8
    refine Or.inl ⟨_, _, _, _, rfl, ?_⟩
    refine T_ns (st' := [.int (i32 x9)]) rfl ?_
    obtain ⟨g10a, g10b⟩ := g10
    replace h11 : x9 = 1 → (m.2 91) x3 = 0 := h11
    refine T_sto 21 [(4, .int (i32 x9)), (3, .ref (obq (m.2 107) x3)), (0, .ref 0), (1, .int (i32 i)), (2, .int (i32 k))] rfl (fun _ => rfl) ?_
    refine T_ld 22 (.int (i32 k)) rfl (fun _ => rfl) ?_
    by_cases h12 : k = 0
    · skip
      refine T_cast 0 h12 ?_
      refine T_pop 56 rfl (fun _ => rfl) ?_
      refine T_ld 57 (.ref (obq (m.2 107) x3)) rfl (fun _ => rfl) ?_
      refine K_goi 60 91 (m.2 91) rfl rfl ok6 rfl rfl rfl ?_
      have e13 : 0 ≤ m.2 91 x3 ∧ m.2 91 x3 ≤ 3 := hT.2.1 91 x3
      refine T_ret rfl (fun _ => rfl) ?_
      exact ⟨(m.2 91) x3, ⟨by omega, by omega⟩, rfl⟩
    by_cases h14 : k = 1
    · skip
      refine T_cast 1 h14 ?_
      refine T_pop 61 rfl (fun _ => rfl) ?_
      refine T_ld 62 (.ref (obq (m.2 107) x3)) rfl (fun _ => rfl) ?_
      refine K_goi 65 98 (m.2 98) rfl rfl ok6 rfl rfl rfl ?_
      have e15 : 0 ≤ m.2 98 x3 ∧ m.2 98 x3 ≤ 2 := hT.2.1 98 x3
      refine T_ret rfl (fun _ => rfl) ?_
      exact ⟨(m.2 98) x3, ⟨by omega, by omega⟩, rfl⟩
    by_cases h16 : k = 2
    · skip
      refine T_cast 2 h16 ?_
      refine T_pop 66 rfl (fun _ => rfl) ?_
      refine T_ld 68 (.int (i32 x9)) rfl (fun _ => rfl) ?_
      refine T_if 83 71 rfl rfl rfl (r32 (by omega) (by omega)) (fun (h17 : x9 = 0) => ?_) (fun (h17 : ¬ (x9 = 0)) => ?_)
      · skip
        refine T_ld 84 (.int (i32 (-1))) rfl (fun _ => rfl) ?_
        refine T_ret rfl (fun _ => rfl) ?_
        exact ⟨(-1), ⟨by omega, by omega⟩, rfl⟩
      · skip
        refine T_ld 72 (.ref (obq (m.2 107) x3)) rfl (fun _ => rfl) ?_
        refine K_gor 75 rfl rfl ok6 rfl rfl ?_
        refine T_ld 78 (.int (i32 206)) rfl (fun _ => rfl) ?_
        refine K_lalo 79 1 (m.2 101) rfl rfl rfl ok6 rfl (by omega) (show 206 < (221 : Int) by omega) rfl ?_
        have e18 : (-9223372036854775808) ≤ m.2 101 (65536 * x3 + 206) ∧ m.2 101 (65536 * x3 + 206) ≤ 9223372036854775807 := hT.2.1 101 (65536 * x3 + 206)
        refine T_l2i 80 rfl rfl ?_
        refine T_inm (fun z19 h20 => ?_)
        obtain ⟨h20a, h20b⟩ := h20
        refine T_goto 84 rfl (fun _ => rfl) ?_
        refine T_ret rfl (fun _ => rfl) ?_
        exact ⟨z19, ⟨by omega, by omega⟩, rfl⟩
    by_cases h21 : k = 3
    · skip
      refine T_cast 3 h21 ?_
      refine T_pop 85 rfl (fun _ => rfl) ?_
      refine T_ld 87 (.int (i32 x9)) rfl (fun _ => rfl) ?_
      refine T_if 97 90 rfl rfl rfl (r32 (by omega) (by omega)) (fun (h22 : x9 = 0) => ?_) (fun (h22 : ¬ (x9 = 0)) => ?_)
      · skip
        refine T_ld 98 (.int (i32 (-1))) rfl (fun _ => rfl) ?_
        refine T_ret rfl (fun _ => rfl) ?_
        exact ⟨(-1), ⟨by omega, by omega⟩, rfl⟩
      · skip
        refine T_ld 91 (.ref (obq (m.2 107) x3)) rfl (fun _ => rfl) ?_
        refine K_goi 94 92 (m.2 92) rfl rfl ok6 rfl rfl rfl ?_
        have e23 : 0 ≤ m.2 92 x3 ∧ m.2 92 x3 ≤ 896 := hT.2.1 92 x3
        refine T_goto 98 rfl (fun _ => rfl) ?_
        refine T_ret rfl (fun _ => rfl) ?_
        exact ⟨(m.2 92) x3, ⟨by omega, by omega⟩, rfl⟩
    by_cases h24 : k = 4
    · skip
      refine T_cast 4 h24 ?_
      refine T_pop 99 rfl (fun _ => rfl) ?_
      refine T_ld 100 (.ref (obq (m.2 107) x3)) rfl (fun _ => rfl) ?_
      refine K_goi 103 99 (m.2 99) rfl rfl ok6 rfl rfl rfl ?_
      have e25 : 0 ≤ m.2 99 x3 ∧ m.2 99 x3 ≤ 100000000 := hT.2.1 99 x3
      refine T_ret rfl (fun _ => rfl) ?_
      exact ⟨(m.2 99) x3, ⟨by omega, by omega⟩, rfl⟩
    refine T_tsd 104 rfl rfl (r32 (by omega) (by omega)) (by omega) ?_
    refine T_ld 105 (.int (i32 (-1))) rfl (fun _ => rfl) ?_
    refine T_ret rfl (fun _ => rfl) ?_
    exact ⟨(-1), ⟨by omega, by omega⟩, rfl⟩
def Q_pw_byteAt (m : mR) (c : Nat → Option am_C) (N : Nat) (i : Int) (k : Int) : ag_Re af_T → Prop := fun R => (∃ (r : Int), ((-2147483648) ≤ r ∧ r ≤ 2147483647) ∧ R = (.inl (some (.int (i32 r))), (khp m c, N), 0, 0))
set_option maxHeartbeats 3000000 in
theorem c_pw_byteAt (w : wX) (m : mR) (c : Nat → Option am_C) (N D : Nat) (hD : 2 ≤ D) (hT : KTy m) (i : Int) (k : Int) (qi : R32 i) (qk : R32 k) : TC w D 37 [.ref 0, .int (i32 i), .int (i32 k)] (khp m c, N) (Q_pw_byteAt m c N i k) := by
  obtain ⟨D, rfl⟩ : ∃ k, D = k + 1 := ⟨D - 1, by omega⟩
  obtain ⟨qia, qib⟩ := id qi
  obtain ⟨qka, qkb⟩ := id qk
  refine Tc_of rfl ?_
  rw [show (khp m c, N) = (khp (mO m [] []) c, N) from by rw [mO_nil m]]
  show TT w D pm_37 (0, [(0, .ref 0), (1, .int (i32 i)), (2, .int (i32 k))], [], (khp (mO m [] []) c, N), 0, 0) (Q_pw_byteAt m c N i k)
  refine T_ld 1 (.ref 0) rfl (fun _ => rfl) ?_
  refine K_gf 4 (.ref 185) rfl rfl kd_0 rfl rfl rfl ?_
  refine T_ld 5 (.int (i32 i)) rfl (fun _ => rfl) ?_
  refine T_callx 8 35 [.ref 185, .int (i32 i)] [] rfl (fun _ => rfl) rfl rfl (c_pi_goneOut w (mO m [] []) c N D (by omega) hT i (r32 (by omega) (by omega))) (fun rr1 k2 => ?_)
  rcases k2 with rfl | ⟨x3, ⟨g4a, g4b⟩, ok5, rfl⟩
  · skip
    refine Or.inl ⟨_, _, _, _, rfl, ?_⟩
    refine T_ns (st' := [.null]) rfl ?_
    refine T_sto 9 [(3, .null), (0, .ref 0), (1, .int (i32 i)), (2, .int (i32 k))] rfl (fun _ => rfl) ?_
    refine T_ld 10 (.null) rfl (fun _ => rfl) ?_
    refine T_pop 32 rfl (fun _ => rfl) ?_
    refine T_ld 33 (.int (i32 (-1))) rfl (fun _ => rfl) ?_
    refine T_ret rfl (fun _ => rfl) ?_
    exact ⟨(-1), ⟨by omega, by omega⟩, rfl⟩
  · skip
    have ok6 : OKr m x3 := OKr_c rfl.symm rfl.symm ok5
    refine Or.inl ⟨_, _, _, _, rfl, ?_⟩
    refine T_ns (st' := [.ref (obq (m.2 107) x3)]) rfl ?_
    refine T_sto 9 [(3, .ref (obq (m.2 107) x3)), (0, .ref 0), (1, .int (i32 i)), (2, .int (i32 k))] rfl (fun _ => rfl) ?_
    refine T_ld 10 (.ref (obq (m.2 107) x3)) rfl (fun _ => rfl) ?_
    refine T_pop 13 rfl (fun _ => rfl) ?_
    refine T_ld 14 (.ref (obq (m.2 107) x3)) rfl (fun _ => rfl) ?_
    refine T_callx 17 36 [.ref (obq (m.2 107) x3)] [] rfl (inv_vt (args := []) (obe_c rfl (khp_o0 _ ok6)) rfl rfl rfl) rfl rfl (c_op_isSent w (mO m [] []) c N D (by omega) hT x3 (r32 (by omega) (by omega)) ok6) (fun rr7 k8 => ?_)
    obtain ⟨x9, g10, h11, rfl⟩ := k8
    refine Or.inl ⟨_, _, _, _, rfl, ?_⟩
    refine T_ns (st' := [.int (i32 x9)]) rfl ?_
    obtain ⟨g10a, g10b⟩ := g10
    replace h11 : x9 = 1 → (m.2 91) x3 = 0 := h11
    refine T_if 32 20 rfl rfl rfl (r32 (by omega) (by omega)) (fun (h12 : x9 = 0) => ?_) (fun (h12 : ¬ (x9 = 0)) => ?_)
    · skip
      refine T_ld 33 (.int (i32 (-1))) rfl (fun _ => rfl) ?_
      refine T_ret rfl (fun _ => rfl) ?_
      exact ⟨(-1), ⟨by omega, by omega⟩, rfl⟩
    · skip
      refine T_ld 21 (.int (i32 k)) rfl (fun _ => rfl) ?_
      refine T_if 32 24 rfl rfl rfl (r32 (by omega) (by omega)) (fun (h13 : k < 0) => ?_) (fun (h13 : ¬ (k < 0)) => ?_)
      · skip
        refine T_ld 33 (.int (i32 (-1))) rfl (fun _ => rfl) ?_
        refine T_ret rfl (fun _ => rfl) ?_
        exact ⟨(-1), ⟨by omega, by omega⟩, rfl⟩
      · skip
        refine T_ld 25 (.int (i32 k)) rfl (fun _ => rfl) ?_
        refine T_ld 26 (.ref (obq (m.2 107) x3)) rfl (fun _ => rfl) ?_
        refine K_goi 29 92 (m.2 92) rfl rfl ok6 rfl rfl rfl ?_
        have e14 : 0 ≤ m.2 92 x3 ∧ m.2 92 x3 ≤ 896 := hT.2.1 92 x3
        refine T_icmp 34 32 rfl rfl rfl (r32 (by omega) (by omega)) (r32 (by omega) (by omega)) (fun (h15 : k < (m.2 92) x3) => ?_) (fun (h15 : ¬ (k < (m.2 92) x3)) => ?_)
        · skip
          refine T_ld 35 (.ref (obq (m.2 107) x3)) rfl (fun _ => rfl) ?_
          refine K_gor 38 rfl rfl ok6 rfl rfl ?_
          refine T_ld 39 (.int (i32 k)) rfl (fun _ => rfl) ?_
          refine K_balo 40 0 (m.2 100) rfl rfl rfl ok6 rfl (by omega) (show k < (896 : Int) by omega) rfl ?_
          have e16 : (-128) ≤ m.2 100 (65536 * x3 + k) ∧ m.2 100 (65536 * x3 + k) ≤ 127 := hT.2.1 100 (65536 * x3 + k)
          refine T_ld 43 (.int (i32 255)) rfl (fun _ => rfl) ?_
          refine T_iand 44 rfl rfl (by decide) (by decide) (fun z17 h18 => ?_)
          refine T_ret rfl (fun _ => rfl) ?_
          exact ⟨z17, ⟨by omega, by omega⟩, rfl⟩
        · skip
          refine T_ld 33 (.int (i32 (-1))) rfl (fun _ => rfl) ?_
          refine T_ret rfl (fun _ => rfl) ?_
          exact ⟨(-1), ⟨by omega, by omega⟩, rfl⟩
def Q_pw_did (m : mR) (c : Nat → Option am_C) (N : Nat) (i : Int) (s : Int) : ag_Re af_T → Prop := fun R => (∃ (r : Int), ((-2147483648) ≤ r ∧ r ≤ 2147483647) ∧ R = (.inl (some (.int (i32 r))), (khp m c, N), 0, 0))
set_option maxHeartbeats 3000000 in
theorem c_pw_did (w : wX) (m : mR) (c : Nat → Option am_C) (N D : Nat) (hD : 2 ≤ D) (hT : KTy m) (i : Int) (s : Int) (qi : R32 i) (qs : R32 s) : TC w D 38 [.ref 0, .int (i32 i), .int (i32 s)] (khp m c, N) (Q_pw_did m c N i s) := by
  obtain ⟨D, rfl⟩ : ∃ k, D = k + 1 := ⟨D - 1, by omega⟩
  obtain ⟨qia, qib⟩ := id qi
  obtain ⟨qsa, qsb⟩ := id qs
  have f225 : 0 ≤ m.1 225 ∧ m.1 225 ≤ 48 := hT.1 225
  refine Tc_of rfl ?_
  rw [show (khp m c, N) = (khp (mO m [] []) c, N) from by rw [mO_nil m]]
  show TT w D pm_38 (0, [(0, .ref 0), (1, .int (i32 i)), (2, .int (i32 s))], [], (khp (mO m [] []) c, N), 0, 0) (Q_pw_did m c N i s)
  refine T_ld 1 (.ref 0) rfl (fun _ => rfl) ?_
  refine K_gf 4 (.ref 185) rfl rfl kd_0 rfl rfl rfl ?_
  refine T_ld 5 (.int (i32 i)) rfl (fun _ => rfl) ?_
  refine T_callx 8 35 [.ref 185, .int (i32 i)] [] rfl (fun _ => rfl) rfl rfl (c_pi_goneOut w (mO m [] []) c N D (by omega) hT i (r32 (by omega) (by omega))) (fun rr1 k2 => ?_)
  rcases k2 with rfl | ⟨x3, ⟨g4a, g4b⟩, ok5, rfl⟩
  · skip
    refine Or.inl ⟨_, _, _, _, rfl, ?_⟩
    refine T_ns (st' := [.null]) rfl ?_
    refine T_sto 9 [(3, .null), (0, .ref 0), (1, .int (i32 i)), (2, .int (i32 s))] rfl (fun _ => rfl) ?_
    refine T_ld 10 (.null) rfl (fun _ => rfl) ?_
    refine T_pop 38 rfl (fun _ => rfl) ?_
    refine T_ld 39 (.int (i32 (-1))) rfl (fun _ => rfl) ?_
    refine T_ret rfl (fun _ => rfl) ?_
    exact ⟨(-1), ⟨by omega, by omega⟩, rfl⟩
  · skip
    have ok6 : OKr m x3 := OKr_c rfl.symm rfl.symm ok5
    refine Or.inl ⟨_, _, _, _, rfl, ?_⟩
    refine T_ns (st' := [.ref (obq (m.2 107) x3)]) rfl ?_
    refine T_sto 9 [(3, .ref (obq (m.2 107) x3)), (0, .ref 0), (1, .int (i32 i)), (2, .int (i32 s))] rfl (fun _ => rfl) ?_
    refine T_ld 10 (.ref (obq (m.2 107) x3)) rfl (fun _ => rfl) ?_
    refine T_pop 13 rfl (fun _ => rfl) ?_
    refine T_ld 14 (.ref (obq (m.2 107) x3)) rfl (fun _ => rfl) ?_
    refine K_goi 17 91 (m.2 91) rfl rfl ok6 rfl rfl rfl ?_
    have e7 : 0 ≤ m.2 91 x3 ∧ m.2 91 x3 ≤ 3 := hT.2.1 91 x3
    refine T_if 38 20 rfl rfl rfl (r32 (by omega) (by omega)) (fun (h8 : (m.2 91) x3 ≠ 0) => ?_) (fun (h8 : ¬ ((m.2 91) x3 ≠ 0)) => ?_)
    · skip
      refine T_ld 39 (.int (i32 (-1))) rfl (fun _ => rfl) ?_
      refine T_ret rfl (fun _ => rfl) ?_
      exact ⟨(-1), ⟨by omega, by omega⟩, rfl⟩
    · skip
      refine T_ld 21 (.int (i32 s)) rfl (fun _ => rfl) ?_
      refine T_if 38 24 rfl rfl rfl (r32 (by omega) (by omega)) (fun (h9 : s < 0) => ?_) (fun (h9 : ¬ (s < 0)) => ?_)
      · skip
        refine T_ld 39 (.int (i32 (-1))) rfl (fun _ => rfl) ?_
        refine T_ret rfl (fun _ => rfl) ?_
        exact ⟨(-1), ⟨by omega, by omega⟩, rfl⟩
      · skip
        refine T_ld 25 (.int (i32 s)) rfl (fun _ => rfl) ?_
        refine T_ld 26 (.ref 0) rfl (fun _ => rfl) ?_
        refine K_gf 29 (.ref 12) rfl rfl kd_0 rfl rfl rfl ?_
        refine K_gf 32 (.ref 59) rfl rfl kd_12 rfl rfl rfl ?_
        refine K_gf 35 (.int (i32 (m.1 225))) rfl rfl kd_59 rfl rfl rfl ?_
        refine T_icmp 40 38 rfl rfl rfl (r32 (by omega) (by omega)) (r32 (by omega) (by omega)) (fun (h10 : s < (m.1 225)) => ?_) (fun (h10 : ¬ (s < (m.1 225))) => ?_)
        · skip
          refine T_ld 41 (.ref (obq (m.2 107) x3)) rfl (fun _ => rfl) ?_
          refine K_gor 44 rfl rfl ok6 rfl rfl ?_
          refine T_ld 45 (.int (i32 s)) rfl (fun _ => rfl) ?_
          refine K_ialo 46 2 (m.2 102) rfl rfl rfl ok6 rfl (by omega) (show s < (48 : Int) by omega) rfl ?_
          have e11 : (-2147483648) ≤ m.2 102 (65536 * x3 + s) ∧ m.2 102 (65536 * x3 + s) ≤ 2147483647 := hT.2.1 102 (65536 * x3 + s)
          refine T_ret rfl (fun _ => rfl) ?_
          exact ⟨(m.2 102) (65536 * x3 + s), ⟨by omega, by omega⟩, rfl⟩
        · skip
          refine T_ld 39 (.int (i32 (-1))) rfl (fun _ => rfl) ?_
          refine T_ret rfl (fun _ => rfl) ?_
          exact ⟨(-1), ⟨by omega, by omega⟩, rfl⟩
def Q_pw_word (m : mR) (c : Nat → Option am_C) (N : Nat) (a : Int) (i : Int) : ag_Re af_T → Prop := fun R => (∃ (r : Int), ((-9223372036854775808) ≤ r ∧ r ≤ 9223372036854775807) ∧ R = (.inl (some (.long (i64 r))), (khp m c, N), 0, 0)) ∨ (∃ (x : Nat), (x = 1) ∧ R = (.inr x, (khp m c, N), 1, 6))
set_option maxHeartbeats 3000000 in
theorem c_pw_word (w : wX) (m : mR) (c : Nat → Option am_C) (N D : Nat) (hD : 6 ≤ D) (hT : KTy m) (a : Int) (i : Int) (qa : R32 a) (qi : R32 i) : TC w D 203 [.ref 0, .int (i32 a), .int (i32 i)] (khp m c, N) (Q_pw_word m c N a i) := by
  obtain ⟨D, rfl⟩ : ∃ k, D = k + 1 := ⟨D - 1, by omega⟩
  obtain ⟨qaa, qab⟩ := id qa
  obtain ⟨qia, qib⟩ := id qi
  have f201 : 0 ≤ m.1 201 ∧ m.1 201 ≤ 1 := hT.1 201
  have f217 : 0 ≤ m.1 217 ∧ m.1 217 ≤ 8 := hT.1 217
  have f226 : 0 ≤ m.1 226 ∧ m.1 226 ≤ 12 := hT.1 226
  refine Tc_of rfl ?_
  rw [show (khp m c, N) = (khp (mO m [] []) c, N) from by rw [mO_nil m]]
  show TT w D pm_203 (0, [(0, .ref 0), (1, .int (i32 a)), (2, .int (i32 i))], [], (khp (mO m [] []) c, N), 0, 0) (Q_pw_word m c N a i)
  refine T_ld 1 (.ref 0) rfl (fun _ => rfl) ?_
  refine K_gf 4 (.ref 185) rfl rfl kd_0 rfl rfl rfl ?_
  refine T_callx 7 41 [.ref 185] [] rfl (fun _ => rfl) rfl rfl (c_pi_inStages w (mO m [] []) c N D (by omega) hT ) (fun rr1 k2 => ?_)
  obtain ⟨x3, g4, rfl⟩ := k2
  refine Or.inl ⟨_, _, _, _, rfl, ?_⟩
  refine T_ns (st' := [.int (i32 x3)]) rfl ?_
  obtain ⟨g4a, g4b⟩ := g4
  refine T_if 21 10 rfl rfl rfl (r32 (by omega) (by omega)) (fun (h5 : x3 ≤ 0) => ?_) (fun (h5 : ¬ (x3 ≤ 0)) => ?_)
  · skip
    refine T_ld 22 (.ref 0) rfl (fun _ => rfl) ?_
    refine T_callx 25 33 [.ref 0] [] rfl (fun _ => rfl) rfl rfl (c_pw_isLaid w (mO m [] []) c N D (by omega) hT ) (fun rr6 k7 => ?_)
    obtain ⟨x8, g9, h10, h11, rfl⟩ := k7
    refine Or.inl ⟨_, _, _, _, rfl, ?_⟩
    refine T_ns (st' := [.int (i32 x8)]) rfl ?_
    obtain ⟨g9a, g9b⟩ := g9
    replace h10 : x8 = 1 → (m.1 201) = 1 ∧ 1 ≤ (m.1 226) := h10
    replace h11 : x8 = 0 → (m.1 201) = 0 ∨ (m.1 226) ≤ 0 := h11
    refine T_if 60 28 rfl rfl rfl (r32 (by omega) (by omega)) (fun (h12 : x8 = 0) => ?_) (fun (h12 : ¬ (x8 = 0)) => ?_)
    · skip
      refine T_ld 61 (.long (i64 0)) rfl (fun _ => rfl) ?_
      refine T_ret rfl (fun _ => rfl) ?_
      exact Or.inl ⟨0, ⟨by omega, by omega⟩, rfl⟩
    · skip
      refine T_ld 29 (.int (i32 a)) rfl (fun _ => rfl) ?_
      refine T_if 60 32 rfl rfl rfl (r32 (by omega) (by omega)) (fun (h13 : a < 0) => ?_) (fun (h13 : ¬ (a < 0)) => ?_)
      · skip
        refine T_ld 61 (.long (i64 0)) rfl (fun _ => rfl) ?_
        refine T_ret rfl (fun _ => rfl) ?_
        exact Or.inl ⟨0, ⟨by omega, by omega⟩, rfl⟩
      · skip
        refine T_ld 33 (.int (i32 a)) rfl (fun _ => rfl) ?_
        refine T_ld 34 (.ref 0) rfl (fun _ => rfl) ?_
        refine K_gf 37 (.ref 12) rfl rfl kd_0 rfl rfl rfl ?_
        refine K_gf 40 (.int (i32 (m.1 217))) rfl rfl kd_12 rfl rfl rfl ?_
        refine T_icmp 60 43 rfl rfl rfl (r32 (by omega) (by omega)) (r32 (by omega) (by omega)) (fun (h14 : (m.1 217) ≤ a) => ?_) (fun (h14 : ¬ ((m.1 217) ≤ a)) => ?_)
        · skip
          refine T_ld 61 (.long (i64 0)) rfl (fun _ => rfl) ?_
          refine T_ret rfl (fun _ => rfl) ?_
          exact Or.inl ⟨0, ⟨by omega, by omega⟩, rfl⟩
        · skip
          refine T_ld 44 (.int (i32 i)) rfl (fun _ => rfl) ?_
          refine T_if 60 47 rfl rfl rfl (r32 (by omega) (by omega)) (fun (h15 : i < 0) => ?_) (fun (h15 : ¬ (i < 0)) => ?_)
          · skip
            refine T_ld 61 (.long (i64 0)) rfl (fun _ => rfl) ?_
            refine T_ret rfl (fun _ => rfl) ?_
            exact Or.inl ⟨0, ⟨by omega, by omega⟩, rfl⟩
          · skip
            refine T_ld 48 (.int (i32 i)) rfl (fun _ => rfl) ?_
            refine T_ld 49 (.ref 0) rfl (fun _ => rfl) ?_
            refine K_gf 52 (.ref 12) rfl rfl kd_0 rfl rfl rfl ?_
            refine K_gf 55 (.ref 19) rfl rfl kd_12 rfl rfl rfl ?_
            refine T_ld 56 (.int (i32 a)) rfl (fun _ => rfl) ?_
            refine K_iald 57 16 (m.2 16) rfl rfl rfl (by omega) (show a < (8 : Int) by omega) rfl ?_
            have e16 : 0 ≤ m.2 16 a ∧ m.2 16 a ≤ 64 := hT.2.1 16 a
            refine T_icmp 62 60 rfl rfl rfl (r32 (by omega) (by omega)) (r32 (by omega) (by omega)) (fun (h17 : i < (m.2 16) a) => ?_) (fun (h17 : ¬ (i < (m.2 16) a)) => ?_)
            · skip
              refine T_ld 63 (.ref 0) rfl (fun _ => rfl) ?_
              refine K_gf 66 (.ref 185) rfl rfl kd_0 rfl rfl rfl ?_
              refine K_gf 69 (.ref 188) rfl rfl kd_185 rfl rfl rfl ?_
              refine T_ld 70 (.int (i32 a)) rfl (fun _ => rfl) ?_
              refine T_ld 72 (.int (i32 64)) rfl (fun _ => rfl) ?_
              refine T_imul 73 rfl rfl ?_
              refine T_ld 74 (.int (i32 i)) rfl (fun _ => rfl) ?_
              refine T_iadd 75 rfl rfl ?_
              refine K_lald 76 71 (m.2 71) rfl rfl rfl (by omega) (show ((a * 64) + i) < (512 : Int) by omega) rfl ?_
              have e18 : (-9223372036854775808) ≤ m.2 71 ((a * 64) + i) ∧ m.2 71 ((a * 64) + i) ≤ 9223372036854775807 := hT.2.1 71 ((a * 64) + i)
              refine T_ret rfl (fun _ => rfl) ?_
              exact Or.inl ⟨(m.2 71) ((a * 64) + i), ⟨by omega, by omega⟩, rfl⟩
            · skip
              refine T_ld 61 (.long (i64 0)) rfl (fun _ => rfl) ?_
              refine T_ret rfl (fun _ => rfl) ?_
              exact Or.inl ⟨0, ⟨by omega, by omega⟩, rfl⟩
  · skip
    refine T_thr rfl (by omega) rfl rfl ?_
    exact Or.inr ⟨1, rfl, rfl⟩
def fF_pw_entries : List Nat := []
def fA_pw_entries : List Nat := [90]
def Q_pw_entries (m : mR) (c : Nat → Option am_C) (N : Nat) (t : Int) (k : Int) : ag_Re af_T → Prop := fun R => (∃ (M : mR) (r : Int), KTy M ∧ fr fF_pw_entries fA_pw_entries m M ∧ ((-2147483648) ≤ r ∧ r ≤ 2147483647) ∧ R = (.inl (some (.int (i32 r))), (khp M c, N), 0, 0)) ∨ (∃ (x : Nat) (M : mR), (x = 1) ∧ (KTy M) ∧ (fr fF_pw_entries fA_pw_entries m M) ∧ R = (.inr x, (khp M c, N), 1, 6))
set_option maxHeartbeats 3000000 in
theorem c_pw_entries (w : wX) (m : mR) (c : Nat → Option am_C) (N D : Nat) (hD : 6 ≤ D) (hT : KTy m) (t : Int) (k : Int) (qt : R32 t) (qk : R32 k) : TC w D 205 [.ref 0, .int (i32 t), .int (i32 k)] (khp m c, N) (Q_pw_entries m c N t k) := by
  obtain ⟨D, rfl⟩ : ∃ k, D = k + 1 := ⟨D - 1, by omega⟩
  obtain ⟨qta, qtb⟩ := id qt
  obtain ⟨qka, qkb⟩ := id qk
  have f201 : 0 ≤ m.1 201 ∧ m.1 201 ≤ 1 := hT.1 201
  have f219 : 0 ≤ m.1 219 ∧ m.1 219 ≤ 8 := hT.1 219
  refine Tc_of rfl ?_
  rw [show (khp m c, N) = (khp (mO m [] []) c, N) from by rw [mO_nil m]]
  show TT w D pm_205 (0, [(0, .ref 0), (1, .int (i32 t)), (2, .int (i32 k))], [], (khp (mO m [] []) c, N), 0, 0) (Q_pw_entries m c N t k)
  refine T_ld 1 (.ref 0) rfl (fun _ => rfl) ?_
  refine K_gf 4 (.ref 185) rfl rfl kd_0 rfl rfl rfl ?_
  refine T_callx 7 41 [.ref 185] [] rfl (fun _ => rfl) rfl rfl (c_pi_inStages w (mO m [] []) c N D (by omega) hT ) (fun rr1 k2 => ?_)
  obtain ⟨x3, g4, rfl⟩ := k2
  refine Or.inl ⟨_, _, _, _, rfl, ?_⟩
  refine T_ns (st' := [.int (i32 x3)]) rfl ?_
  obtain ⟨g4a, g4b⟩ := g4
  refine T_if 21 10 rfl rfl rfl (r32 (by omega) (by omega)) (fun (h5 : x3 ≤ 0) => ?_) (fun (h5 : ¬ (x3 ≤ 0)) => ?_)
  · skip
    refine T_ld 22 (.ref 0) rfl (fun _ => rfl) ?_
    refine T_ld 23 (.int (i32 t)) rfl (fun _ => rfl) ?_
    refine T_callx 26 172 [.ref 0, .int (i32 t)] [] rfl (fun _ => rfl) rfl rfl (c_pw_isTable w (mO m [] []) c N D (by omega) hT t (r32 (by omega) (by omega))) (fun rr6 k7 => ?_)
    obtain ⟨x8, g9, h10, h11, rfl⟩ := k7
    refine Or.inl ⟨_, _, _, _, rfl, ?_⟩
    refine T_ns (st' := [.int (i32 x8)]) rfl ?_
    obtain ⟨g9a, g9b⟩ := g9
    replace h10 : x8 = 1 → (m.1 201) = 1 ∧ 0 ≤ t ∧ t < (m.1 219) := h10
    replace h11 : x8 = 0 → (m.1 201) = 0 ∨ t < 0 ∨ (m.1 219) ≤ t := h11
    refine T_if 31 29 rfl rfl rfl (r32 (by omega) (by omega)) (fun (h12 : x8 ≠ 0) => ?_) (fun (h12 : ¬ (x8 ≠ 0)) => ?_)
    · skip
      refine T_ld 32 (.ref 0) rfl (fun _ => rfl) ?_
      refine K_gf 35 (.ref 12) rfl rfl kd_0 rfl rfl rfl ?_
      refine K_gf 38 (.ref 21) rfl rfl kd_12 rfl rfl rfl ?_
      refine T_ld 39 (.int (i32 t)) rfl (fun _ => rfl) ?_
      refine K_aatb 40 rfl (by omega) (by omega) rfl ?_
      refine T_sto 41 [(3, .ref (tbr t)), (0, .ref 0), (1, .int (i32 t)), (2, .int (i32 k))] rfl (fun _ => rfl) ?_
      refine T_ld 42 (.int (i32 k)) rfl (fun _ => rfl) ?_
      refine T_if 52 45 rfl rfl rfl (r32 (by omega) (by omega)) (fun (h13 : k ≠ 0) => ?_) (fun (h13 : ¬ (k ≠ 0)) => ?_)
      · skip
        refine T_ld 53 (.int (i32 k)) rfl (fun _ => rfl) ?_
        refine T_ld 54 (.int (i32 1)) rfl (fun _ => rfl) ?_
        refine T_icmp 68 57 rfl rfl rfl (r32 (by omega) (by omega)) ⟨by decide, by decide⟩ (fun (h14 : k ≠ 1) => ?_) (fun (h14 : ¬ (k ≠ 1)) => ?_)
        · skip
          refine T_ld 69 (.int (i32 (-1))) rfl (fun _ => rfl) ?_
          refine T_ret rfl (fun _ => rfl) ?_
          exact Or.inl ⟨(mO m [] []), (-1), hT, (fr_m fr_0 rfl rfl), ⟨by omega, by omega⟩, rfl⟩
        · skip
          refine T_ld 58 (.ref (tbr t)) rfl (fun _ => rfl) ?_
          refine T_ld 59 (.ref (tbr t)) rfl (fun _ => rfl) ?_
          refine K_gfi 62 78 (m.2 78) rfl rfl (by omega) (by omega) rfl rfl ?_
          have e15 : 0 ≤ m.2 78 t ∧ m.2 78 t ≤ 72 := hT.2.1 78 t
          refine T_callx 65 192 [.ref (tbr t), .int (i32 ((m.2 78) t))] [] rfl (inv_vt (args := [.int (i32 ((m.2 78) t))]) (khp_t0 _ (by omega) (by omega)) rfl rfl rfl) rfl rfl (c_tb_above w (mO m [] []) c N D (by omega) hT t ((m.2 78) t) (r32 (by omega) (by omega)) (r32 (by omega) (by omega)) (show 0 ≤ t ∧ t ≤ 7 by omega) (show 0 ≤ ((m.2 78) t) ∧ ((m.2 78) t) ≤ 72 by omega)) (fun rr16 k17 => ?_)
          obtain ⟨m18, x19, Tm18, Fm18, g20, rfl⟩ := k17
          refine Or.inl ⟨_, _, _, _, rfl, ?_⟩
          refine K_nb (st' := [.int (i32 x19)]) rfl ?_
          obtain ⟨g20a, g20b⟩ := g20
          refine T_goto 69 rfl (fun _ => rfl) ?_
          refine T_ret rfl (fun _ => rfl) ?_
          exact Or.inl ⟨(mO m18 [] []), x19, Tm18, (fr_m (fr_s Fm18 (fr_m fr_0 rfl rfl) rfl rfl) rfl rfl), ⟨by omega, by omega⟩, rfl⟩
      · skip
        refine T_ld 46 (.ref (tbr t)) rfl (fun _ => rfl) ?_
        refine K_gfi 49 78 (m.2 78) rfl rfl (by omega) (by omega) rfl rfl ?_
        have e21 : 0 ≤ m.2 78 t ∧ m.2 78 t ≤ 72 := hT.2.1 78 t
        refine T_goto 69 rfl (fun _ => rfl) ?_
        refine T_ret rfl (fun _ => rfl) ?_
        exact Or.inl ⟨(mO m [] []), (m.2 78) t, hT, (fr_m fr_0 rfl rfl), ⟨by omega, by omega⟩, rfl⟩
    · skip
      refine T_ld 30 (.int (i32 (-1))) rfl (fun _ => rfl) ?_
      refine T_ret rfl (fun _ => rfl) ?_
      exact Or.inl ⟨(mO m [] []), (-1), hT, (fr_m fr_0 rfl rfl), ⟨by omega, by omega⟩, rfl⟩
  · skip
    refine T_thr rfl (by omega) rfl rfl ?_
    exact Or.inr ⟨1, (mO m [] []), rfl, hT, (fr_m fr_0 rfl rfl), rfl⟩
def fF_pw_packet : List Nat := [200, 232]
def fA_pw_packet : List Nat := [91, 92, 93, 94, 95, 96, 97, 98, 99, 100, 101, 102, 103, 104, 105, 106, 107, 108]
def Q_pw_packet (m : mR) (c : Nat → Option am_C) (N : Nat) (y : Int) : ag_Re af_T → Prop := fun R => (∃ (M : mR) (r : Int), KTy M ∧ fr fF_pw_packet fA_pw_packet m M ∧ ((-2147483648) ≤ r ∧ r ≤ 2147483647) ∧ (PIp (m.1 226) (m.1 233) (M.1 232) (M.2 106) (M.2 91) (M.2 92) (M.2 94)) ∧ (∀ r9, 0 ≤ r9 → r9 < 128 → r9 < (M.1 232) → 1 ≤ (M.2 107) r9) ∧ ((M.1 232) ≤ (m.1 232) + 1) ∧ ((m.1 201) = 1 ∧ 1 ≤ (m.1 226) ∧ (m.1 232) - (m.1 233) < 40 ∧ (m.1 200) ≤ 128 ∧ (M.1 200) = 0 ∧ (M.1 232) = (m.1 232) + 1 ∧ r = (m.1 232)) ∧ (∀ v, v ≠ (m.1 232) % 128 → (M.2 92) v = (m.2 92) v ∧ (M.2 93) v = (m.2 93) v ∧ (M.2 94) v = (m.2 94) v ∧ (M.2 98) v = (m.2 98) v ∧ (M.2 99) v = (m.2 99) v) ∧ (∀ j, j < 65536 * ((m.1 232) % 128) ∨ 65536 * ((m.1 232) % 128) + 65536 ≤ j → (M.2 100) j = (m.2 100) j ∧ (M.2 101) j = (m.2 101) j ∧ (M.2 102) j = (m.2 102) j) ∧ ((M.2 92) ((m.1 232) % 128) = (m.1 200) ∧ (M.2 93) ((m.1 232) % 128) = y ∧ ∀ j, 0 ≤ j → j < (m.1 200) → (M.2 100) (65536 * ((m.1 232) % 128) + j) = (m.2 1) j) ∧ (∀ v, v ≠ (m.1 232) % 128 → (M.2 91) v = (m.2 91) v ∧ (M.2 95) v = (m.2 95) v ∧ (M.2 96) v = (m.2 96) v ∧ (M.2 97) v = (m.2 97) v) ∧ (∀ j, j < 65536 * ((m.1 232) % 128) ∨ 65536 * ((m.1 232) % 128) + 65536 ≤ j → (M.2 103) j = (m.2 103) j ∧ (M.2 104) j = (m.2 104) j ∧ (M.2 105) j = (m.2 105) j) ∧ ((M.2 91) ((m.1 232) % 128) = 0) ∧ (∀ g, kopi (M.2 106) (M.2 107) g = kopi (m.2 106) (m.2 107) g) ∧ ∃ (N2 k9 n9 : Nat), (N ≤ N2 ∧ N2 ≤ N + 7 ∧ k9 ≤ 7 ∧ n9 ≤ 1192) ∧ FRp N2 M ∧ R = (.inl (some (.int (i32 r))), (khp M c, N2), k9, n9)) ∨ (∃ (x : Nat) (M : mR), (x = 1 ∨ x = 0) ∧ (KTy M) ∧ (fr fF_pw_packet fA_pw_packet m M) ∧ (PIp (m.1 226) (m.1 233) (M.1 232) (M.2 106) (M.2 91) (M.2 92) (M.2 94)) ∧ (∀ r9, 0 ≤ r9 → r9 < 128 → r9 < (M.1 232) → 1 ≤ (M.2 107) r9) ∧ ((M.1 232) ≤ (m.1 232) + 1) ∧ (FRp N M) ∧ ((x = 1 ∧ ((m.1 201) = 0 ∨ (m.1 226) ≤ 0 ∨ 40 ≤ (m.1 232) - (m.1 233))) ∨ (x = 0 ∧ (m.1 201) = 1 ∧ 1 ≤ (m.1 226) ∧ (m.1 232) - (m.1 233) < 40 ∧ 128 < (m.1 200))) ∧ ((M.1 232) = (m.1 232)) ∧ ((M.1 200) = (m.1 200)) ∧ ((M.2 92) = (m.2 92) ∧ (M.2 93) = (m.2 93) ∧ (M.2 94) = (m.2 94) ∧ (M.2 98) = (m.2 98) ∧ (M.2 99) = (m.2 99) ∧ (M.2 100) = (m.2 100) ∧ (M.2 101) = (m.2 101) ∧ (M.2 102) = (m.2 102)) ∧ ((M.2 91) = (m.2 91) ∧ (M.2 95) = (m.2 95) ∧ (M.2 96) = (m.2 96) ∧ (M.2 97) = (m.2 97) ∧ (M.2 103) = (m.2 103) ∧ (M.2 104) = (m.2 104) ∧ (M.2 105) = (m.2 105)) ∧ (∀ g, kopi (M.2 106) (M.2 107) g = kopi (m.2 106) (m.2 107) g) ∧ R = (.inr x, (khp M c, N), 1, 6))
set_option maxHeartbeats 3000000 in
theorem c_pw_packet (w : wX) (m : mR) (c : Nat → Option am_C) (N D : Nat) (hD : 6 ≤ D) (hT : KTy m) (y : Int) (qy : R32 y) (hNu : ∀ r9, 0 ≤ r9 → r9 < 128 → r9 < (m.1 232) → 1 ≤ (m.2 107) r9) (hPI : PIp (m.1 226) (m.1 233) (m.1 232) (m.2 106) (m.2 91) (m.2 92) (m.2 94)) (hFR : FRp N m) (hNN : 327 ≤ N ∧ N ≤ 8100) (p4 : (m.1 232) ≤ 999999) : TC w D 162 [.ref 0, .int (i32 y)] (khp m c, N) (Q_pw_packet m c N y) := by
  obtain ⟨D, rfl⟩ : ∃ k, D = k + 1 := ⟨D - 1, by omega⟩
  obtain ⟨qya, qyb⟩ := id qy
  have f200 : 0 ≤ m.1 200 ∧ m.1 200 ≤ 4000 := hT.1 200
  have f232 : 0 ≤ m.1 232 ∧ m.1 232 ≤ 1000000 := hT.1 232
  have f201 : 0 ≤ m.1 201 ∧ m.1 201 ≤ 1 := hT.1 201
  have f226 : 0 ≤ m.1 226 ∧ m.1 226 ≤ 12 := hT.1 226
  have f233 : 0 ≤ m.1 233 ∧ m.1 233 ≤ 1000000 := hT.1 233
  refine Tc_of rfl ?_
  rw [show (khp m c, N) = (khp (mO m [] []) c, N) from by rw [mO_nil m]]
  show TT w D pm_162 (0, [(0, .ref 0), (1, .int (i32 y))], [], (khp (mO m [] []) c, N), 0, 0) (Q_pw_packet m c N y)
  refine T_ld 1 (.ref 0) rfl (fun _ => rfl) ?_
  refine T_callx 4 33 [.ref 0] [] rfl (fun _ => rfl) rfl rfl (c_pw_isLaid w (mO m [] []) c N D (by omega) hT ) (fun rr1 k2 => ?_)
  obtain ⟨x3, g4, h5, h6, rfl⟩ := k2
  refine Or.inl ⟨_, _, _, _, rfl, ?_⟩
  refine T_ns (st' := [.int (i32 x3)]) rfl ?_
  obtain ⟨g4a, g4b⟩ := g4
  replace h5 : x3 = 1 → (m.1 201) = 1 ∧ 1 ≤ (m.1 226) := h5
  replace h6 : x3 = 0 → (m.1 201) = 0 ∨ (m.1 226) ≤ 0 := h6
  refine T_if 19 7 rfl rfl rfl (r32 (by omega) (by omega)) (fun (h7 : x3 = 0) => ?_) (fun (h7 : ¬ (x3 = 0)) => ?_)
  · skip
    refine T_thr rfl (by omega) rfl rfl ?_
    exact Or.inr ⟨1, (mO m [] []), (by decide), hT, (fr_m fr_0 rfl rfl), (show PIp (m.1 226) (m.1 233) (m.1 232) (m.2 106) (m.2 91) (m.2 92) (m.2 94) by exact hPI), (show ∀ r9, 0 ≤ r9 → r9 < 128 → r9 < (m.1 232) → 1 ≤ (m.2 107) r9 by first | exact hNu | (intro r9 a9 b9 c9; by_cases e9 : r9 = (m.1 232) % 128; (rw [e9, ← hCr]; exact hC1); (rw [hCb r9 (by rw [hCr]; exact e9)]; exact hNu r9 a9 b9 (by omega)))), (show (m.1 232) ≤ (m.1 232) + 1 by omega), hFR, (show ((1 : Nat) = 1 ∧ ((m.1 201) = 0 ∨ (m.1 226) ≤ 0 ∨ 40 ≤ (m.1 232) - (m.1 233))) ∨ ((1 : Nat) = 0 ∧ (m.1 201) = 1 ∧ 1 ≤ (m.1 226) ∧ (m.1 232) - (m.1 233) < 40 ∧ 128 < (m.1 200)) by omega), (show (m.1 232) = (m.1 232) by omega), (show (m.1 200) = (m.1 200) by omega), (show (m.2 92) = (m.2 92) ∧ (m.2 93) = (m.2 93) ∧ (m.2 94) = (m.2 94) ∧ (m.2 98) = (m.2 98) ∧ (m.2 99) = (m.2 99) ∧ (m.2 100) = (m.2 100) ∧ (m.2 101) = (m.2 101) ∧ (m.2 102) = (m.2 102) by exact ⟨rfl, rfl, rfl, rfl, rfl, rfl, rfl, rfl⟩), (show (m.2 91) = (m.2 91) ∧ (m.2 95) = (m.2 95) ∧ (m.2 96) = (m.2 96) ∧ (m.2 97) = (m.2 97) ∧ (m.2 103) = (m.2 103) ∧ (m.2 104) = (m.2 104) ∧ (m.2 105) = (m.2 105) by exact ⟨rfl, rfl, rfl, rfl, rfl, rfl, rfl⟩), (show ∀ g, kopi (m.2 106) (m.2 107) g = kopi (m.2 106) (m.2 107) g by first | exact hCk | exact fun g => rfl), rfl⟩
  · skip
    refine T_ld 8 (.ref 0) rfl (fun _ => rfl) ?_
    refine K_gf 11 (.ref 185) rfl rfl kd_0 rfl rfl rfl ?_
    refine T_callx 14 40 [.ref 185] [] rfl (fun _ => rfl) rfl rfl (c_pi_inLine w (mO m [] []) c N D (by omega) hT ) (fun rr8 k9 => ?_)
    obtain ⟨x10, g11, h12, rfl⟩ := k9
    refine Or.inl ⟨_, _, _, _, rfl, ?_⟩
    refine T_ns (st' := [.int (i32 x10)]) rfl ?_
    obtain ⟨g11a, g11b⟩ := g11
    replace h12 : x10 = (m.1 232) - (m.1 233) := h12
    refine T_ld 16 (.int (i32 40)) rfl (fun _ => rfl) ?_
    refine T_icmp 29 19 rfl rfl rfl (r32 (by omega) (by omega)) ⟨by decide, by decide⟩ (fun (h13 : x10 < 40) => ?_) (fun (h13 : ¬ (x10 < 40)) => ?_)
    · skip
      refine T_ld 30 (.ref 0) rfl (fun _ => rfl) ?_
      refine K_gf 33 (.int (i32 (m.1 200))) rfl rfl kd_0 rfl rfl rfl ?_
      refine T_ld 36 (.int (i32 128)) rfl (fun _ => rfl) ?_
      refine T_icmp 49 39 rfl rfl rfl (r32 (by omega) (by omega)) ⟨by decide, by decide⟩ (fun (h14 : (m.1 200) ≤ 128) => ?_) (fun (h14 : ¬ ((m.1 200) ≤ 128)) => ?_)
      · skip
        refine T_ld 50 (.ref 0) rfl (fun _ => rfl) ?_
        refine K_gf 53 (.ref 185) rfl rfl kd_0 rfl rfl rfl ?_
        refine T_callx 56 163 [.ref 185] [] rfl (fun _ => rfl) rfl rfl (c_pi_comer w (mO m [] []) c N D (by omega) hT (show FRp N m by exact hFR) (show 327 ≤ N ∧ N ≤ 8100 by exact hNN) (show (m.1 232) ≤ 999999 by omega)) (fun rr15 k16 => ?_)
        obtain ⟨m17, x18, Tm17, Fm17, g19, ok31, h20, h21, h22, h23, h24, h25, h26, h27, h28, h29, h30, N32, k33, n34, hn35, hf36, rfl⟩ := k16
        refine Or.inl ⟨_, _, _, _, rfl, ?_⟩
        refine K_nb (st' := [.ref (obq (m17.2 107) x18)]) rfl ?_
        obtain ⟨g19a, g19b⟩ := g19
        have g37 : 0 ≤ m17.1 232 ∧ m17.1 232 ≤ 1000000 := Tm17.1 232
        replace h20 : x18 = (m.1 232) % 128 := h20
        have hCr := h20
        replace h21 : (m17.1 232) = (m.1 232) + 1 := h21
        replace h22 : 1 ≤ (m17.2 107) x18 := h22
        have hC1 := h22
        replace h23 : ∀ v, v ≠ x18 → (m17.2 107) v = (m.2 107) v := h23
        have hCb := h23
        replace h24 : ∀ v, v ≠ x18 → (m17.2 91) v = (m.2 91) v ∧ (m17.2 92) v = (m.2 92) v ∧ (m17.2 94) v = (m.2 94) v := h24
        have hCo := h24
        replace h25 : ∀ g, (m17.2 106) g = (m.2 106) g ∨ (m17.2 106) g < 0 := h25
        have hCi := h25
        replace h26 : ∀ g, kopi (m17.2 106) (m17.2 107) g = kopi (m.2 106) (m.2 107) g := h26
        have hCk := h26
        replace h27 : ∀ v, v ≠ x18 → (m17.2 95) v = (m.2 95) v ∧ (m17.2 96) v = (m.2 96) v ∧ (m17.2 97) v = (m.2 97) v := h27
        have hCv := h27
        replace h28 : ∀ j, j < 65536 * x18 ∨ 65536 * x18 + 65536 ≤ j → (m17.2 103) j = (m.2 103) j ∧ (m17.2 104) j = (m.2 104) j ∧ (m17.2 105) j = (m.2 105) j := h28
        have hCw := h28
        replace h29 : ∀ v, v ≠ x18 → (m17.2 93) v = (m.2 93) v ∧ (m17.2 98) v = (m.2 98) v ∧ (m17.2 99) v = (m.2 99) v := h29
        have hCp := h29
        replace h30 : ∀ j, j < 65536 * x18 ∨ 65536 * x18 + 65536 ≤ j → (m17.2 100) j = (m.2 100) j ∧ (m17.2 101) j = (m.2 101) j ∧ (m17.2 102) j = (m.2 102) j := h30
        have hCq := h30
        refine T_sto 57 [(2, .ref (obq (m17.2 107) x18)), (0, .ref 0), (1, .int (i32 y))] rfl (fun _ => rfl) ?_
        refine T_ld 58 (.ref (obq (m17.2 107) x18)) rfl (fun _ => rfl) ?_
        refine T_ld 59 (.ref 0) rfl (fun _ => rfl) ?_
        refine K_gf 62 (.ref 2) rfl rfl kd_0 rfl rfl rfl ?_
        refine T_ld 63 (.ref 0) rfl (fun _ => rfl) ?_
        refine K_gf 66 (.int (i32 (m.1 200))) rfl rfl kd_0 rfl (kval_c2 (k := 200) (F := fun x => .int (i32 x)) rfl (show (m17.1 200) = (m.1 200) from (fr1 Fm17 200 rfl))) rfl ?_
        refine T_ld 67 (.int (i32 y)) rfl (fun _ => rfl) ?_
        refine T_callx 70 165 [.ref (obq (m17.2 107) x18), .ref 2, .int (i32 (m.1 200)), .int (i32 y)] [] rfl (inv_vt (args := [.int (i32 y), .int (i32 (m.1 200)), .ref 2]) (obe_c rfl (khp_o0 _ ok31)) rfl rfl rfl) rfl rfl (c_op_becomePacket w (mO m17 [] []) c N32 D (by omega) Tm17 x18 (m.1 200) y (r32 (by omega) (by omega)) (r32 (by omega) (by omega)) (r32 (by omega) (by omega)) ok31 (show 0 ≤ (m.1 200) ∧ (m.1 200) ≤ 128 by omega)) (fun rr38 k39 => ?_)
        obtain ⟨m40, Tm40, Fm40, h41, h42, rfl⟩ := k39
        refine Or.inl ⟨_, _, _, _, rfl, ?_⟩
        refine K_nb (st' := []) rfl ?_
        replace h41 : (m40.2 91) = upI (m17.2 91) x18 0 ∧ (m40.2 92) = upI (m17.2 92) x18 (m.1 200) := h41
        have hBp := h41
        replace h42 : (m40.2 93) = upI (m17.2 93) x18 y ∧ (m40.2 100) = cpI (m17.2 1) (m17.2 100) ((0 : Int) + 0) (65536 * x18 + 0) (m.1 200) := h42
        rewrite [(show (m17.2 1) = (m.2 1) from (fr2 Fm17 1 rfl))] at h42
        have hBq := h42
        have hPI : PIp (m.1 226) (m.1 233) (m17.1 232) (m17.2 106) (m40.2 91) (m40.2 92) (m17.2 94) := PI_ad hPI hCi hCr (by omega) (by omega) (fun v h9 => by rw [hBp.1, upI_n h9]; exact (hCo v h9).1) (fun v h9 => by rw [hBp.2, upI_n h9]; exact (hCo v h9).2.1) (fun v h9 => (hCo v h9).2.2) (fun _ => by rw [hBp.2, upI_s]; omega)
        refine T_ld 71 (.ref 0) rfl (fun _ => rfl) ?_
        refine T_ld 72 (.int (i32 0)) rfl (fun _ => rfl) ?_
        refine K_pf (l' := [(200, 0)]) 75 0 rfl rfl kd_0 rfl rfl rfl rfl rfl rfl rfl ?_
        refine T_ld 76 (.ref 0) rfl (fun _ => rfl) ?_
        refine K_gf 79 (.ref 185) rfl rfl kd_0 rfl rfl rfl ?_
        refine K_gf 82 (.int (i32 (m17.1 232))) rfl rfl kd_185 rfl (kval_c2 (k := 232) (F := fun x => .int (i32 x)) rfl (show (m40.1 232) = (m17.1 232) from (fr1 Fm40 232 rfl))) rfl ?_
        refine T_ld 83 (.int (i32 1)) rfl (fun _ => rfl) ?_
        refine T_isub 84 rfl rfl ?_
        refine T_ret rfl (fun _ => rfl) ?_
        exact Or.inl ⟨(mO m40 [(200, 0)] []), (m17.1 232) - 1, (KTy_mO Tm40 rfl rfl ⟨⟨(by omega : (0 : Int) ≤ 0), (by omega : (0 : Int) ≤ 4000)⟩, trivial⟩ trivial), (fr_m (fr_s Fm40 (fr_m (fr_s Fm17 (fr_m fr_0 rfl rfl) rfl rfl) rfl rfl) rfl rfl) rfl rfl), ⟨by omega, by omega⟩, (show PIp (m.1 226) (m.1 233) (m40.1 232) (m40.2 106) (m40.2 91) (m40.2 92) (m40.2 94) by rewrite [(show (m40.1 232) = (m17.1 232) from (fr1 Fm40 232 rfl)), (show (m40.2 106) = (m17.2 106) from (fr2 Fm40 106 rfl)), (show (m40.2 94) = (m17.2 94) from (fr2 Fm40 94 rfl))]; first | (exact hPI) | (exfalso; omega)), (show ∀ r9, 0 ≤ r9 → r9 < 128 → r9 < (m40.1 232) → 1 ≤ (m40.2 107) r9 by rewrite [(show (m40.1 232) = (m17.1 232) from (fr1 Fm40 232 rfl)), (show (m40.2 107) = (m17.2 107) from (fr2 Fm40 107 rfl))]; first | (first | exact hNu | (intro r9 a9 b9 c9; by_cases e9 : r9 = (m.1 232) % 128; (rw [e9, ← hCr]; exact hC1); (rw [hCb r9 (by rw [hCr]; exact e9)]; exact hNu r9 a9 b9 (by omega)))) | (exfalso; omega)), (show (m40.1 232) ≤ (m.1 232) + 1 by rewrite [(show (m40.1 232) = (m17.1 232) from (fr1 Fm40 232 rfl))]; omega), (show (m.1 201) = 1 ∧ 1 ≤ (m.1 226) ∧ (m.1 232) - (m.1 233) < 40 ∧ (m.1 200) ≤ 128 ∧ (0 : Int) = 0 ∧ (m40.1 232) = (m.1 232) + 1 ∧ ((m17.1 232) - 1) = (m.1 232) by rewrite [(show (m40.1 232) = (m17.1 232) from (fr1 Fm40 232 rfl))]; omega), (show ∀ v, v ≠ (m.1 232) % 128 → (m40.2 92) v = (m.2 92) v ∧ (m40.2 93) v = (m.2 93) v ∧ (m40.2 94) v = (m.2 94) v ∧ (m40.2 98) v = (m.2 98) v ∧ (m40.2 99) v = (m.2 99) v by rewrite [(show (m40.2 94) = (m17.2 94) from (fr2 Fm40 94 rfl)), (show (m40.2 98) = (m17.2 98) from (fr2 Fm40 98 rfl)), (show (m40.2 99) = (m17.2 99) from (fr2 Fm40 99 rfl))]; first | (exact fun v h9 => by have h8 := (fun e => h9 (e.trans hCr) : v ≠ _); exact ⟨by rw [hBp.2, upI_n h8]; exact (hCo v h8).2.1, by rw [hBq.1, upI_n h8]; exact (hCp v h8).1, (hCo v h8).2.2, (hCp v h8).2.1, (hCp v h8).2.2⟩) | (exfalso; omega)), (show ∀ j, j < 65536 * ((m.1 232) % 128) ∨ 65536 * ((m.1 232) % 128) + 65536 ≤ j → (m40.2 100) j = (m.2 100) j ∧ (m40.2 101) j = (m.2 101) j ∧ (m40.2 102) j = (m.2 102) j by rewrite [(show (m40.2 101) = (m17.2 101) from (fr2 Fm40 101 rfl)), (show (m40.2 102) = (m17.2 102) from (fr2 Fm40 102 rfl))]; first | (exact fun j h9 => by have h8 := hCq j (by rw [hCr]; exact h9); exact ⟨by rw [hBq.2]; unfold cpI; rw [if_neg (by rw [hCr]; omega)]; exact h8.1, h8.2⟩) | (exfalso; omega)), (show (m40.2 92) ((m.1 232) % 128) = (m.1 200) ∧ (m40.2 93) ((m.1 232) % 128) = y ∧ ∀ j, 0 ≤ j → j < (m.1 200) → (m40.2 100) (65536 * ((m.1 232) % 128) + j) = (m.2 1) j by first | (exact ⟨by rw [hBp.2, ← hCr, upI_s], by rw [hBq.1, ← hCr, upI_s], fun j a9 b9 => by rw [hBq.2, ← hCr]; unfold cpI; rw [if_pos (by omega)]; exact congrArg _ (by omega)⟩) | (exfalso; omega)), (show ∀ v, v ≠ (m.1 232) % 128 → (m40.2 91) v = (m.2 91) v ∧ (m40.2 95) v = (m.2 95) v ∧ (m40.2 96) v = (m.2 96) v ∧ (m40.2 97) v = (m.2 97) v by rewrite [(show (m40.2 95) = (m17.2 95) from (fr2 Fm40 95 rfl)), (show (m40.2 96) = (m17.2 96) from (fr2 Fm40 96 rfl)), (show (m40.2 97) = (m17.2 97) from (fr2 Fm40 97 rfl))]; first | (exact fun v h9 => ⟨by rw [hBp.1, upI_n (by rw [hCr]; exact h9)]; exact (hCo v (by rw [hCr]; exact h9)).1, hCv v (by rw [hCr]; exact h9)⟩) | (exfalso; omega)), (show ∀ j, j < 65536 * ((m.1 232) % 128) ∨ 65536 * ((m.1 232) % 128) + 65536 ≤ j → (m40.2 103) j = (m.2 103) j ∧ (m40.2 104) j = (m.2 104) j ∧ (m40.2 105) j = (m.2 105) j by rewrite [(show (m40.2 103) = (m17.2 103) from (fr2 Fm40 103 rfl)), (show (m40.2 104) = (m17.2 104) from (fr2 Fm40 104 rfl)), (show (m40.2 105) = (m17.2 105) from (fr2 Fm40 105 rfl))]; first | (exact fun j h9 => hCw j (by rw [hCr]; exact h9)) | (exfalso; omega)), (show (m40.2 91) ((m.1 232) % 128) = 0 by first | (rw [hBp.1, ← hCr, upI_s]) | (exfalso; omega)), (show ∀ g, kopi (m40.2 106) (m40.2 107) g = kopi (m.2 106) (m.2 107) g by rewrite [(show (m40.2 106) = (m17.2 106) from (fr2 Fm40 106 rfl)), (show (m40.2 107) = (m17.2 107) from (fr2 Fm40 107 rfl))]; first | (first | exact hCk | exact fun g => rfl) | (exfalso; omega)),_, _, _, ⟨by omega, by omega, by omega, by omega⟩, (FR_c (show (m40.2 108) = (m17.2 108) from (fr2 Fm40 108 rfl)) hf36), rfl⟩
      · skip
        refine T_thr rfl (by omega) rfl rfl ?_
        exact Or.inr ⟨0, (mO m [] []), (by decide), hT, (fr_m fr_0 rfl rfl), (show PIp (m.1 226) (m.1 233) (m.1 232) (m.2 106) (m.2 91) (m.2 92) (m.2 94) by exact hPI), (show ∀ r9, 0 ≤ r9 → r9 < 128 → r9 < (m.1 232) → 1 ≤ (m.2 107) r9 by first | exact hNu | (intro r9 a9 b9 c9; by_cases e9 : r9 = (m.1 232) % 128; (rw [e9, ← hCr]; exact hC1); (rw [hCb r9 (by rw [hCr]; exact e9)]; exact hNu r9 a9 b9 (by omega)))), (show (m.1 232) ≤ (m.1 232) + 1 by omega), hFR, (show ((0 : Nat) = 1 ∧ ((m.1 201) = 0 ∨ (m.1 226) ≤ 0 ∨ 40 ≤ (m.1 232) - (m.1 233))) ∨ ((0 : Nat) = 0 ∧ (m.1 201) = 1 ∧ 1 ≤ (m.1 226) ∧ (m.1 232) - (m.1 233) < 40 ∧ 128 < (m.1 200)) by omega), (show (m.1 232) = (m.1 232) by omega), (show (m.1 200) = (m.1 200) by omega), (show (m.2 92) = (m.2 92) ∧ (m.2 93) = (m.2 93) ∧ (m.2 94) = (m.2 94) ∧ (m.2 98) = (m.2 98) ∧ (m.2 99) = (m.2 99) ∧ (m.2 100) = (m.2 100) ∧ (m.2 101) = (m.2 101) ∧ (m.2 102) = (m.2 102) by exact ⟨rfl, rfl, rfl, rfl, rfl, rfl, rfl, rfl⟩), (show (m.2 91) = (m.2 91) ∧ (m.2 95) = (m.2 95) ∧ (m.2 96) = (m.2 96) ∧ (m.2 97) = (m.2 97) ∧ (m.2 103) = (m.2 103) ∧ (m.2 104) = (m.2 104) ∧ (m.2 105) = (m.2 105) by exact ⟨rfl, rfl, rfl, rfl, rfl, rfl, rfl⟩), (show ∀ g, kopi (m.2 106) (m.2 107) g = kopi (m.2 106) (m.2 107) g by first | exact hCk | exact fun g => rfl), rfl⟩
    · skip
      refine T_thr rfl (by omega) rfl rfl ?_
      exact Or.inr ⟨1, (mO m [] []), (by decide), hT, (fr_m fr_0 rfl rfl), (show PIp (m.1 226) (m.1 233) (m.1 232) (m.2 106) (m.2 91) (m.2 92) (m.2 94) by exact hPI), (show ∀ r9, 0 ≤ r9 → r9 < 128 → r9 < (m.1 232) → 1 ≤ (m.2 107) r9 by first | exact hNu | (intro r9 a9 b9 c9; by_cases e9 : r9 = (m.1 232) % 128; (rw [e9, ← hCr]; exact hC1); (rw [hCb r9 (by rw [hCr]; exact e9)]; exact hNu r9 a9 b9 (by omega)))), (show (m.1 232) ≤ (m.1 232) + 1 by omega), hFR, (show ((1 : Nat) = 1 ∧ ((m.1 201) = 0 ∨ (m.1 226) ≤ 0 ∨ 40 ≤ (m.1 232) - (m.1 233))) ∨ ((1 : Nat) = 0 ∧ (m.1 201) = 1 ∧ 1 ≤ (m.1 226) ∧ (m.1 232) - (m.1 233) < 40 ∧ 128 < (m.1 200)) by omega), (show (m.1 232) = (m.1 232) by omega), (show (m.1 200) = (m.1 200) by omega), (show (m.2 92) = (m.2 92) ∧ (m.2 93) = (m.2 93) ∧ (m.2 94) = (m.2 94) ∧ (m.2 98) = (m.2 98) ∧ (m.2 99) = (m.2 99) ∧ (m.2 100) = (m.2 100) ∧ (m.2 101) = (m.2 101) ∧ (m.2 102) = (m.2 102) by exact ⟨rfl, rfl, rfl, rfl, rfl, rfl, rfl, rfl⟩), (show (m.2 91) = (m.2 91) ∧ (m.2 95) = (m.2 95) ∧ (m.2 96) = (m.2 96) ∧ (m.2 97) = (m.2 97) ∧ (m.2 103) = (m.2 103) ∧ (m.2 104) = (m.2 104) ∧ (m.2 105) = (m.2 105) by exact ⟨rfl, rfl, rfl, rfl, rfl, rfl, rfl⟩), (show ∀ g, kopi (m.2 106) (m.2 107) g = kopi (m.2 106) (m.2 107) g by first | exact hCk | exact fun g => rfl), rfl⟩
def fF_pw_entry : List Nat := [232]
def fA_pw_entry : List Nat := [91, 92, 93, 94, 95, 96, 97, 98, 99, 100, 101, 102, 103, 104, 105, 106, 107, 108]
def Q_pw_entry (m : mR) (c : Nat → Option am_C) (N : Nat) (k : Int) (t : Int) (y : Int) (x : Int) : ag_Re af_T → Prop := fun R => (∃ (M : mR) (r : Int), KTy M ∧ fr fF_pw_entry fA_pw_entry m M ∧ ((-2147483648) ≤ r ∧ r ≤ 2147483647) ∧ (PIp (m.1 226) (m.1 233) (M.1 232) (M.2 106) (M.2 91) (M.2 92) (M.2 94)) ∧ (∀ r9, 0 ≤ r9 → r9 < 128 → r9 < (M.1 232) → 1 ≤ (M.2 107) r9) ∧ ((M.1 232) ≤ (m.1 232) + 1) ∧ (0 ≤ k ∧ k ≤ 2 ∧ (m.1 201) = 1 ∧ 0 ≤ t ∧ t < (m.1 219) ∧ 1 ≤ (m.1 226) ∧ (m.1 232) - (m.1 233) < 40 ∧ (M.1 232) = (m.1 232) + 1 ∧ r = (m.1 232)) ∧ (∀ v, v ≠ (m.1 232) % 128 → (M.2 92) v = (m.2 92) v ∧ (M.2 93) v = (m.2 93) v ∧ (M.2 94) v = (m.2 94) v ∧ (M.2 98) v = (m.2 98) v ∧ (M.2 99) v = (m.2 99) v) ∧ (∀ j, j < 65536 * ((m.1 232) % 128) ∨ 65536 * ((m.1 232) % 128) + 65536 ≤ j → (M.2 100) j = (m.2 100) j ∧ (M.2 101) j = (m.2 101) j ∧ (M.2 102) j = (m.2 102) j) ∧ (∀ v, v ≠ (m.1 232) % 128 → (M.2 91) v = (m.2 91) v ∧ (M.2 95) v = (m.2 95) v ∧ (M.2 96) v = (m.2 96) v ∧ (M.2 97) v = (m.2 97) v) ∧ (∀ j, j < 65536 * ((m.1 232) % 128) ∨ 65536 * ((m.1 232) % 128) + 65536 ≤ j → (M.2 103) j = (m.2 103) j ∧ (M.2 104) j = (m.2 104) j ∧ (M.2 105) j = (m.2 105) j) ∧ ((M.2 91) ((m.1 232) % 128) = k + 1 ∧ (M.2 95) ((m.1 232) % 128) = t ∧ (M.2 96) ((m.1 232) % 128) = y ∧ (M.2 97) ((m.1 232) % 128) = x) ∧ (∀ j, 0 ≤ j → j < 4 → (M.2 103) (65536 * ((m.1 232) % 128) + j) = (m.2 2) j ∧ (M.2 104) (65536 * ((m.1 232) % 128) + j) = (m.2 3) j ∧ (M.2 105) (65536 * ((m.1 232) % 128) + j) = (m.2 4) j) ∧ (∀ g, kopi (M.2 106) (M.2 107) g = kopi (m.2 106) (m.2 107) g) ∧ ∃ (N2 k9 n9 : Nat), (N ≤ N2 ∧ N2 ≤ N + 7 ∧ k9 ≤ 7 ∧ n9 ≤ 1192) ∧ FRp N2 M ∧ R = (.inl (some (.int (i32 r))), (khp M c, N2), k9, n9)) ∨ (∃ (x : Nat) (M : mR), (x = 2 ∨ x = 1) ∧ (KTy M) ∧ (fr fF_pw_entry fA_pw_entry m M) ∧ (PIp (m.1 226) (m.1 233) (M.1 232) (M.2 106) (M.2 91) (M.2 92) (M.2 94)) ∧ (∀ r9, 0 ≤ r9 → r9 < 128 → r9 < (M.1 232) → 1 ≤ (M.2 107) r9) ∧ ((M.1 232) ≤ (m.1 232) + 1) ∧ (FRp N M) ∧ ((x = 2 ∧ (k < 0 ∨ 2 < k ∨ (m.1 201) = 0 ∨ t < 0 ∨ (m.1 219) ≤ t)) ∨ (x = 1 ∧ 0 ≤ k ∧ k ≤ 2 ∧ (m.1 201) = 1 ∧ 0 ≤ t ∧ t < (m.1 219) ∧ ((m.1 226) ≤ 0 ∨ 40 ≤ (m.1 232) - (m.1 233)))) ∧ ((M.1 232) = (m.1 232)) ∧ ((M.2 92) = (m.2 92) ∧ (M.2 93) = (m.2 93) ∧ (M.2 94) = (m.2 94) ∧ (M.2 98) = (m.2 98) ∧ (M.2 99) = (m.2 99) ∧ (M.2 100) = (m.2 100) ∧ (M.2 101) = (m.2 101) ∧ (M.2 102) = (m.2 102)) ∧ ((M.2 91) = (m.2 91) ∧ (M.2 95) = (m.2 95) ∧ (M.2 96) = (m.2 96) ∧ (M.2 97) = (m.2 97) ∧ (M.2 103) = (m.2 103) ∧ (M.2 104) = (m.2 104) ∧ (M.2 105) = (m.2 105)) ∧ (∀ g, kopi (M.2 106) (M.2 107) g = kopi (m.2 106) (m.2 107) g) ∧ R = (.inr x, (khp M c, N), 1, 6))
set_option maxHeartbeats 3000000 in
theorem c_pw_entry (w : wX) (m : mR) (c : Nat → Option am_C) (N D : Nat) (hD : 6 ≤ D) (hT : KTy m) (k : Int) (t : Int) (y : Int) (x : Int) (qk : R32 k) (qt : R32 t) (qy : R32 y) (qx : R32 x) (hNu : ∀ r9, 0 ≤ r9 → r9 < 128 → r9 < (m.1 232) → 1 ≤ (m.2 107) r9) (hPI : PIp (m.1 226) (m.1 233) (m.1 232) (m.2 106) (m.2 91) (m.2 92) (m.2 94)) (hFR : FRp N m) (hNN : 327 ≤ N ∧ N ≤ 8100) (p4 : (m.1 232) ≤ 999999) : TC w D 171 [.ref 0, .int (i32 k), .int (i32 t), .int (i32 y), .int (i32 x)] (khp m c, N) (Q_pw_entry m c N k t y x) := by
  obtain ⟨D, rfl⟩ : ∃ k, D = k + 1 := ⟨D - 1, by omega⟩
  obtain ⟨qka, qkb⟩ := id qk
  obtain ⟨qta, qtb⟩ := id qt
  obtain ⟨qya, qyb⟩ := id qy
  obtain ⟨qxa, qxb⟩ := id qx
  have f232 : 0 ≤ m.1 232 ∧ m.1 232 ≤ 1000000 := hT.1 232
  have f201 : 0 ≤ m.1 201 ∧ m.1 201 ≤ 1 := hT.1 201
  have f219 : 0 ≤ m.1 219 ∧ m.1 219 ≤ 8 := hT.1 219
  have f226 : 0 ≤ m.1 226 ∧ m.1 226 ≤ 12 := hT.1 226
  have f233 : 0 ≤ m.1 233 ∧ m.1 233 ≤ 1000000 := hT.1 233
  refine Tc_of rfl ?_
  rw [show (khp m c, N) = (khp (mO m [] []) c, N) from by rw [mO_nil m]]
  show TT w D pm_171 (0, [(0, .ref 0), (1, .int (i32 k)), (2, .int (i32 t)), (3, .int (i32 y)), (4, .int (i32 x))], [], (khp (mO m [] []) c, N), 0, 0) (Q_pw_entry m c N k t y x)
  refine T_ld 1 (.int (i32 k)) rfl (fun _ => rfl) ?_
  refine T_if 17 4 rfl rfl rfl (r32 (by omega) (by omega)) (fun (h1 : k < 0) => ?_) (fun (h1 : ¬ (k < 0)) => ?_)
  · skip
    refine T_thr rfl (by omega) rfl rfl ?_
    exact Or.inr ⟨2, (mO m [] []), (by decide), hT, (fr_m fr_0 rfl rfl), (show PIp (m.1 226) (m.1 233) (m.1 232) (m.2 106) (m.2 91) (m.2 92) (m.2 94) by exact hPI), (show ∀ r9, 0 ≤ r9 → r9 < 128 → r9 < (m.1 232) → 1 ≤ (m.2 107) r9 by first | exact hNu | (intro r9 a9 b9 c9; by_cases e9 : r9 = (m.1 232) % 128; (rw [e9, ← hCr]; exact hC1); (rw [hCb r9 (by rw [hCr]; exact e9)]; exact hNu r9 a9 b9 (by omega)))), (show (m.1 232) ≤ (m.1 232) + 1 by omega), hFR, (show ((2 : Nat) = 2 ∧ (k < 0 ∨ 2 < k ∨ (m.1 201) = 0 ∨ t < 0 ∨ (m.1 219) ≤ t)) ∨ ((2 : Nat) = 1 ∧ 0 ≤ k ∧ k ≤ 2 ∧ (m.1 201) = 1 ∧ 0 ≤ t ∧ t < (m.1 219) ∧ ((m.1 226) ≤ 0 ∨ 40 ≤ (m.1 232) - (m.1 233))) by omega), (show (m.1 232) = (m.1 232) by omega), (show (m.2 92) = (m.2 92) ∧ (m.2 93) = (m.2 93) ∧ (m.2 94) = (m.2 94) ∧ (m.2 98) = (m.2 98) ∧ (m.2 99) = (m.2 99) ∧ (m.2 100) = (m.2 100) ∧ (m.2 101) = (m.2 101) ∧ (m.2 102) = (m.2 102) by exact ⟨rfl, rfl, rfl, rfl, rfl, rfl, rfl, rfl⟩), (show (m.2 91) = (m.2 91) ∧ (m.2 95) = (m.2 95) ∧ (m.2 96) = (m.2 96) ∧ (m.2 97) = (m.2 97) ∧ (m.2 103) = (m.2 103) ∧ (m.2 104) = (m.2 104) ∧ (m.2 105) = (m.2 105) by exact ⟨rfl, rfl, rfl, rfl, rfl, rfl, rfl⟩), (show ∀ g, kopi (m.2 106) (m.2 107) g = kopi (m.2 106) (m.2 107) g by first | exact hCk | exact fun g => rfl), rfl⟩
  · skip
    refine T_ld 5 (.int (i32 k)) rfl (fun _ => rfl) ?_
    refine T_ld 6 (.int (i32 2)) rfl (fun _ => rfl) ?_
    refine T_icmp 17 9 rfl rfl rfl (r32 (by omega) (by omega)) ⟨by decide, by decide⟩ (fun (h2 : (2 : Int) < k) => ?_) (fun (h2 : ¬ ((2 : Int) < k)) => ?_)
    · skip
      refine T_thr rfl (by omega) rfl rfl ?_
      exact Or.inr ⟨2, (mO m [] []), (by decide), hT, (fr_m fr_0 rfl rfl), (show PIp (m.1 226) (m.1 233) (m.1 232) (m.2 106) (m.2 91) (m.2 92) (m.2 94) by exact hPI), (show ∀ r9, 0 ≤ r9 → r9 < 128 → r9 < (m.1 232) → 1 ≤ (m.2 107) r9 by first | exact hNu | (intro r9 a9 b9 c9; by_cases e9 : r9 = (m.1 232) % 128; (rw [e9, ← hCr]; exact hC1); (rw [hCb r9 (by rw [hCr]; exact e9)]; exact hNu r9 a9 b9 (by omega)))), (show (m.1 232) ≤ (m.1 232) + 1 by omega), hFR, (show ((2 : Nat) = 2 ∧ (k < 0 ∨ 2 < k ∨ (m.1 201) = 0 ∨ t < 0 ∨ (m.1 219) ≤ t)) ∨ ((2 : Nat) = 1 ∧ 0 ≤ k ∧ k ≤ 2 ∧ (m.1 201) = 1 ∧ 0 ≤ t ∧ t < (m.1 219) ∧ ((m.1 226) ≤ 0 ∨ 40 ≤ (m.1 232) - (m.1 233))) by omega), (show (m.1 232) = (m.1 232) by omega), (show (m.2 92) = (m.2 92) ∧ (m.2 93) = (m.2 93) ∧ (m.2 94) = (m.2 94) ∧ (m.2 98) = (m.2 98) ∧ (m.2 99) = (m.2 99) ∧ (m.2 100) = (m.2 100) ∧ (m.2 101) = (m.2 101) ∧ (m.2 102) = (m.2 102) by exact ⟨rfl, rfl, rfl, rfl, rfl, rfl, rfl, rfl⟩), (show (m.2 91) = (m.2 91) ∧ (m.2 95) = (m.2 95) ∧ (m.2 96) = (m.2 96) ∧ (m.2 97) = (m.2 97) ∧ (m.2 103) = (m.2 103) ∧ (m.2 104) = (m.2 104) ∧ (m.2 105) = (m.2 105) by exact ⟨rfl, rfl, rfl, rfl, rfl, rfl, rfl⟩), (show ∀ g, kopi (m.2 106) (m.2 107) g = kopi (m.2 106) (m.2 107) g by first | exact hCk | exact fun g => rfl), rfl⟩
    · skip
      refine T_ld 10 (.ref 0) rfl (fun _ => rfl) ?_
      refine T_ld 11 (.int (i32 t)) rfl (fun _ => rfl) ?_
      refine T_callx 14 172 [.ref 0, .int (i32 t)] [] rfl (fun _ => rfl) rfl rfl (c_pw_isTable w (mO m [] []) c N D (by omega) hT t (r32 (by omega) (by omega))) (fun rr3 k4 => ?_)
      obtain ⟨x5, g6, h7, h8, rfl⟩ := k4
      refine Or.inl ⟨_, _, _, _, rfl, ?_⟩
      refine T_ns (st' := [.int (i32 x5)]) rfl ?_
      obtain ⟨g6a, g6b⟩ := g6
      replace h7 : x5 = 1 → (m.1 201) = 1 ∧ 0 ≤ t ∧ t < (m.1 219) := h7
      replace h8 : x5 = 0 → (m.1 201) = 0 ∨ t < 0 ∨ (m.1 219) ≤ t := h8
      refine T_if 27 17 rfl rfl rfl (r32 (by omega) (by omega)) (fun (h9 : x5 ≠ 0) => ?_) (fun (h9 : ¬ (x5 ≠ 0)) => ?_)
      · skip
        refine T_ld 28 (.ref 0) rfl (fun _ => rfl) ?_
        refine T_callx 31 33 [.ref 0] [] rfl (fun _ => rfl) rfl rfl (c_pw_isLaid w (mO m [] []) c N D (by omega) hT ) (fun rr10 k11 => ?_)
        obtain ⟨x12, g13, h14, h15, rfl⟩ := k11
        refine Or.inl ⟨_, _, _, _, rfl, ?_⟩
        refine T_ns (st' := [.int (i32 x12)]) rfl ?_
        obtain ⟨g13a, g13b⟩ := g13
        replace h14 : x12 = 1 → (m.1 201) = 1 ∧ 1 ≤ (m.1 226) := h14
        replace h15 : x12 = 0 → (m.1 201) = 0 ∨ (m.1 226) ≤ 0 := h15
        refine T_if 46 34 rfl rfl rfl (r32 (by omega) (by omega)) (fun (h16 : x12 = 0) => ?_) (fun (h16 : ¬ (x12 = 0)) => ?_)
        · skip
          refine T_thr rfl (by omega) rfl rfl ?_
          exact Or.inr ⟨1, (mO m [] []), (by decide), hT, (fr_m fr_0 rfl rfl), (show PIp (m.1 226) (m.1 233) (m.1 232) (m.2 106) (m.2 91) (m.2 92) (m.2 94) by exact hPI), (show ∀ r9, 0 ≤ r9 → r9 < 128 → r9 < (m.1 232) → 1 ≤ (m.2 107) r9 by first | exact hNu | (intro r9 a9 b9 c9; by_cases e9 : r9 = (m.1 232) % 128; (rw [e9, ← hCr]; exact hC1); (rw [hCb r9 (by rw [hCr]; exact e9)]; exact hNu r9 a9 b9 (by omega)))), (show (m.1 232) ≤ (m.1 232) + 1 by omega), hFR, (show ((1 : Nat) = 2 ∧ (k < 0 ∨ 2 < k ∨ (m.1 201) = 0 ∨ t < 0 ∨ (m.1 219) ≤ t)) ∨ ((1 : Nat) = 1 ∧ 0 ≤ k ∧ k ≤ 2 ∧ (m.1 201) = 1 ∧ 0 ≤ t ∧ t < (m.1 219) ∧ ((m.1 226) ≤ 0 ∨ 40 ≤ (m.1 232) - (m.1 233))) by omega), (show (m.1 232) = (m.1 232) by omega), (show (m.2 92) = (m.2 92) ∧ (m.2 93) = (m.2 93) ∧ (m.2 94) = (m.2 94) ∧ (m.2 98) = (m.2 98) ∧ (m.2 99) = (m.2 99) ∧ (m.2 100) = (m.2 100) ∧ (m.2 101) = (m.2 101) ∧ (m.2 102) = (m.2 102) by exact ⟨rfl, rfl, rfl, rfl, rfl, rfl, rfl, rfl⟩), (show (m.2 91) = (m.2 91) ∧ (m.2 95) = (m.2 95) ∧ (m.2 96) = (m.2 96) ∧ (m.2 97) = (m.2 97) ∧ (m.2 103) = (m.2 103) ∧ (m.2 104) = (m.2 104) ∧ (m.2 105) = (m.2 105) by exact ⟨rfl, rfl, rfl, rfl, rfl, rfl, rfl⟩), (show ∀ g, kopi (m.2 106) (m.2 107) g = kopi (m.2 106) (m.2 107) g by first | exact hCk | exact fun g => rfl), rfl⟩
        · skip
          refine T_ld 35 (.ref 0) rfl (fun _ => rfl) ?_
          refine K_gf 38 (.ref 185) rfl rfl kd_0 rfl rfl rfl ?_
          refine T_callx 41 40 [.ref 185] [] rfl (fun _ => rfl) rfl rfl (c_pi_inLine w (mO m [] []) c N D (by omega) hT ) (fun rr17 k18 => ?_)
          obtain ⟨x19, g20, h21, rfl⟩ := k18
          refine Or.inl ⟨_, _, _, _, rfl, ?_⟩
          refine T_ns (st' := [.int (i32 x19)]) rfl ?_
          obtain ⟨g20a, g20b⟩ := g20
          replace h21 : x19 = (m.1 232) - (m.1 233) := h21
          refine T_ld 43 (.int (i32 40)) rfl (fun _ => rfl) ?_
          refine T_icmp 56 46 rfl rfl rfl (r32 (by omega) (by omega)) ⟨by decide, by decide⟩ (fun (h22 : x19 < 40) => ?_) (fun (h22 : ¬ (x19 < 40)) => ?_)
          · skip
            refine T_ld 57 (.ref 0) rfl (fun _ => rfl) ?_
            refine K_gf 60 (.ref 185) rfl rfl kd_0 rfl rfl rfl ?_
            refine T_callx 63 163 [.ref 185] [] rfl (fun _ => rfl) rfl rfl (c_pi_comer w (mO m [] []) c N D (by omega) hT (show FRp N m by exact hFR) (show 327 ≤ N ∧ N ≤ 8100 by exact hNN) (show (m.1 232) ≤ 999999 by omega)) (fun rr23 k24 => ?_)
            obtain ⟨m25, x26, Tm25, Fm25, g27, ok39, h28, h29, h30, h31, h32, h33, h34, h35, h36, h37, h38, N40, k41, n42, hn43, hf44, rfl⟩ := k24
            refine Or.inl ⟨_, _, _, _, rfl, ?_⟩
            refine K_nb (st' := [.ref (obq (m25.2 107) x26)]) rfl ?_
            obtain ⟨g27a, g27b⟩ := g27
            have g45 : 0 ≤ m25.1 232 ∧ m25.1 232 ≤ 1000000 := Tm25.1 232
            replace h28 : x26 = (m.1 232) % 128 := h28
            have hCr := h28
            replace h29 : (m25.1 232) = (m.1 232) + 1 := h29
            replace h30 : 1 ≤ (m25.2 107) x26 := h30
            have hC1 := h30
            replace h31 : ∀ v, v ≠ x26 → (m25.2 107) v = (m.2 107) v := h31
            have hCb := h31
            replace h32 : ∀ v, v ≠ x26 → (m25.2 91) v = (m.2 91) v ∧ (m25.2 92) v = (m.2 92) v ∧ (m25.2 94) v = (m.2 94) v := h32
            have hCo := h32
            replace h33 : ∀ g, (m25.2 106) g = (m.2 106) g ∨ (m25.2 106) g < 0 := h33
            have hCi := h33
            replace h34 : ∀ g, kopi (m25.2 106) (m25.2 107) g = kopi (m.2 106) (m.2 107) g := h34
            have hCk := h34
            replace h35 : ∀ v, v ≠ x26 → (m25.2 95) v = (m.2 95) v ∧ (m25.2 96) v = (m.2 96) v ∧ (m25.2 97) v = (m.2 97) v := h35
            have hCv := h35
            replace h36 : ∀ j, j < 65536 * x26 ∨ 65536 * x26 + 65536 ≤ j → (m25.2 103) j = (m.2 103) j ∧ (m25.2 104) j = (m.2 104) j ∧ (m25.2 105) j = (m.2 105) j := h36
            have hCw := h36
            replace h37 : ∀ v, v ≠ x26 → (m25.2 93) v = (m.2 93) v ∧ (m25.2 98) v = (m.2 98) v ∧ (m25.2 99) v = (m.2 99) v := h37
            have hCp := h37
            replace h38 : ∀ j, j < 65536 * x26 ∨ 65536 * x26 + 65536 ≤ j → (m25.2 100) j = (m.2 100) j ∧ (m25.2 101) j = (m.2 101) j ∧ (m25.2 102) j = (m.2 102) j := h38
            have hCq := h38
            refine T_sto 65 [(5, .ref (obq (m25.2 107) x26)), (0, .ref 0), (1, .int (i32 k)), (2, .int (i32 t)), (3, .int (i32 y)), (4, .int (i32 x))] rfl (fun _ => rfl) ?_
            refine T_ld 67 (.ref (obq (m25.2 107) x26)) rfl (fun _ => rfl) ?_
            refine T_ld 68 (.int (i32 k)) rfl (fun _ => rfl) ?_
            refine T_ld 69 (.int (i32 1)) rfl (fun _ => rfl) ?_
            refine T_iadd 70 rfl rfl ?_
            refine T_ld 71 (.int (i32 t)) rfl (fun _ => rfl) ?_
            refine T_ld 72 (.int (i32 y)) rfl (fun _ => rfl) ?_
            refine T_ld 74 (.int (i32 x)) rfl (fun _ => rfl) ?_
            refine T_callx 77 173 [.ref (obq (m25.2 107) x26), .int (i32 (k + 1)), .int (i32 t), .int (i32 y), .int (i32 x)] [] rfl (inv_vt (args := [.int (i32 x), .int (i32 y), .int (i32 t), .int (i32 (k + 1))]) (obe_c rfl (khp_o0 _ ok39)) rfl rfl rfl) rfl rfl (c_op_becomeEntry w (mO m25 [] []) c N40 D (by omega) Tm25 x26 (k + 1) t y x (r32 (by omega) (by omega)) (r32 (by omega) (by omega)) (r32 (by omega) (by omega)) (r32 (by omega) (by omega)) (r32 (by omega) (by omega)) ok39 (show 1 ≤ (k + 1) ∧ (k + 1) ≤ 3 by omega) (show 0 ≤ t ∧ t ≤ 7 by omega)) (fun rr46 k47 => ?_)
            obtain ⟨m48, Tm48, Fm48, h49, h50, rfl⟩ := k47
            refine Or.inl ⟨_, _, _, _, rfl, ?_⟩
            refine K_nb (st' := []) rfl ?_
            replace h49 : (m48.2 91) = upI (m25.2 91) x26 (k + 1) := h49
            have hBe := h49
            replace h50 : (m48.2 95) = upI (m25.2 95) x26 t ∧ (m48.2 96) = upI (m25.2 96) x26 y ∧ (m48.2 97) = upI (m25.2 97) x26 x := h50
            have hBf := h50
            refine T_ld 79 (.ref (obq (m25.2 107) x26)) rfl (fun _ => rfl) ?_
            refine T_ld 80 (.ref 0) rfl (fun _ => rfl) ?_
            refine K_gf 83 (.ref 3) rfl rfl kd_0 rfl rfl rfl ?_
            refine T_ld 84 (.ref 0) rfl (fun _ => rfl) ?_
            refine K_gf 87 (.ref 4) rfl rfl kd_0 rfl rfl rfl ?_
            refine T_ld 88 (.ref 0) rfl (fun _ => rfl) ?_
            refine K_gf 91 (.ref 5) rfl rfl kd_0 rfl rfl rfl ?_
            refine T_callx 94 174 [.ref (obq (m25.2 107) x26), .ref 3, .ref 4, .ref 5] [] rfl (inv_vt (args := [.ref 5, .ref 4, .ref 3]) (obe_c (congrArg (fun f : Int → Int => (f x26).toNat) (show (m48.2 107) = (m25.2 107) from (fr2 Fm48 107 rfl))) (khp_o0 _ (OKr_c (show (m48.2 107) = (m25.2 107) from (fr2 Fm48 107 rfl)) (show (m48.2 108) = (m25.2 108) from (fr2 Fm48 108 rfl)) ok39))) rfl rfl rfl) rfl rfl (TC_cast (fun g9 => [.ref (obq g9 x26), .ref 3, .ref 4, .ref 5]) (show (m48.2 107) = (m25.2 107) from (fr2 Fm48 107 rfl)) (c_op_holdRows w (mO m48 [] []) c N40 D (by omega) Tm48 x26 (r32 (by omega) (by omega)) (OKr_c (show (m48.2 107) = (m25.2 107) from (fr2 Fm48 107 rfl)) (show (m48.2 108) = (m25.2 108) from (fr2 Fm48 108 rfl)) ok39))) (fun rr51 k52 => ?_)
            obtain ⟨m53, Tm53, Fm53, h54, rfl⟩ := k52
            refine Or.inl ⟨_, _, _, _, rfl, ?_⟩
            refine K_nb (st' := []) rfl ?_
            replace h54 : (m53.2 103) = cpI (m48.2 2) (m48.2 103) ((0 : Int) + 0) (65536 * x26 + 0) 4 ∧ (m53.2 104) = cpI (m48.2 3) (m48.2 104) ((0 : Int) + 0) (65536 * x26 + 0) 4 ∧ (m53.2 105) = cpI (m48.2 4) (m48.2 105) ((0 : Int) + 0) (65536 * x26 + 0) 4 := h54
            rewrite [(show (m48.2 2) = (m.2 2) from ((fr2 Fm48 2 rfl).trans (fr2 Fm25 2 rfl))), (show (m48.2 103) = (m25.2 103) from (fr2 Fm48 103 rfl)), (show (m48.2 3) = (m.2 3) from ((fr2 Fm48 3 rfl).trans (fr2 Fm25 3 rfl))), (show (m48.2 104) = (m25.2 104) from (fr2 Fm48 104 rfl)), (show (m48.2 4) = (m.2 4) from ((fr2 Fm48 4 rfl).trans (fr2 Fm25 4 rfl))), (show (m48.2 105) = (m25.2 105) from (fr2 Fm48 105 rfl))] at h54
            have hHr := h54
            have hPI : PIp (m.1 226) (m.1 233) (m25.1 232) (m25.2 106) (m48.2 91) (m25.2 92) (m25.2 94) := PI_ad hPI hCi hCr (by omega) (by omega) (fun v h9 => by rw [hBe, upI_n h9]; exact (hCo v h9).1) (fun v h9 => (hCo v h9).2.1) (fun v h9 => (hCo v h9).2.2) (fun h9 => absurd h9 (by rw [hBe, upI_s]; omega))
            refine T_ld 95 (.ref 0) rfl (fun _ => rfl) ?_
            refine K_gf 98 (.ref 185) rfl rfl kd_0 rfl rfl rfl ?_
            refine K_gf 101 (.int (i32 (m25.1 232))) rfl rfl kd_185 rfl (kval_c2 (k := 232) (F := fun x => .int (i32 x)) rfl (show (m53.1 232) = (m25.1 232) from ((fr1 Fm53 232 rfl).trans (fr1 Fm48 232 rfl)))) rfl ?_
            refine T_ld 102 (.int (i32 1)) rfl (fun _ => rfl) ?_
            refine T_isub 103 rfl rfl ?_
            refine T_ret rfl (fun _ => rfl) ?_
            exact Or.inl ⟨(mO m53 [] []), (m25.1 232) - 1, Tm53, (fr_m (fr_s Fm53 (fr_m (fr_s Fm48 (fr_m (fr_s Fm25 (fr_m fr_0 rfl rfl) rfl rfl) rfl rfl) rfl rfl) rfl rfl) rfl rfl) rfl rfl), ⟨by omega, by omega⟩, (show PIp (m.1 226) (m.1 233) (m53.1 232) (m53.2 106) (m53.2 91) (m53.2 92) (m53.2 94) by rewrite [(show (m53.1 232) = (m25.1 232) from ((fr1 Fm53 232 rfl).trans (fr1 Fm48 232 rfl))), (show (m53.2 106) = (m25.2 106) from ((fr2 Fm53 106 rfl).trans (fr2 Fm48 106 rfl))), (show (m53.2 91) = (m48.2 91) from (fr2 Fm53 91 rfl)), (show (m53.2 92) = (m25.2 92) from ((fr2 Fm53 92 rfl).trans (fr2 Fm48 92 rfl))), (show (m53.2 94) = (m25.2 94) from ((fr2 Fm53 94 rfl).trans (fr2 Fm48 94 rfl)))]; first | (exact hPI) | (exfalso; omega)), (show ∀ r9, 0 ≤ r9 → r9 < 128 → r9 < (m53.1 232) → 1 ≤ (m53.2 107) r9 by rewrite [(show (m53.1 232) = (m25.1 232) from ((fr1 Fm53 232 rfl).trans (fr1 Fm48 232 rfl))), (show (m53.2 107) = (m25.2 107) from ((fr2 Fm53 107 rfl).trans (fr2 Fm48 107 rfl)))]; first | (first | exact hNu | (intro r9 a9 b9 c9; by_cases e9 : r9 = (m.1 232) % 128; (rw [e9, ← hCr]; exact hC1); (rw [hCb r9 (by rw [hCr]; exact e9)]; exact hNu r9 a9 b9 (by omega)))) | (exfalso; omega)), (show (m53.1 232) ≤ (m.1 232) + 1 by rewrite [(show (m53.1 232) = (m25.1 232) from ((fr1 Fm53 232 rfl).trans (fr1 Fm48 232 rfl)))]; omega), (show 0 ≤ k ∧ k ≤ 2 ∧ (m.1 201) = 1 ∧ 0 ≤ t ∧ t < (m.1 219) ∧ 1 ≤ (m.1 226) ∧ (m.1 232) - (m.1 233) < 40 ∧ (m53.1 232) = (m.1 232) + 1 ∧ ((m25.1 232) - 1) = (m.1 232) by rewrite [(show (m53.1 232) = (m25.1 232) from ((fr1 Fm53 232 rfl).trans (fr1 Fm48 232 rfl)))]; omega), (show ∀ v, v ≠ (m.1 232) % 128 → (m53.2 92) v = (m.2 92) v ∧ (m53.2 93) v = (m.2 93) v ∧ (m53.2 94) v = (m.2 94) v ∧ (m53.2 98) v = (m.2 98) v ∧ (m53.2 99) v = (m.2 99) v by rewrite [(show (m53.2 92) = (m25.2 92) from ((fr2 Fm53 92 rfl).trans (fr2 Fm48 92 rfl))), (show (m53.2 93) = (m25.2 93) from ((fr2 Fm53 93 rfl).trans (fr2 Fm48 93 rfl))), (show (m53.2 94) = (m25.2 94) from ((fr2 Fm53 94 rfl).trans (fr2 Fm48 94 rfl))), (show (m53.2 98) = (m25.2 98) from ((fr2 Fm53 98 rfl).trans (fr2 Fm48 98 rfl))), (show (m53.2 99) = (m25.2 99) from ((fr2 Fm53 99 rfl).trans (fr2 Fm48 99 rfl)))]; first | (exact fun v h9 => by have h8 := (fun e => h9 (e.trans hCr) : v ≠ _); exact ⟨(hCo v h8).2.1, (hCp v h8).1, (hCo v h8).2.2, (hCp v h8).2.1, (hCp v h8).2.2⟩) | (exfalso; omega)), (show ∀ j, j < 65536 * ((m.1 232) % 128) ∨ 65536 * ((m.1 232) % 128) + 65536 ≤ j → (m53.2 100) j = (m.2 100) j ∧ (m53.2 101) j = (m.2 101) j ∧ (m53.2 102) j = (m.2 102) j by rewrite [(show (m53.2 100) = (m25.2 100) from ((fr2 Fm53 100 rfl).trans (fr2 Fm48 100 rfl))), (show (m53.2 101) = (m25.2 101) from ((fr2 Fm53 101 rfl).trans (fr2 Fm48 101 rfl))), (show (m53.2 102) = (m25.2 102) from ((fr2 Fm53 102 rfl).trans (fr2 Fm48 102 rfl)))]; first | (exact fun j h9 => hCq j (by rw [hCr]; exact h9)) | (exfalso; omega)), (show ∀ v, v ≠ (m.1 232) % 128 → (m53.2 91) v = (m.2 91) v ∧ (m53.2 95) v = (m.2 95) v ∧ (m53.2 96) v = (m.2 96) v ∧ (m53.2 97) v = (m.2 97) v by rewrite [(show (m53.2 91) = (m48.2 91) from (fr2 Fm53 91 rfl)), (show (m53.2 95) = (m48.2 95) from (fr2 Fm53 95 rfl)), (show (m53.2 96) = (m48.2 96) from (fr2 Fm53 96 rfl)), (show (m53.2 97) = (m48.2 97) from (fr2 Fm53 97 rfl))]; first | (exact fun v h9 => ⟨by rw [hBe, upI_n (by rw [hCr]; exact h9)]; exact (hCo v (by rw [hCr]; exact h9)).1, by rw [hBf.1, upI_n (by rw [hCr]; exact h9)]; exact (hCv v (by rw [hCr]; exact h9)).1, by rw [hBf.2.1, upI_n (by rw [hCr]; exact h9)]; exact (hCv v (by rw [hCr]; exact h9)).2.1, by rw [hBf.2.2, upI_n (by rw [hCr]; exact h9)]; exact (hCv v (by rw [hCr]; exact h9)).2.2⟩) | (exfalso; omega)), (show ∀ j, j < 65536 * ((m.1 232) % 128) ∨ 65536 * ((m.1 232) % 128) + 65536 ≤ j → (m53.2 103) j = (m.2 103) j ∧ (m53.2 104) j = (m.2 104) j ∧ (m53.2 105) j = (m.2 105) j by first | (exact fun j h9 => by have h8 := hCw j (by rw [hCr]; exact h9); rw [hHr.1, hHr.2.1, hHr.2.2]; unfold cpI; rw [if_neg (by rw [hCr]; omega), if_neg (by rw [hCr]; omega), if_neg (by rw [hCr]; omega)]; exact h8) | (exfalso; omega)), (show (m53.2 91) ((m.1 232) % 128) = k + 1 ∧ (m53.2 95) ((m.1 232) % 128) = t ∧ (m53.2 96) ((m.1 232) % 128) = y ∧ (m53.2 97) ((m.1 232) % 128) = x by rewrite [(show (m53.2 91) = (m48.2 91) from (fr2 Fm53 91 rfl)), (show (m53.2 95) = (m48.2 95) from (fr2 Fm53 95 rfl)), (show (m53.2 96) = (m48.2 96) from (fr2 Fm53 96 rfl)), (show (m53.2 97) = (m48.2 97) from (fr2 Fm53 97 rfl))]; first | (exact ⟨by rw [hBe, ← hCr, upI_s] <;> omega, by rw [hBf.1, ← hCr, upI_s], by rw [hBf.2.1, ← hCr, upI_s], by rw [hBf.2.2, ← hCr, upI_s]⟩) | (exfalso; omega)), (show ∀ j, 0 ≤ j → j < 4 → (m53.2 103) (65536 * ((m.1 232) % 128) + j) = (m.2 2) j ∧ (m53.2 104) (65536 * ((m.1 232) % 128) + j) = (m.2 3) j ∧ (m53.2 105) (65536 * ((m.1 232) % 128) + j) = (m.2 4) j by first | (exact fun j a9 b9 => by rw [hHr.1, hHr.2.1, hHr.2.2, ← hCr]; unfold cpI; rw [if_pos (by omega), if_pos (by omega), if_pos (by omega)]; exact ⟨congrArg _ (by omega), congrArg _ (by omega), congrArg _ (by omega)⟩) | (exfalso; omega)), (show ∀ g, kopi (m53.2 106) (m53.2 107) g = kopi (m.2 106) (m.2 107) g by rewrite [(show (m53.2 106) = (m25.2 106) from ((fr2 Fm53 106 rfl).trans (fr2 Fm48 106 rfl))), (show (m53.2 107) = (m25.2 107) from ((fr2 Fm53 107 rfl).trans (fr2 Fm48 107 rfl)))]; first | (first | exact hCk | exact fun g => rfl) | (exfalso; omega)),_, _, _, ⟨by omega, by omega, by omega, by omega⟩, (FR_c (show (m53.2 108) = (m25.2 108) from ((fr2 Fm53 108 rfl).trans (fr2 Fm48 108 rfl))) hf44), rfl⟩
          · skip
            refine T_thr rfl (by omega) rfl rfl ?_
            exact Or.inr ⟨1, (mO m [] []), (by decide), hT, (fr_m fr_0 rfl rfl), (show PIp (m.1 226) (m.1 233) (m.1 232) (m.2 106) (m.2 91) (m.2 92) (m.2 94) by exact hPI), (show ∀ r9, 0 ≤ r9 → r9 < 128 → r9 < (m.1 232) → 1 ≤ (m.2 107) r9 by first | exact hNu | (intro r9 a9 b9 c9; by_cases e9 : r9 = (m.1 232) % 128; (rw [e9, ← hCr]; exact hC1); (rw [hCb r9 (by rw [hCr]; exact e9)]; exact hNu r9 a9 b9 (by omega)))), (show (m.1 232) ≤ (m.1 232) + 1 by omega), hFR, (show ((1 : Nat) = 2 ∧ (k < 0 ∨ 2 < k ∨ (m.1 201) = 0 ∨ t < 0 ∨ (m.1 219) ≤ t)) ∨ ((1 : Nat) = 1 ∧ 0 ≤ k ∧ k ≤ 2 ∧ (m.1 201) = 1 ∧ 0 ≤ t ∧ t < (m.1 219) ∧ ((m.1 226) ≤ 0 ∨ 40 ≤ (m.1 232) - (m.1 233))) by omega), (show (m.1 232) = (m.1 232) by omega), (show (m.2 92) = (m.2 92) ∧ (m.2 93) = (m.2 93) ∧ (m.2 94) = (m.2 94) ∧ (m.2 98) = (m.2 98) ∧ (m.2 99) = (m.2 99) ∧ (m.2 100) = (m.2 100) ∧ (m.2 101) = (m.2 101) ∧ (m.2 102) = (m.2 102) by exact ⟨rfl, rfl, rfl, rfl, rfl, rfl, rfl, rfl⟩), (show (m.2 91) = (m.2 91) ∧ (m.2 95) = (m.2 95) ∧ (m.2 96) = (m.2 96) ∧ (m.2 97) = (m.2 97) ∧ (m.2 103) = (m.2 103) ∧ (m.2 104) = (m.2 104) ∧ (m.2 105) = (m.2 105) by exact ⟨rfl, rfl, rfl, rfl, rfl, rfl, rfl⟩), (show ∀ g, kopi (m.2 106) (m.2 107) g = kopi (m.2 106) (m.2 107) g by first | exact hCk | exact fun g => rfl), rfl⟩
      · skip
        refine T_thr rfl (by omega) rfl rfl ?_
        exact Or.inr ⟨2, (mO m [] []), (by decide), hT, (fr_m fr_0 rfl rfl), (show PIp (m.1 226) (m.1 233) (m.1 232) (m.2 106) (m.2 91) (m.2 92) (m.2 94) by exact hPI), (show ∀ r9, 0 ≤ r9 → r9 < 128 → r9 < (m.1 232) → 1 ≤ (m.2 107) r9 by first | exact hNu | (intro r9 a9 b9 c9; by_cases e9 : r9 = (m.1 232) % 128; (rw [e9, ← hCr]; exact hC1); (rw [hCb r9 (by rw [hCr]; exact e9)]; exact hNu r9 a9 b9 (by omega)))), (show (m.1 232) ≤ (m.1 232) + 1 by omega), hFR, (show ((2 : Nat) = 2 ∧ (k < 0 ∨ 2 < k ∨ (m.1 201) = 0 ∨ t < 0 ∨ (m.1 219) ≤ t)) ∨ ((2 : Nat) = 1 ∧ 0 ≤ k ∧ k ≤ 2 ∧ (m.1 201) = 1 ∧ 0 ≤ t ∧ t < (m.1 219) ∧ ((m.1 226) ≤ 0 ∨ 40 ≤ (m.1 232) - (m.1 233))) by omega), (show (m.1 232) = (m.1 232) by omega), (show (m.2 92) = (m.2 92) ∧ (m.2 93) = (m.2 93) ∧ (m.2 94) = (m.2 94) ∧ (m.2 98) = (m.2 98) ∧ (m.2 99) = (m.2 99) ∧ (m.2 100) = (m.2 100) ∧ (m.2 101) = (m.2 101) ∧ (m.2 102) = (m.2 102) by exact ⟨rfl, rfl, rfl, rfl, rfl, rfl, rfl, rfl⟩), (show (m.2 91) = (m.2 91) ∧ (m.2 95) = (m.2 95) ∧ (m.2 96) = (m.2 96) ∧ (m.2 97) = (m.2 97) ∧ (m.2 103) = (m.2 103) ∧ (m.2 104) = (m.2 104) ∧ (m.2 105) = (m.2 105) by exact ⟨rfl, rfl, rfl, rfl, rfl, rfl, rfl⟩), (show ∀ g, kopi (m.2 106) (m.2 107) g = kopi (m.2 106) (m.2 107) g by first | exact hCk | exact fun g => rfl), rfl⟩
def fF_pw_run : List Nat := [233, 234, 235]
def fA_pw_run : List Nat := [25, 71, 78, 85, 86, 87, 88, 89, 90, 92, 94, 98, 99, 100, 101, 102, 103, 104, 105, 106]
def Q_pw_run (m : mR) (c : Nat → Option am_C) (N : Nat) (n : Int) : ag_Re af_T → Prop := fun R => (∃ (M : mR) (r : Int), KTy M ∧ fr fF_pw_run fA_pw_run m M ∧ ((-2147483648) ≤ r ∧ r ≤ 2147483647) ∧ (PIp (m.1 226) (M.1 233) (m.1 232) (M.2 106) (m.2 91) (M.2 92) (M.2 94)) ∧ ((M.1 235) ≤ (m.1 235) + 100) ∧ ((M.1 234) ≤ (M.1 235)) ∧ ((m.1 201) = 1 ∧ 1 ≤ (m.1 226) ∧ 0 ≤ n ∧ n ≤ 100 ∧ (M.1 235) = (m.1 235) + n ∧ (((M.1 233) = (m.1 233) + n ∧ n ≤ (m.1 232) - (m.1 233)) ∨ ((M.1 233) = (m.1 232) ∧ (m.1 232) - (m.1 233) ≤ n))) ∧ ((m.1 201) = 1 → TCp (m.1 219) (M.2 78) (M.2 89) (m.1 223)) ∧ R = (.inl (some (.int (i32 r))), (khp M c, N), 0, 0)) ∨ (∃ (x : Nat) (M : mR), (x = 1 ∨ x = 0) ∧ (KTy M) ∧ (fr fF_pw_run fA_pw_run m M) ∧ (PIp (m.1 226) (M.1 233) (m.1 232) (M.2 106) (m.2 91) (M.2 92) (M.2 94)) ∧ ((M.1 235) ≤ (m.1 235) + 100) ∧ ((M.1 234) ≤ (M.1 235)) ∧ ((x = 1 ∧ ((m.1 201) = 0 ∨ (m.1 226) ≤ 0)) ∨ (x = 0 ∧ (m.1 201) = 1 ∧ 1 ≤ (m.1 226) ∧ (n < 0 ∨ 100 < n))) ∧ ((M.1 233) = (m.1 233)) ∧ ((M.1 235) = (m.1 235)) ∧ ((m.1 201) = 1 → TCp (m.1 219) (M.2 78) (M.2 89) (m.1 223)) ∧ R = (.inr x, (khp M c, N), 1, 6))
set_option maxHeartbeats 3000000 in
theorem c_pw_run (w : wX) (m : mR) (c : Nat → Option am_C) (N D : Nat) (hD : 8 ≤ D) (hT : KTy m) (n : Int) (qn : R32 n) (hNu : ∀ r9, 0 ≤ r9 → r9 < 128 → r9 < (m.1 232) → 1 ≤ (m.2 107) r9) (hPI : PIp (m.1 226) (m.1 233) (m.1 232) (m.2 106) (m.2 91) (m.2 92) (m.2 94)) (hNK : NKp (m.2 18) (m.2 19)) (p3 : (m.1 235) ≤ 800000) (p4 : (m.1 234) ≤ (m.1 235)) (p5 : (m.1 233) ≤ (m.1 232)) (hHB0 : (m.1 201) = 1 → HBp (m.1 214) (m.2 10)) (hIH0 : (m.1 201) = 1 → IHp (m.1 215) (m.2 13) (m.1 214)) (hEM0 : (m.1 201) = 1 → LTp (m.1 218) (m.2 17) (m.1 215)) (hDE0 : (m.1 201) = 1 → DEp (m.1 224) (m.2 45) (m.2 46) (m.2 47) (m.2 49)) (hAC0 : (m.1 201) = 1 → AcP (m.1 223) (m.1 224) (m.2 43) (m.2 44)) (hTL0 : (m.1 201) = 1 → TLp (m.1 219) (m.2 73) (m.2 83) (m.1 223)) (hTD0 : (m.1 201) = 1 → LTp (m.1 219) (m.2 74) (m.1 223)) (hTC0 : (m.1 201) = 1 → TCp (m.1 219) (m.2 78) (m.2 89) (m.1 223)) (hSP0 : (m.1 201) = 1 → SPp (m.1 225) (m.2 52) (m.2 58) (m.2 55) (m.2 56) (m.1 219) (m.1 224)) : TC w D 176 [.ref 0, .int (i32 n)] (khp m c, N) (Q_pw_run m c N n) := by
  obtain ⟨D, rfl⟩ : ∃ k, D = k + 1 := ⟨D - 1, by omega⟩
  obtain ⟨qna, qnb⟩ := id qn
  have hHB := hHB0
  have hIH := hIH0
  have hEM := hEM0
  have hDE := hDE0
  have hAC := hAC0
  have hTL := hTL0
  have hTD := hTD0
  have hTC := hTC0
  have hSP := hSP0
  have f233 : 0 ≤ m.1 233 ∧ m.1 233 ≤ 1000000 := hT.1 233
  have f234 : 0 ≤ m.1 234 ∧ m.1 234 ≤ 1000000 := hT.1 234
  have f235 : 0 ≤ m.1 235 ∧ m.1 235 ≤ 100000000 := hT.1 235
  have f201 : 0 ≤ m.1 201 ∧ m.1 201 ≤ 1 := hT.1 201
  have f214 : 0 ≤ m.1 214 ∧ m.1 214 ≤ 12 := hT.1 214
  have f215 : 0 ≤ m.1 215 ∧ m.1 215 ≤ 12 := hT.1 215
  have f218 : 0 ≤ m.1 218 ∧ m.1 218 ≤ 12 := hT.1 218
  have f219 : 0 ≤ m.1 219 ∧ m.1 219 ≤ 8 := hT.1 219
  have f223 : 0 ≤ m.1 223 ∧ m.1 223 ≤ 16 := hT.1 223
  have f224 : 0 ≤ m.1 224 ∧ m.1 224 ≤ 240 := hT.1 224
  have f225 : 0 ≤ m.1 225 ∧ m.1 225 ≤ 48 := hT.1 225
  have f226 : 0 ≤ m.1 226 ∧ m.1 226 ≤ 12 := hT.1 226
  have f232 : 0 ≤ m.1 232 ∧ m.1 232 ≤ 1000000 := hT.1 232
  refine Tc_of rfl ?_
  rw [show (khp m c, N) = (khp (mO m [] []) c, N) from by rw [mO_nil m]]
  show TT w D pm_176 (0, [(0, .ref 0), (1, .int (i32 n))], [], (khp (mO m [] []) c, N), 0, 0) (Q_pw_run m c N n)
  refine T_ld 1 (.ref 0) rfl (fun _ => rfl) ?_
  refine T_callx 4 33 [.ref 0] [] rfl (fun _ => rfl) rfl rfl (c_pw_isLaid w (mO m [] []) c N D (by omega) hT ) (fun rr1 k2 => ?_)
  obtain ⟨x3, g4, h5, h6, rfl⟩ := k2
  refine Or.inl ⟨_, _, _, _, rfl, ?_⟩
  refine T_ns (st' := [.int (i32 x3)]) rfl ?_
  obtain ⟨g4a, g4b⟩ := g4
  replace h5 : x3 = 1 → (m.1 201) = 1 ∧ 1 ≤ (m.1 226) := h5
  replace h6 : x3 = 0 → (m.1 201) = 0 ∨ (m.1 226) ≤ 0 := h6
  refine T_if 18 7 rfl rfl rfl (r32 (by omega) (by omega)) (fun (h7 : x3 ≠ 0) => ?_) (fun (h7 : ¬ (x3 ≠ 0)) => ?_)
  · skip
    refine T_ld 19 (.int (i32 n)) rfl (fun _ => rfl) ?_
    refine T_if 28 22 rfl rfl rfl (r32 (by omega) (by omega)) (fun (h8 : n < 0) => ?_) (fun (h8 : ¬ (n < 0)) => ?_)
    · skip
      refine T_thr rfl (by omega) rfl rfl ?_
      exact Or.inr ⟨0, (mO m [] []), (by decide), hT, (fr_m fr_0 rfl rfl), (show PIp (m.1 226) (m.1 233) (m.1 232) (m.2 106) (m.2 91) (m.2 92) (m.2 94) by exact hPI), (show (m.1 235) ≤ (m.1 235) + 100 by omega), (show (m.1 234) ≤ (m.1 235) by omega), (show ((0 : Nat) = 1 ∧ ((m.1 201) = 0 ∨ (m.1 226) ≤ 0)) ∨ ((0 : Nat) = 0 ∧ (m.1 201) = 1 ∧ 1 ≤ (m.1 226) ∧ (n < 0 ∨ 100 < n)) by omega), (show (m.1 233) = (m.1 233) by omega), (show (m.1 235) = (m.1 235) by omega), (show (m.1 201) = 1 → TCp (m.1 219) (m.2 78) (m.2 89) (m.1 223) by first | exact hTC0 | exact fun _ => hTC | exact fun h9 => absurd h9 (by decide)), rfl⟩
    · skip
      refine T_ld 23 (.int (i32 n)) rfl (fun _ => rfl) ?_
      refine T_ld 25 (.int (i32 100)) rfl (fun _ => rfl) ?_
      refine T_icmp 39 28 rfl rfl rfl (r32 (by omega) (by omega)) ⟨by decide, by decide⟩ (fun (h9 : n ≤ 100) => ?_) (fun (h9 : ¬ (n ≤ 100)) => ?_)
      · skip
        have hHB := hHB0 (by omega)
        have hIH := hIH0 (by omega)
        have hEM := hEM0 (by omega)
        have hDE := hDE0 (by omega)
        have hAC := hAC0 (by omega)
        have hTL := hTL0 (by omega)
        have hTD := hTD0 (by omega)
        have hTC := hTC0 (by omega)
        have hSP := hSP0 (by omega)
        refine T_ld 40 (.ref 0) rfl (fun _ => rfl) ?_
        refine K_gf 43 (.ref 185) rfl rfl kd_0 rfl rfl rfl ?_
        refine K_gf 46 (.int (i32 (m.1 234))) rfl rfl kd_185 rfl rfl rfl ?_
        refine T_sto 47 [(2, .int (i32 (m.1 234))), (0, .ref 0), (1, .int (i32 n))] rfl (fun _ => rfl) ?_
        refine T_ld 48 (.int (i32 0)) rfl (fun _ => rfl) ?_
        refine T_sto 49 [(3, .int (i32 0)), (2, .int (i32 (m.1 234))), (0, .ref 0), (1, .int (i32 n))] rfl (fun _ => rfl) ?_
        have L49_12 : ∀ (n24 : Nat) (v10 : Int) (m11 : mR), (R32 v10) → KTy m11 → fr [233, 234, 235] [25, 71, 78, 85, 86, 87, 88, 89, 90, 92, 94, 98, 99, 100, 101, 102, 103, 104, 105, 106] (mO m [] []) m11 → (0 ≤ v10) → (0 ≤ v10 ∧ v10 ≤ 100) → (v10 ≤ n) → (PIp (m.1 226) (m11.1 233) (m.1 232) (m11.2 106) (m.2 91) (m11.2 92) (m11.2 94)) → (TCp (m.1 219) (m11.2 78) (m11.2 89) (m.1 223)) → ((m11.1 235) = (m.1 235) + v10) → ((m11.1 234) ≤ (m11.1 235)) → (((m11.1 233) = (m.1 233) + v10 ∧ (m11.1 233) ≤ (m.1 232)) ∨ ((m11.1 233) = (m.1 232) ∧ (m.1 232) - (m.1 233) ≤ v10)) → 200 - v10 < (n24 : Int) → TT w D pm_176 (49, [(0, .ref 0), (1, .int (i32 n)), (2, .int (i32 (m.1 234))), (3, .int (i32 v10))], [], (khp (mO m11 [] []) c, N), 0, 0) (Q_pw_run m c N n) := by
          intro n24
          induction n24 with
          | zero =>
            intro v10 m11 q21 Tm11 Fm11 ic13 ic14 ic15 ic16 ic17 ic18 ic19 ic20 hmu
            obtain ⟨q21a, q21b⟩ := id q21
            have q22_233 : 0 ≤ m11.1 233 ∧ m11.1 233 ≤ 1000000 := Tm11.1 233
            have q22_234 : 0 ≤ m11.1 234 ∧ m11.1 234 ≤ 1000000 := Tm11.1 234
            have q22_235 : 0 ≤ m11.1 235 ∧ m11.1 235 ≤ 100000000 := Tm11.1 235
            have hPI := ic16
            have hTC := ic17
            exfalso
            omega
          | succ n24 ih =>
            intro v10 m11 q21 Tm11 Fm11 ic13 ic14 ic15 ic16 ic17 ic18 ic19 ic20 hmu
            obtain ⟨q21a, q21b⟩ := id q21
            have q22_233 : 0 ≤ m11.1 233 ∧ m11.1 233 ≤ 1000000 := Tm11.1 233
            have q22_234 : 0 ≤ m11.1 234 ∧ m11.1 234 ≤ 1000000 := Tm11.1 234
            have q22_235 : 0 ≤ m11.1 235 ∧ m11.1 235 ≤ 100000000 := Tm11.1 235
            have hPI := ic16
            have hTC := ic17
            have ih25 := ih
            refine T_ld 50 (.int (i32 v10)) rfl (fun _ => rfl) ?_
            refine T_ld 51 (.int (i32 n)) rfl (fun _ => rfl) ?_
            refine T_icmp 67 54 rfl rfl rfl (r32 (by omega) (by omega)) (r32 (by omega) (by omega)) (fun (h26 : n ≤ v10) => ?_) (fun (h26 : ¬ (n ≤ v10)) => ?_)
            · skip
              refine T_ld 68 (.ref 0) rfl (fun _ => rfl) ?_
              refine K_gf 71 (.ref 185) rfl rfl kd_0 rfl rfl rfl ?_
              refine K_gf 74 (.int (i32 (m11.1 234))) rfl rfl kd_185 rfl rfl rfl ?_
              refine T_ld 75 (.int (i32 (m.1 234))) rfl (fun _ => rfl) ?_
              refine T_isub 76 rfl rfl ?_
              refine T_ret rfl (fun _ => rfl) ?_
              exact Or.inl ⟨(mO m11 [] []), (m11.1 234) - (m.1 234), Tm11, (fr_m (fr_s Fm11 (fr_m fr_0 rfl rfl) rfl rfl) rfl rfl), ⟨by omega, by omega⟩, (show PIp (m.1 226) (m11.1 233) (m.1 232) (m11.2 106) (m.2 91) (m11.2 92) (m11.2 94) by first | (exact hPI) | (exfalso; omega)), (show (m11.1 235) ≤ (m.1 235) + 100 by omega), (show (m11.1 234) ≤ (m11.1 235) by omega), (show (m.1 201) = 1 ∧ 1 ≤ (m.1 226) ∧ 0 ≤ n ∧ n ≤ 100 ∧ (m11.1 235) = (m.1 235) + n ∧ (((m11.1 233) = (m.1 233) + n ∧ n ≤ (m.1 232) - (m.1 233)) ∨ ((m11.1 233) = (m.1 232) ∧ (m.1 232) - (m.1 233) ≤ n)) by omega), (show (m.1 201) = 1 → TCp (m.1 219) (m11.2 78) (m11.2 89) (m.1 223) by first | (first | exact hTC0 | exact fun _ => hTC | exact fun h9 => absurd h9 (by decide)) | (exfalso; omega)), rfl⟩
            · skip
              refine T_ld 55 (.ref 0) rfl (fun _ => rfl) ?_
              refine K_gf 58 (.ref 185) rfl rfl kd_0 rfl rfl rfl ?_
              refine T_callx 61 177 [.ref 185] [] rfl (fun _ => rfl) rfl rfl (c_pi_cycle w (mO m11 [] []) c N D (by omega) Tm11 (show ∀ r9, 0 ≤ r9 → r9 < 128 → r9 < (m11.1 232) → 1 ≤ (m11.2 107) r9 by rewrite [(show (m11.1 232) = (m.1 232) from (fr1 Fm11 232 rfl)), (show (m11.2 107) = (m.2 107) from (fr2 Fm11 107 rfl))]; exact hNu) (show PIp (m11.1 226) (m11.1 233) (m11.1 232) (m11.2 106) (m11.2 91) (m11.2 92) (m11.2 94) by rewrite [(show (m11.1 226) = (m.1 226) from (fr1 Fm11 226 rfl)), (show (m11.1 232) = (m.1 232) from (fr1 Fm11 232 rfl)), (show (m11.2 91) = (m.2 91) from (fr2 Fm11 91 rfl))]; exact hPI) (show 1 ≤ (m11.1 226) by rewrite [(show (m11.1 226) = (m.1 226) from (fr1 Fm11 226 rfl))]; omega) (show NKp (m11.2 18) (m11.2 19) by rewrite [(show (m11.2 18) = (m.2 18) from (fr2 Fm11 18 rfl)), (show (m11.2 19) = (m.2 19) from (fr2 Fm11 19 rfl))]; exact hNK) (show DEp (m11.1 224) (m11.2 45) (m11.2 46) (m11.2 47) (m11.2 49) by rewrite [(show (m11.1 224) = (m.1 224) from (fr1 Fm11 224 rfl)), (show (m11.2 45) = (m.2 45) from (fr2 Fm11 45 rfl)), (show (m11.2 46) = (m.2 46) from (fr2 Fm11 46 rfl)), (show (m11.2 47) = (m.2 47) from (fr2 Fm11 47 rfl)), (show (m11.2 49) = (m.2 49) from (fr2 Fm11 49 rfl))]; exact hDE) (show AcP (m11.1 223) (m11.1 224) (m11.2 43) (m11.2 44) by rewrite [(show (m11.1 223) = (m.1 223) from (fr1 Fm11 223 rfl)), (show (m11.1 224) = (m.1 224) from (fr1 Fm11 224 rfl)), (show (m11.2 43) = (m.2 43) from (fr2 Fm11 43 rfl)), (show (m11.2 44) = (m.2 44) from (fr2 Fm11 44 rfl))]; exact hAC) (show TLp (m11.1 219) (m11.2 73) (m11.2 83) (m11.1 223) by rewrite [(show (m11.1 219) = (m.1 219) from (fr1 Fm11 219 rfl)), (show (m11.2 73) = (m.2 73) from (fr2 Fm11 73 rfl)), (show (m11.2 83) = (m.2 83) from (fr2 Fm11 83 rfl)), (show (m11.1 223) = (m.1 223) from (fr1 Fm11 223 rfl))]; exact hTL) (show LTp (m11.1 219) (m11.2 74) (m11.1 223) by rewrite [(show (m11.1 219) = (m.1 219) from (fr1 Fm11 219 rfl)), (show (m11.2 74) = (m.2 74) from (fr2 Fm11 74 rfl)), (show (m11.1 223) = (m.1 223) from (fr1 Fm11 223 rfl))]; exact hTD) (show TCp (m11.1 219) (m11.2 78) (m11.2 89) (m11.1 223) by rewrite [(show (m11.1 219) = (m.1 219) from (fr1 Fm11 219 rfl)), (show (m11.1 223) = (m.1 223) from (fr1 Fm11 223 rfl))]; exact hTC) (show SPp (m11.1 225) (m11.2 52) (m11.2 58) (m11.2 55) (m11.2 56) (m11.1 219) (m11.1 224) by rewrite [(show (m11.1 225) = (m.1 225) from (fr1 Fm11 225 rfl)), (show (m11.2 52) = (m.2 52) from (fr2 Fm11 52 rfl)), (show (m11.2 58) = (m.2 58) from (fr2 Fm11 58 rfl)), (show (m11.2 55) = (m.2 55) from (fr2 Fm11 55 rfl)), (show (m11.2 56) = (m.2 56) from (fr2 Fm11 56 rfl)), (show (m11.1 219) = (m.1 219) from (fr1 Fm11 219 rfl)), (show (m11.1 224) = (m.1 224) from (fr1 Fm11 224 rfl))]; exact hSP) (show HBp (m11.1 214) (m11.2 10) by rewrite [(show (m11.1 214) = (m.1 214) from (fr1 Fm11 214 rfl)), (show (m11.2 10) = (m.2 10) from (fr2 Fm11 10 rfl))]; exact hHB) (show IHp (m11.1 215) (m11.2 13) (m11.1 214) by rewrite [(show (m11.1 215) = (m.1 215) from (fr1 Fm11 215 rfl)), (show (m11.2 13) = (m.2 13) from (fr2 Fm11 13 rfl)), (show (m11.1 214) = (m.1 214) from (fr1 Fm11 214 rfl))]; exact hIH) (show LTp (m11.1 218) (m11.2 17) (m11.1 215) by rewrite [(show (m11.1 218) = (m.1 218) from (fr1 Fm11 218 rfl)), (show (m11.2 17) = (m.2 17) from (fr2 Fm11 17 rfl)), (show (m11.1 215) = (m.1 215) from (fr1 Fm11 215 rfl))]; exact hEM) (show (m11.1 235) ≤ 900000 by omega) (show (m11.1 234) ≤ (m11.1 235) by omega)) (fun rr27 k28 => ?_)
              obtain ⟨m29, Tm29, Fm29, h30, h31, h32, h33, h34, rfl⟩ := k28
              refine Or.inl ⟨_, _, _, _, rfl, ?_⟩
              refine K_nb (st' := []) rfl ?_
              have g35 : 0 ≤ m29.1 233 ∧ m29.1 233 ≤ 1000000 := Tm29.1 233
              have g36 : 0 ≤ m29.1 234 ∧ m29.1 234 ≤ 1000000 := Tm29.1 234
              have g37 : 0 ≤ m29.1 235 ∧ m29.1 235 ≤ 100000000 := Tm29.1 235
              replace h30 : ((m11.1 233) < (m11.1 232) ∧ (m29.1 233) = (m11.1 233) + 1) ∨ ((m11.1 232) ≤ (m11.1 233) ∧ (m29.1 233) = (m11.1 233)) := h30
              rewrite [(show (m11.1 232) = (m.1 232) from (fr1 Fm11 232 rfl))] at h30
              have hEnt := h30
              replace h31 : PIp (m11.1 226) (m29.1 233) (m11.1 232) (m29.2 106) (m11.2 91) (m29.2 92) (m29.2 94) := h31
              rewrite [(show (m11.1 226) = (m.1 226) from (fr1 Fm11 226 rfl)), (show (m11.1 232) = (m.1 232) from (fr1 Fm11 232 rfl)), (show (m11.2 91) = (m.2 91) from (fr2 Fm11 91 rfl))] at h31
              have hPI := h31
              replace h32 : TCp (m11.1 219) (m29.2 78) (m29.2 89) (m11.1 223) := h32
              rewrite [(show (m11.1 219) = (m.1 219) from (fr1 Fm11 219 rfl)), (show (m11.1 223) = (m.1 223) from (fr1 Fm11 223 rfl))] at h32
              have hTC := h32
              replace h33 : (m29.1 235) = (m11.1 235) + 1 := h33
              replace h34 : (m29.1 234) ≤ (m29.1 235) := h34
              refine T_iinc 64 [(3, .int (i32 (v10 + 1))), (0, .ref 0), (1, .int (i32 n)), (2, .int (i32 (m.1 234)))] rfl rfl (by decide) rfl rfl ?_
              refine T_goto 49 rfl (fun _ => rfl) ?_
              refine Tm_lv (a := [(0, .ref 0), (1, .int (i32 n)), (2, .int (i32 (m.1 234))), (3, .int (i32 (v10 + 1)))]) rfl rfl ⟨rfl, rfl, rfl, rfl, trivial⟩ ?_
              exact ih25 (v10 + 1) (mO m29 [] []) (r32 (by omega) (by omega)) Tm29 (fr_m (fr_s Fm29 (fr_m (fr_s Fm11 (fr_m fr_0 rfl rfl) rfl rfl) rfl rfl) rfl rfl) rfl rfl) (show 0 ≤ (v10 + 1) by omega) (show 0 ≤ (v10 + 1) ∧ (v10 + 1) ≤ 100 by omega) (show (v10 + 1) ≤ n by omega) (show PIp (m.1 226) (m29.1 233) (m.1 232) (m29.2 106) (m.2 91) (m29.2 92) (m29.2 94) by exact hPI) (show TCp (m.1 219) (m29.2 78) (m29.2 89) (m.1 223) by exact hTC) (show (m29.1 235) = (m.1 235) + (v10 + 1) by omega) (show (m29.1 234) ≤ (m29.1 235) by omega) (show ((m29.1 233) = (m.1 233) + (v10 + 1) ∧ (m29.1 233) ≤ (m.1 232)) ∨ ((m29.1 233) = (m.1 232) ∧ (m.1 232) - (m.1 233) ≤ (v10 + 1)) by omega) (show 200 - (v10 + 1) < (n24 : Int) by omega)
        refine Tm_lv (a := [(0, .ref 0), (1, .int (i32 n)), (2, .int (i32 (m.1 234))), (3, .int (i32 0))]) rfl rfl ⟨rfl, rfl, rfl, rfl, trivial⟩ ?_
        exact L49_12 ((200 - (0 : Int) : Int) + 1).toNat 0 (mO m [] []) ⟨by decide, by decide⟩ hT (fr_m fr_0 rfl rfl) (show 0 ≤ (0 : Int) by omega) (show 0 ≤ (0 : Int) ∧ (0 : Int) ≤ 100 by omega) (show (0 : Int) ≤ n by omega) (show PIp (m.1 226) (m.1 233) (m.1 232) (m.2 106) (m.2 91) (m.2 92) (m.2 94) by exact hPI) (show TCp (m.1 219) (m.2 78) (m.2 89) (m.1 223) by exact hTC) (show (m.1 235) = (m.1 235) + (0 : Int) by omega) (show (m.1 234) ≤ (m.1 235) by omega) (show ((m.1 233) = (m.1 233) + (0 : Int) ∧ (m.1 233) ≤ (m.1 232)) ∨ ((m.1 233) = (m.1 232) ∧ (m.1 232) - (m.1 233) ≤ (0 : Int)) by omega) (show 200 - (0 : Int) < ((((200 - (0 : Int) : Int) + 1).toNat : Nat) : Int) by omega)
      · skip
        refine T_thr rfl (by omega) rfl rfl ?_
        exact Or.inr ⟨0, (mO m [] []), (by decide), hT, (fr_m fr_0 rfl rfl), (show PIp (m.1 226) (m.1 233) (m.1 232) (m.2 106) (m.2 91) (m.2 92) (m.2 94) by exact hPI), (show (m.1 235) ≤ (m.1 235) + 100 by omega), (show (m.1 234) ≤ (m.1 235) by omega), (show ((0 : Nat) = 1 ∧ ((m.1 201) = 0 ∨ (m.1 226) ≤ 0)) ∨ ((0 : Nat) = 0 ∧ (m.1 201) = 1 ∧ 1 ≤ (m.1 226) ∧ (n < 0 ∨ 100 < n)) by omega), (show (m.1 233) = (m.1 233) by omega), (show (m.1 235) = (m.1 235) by omega), (show (m.1 201) = 1 → TCp (m.1 219) (m.2 78) (m.2 89) (m.1 223) by first | exact hTC0 | exact fun _ => hTC | exact fun h9 => absurd h9 (by decide)), rfl⟩
  · skip
    refine T_thr rfl (by omega) rfl rfl ?_
    exact Or.inr ⟨1, (mO m [] []), (by decide), hT, (fr_m fr_0 rfl rfl), (show PIp (m.1 226) (m.1 233) (m.1 232) (m.2 106) (m.2 91) (m.2 92) (m.2 94) by exact hPI), (show (m.1 235) ≤ (m.1 235) + 100 by omega), (show (m.1 234) ≤ (m.1 235) by omega), (show ((1 : Nat) = 1 ∧ ((m.1 201) = 0 ∨ (m.1 226) ≤ 0)) ∨ ((1 : Nat) = 0 ∧ (m.1 201) = 1 ∧ 1 ≤ (m.1 226) ∧ (n < 0 ∨ 100 < n)) by omega), (show (m.1 233) = (m.1 233) by omega), (show (m.1 235) = (m.1 235) by omega), (show (m.1 201) = 1 → TCp (m.1 219) (m.2 78) (m.2 89) (m.1 223) by first | exact hTC0 | exact fun _ => hTC | exact fun h9 => absurd h9 (by decide)), rfl⟩
def fF_pw_lay : List Nat := [202, 226]
def fA_pw_lay : List Nat := [59, 60, 61, 62, 63, 64, 65]
def Q_pw_lay (m : mR) (c : Nat → Option am_C) (N : Nat) (n : Int) (x : Int) (y : Int) : ag_Re af_T → Prop := fun R => (∃ (M : mR) (r : Int), KTy M ∧ fr fF_pw_lay fA_pw_lay m M ∧ ((-2147483648) ≤ r ∧ r ≤ 2147483647) ∧ (PIp (M.1 226) (m.1 233) (m.1 232) (m.2 106) (m.2 91) (m.2 92) (m.2 94)) ∧ R = (.inl (some (.int (i32 r))), (khp M c, N), 0, 0)) ∨ (∃ (x : Nat) (M : mR), (x = 1 ∨ x = 0 ∨ x = 2) ∧ (KTy M) ∧ (fr fF_pw_lay fA_pw_lay m M) ∧ (PIp (M.1 226) (m.1 233) (m.1 232) (m.2 106) (m.2 91) (m.2 92) (m.2 94)) ∧ R = (.inr x, (khp M c, N), 1, 6))
set_option maxHeartbeats 3000000 in
theorem c_pw_lay (w : wX) (m : mR) (c : Nat → Option am_C) (N D : Nat) (hD : 7 ≤ D) (hT : KTy m) (n : Int) (x : Int) (y : Int) (qn : R32 n) (qx : R32 x) (qy : R32 y) (hPI : PIp (m.1 226) (m.1 233) (m.1 232) (m.2 106) (m.2 91) (m.2 92) (m.2 94)) (hNK : NKp (m.2 18) (m.2 19)) (hHB0 : (m.1 201) = 1 → HBp (m.1 214) (m.2 10)) (hIH0 : (m.1 201) = 1 → IHp (m.1 215) (m.2 13) (m.1 214)) (hEM0 : (m.1 201) = 1 → LTp (m.1 218) (m.2 17) (m.1 215)) (hDE0 : (m.1 201) = 1 → DEp (m.1 224) (m.2 45) (m.2 46) (m.2 47) (m.2 49)) (hAC0 : (m.1 201) = 1 → AcP (m.1 223) (m.1 224) (m.2 43) (m.2 44)) (hTL0 : (m.1 201) = 1 → TLp (m.1 219) (m.2 73) (m.2 83) (m.1 223)) (hTD0 : (m.1 201) = 1 → LTp (m.1 219) (m.2 74) (m.1 223)) (hTC0 : (m.1 201) = 1 → TCp (m.1 219) (m.2 78) (m.2 89) (m.1 223)) (hSP0 : (m.1 201) = 1 → SPp (m.1 225) (m.2 52) (m.2 58) (m.2 55) (m.2 56) (m.1 219) (m.1 224)) : TC w D 149 [.ref 0, .int (i32 n), .int (i32 x), .int (i32 y)] (khp m c, N) (Q_pw_lay m c N n x y) := by
  obtain ⟨D, rfl⟩ : ∃ k, D = k + 1 := ⟨D - 1, by omega⟩
  obtain ⟨qna, qnb⟩ := id qn
  obtain ⟨qxa, qxb⟩ := id qx
  obtain ⟨qya, qyb⟩ := id qy
  have hHB := hHB0
  have hIH := hIH0
  have hEM := hEM0
  have hDE := hDE0
  have hAC := hAC0
  have hTL := hTL0
  have hTD := hTD0
  have hTC := hTC0
  have hSP := hSP0
  have f202 : (-1) ≤ m.1 202 ∧ m.1 202 ≤ 47 := hT.1 202
  have f226 : 0 ≤ m.1 226 ∧ m.1 226 ≤ 12 := hT.1 226
  have f201 : 0 ≤ m.1 201 ∧ m.1 201 ≤ 1 := hT.1 201
  have f214 : 0 ≤ m.1 214 ∧ m.1 214 ≤ 12 := hT.1 214
  have f215 : 0 ≤ m.1 215 ∧ m.1 215 ≤ 12 := hT.1 215
  have f218 : 0 ≤ m.1 218 ∧ m.1 218 ≤ 12 := hT.1 218
  have f219 : 0 ≤ m.1 219 ∧ m.1 219 ≤ 8 := hT.1 219
  have f223 : 0 ≤ m.1 223 ∧ m.1 223 ≤ 16 := hT.1 223
  have f224 : 0 ≤ m.1 224 ∧ m.1 224 ≤ 240 := hT.1 224
  have f225 : 0 ≤ m.1 225 ∧ m.1 225 ≤ 48 := hT.1 225
  have f232 : 0 ≤ m.1 232 ∧ m.1 232 ≤ 1000000 := hT.1 232
  have f233 : 0 ≤ m.1 233 ∧ m.1 233 ≤ 1000000 := hT.1 233
  refine Tc_of rfl ?_
  rw [show (khp m c, N) = (khp (mO m [] []) c, N) from by rw [mO_nil m]]
  show TT w D pm_149 (0, [(0, .ref 0), (1, .int (i32 n)), (2, .int (i32 x)), (3, .int (i32 y))], [], (khp (mO m [] []) c, N), 0, 0) (Q_pw_lay m c N n x y)
  refine T_ld 1 (.ref 0) rfl (fun _ => rfl) ?_
  refine K_gf 4 (.int (i32 (m.1 201))) rfl rfl kd_0 rfl rfl rfl ?_
  refine T_if 20 7 rfl rfl rfl (r32 (by omega) (by omega)) (fun (h1 : (m.1 201) = 0) => ?_) (fun (h1 : ¬ ((m.1 201) = 0)) => ?_)
  · skip
    refine T_thr rfl (by omega) rfl rfl ?_
    exact Or.inr ⟨1, (mO m [] []), (by decide), hT, (fr_m fr_0 rfl rfl), (show PIp (m.1 226) (m.1 233) (m.1 232) (m.2 106) (m.2 91) (m.2 92) (m.2 94) by exact hPI), rfl⟩
  · skip
    refine T_ld 8 (.ref 0) rfl (fun _ => rfl) ?_
    refine K_gf 11 (.ref 12) rfl rfl kd_0 rfl rfl rfl ?_
    refine K_gf 14 (.ref 59) rfl rfl kd_12 rfl rfl rfl ?_
    refine K_gf 17 (.int (i32 (m.1 226))) rfl rfl kd_59 rfl rfl rfl ?_
    refine T_if 30 20 rfl rfl rfl (r32 (by omega) (by omega)) (fun (h2 : (m.1 226) ≤ 0) => ?_) (fun (h2 : ¬ ((m.1 226) ≤ 0)) => ?_)
    · skip
      refine T_ld 31 (.int (i32 n)) rfl (fun _ => rfl) ?_
      refine T_ld 32 (.int (i32 1)) rfl (fun _ => rfl) ?_
      refine T_icmp 49 35 rfl rfl rfl (r32 (by omega) (by omega)) ⟨by decide, by decide⟩ (fun (h3 : n < 1) => ?_) (fun (h3 : ¬ (n < 1)) => ?_)
      · skip
        refine T_thr rfl (by omega) rfl rfl ?_
        exact Or.inr ⟨0, (mO m [] []), (by decide), hT, (fr_m fr_0 rfl rfl), (show PIp (m.1 226) (m.1 233) (m.1 232) (m.2 106) (m.2 91) (m.2 92) (m.2 94) by exact hPI), rfl⟩
      · skip
        refine T_ld 36 (.int (i32 n)) rfl (fun _ => rfl) ?_
        refine T_ld 38 (.int (i32 12)) rfl (fun _ => rfl) ?_
        refine T_icmp 49 41 rfl rfl rfl (r32 (by omega) (by omega)) ⟨by decide, by decide⟩ (fun (h4 : (12 : Int) < n) => ?_) (fun (h4 : ¬ ((12 : Int) < n)) => ?_)
        · skip
          refine T_thr rfl (by omega) rfl rfl ?_
          exact Or.inr ⟨0, (mO m [] []), (by decide), hT, (fr_m fr_0 rfl rfl), (show PIp (m.1 226) (m.1 233) (m.1 232) (m.2 106) (m.2 91) (m.2 92) (m.2 94) by exact hPI), rfl⟩
        · skip
          refine T_ld 42 (.int (i32 x)) rfl (fun _ => rfl) ?_
          refine T_if 49 45 rfl rfl rfl (r32 (by omega) (by omega)) (fun (h5 : x < 0) => ?_) (fun (h5 : ¬ (x < 0)) => ?_)
          · skip
            refine T_thr rfl (by omega) rfl rfl ?_
            exact Or.inr ⟨0, (mO m [] []), (by decide), hT, (fr_m fr_0 rfl rfl), (show PIp (m.1 226) (m.1 233) (m.1 232) (m.2 106) (m.2 91) (m.2 92) (m.2 94) by exact hPI), rfl⟩
          · skip
            refine T_ld 46 (.int (i32 y)) rfl (fun _ => rfl) ?_
            refine T_if 59 49 rfl rfl rfl (r32 (by omega) (by omega)) (fun (h6 : (0 : Int) ≤ y) => ?_) (fun (h6 : ¬ ((0 : Int) ≤ y)) => ?_)
            · skip
              have hHB := hHB0 (by omega)
              have hIH := hIH0 (by omega)
              have hEM := hEM0 (by omega)
              have hDE := hDE0 (by omega)
              have hAC := hAC0 (by omega)
              have hTL := hTL0 (by omega)
              have hTD := hTD0 (by omega)
              have hTC := hTC0 (by omega)
              have hSP := hSP0 (by omega)
              refine T_ld 60 (.ref 0) rfl (fun _ => rfl) ?_
              refine T_ld 61 (.ref 0) rfl (fun _ => rfl) ?_
              refine K_gf 64 (.ref 12) rfl rfl kd_0 rfl rfl rfl ?_
              refine K_gf 67 (.ref 59) rfl rfl kd_12 rfl rfl rfl ?_
              refine T_ld 68 (.ref 0) rfl (fun _ => rfl) ?_
              refine K_gf 71 (.ref 12) rfl rfl kd_0 rfl rfl rfl ?_
              refine T_ld 72 (.int (i32 n)) rfl (fun _ => rfl) ?_
              refine T_ld 73 (.int (i32 x)) rfl (fun _ => rfl) ?_
              refine T_ld 74 (.int (i32 y)) rfl (fun _ => rfl) ?_
              refine T_callx 77 150 [.ref 59, .ref 12, .int (i32 n), .int (i32 x), .int (i32 y)] [.ref 0] rfl (fun _ => rfl) rfl rfl (c_sp_settle w (mO m [] []) c N D (by omega) hT n x y (r32 (by omega) (by omega)) (r32 (by omega) (by omega)) (r32 (by omega) (by omega)) (show NKp (m.2 18) (m.2 19) by exact hNK) (show DEp (m.1 224) (m.2 45) (m.2 46) (m.2 47) (m.2 49) by exact hDE) (show AcP (m.1 223) (m.1 224) (m.2 43) (m.2 44) by exact hAC) (show TLp (m.1 219) (m.2 73) (m.2 83) (m.1 223) by exact hTL) (show LTp (m.1 219) (m.2 74) (m.1 223) by exact hTD) (show SPp (m.1 225) (m.2 52) (m.2 58) (m.2 55) (m.2 56) (m.1 219) (m.1 224) by exact hSP) (show 1 ≤ n ∧ n ≤ 12 by omega) (show 0 ≤ x ∧ 0 ≤ y by omega)) (fun rr7 k8 => ?_)
              obtain ⟨m9, x10, Tm9, Fm9, g11, h12, rfl⟩ := k8
              refine Or.inl ⟨_, _, _, _, rfl, ?_⟩
              refine K_nb (st' := [.int (i32 x10), .ref 0]) rfl ?_
              obtain ⟨g11a, g11b⟩ := g11
              have g13 : 0 ≤ m9.1 226 ∧ m9.1 226 ≤ 12 := Tm9.1 226
              replace h12 : x10 = -1 → 1 ≤ (m9.1 226) := h12
              refine K_pf (l' := [(202, x10)]) 80 x10 rfl rfl kd_0 rfl rfl rfl rfl rfl rfl rfl ?_
              have g14 : (-1) ≤ x10 ∧ x10 ≤ 47 := ⟨by omega, by omega⟩
              have hPI : PIp (m9.1 226) (m.1 233) (m.1 232) (m.2 106) (m.2 91) (m.2 92) (m.2 94) := PI_st hPI (by omega)
              refine T_ld 81 (.ref 0) rfl (fun _ => rfl) ?_
              refine K_gf 84 (.int (i32 x10)) rfl rfl kd_0 rfl rfl rfl ?_
              refine T_ld 85 (.int (i32 (-1))) rfl (fun _ => rfl) ?_
              refine T_icmp 98 88 rfl rfl rfl (r32 (by omega) (by omega)) ⟨by decide, by decide⟩ (fun (h15 : x10 = (-1)) => ?_) (fun (h15 : ¬ (x10 = (-1))) => ?_)
              · skip
                refine T_ld 99 (.ref 0) rfl (fun _ => rfl) ?_
                refine K_gf 102 (.ref 12) rfl rfl kd_0 rfl rfl rfl ?_
                refine K_gf 105 (.ref 59) rfl rfl kd_12 rfl rfl rfl ?_
                refine K_gf 108 (.int (i32 (m9.1 226))) rfl rfl kd_59 rfl rfl rfl ?_
                refine T_ret rfl (fun _ => rfl) ?_
                exact Or.inl ⟨(mO m9 [(202, x10)] []), (m9.1 226), (KTy_mO Tm9 rfl rfl ⟨g14, trivial⟩ trivial), (fr_m (fr_s Fm9 (fr_m fr_0 rfl rfl) rfl rfl) rfl rfl), ⟨by omega, by omega⟩, (show PIp (m9.1 226) (m.1 233) (m.1 232) (m.2 106) (m.2 91) (m.2 92) (m.2 94) by first | (exact hPI) | (exfalso; omega)), rfl⟩
              · skip
                refine T_thr rfl (by omega) rfl rfl ?_
                exact Or.inr ⟨2, (mO m9 [(202, x10)] []), (by decide), (KTy_mO Tm9 rfl rfl ⟨g14, trivial⟩ trivial), (fr_m (fr_s Fm9 (fr_m fr_0 rfl rfl) rfl rfl) rfl rfl), (show PIp (m9.1 226) (m.1 233) (m.1 232) (m.2 106) (m.2 91) (m.2 92) (m.2 94) by exact hPI), rfl⟩
            · skip
              refine T_thr rfl (by omega) rfl rfl ?_
              exact Or.inr ⟨0, (mO m [] []), (by decide), hT, (fr_m fr_0 rfl rfl), (show PIp (m.1 226) (m.1 233) (m.1 232) (m.2 106) (m.2 91) (m.2 92) (m.2 94) by exact hPI), rfl⟩
    · skip
      refine T_thr rfl (by omega) rfl rfl ?_
      exact Or.inr ⟨1, (mO m [] []), (by decide), hT, (fr_m fr_0 rfl rfl), (show PIp (m.1 226) (m.1 233) (m.1 232) (m.2 106) (m.2 91) (m.2 92) (m.2 94) by exact hPI), rfl⟩
