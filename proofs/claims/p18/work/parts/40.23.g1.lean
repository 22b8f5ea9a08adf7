def Q_thrown (m : mR) (c : Nat → Option am_C) (N : Nat) : ag_Re af_T → Prop := fun R => ∃ (r : Int), ((-2147483648) ≤ r ∧ r ≤ 2147483647) ∧ R = (.inl (some (.int (i32 r))), (mhp (mO m [] []) c, N), 0, 0)
set_option maxHeartbeats 8000000 in
theorem c_thrown (w : wX) (m : mR) (c : Nat → Option am_C) (N D : Nat) (hD : 1 ≤ D) (hT : Ty m) : TC w D 207 [.ref 189] (mhp m c, N) (Q_thrown m c N) := by
  obtain ⟨D, rfl⟩ : ∃ k, D = k + 1 := ⟨D - 1, by omega⟩
  refine Tc_of rfl ?_
  show TT w D pm_207 (0, [(0, .ref 189)], [], (mhp m c, N), 0, 0) (Q_thrown m c N)
  rw [show (mhp m c, N) = (mhp (mO m [] []) c, N) from rfl]
  have f1 : 0 ≤ m.1 1 ∧ m.1 1 ≤ 3 := hT.1 1
  refine T_gf 4 (.int (i32 (m.1 1))) rfl rfl rfl rfl rfl rfl ?_
  refine T_ret rfl (fun _ => rfl) ?_
  exact ⟨(m.1 1), ⟨by omega, by omega⟩, rfl⟩
def Q_wrong (m : mR) (c : Nat → Option am_C) (N : Nat) (a : Int) (b : Int) : ag_Re af_T → Prop := fun R => ∃ (y10 : Int) (y11 : Int), (0 ≤ y10 ∧ y10 ≤ 8) ∧ ((-1) ≤ y11 ∧ y11 ≤ 4000) ∧ ((0 < (m.1 10) → y10 = (m.1 10) ∧ y11 = (m.1 11)) ∧ ((m.1 10) ≤ 0 → y10 = a ∧ y11 = b)) ∧ R = (.inl (none), (mhp (mO m [(10, y10), (11, y11)] []) c, N), 0, 0)
set_option maxHeartbeats 8000000 in
theorem c_wrong (w : wX) (m : mR) (c : Nat → Option am_C) (N D : Nat) (hD : 1 ≤ D) (hT : Ty m) (a : Int) (b : Int) (qa : R32 a) (qb : R32 b) (p0 : 1 ≤ a ∧ a ≤ 8) (p1 : 0 ≤ b ∧ b ≤ 4000) : TC w D 222 [.ref 189, .int (i32 a), .int (i32 b)] (mhp m c, N) (Q_wrong m c N a b) := by
  obtain ⟨D, rfl⟩ : ∃ k, D = k + 1 := ⟨D - 1, by omega⟩
  obtain ⟨qaa, qab⟩ := id qa
  obtain ⟨qba, qbb⟩ := id qb
  have f10 : 0 ≤ m.1 10 ∧ m.1 10 ≤ 8 := hT.1 10
  have f11 : (-1) ≤ m.1 11 ∧ m.1 11 ≤ 4000 := hT.1 11
  refine Tc_of rfl ?_
  show TT w D pm_222 (0, [(0, .ref 189), (1, .int (i32 a)), (2, .int (i32 b))], [], (mhp m c, N), 0, 0) (Q_wrong m c N a b)
  rw [show (mhp m c, N) = (mhp (mO m [(10, (m.1 10)), (11, (m.1 11))] []) c, N) from congrArg (fun M => (mhp M c, N)) (mO_pad m [10, 11] [])]
  refine T_gf 4 (.int (i32 (m.1 10))) rfl rfl rfl rfl rfl rfl ?_
  refine T_if 8 7 rfl rfl rfl (r32 (by omega) (by omega)) (fun (h1 : (m.1 10) ≤ 0) => ?_) (fun (h1 : ¬ ((m.1 10) ≤ 0)) => ?_)
  · skip
    refine T_ld 9 (.ref 189) rfl (fun _ => rfl) ?_
    refine T_ld 10 (.int (i32 a)) rfl (fun _ => rfl) ?_
    refine T_pf (l' := [(10, a), (11, (m.1 11))]) 13 a rfl rfl rfl rfl rfl rfl ?_
    have g2 : 0 ≤ a ∧ a ≤ 8 := ⟨by omega, by omega⟩
    refine T_ld 14 (.ref 189) rfl (fun _ => rfl) ?_
    refine T_ld 15 (.int (i32 b)) rfl (fun _ => rfl) ?_
    refine T_pf (l' := [(10, a), (11, b)]) 18 b rfl rfl rfl rfl rfl rfl ?_
    have g3 : (-1) ≤ b ∧ b ≤ 4000 := ⟨by omega, by omega⟩
    refine T_ret rfl (fun _ => rfl) ?_
    exact ⟨a, b, g2, g3, (by omega), rfl⟩
  · skip
    refine T_ret rfl (fun _ => rfl) ?_
    exact ⟨(m.1 10), (m.1 11), f10, f11, (by omega), rfl⟩
def Q_bad (m : mR) (c : Nat → Option am_C) (N : Nat) : ag_Re af_T → Prop := fun R => ∃ (y10 : Int) (y11 : Int), (0 ≤ y10 ∧ y10 ≤ 8) ∧ ((-1) ≤ y11 ∧ y11 ≤ 4000) ∧ ((0 < (m.1 10) → y10 = (m.1 10) ∧ y11 = (m.1 11)) ∧ ((m.1 10) ≤ 0 → y10 = 1 ∧ y11 = (m.1 8))) ∧ R = (.inl (none), (mhp (mO m [(10, y10), (11, y11)] []) c, N), 0, 0)
set_option maxHeartbeats 8000000 in
theorem c_bad (w : wX) (m : mR) (c : Nat → Option am_C) (N D : Nat) (hD : 2 ≤ D) (hT : Ty m) : TC w D 226 [.ref 189] (mhp m c, N) (Q_bad m c N) := by
  obtain ⟨D, rfl⟩ : ∃ k, D = k + 1 := ⟨D - 1, by omega⟩
  have f10 : 0 ≤ m.1 10 ∧ m.1 10 ≤ 8 := hT.1 10
  have f11 : (-1) ≤ m.1 11 ∧ m.1 11 ≤ 4000 := hT.1 11
  have f8 : 0 ≤ m.1 8 ∧ m.1 8 ≤ 4000 := hT.1 8
  refine Tc_of rfl ?_
  show TT w D pm_226 (0, [(0, .ref 189)], [], (mhp m c, N), 0, 0) (Q_bad m c N)
  rw [show (mhp m c, N) = (mhp (mO m [(10, (m.1 10)), (11, (m.1 11))] []) c, N) from congrArg (fun M => (mhp M c, N)) (mO_pad m [10, 11] [])]
  refine T_ld 1 (.ref 189) rfl (fun _ => rfl) ?_
  refine T_ld 2 (.int (i32 1)) rfl (fun _ => rfl) ?_
  refine T_gf 6 (.int (i32 (m.1 8))) rfl rfl rfl rfl rfl rfl ?_
  refine T_call 9 222 [.ref 189, .int (i32 1), .int (i32 (m.1 8))] [] rfl (fun _ => rfl) rfl (c_wrong w (mO m [(10, (m.1 10)), (11, (m.1 11))] []) c N D (by omega) (Ty_mO hT rfl rfl ⟨f10, f11, trivial⟩ trivial) 1 (m.1 8) ⟨by decide, by decide⟩ (r32 (by omega) (by omega)) (show 1 ≤ 1 ∧ 1 ≤ 8 by omega) (show 0 ≤ (m.1 8) ∧ (m.1 8) ≤ 4000 by omega)) (fun r1 k2 => ?_)
  obtain ⟨y3, y5, g4, g6, h7, rfl⟩ := k2
  replace h7 : (0 < (m.1 10) → y3 = (m.1 10) ∧ y5 = (m.1 11)) ∧ ((m.1 10) ≤ 0 → y3 = 1 ∧ y5 = (m.1 8)) := h7
  refine ⟨_, _, rfl, ?_⟩
  refine T_nf (st' := []) (l' := [(10, y3), (11, y5)]) (a' := []) rfl rfl rfl rfl rfl ?_
  have u8 : 1 ≤ y3 ∧ y3 ≤ 8 := by omega
  refine T_ret rfl (fun _ => rfl) ?_
  exact ⟨y3, y5, g4, g6, (by omega), rfl⟩
def Q_byteAt1 (m : mR) (c : Nat → Option am_C) (N : Nat) (p : Int) : ag_Re af_T → Prop := fun R => ∃ (r : Int), ((-2147483648) ≤ r ∧ r ≤ 2147483647) ∧ (-1 ≤ r ∧ r ≤ 255) ∧ (r = -1 ↔ (m.1 6) ≤ p) ∧ (p < (m.1 6) → r = (m.2 4) p) ∧ R = (.inl (some (.int (i32 r))), (mhp (mO m [] []) c, N), 0, 0)
set_option maxHeartbeats 8000000 in
theorem c_byteAt1 (w : wX) (m : mR) (c : Nat → Option am_C) (N D : Nat) (hD : 1 ≤ D) (hT : Ty m) (p : Int) (qp : R32 p) (p0 : 0 ≤ p) : TC w D 213 [.ref 189, .int (i32 p)] (mhp m c, N) (Q_byteAt1 m c N p) := by
  obtain ⟨D, rfl⟩ : ∃ k, D = k + 1 := ⟨D - 1, by omega⟩
  obtain ⟨qpa, qpb⟩ := id qp
  have f6 : 0 ≤ m.1 6 ∧ m.1 6 ≤ 4000 := hT.1 6
  refine Tc_of rfl ?_
  show TT w D pm_213 (0, [(0, .ref 189), (1, .int (i32 p))], [], (mhp m c, N), 0, 0) (Q_byteAt1 m c N p)
  rw [show (mhp m c, N) = (mhp (mO m [] []) c, N) from rfl]
  refine T_ld 1 (.int (i32 p)) rfl (fun _ => rfl) ?_
  refine T_gf 5 (.int (i32 (m.1 6))) rfl rfl rfl rfl rfl rfl ?_
  refine T_icmp 17 8 rfl rfl rfl (r32 (by omega) (by omega)) (r32 (by omega) (by omega)) (fun (h1 : (m.1 6) ≤ p) => ?_) (fun (h1 : ¬ ((m.1 6) ≤ p)) => ?_)
  · skip
    refine T_ld 18 (.int (i32 (-1))) rfl (fun _ => rfl) ?_
    refine T_ret rfl (fun _ => rfl) ?_
    exact ⟨(-1), ⟨by omega, by omega⟩, (by omega), (by omega), (by omega), rfl⟩
  · skip
    refine T_gf 12 (.ref 193) rfl rfl rfl rfl rfl rfl ?_
    refine T_ld 13 (.int (i32 p)) rfl (fun _ => rfl) ?_
    refine T_iald 14 4 (m.2 4) rfl rfl rfl (by omega) (show p < (4000 : Int) by omega) rfl ?_
    have e2 : 0 ≤ m.2 4 p ∧ m.2 4 p ≤ 255 := hT.2.1 4 p
    refine T_goto 18 rfl (fun _ => rfl) ?_
    refine T_ret rfl (fun _ => rfl) ?_
    exact ⟨(m.2 4) p, ⟨by omega, by omega⟩, (by omega), (by omega), (by omega), rfl⟩
def Q_isSmall (m : mR) (c : Nat → Option am_C) (N : Nat) (x : Int) : ag_Re af_T → Prop := fun R => ∃ (r : Int), (0 ≤ r ∧ r ≤ 1) ∧ (r = 1 ↔ (97 ≤ x ∧ x ≤ 122)) ∧ R = (.inl (some (.int (i32 r))), (mhp (mO m [] []) c, N), 0, 0)
set_option maxHeartbeats 8000000 in
theorem c_isSmall (w : wX) (m : mR) (c : Nat → Option am_C) (N D : Nat) (hD : 1 ≤ D) (hT : Ty m) (x : Int) (qx : R32 x) : TC w D 215 [.int (i32 x)] (mhp m c, N) (Q_isSmall m c N x) := by
  obtain ⟨D, rfl⟩ : ∃ k, D = k + 1 := ⟨D - 1, by omega⟩
  obtain ⟨qxa, qxb⟩ := id qx
  refine Tc_of rfl ?_
  show TT w D pm_215 (0, [(0, .int (i32 x))], [], (mhp m c, N), 0, 0) (Q_isSmall m c N x)
  rw [show (mhp m c, N) = (mhp (mO m [] []) c, N) from rfl]
  refine T_ld 1 (.int (i32 x)) rfl (fun _ => rfl) ?_
  refine T_ld 3 (.int (i32 97)) rfl (fun _ => rfl) ?_
  refine T_icmp 16 6 rfl rfl rfl (r32 (by omega) (by omega)) ⟨by decide, by decide⟩ (fun (h1 : x < 97) => ?_) (fun (h1 : ¬ (x < 97)) => ?_)
  · skip
    refine T_ld 17 (.int (i32 0)) rfl (fun _ => rfl) ?_
    refine T_ret rfl (fun _ => rfl) ?_
    exact ⟨0, ⟨by omega, by omega⟩, (by omega), rfl⟩
  · skip
    refine T_ld 7 (.int (i32 x)) rfl (fun _ => rfl) ?_
    refine T_ld 9 (.int (i32 122)) rfl (fun _ => rfl) ?_
    refine T_icmp 16 12 rfl rfl rfl (r32 (by omega) (by omega)) ⟨by decide, by decide⟩ (fun (h2 : (122 : Int) < x) => ?_) (fun (h2 : ¬ ((122 : Int) < x)) => ?_)
    · skip
      refine T_ld 17 (.int (i32 0)) rfl (fun _ => rfl) ?_
      refine T_ret rfl (fun _ => rfl) ?_
      exact ⟨0, ⟨by omega, by omega⟩, (by omega), rfl⟩
    · skip
      refine T_ld 13 (.int (i32 1)) rfl (fun _ => rfl) ?_
      refine T_goto 17 rfl (fun _ => rfl) ?_
      refine T_ret rfl (fun _ => rfl) ?_
      exact ⟨1, ⟨by omega, by omega⟩, (by omega), rfl⟩
def Q_isDigit (m : mR) (c : Nat → Option am_C) (N : Nat) (x : Int) : ag_Re af_T → Prop := fun R => ∃ (r : Int), (0 ≤ r ∧ r ≤ 1) ∧ (r = 1 ↔ (48 ≤ x ∧ x ≤ 57)) ∧ R = (.inl (some (.int (i32 r))), (mhp (mO m [] []) c, N), 0, 0)
set_option maxHeartbeats 8000000 in
theorem c_isDigit (w : wX) (m : mR) (c : Nat → Option am_C) (N D : Nat) (hD : 1 ≤ D) (hT : Ty m) (x : Int) (qx : R32 x) : TC w D 216 [.int (i32 x)] (mhp m c, N) (Q_isDigit m c N x) := by
  obtain ⟨D, rfl⟩ : ∃ k, D = k + 1 := ⟨D - 1, by omega⟩
  obtain ⟨qxa, qxb⟩ := id qx
  refine Tc_of rfl ?_
  show TT w D pm_216 (0, [(0, .int (i32 x))], [], (mhp m c, N), 0, 0) (Q_isDigit m c N x)
  rw [show (mhp m c, N) = (mhp (mO m [] []) c, N) from rfl]
  refine T_ld 1 (.int (i32 x)) rfl (fun _ => rfl) ?_
  refine T_ld 3 (.int (i32 48)) rfl (fun _ => rfl) ?_
  refine T_icmp 16 6 rfl rfl rfl (r32 (by omega) (by omega)) ⟨by decide, by decide⟩ (fun (h1 : x < 48) => ?_) (fun (h1 : ¬ (x < 48)) => ?_)
  · skip
    refine T_ld 17 (.int (i32 0)) rfl (fun _ => rfl) ?_
    refine T_ret rfl (fun _ => rfl) ?_
    exact ⟨0, ⟨by omega, by omega⟩, (by omega), rfl⟩
  · skip
    refine T_ld 7 (.int (i32 x)) rfl (fun _ => rfl) ?_
    refine T_ld 9 (.int (i32 57)) rfl (fun _ => rfl) ?_
    refine T_icmp 16 12 rfl rfl rfl (r32 (by omega) (by omega)) ⟨by decide, by decide⟩ (fun (h2 : (57 : Int) < x) => ?_) (fun (h2 : ¬ ((57 : Int) < x)) => ?_)
    · skip
      refine T_ld 17 (.int (i32 0)) rfl (fun _ => rfl) ?_
      refine T_ret rfl (fun _ => rfl) ?_
      exact ⟨0, ⟨by omega, by omega⟩, (by omega), rfl⟩
    · skip
      refine T_ld 13 (.int (i32 1)) rfl (fun _ => rfl) ?_
      refine T_goto 17 rfl (fun _ => rfl) ?_
      refine T_ret rfl (fun _ => rfl) ?_
      exact ⟨1, ⟨by omega, by omega⟩, (by omega), rfl⟩
def Q_hex (m : mR) (c : Nat → Option am_C) (N : Nat) (x : Int) : ag_Re af_T → Prop := fun R => ∃ (r : Int), ((-2147483648) ≤ r ∧ r ≤ 2147483647) ∧ (-1 ≤ r ∧ r ≤ 15) ∧ (0 ≤ r → 0 ≤ x) ∧ R = (.inl (some (.int (i32 r))), (mhp (mO m [] []) c, N), 0, 0)
set_option maxHeartbeats 8000000 in
theorem c_hex (w : wX) (m : mR) (c : Nat → Option am_C) (N D : Nat) (hD : 2 ≤ D) (hT : Ty m) (x : Int) (qx : R32 x) : TC w D 219 [.int (i32 x)] (mhp m c, N) (Q_hex m c N x) := by
  obtain ⟨D, rfl⟩ : ∃ k, D = k + 1 := ⟨D - 1, by omega⟩
  obtain ⟨qxa, qxb⟩ := id qx
  refine Tc_of rfl ?_
  show TT w D pm_219 (0, [(0, .int (i32 x))], [], (mhp m c, N), 0, 0) (Q_hex m c N x)
  rw [show (mhp m c, N) = (mhp (mO m [] []) c, N) from rfl]
  refine T_ld 1 (.int (i32 x)) rfl (fun _ => rfl) ?_
  refine T_call 4 216 [.int (i32 x)] [] rfl (fun _ => rfl) rfl (c_isDigit w (mO m [] []) c N D (by omega) hT x (r32 (by omega) (by omega))) (fun r1 k2 => ?_)
  obtain ⟨x3, g4, h5, rfl⟩ := k2
  replace h5 : x3 = 1 ↔ (48 ≤ x ∧ x ≤ 57) := h5
  refine ⟨_, _, rfl, ?_⟩
  refine T_nf (st' := [.int (i32 x3)]) (l' := []) (a' := []) rfl rfl rfl rfl rfl ?_
  obtain ⟨g4a, g4b⟩ := g4
  refine T_if 14 7 rfl rfl rfl (r32 (by omega) (by omega)) (fun (h6 : x3 = 0) => ?_) (fun (h6 : ¬ (x3 = 0)) => ?_)
  · skip
    refine T_ld 15 (.int (i32 x)) rfl (fun _ => rfl) ?_
    refine T_ld 17 (.int (i32 97)) rfl (fun _ => rfl) ?_
    refine T_icmp 36 20 rfl rfl rfl (r32 (by omega) (by omega)) ⟨by decide, by decide⟩ (fun (h7 : x < 97) => ?_) (fun (h7 : ¬ (x < 97)) => ?_)
    · skip
      refine T_ld 37 (.int (i32 (-1))) rfl (fun _ => rfl) ?_
      refine T_ret rfl (fun _ => rfl) ?_
      exact ⟨(-1), ⟨by omega, by omega⟩, (by omega), (by omega), rfl⟩
    · skip
      refine T_ld 21 (.int (i32 x)) rfl (fun _ => rfl) ?_
      refine T_ld 23 (.int (i32 102)) rfl (fun _ => rfl) ?_
      refine T_icmp 36 26 rfl rfl rfl (r32 (by omega) (by omega)) ⟨by decide, by decide⟩ (fun (h8 : (102 : Int) < x) => ?_) (fun (h8 : ¬ ((102 : Int) < x)) => ?_)
      · skip
        refine T_ld 37 (.int (i32 (-1))) rfl (fun _ => rfl) ?_
        refine T_ret rfl (fun _ => rfl) ?_
        exact ⟨(-1), ⟨by omega, by omega⟩, (by omega), (by omega), rfl⟩
      · skip
        refine T_ld 27 (.int (i32 x)) rfl (fun _ => rfl) ?_
        refine T_ld 29 (.int (i32 97)) rfl (fun _ => rfl) ?_
        refine T_isub 30 rfl rfl ?_
        refine T_ld 32 (.int (i32 10)) rfl (fun _ => rfl) ?_
        refine T_iadd 33 rfl rfl ?_
        refine T_goto 37 rfl (fun _ => rfl) ?_
        refine T_ret rfl (fun _ => rfl) ?_
        exact ⟨(x - 97) + 10, ⟨by omega, by omega⟩, (by omega), (by omega), rfl⟩
  · skip
    refine T_ld 8 (.int (i32 x)) rfl (fun _ => rfl) ?_
    refine T_ld 10 (.int (i32 48)) rfl (fun _ => rfl) ?_
    refine T_isub 11 rfl rfl ?_
    refine T_goto 37 rfl (fun _ => rfl) ?_
    refine T_ret rfl (fun _ => rfl) ?_
    exact ⟨x - 48, ⟨by omega, by omega⟩, (by omega), (by omega), rfl⟩
def Q_twice (m : mR) (c : Nat → Option am_C) (N : Nat) (x : Int) (y : Int) : ag_Re af_T → Prop := fun R => ∃ (r : Int), ((-2147483648) ≤ r ∧ r ≤ 2147483647) ∧ (-1 ≤ r ∧ r ≤ 12) ∧ (0 ≤ r → (0 ≤ y ∧ 4 ≤ r)) ∧ (0 ≤ r ↔ ((y = 61 ∧ (x = 61 ∨ x = 33 ∨ x = 60 ∨ x = 62)) ∨ (y ≠ 61 ∧ x = y ∧ (x = 43 ∨ x = 38 ∨ x = 124 ∨ x = 60 ∨ x = 62)))) ∧ R = (.inl (some (.int (i32 r))), (mhp (mO m [] []) c, N), 0, 0)
set_option maxHeartbeats 8000000 in
theorem c_twice (w : wX) (m : mR) (c : Nat → Option am_C) (N D : Nat) (hD : 1 ≤ D) (hT : Ty m) (x : Int) (y : Int) (qx : R32 x) (qy : R32 y) : TC w D 220 [.int (i32 x), .int (i32 y)] (mhp m c, N) (Q_twice m c N x y) := by
  obtain ⟨D, rfl⟩ : ∃ k, D = k + 1 := ⟨D - 1, by omega⟩
  obtain ⟨qxa, qxb⟩ := id qx
  obtain ⟨qya, qyb⟩ := id qy
  refine Tc_of rfl ?_
  show TT w D pm_220 (0, [(0, .int (i32 x)), (1, .int (i32 y))], [], (mhp m c, N), 0, 0) (Q_twice m c N x y)
  rw [show (mhp m c, N) = (mhp (mO m [] []) c, N) from rfl]
  refine T_ld 1 (.int (i32 y)) rfl (fun _ => rfl) ?_
  refine T_ld 3 (.int (i32 61)) rfl (fun _ => rfl) ?_
  refine T_icmp 50 6 rfl rfl rfl (r32 (by omega) (by omega)) ⟨by decide, by decide⟩ (fun (h1 : y ≠ 61) => ?_) (fun (h1 : ¬ (y ≠ 61)) => ?_)
  · skip
    refine T_ld 51 (.int (i32 x)) rfl (fun _ => rfl) ?_
    refine T_ld 52 (.int (i32 y)) rfl (fun _ => rfl) ?_
    refine T_icmp 57 55 rfl rfl rfl (r32 (by omega) (by omega)) (r32 (by omega) (by omega)) (fun (h2 : x = y) => ?_) (fun (h2 : ¬ (x = y)) => ?_)
    · skip
      refine T_ld 58 (.int (i32 x)) rfl (fun _ => rfl) ?_
      refine T_ld 60 (.int (i32 43)) rfl (fun _ => rfl) ?_
      refine T_icmp 68 63 rfl rfl rfl (r32 (by omega) (by omega)) ⟨by decide, by decide⟩ (fun (h3 : x ≠ 43) => ?_) (fun (h3 : ¬ (x ≠ 43)) => ?_)
      · skip
        refine T_ld 69 (.int (i32 x)) rfl (fun _ => rfl) ?_
        refine T_ld 71 (.int (i32 38)) rfl (fun _ => rfl) ?_
        refine T_icmp 79 74 rfl rfl rfl (r32 (by omega) (by omega)) ⟨by decide, by decide⟩ (fun (h4 : x ≠ 38) => ?_) (fun (h4 : ¬ (x ≠ 38)) => ?_)
        · skip
          refine T_ld 80 (.int (i32 x)) rfl (fun _ => rfl) ?_
          refine T_ld 82 (.int (i32 124)) rfl (fun _ => rfl) ?_
          refine T_icmp 90 85 rfl rfl rfl (r32 (by omega) (by omega)) ⟨by decide, by decide⟩ (fun (h5 : x ≠ 124) => ?_) (fun (h5 : ¬ (x ≠ 124)) => ?_)
          · skip
            refine T_ld 91 (.int (i32 x)) rfl (fun _ => rfl) ?_
            refine T_ld 93 (.int (i32 60)) rfl (fun _ => rfl) ?_
            refine T_icmp 101 96 rfl rfl rfl (r32 (by omega) (by omega)) ⟨by decide, by decide⟩ (fun (h6 : x ≠ 60) => ?_) (fun (h6 : ¬ (x ≠ 60)) => ?_)
            · skip
              refine T_ld 102 (.int (i32 x)) rfl (fun _ => rfl) ?_
              refine T_ld 104 (.int (i32 62)) rfl (fun _ => rfl) ?_
              refine T_icmp 112 107 rfl rfl rfl (r32 (by omega) (by omega)) ⟨by decide, by decide⟩ (fun (h7 : x ≠ 62) => ?_) (fun (h7 : ¬ (x ≠ 62)) => ?_)
              · skip
                refine T_ld 113 (.int (i32 (-1))) rfl (fun _ => rfl) ?_
                refine T_ret rfl (fun _ => rfl) ?_
                exact ⟨(-1), ⟨by omega, by omega⟩, (by omega), (by omega), (by omega), rfl⟩
              · skip
                refine T_ld 109 (.int (i32 12)) rfl (fun _ => rfl) ?_
                refine T_goto 113 rfl (fun _ => rfl) ?_
                refine T_ret rfl (fun _ => rfl) ?_
                exact ⟨12, ⟨by omega, by omega⟩, (by omega), (by omega), (by omega), rfl⟩
            · skip
              refine T_ld 98 (.int (i32 11)) rfl (fun _ => rfl) ?_
              refine T_goto 113 rfl (fun _ => rfl) ?_
              refine T_ret rfl (fun _ => rfl) ?_
              exact ⟨11, ⟨by omega, by omega⟩, (by omega), (by omega), (by omega), rfl⟩
          · skip
            refine T_ld 87 (.int (i32 10)) rfl (fun _ => rfl) ?_
            refine T_goto 113 rfl (fun _ => rfl) ?_
            refine T_ret rfl (fun _ => rfl) ?_
            exact ⟨10, ⟨by omega, by omega⟩, (by omega), (by omega), (by omega), rfl⟩
        · skip
          refine T_ld 76 (.int (i32 9)) rfl (fun _ => rfl) ?_
          refine T_goto 113 rfl (fun _ => rfl) ?_
          refine T_ret rfl (fun _ => rfl) ?_
          exact ⟨9, ⟨by omega, by omega⟩, (by omega), (by omega), (by omega), rfl⟩
      · skip
        refine T_ld 65 (.int (i32 8)) rfl (fun _ => rfl) ?_
        refine T_goto 113 rfl (fun _ => rfl) ?_
        refine T_ret rfl (fun _ => rfl) ?_
        exact ⟨8, ⟨by omega, by omega⟩, (by omega), (by omega), (by omega), rfl⟩
    · skip
      refine T_ld 56 (.int (i32 (-1))) rfl (fun _ => rfl) ?_
      refine T_ret rfl (fun _ => rfl) ?_
      exact ⟨(-1), ⟨by omega, by omega⟩, (by omega), (by omega), (by omega), rfl⟩
  · skip
    refine T_ld 7 (.int (i32 x)) rfl (fun _ => rfl) ?_
    refine T_ld 9 (.int (i32 61)) rfl (fun _ => rfl) ?_
    refine T_icmp 16 12 rfl rfl rfl (r32 (by omega) (by omega)) ⟨by decide, by decide⟩ (fun (h8 : x ≠ 61) => ?_) (fun (h8 : ¬ (x ≠ 61)) => ?_)
    · skip
      refine T_ld 17 (.int (i32 x)) rfl (fun _ => rfl) ?_
      refine T_ld 19 (.int (i32 33)) rfl (fun _ => rfl) ?_
      refine T_icmp 26 22 rfl rfl rfl (r32 (by omega) (by omega)) ⟨by decide, by decide⟩ (fun (h9 : x ≠ 33) => ?_) (fun (h9 : ¬ (x ≠ 33)) => ?_)
      · skip
        refine T_ld 27 (.int (i32 x)) rfl (fun _ => rfl) ?_
        refine T_ld 29 (.int (i32 60)) rfl (fun _ => rfl) ?_
        refine T_icmp 37 32 rfl rfl rfl (r32 (by omega) (by omega)) ⟨by decide, by decide⟩ (fun (h10 : x ≠ 60) => ?_) (fun (h10 : ¬ (x ≠ 60)) => ?_)
        · skip
          refine T_ld 38 (.int (i32 x)) rfl (fun _ => rfl) ?_
          refine T_ld 40 (.int (i32 62)) rfl (fun _ => rfl) ?_
          refine T_icmp 48 43 rfl rfl rfl (r32 (by omega) (by omega)) ⟨by decide, by decide⟩ (fun (h11 : x ≠ 62) => ?_) (fun (h11 : ¬ (x ≠ 62)) => ?_)
          · skip
            refine T_ld 49 (.int (i32 (-1))) rfl (fun _ => rfl) ?_
            refine T_ret rfl (fun _ => rfl) ?_
            exact ⟨(-1), ⟨by omega, by omega⟩, (by omega), (by omega), (by omega), rfl⟩
          · skip
            refine T_ld 45 (.int (i32 7)) rfl (fun _ => rfl) ?_
            refine T_goto 49 rfl (fun _ => rfl) ?_
            refine T_ret rfl (fun _ => rfl) ?_
            exact ⟨7, ⟨by omega, by omega⟩, (by omega), (by omega), (by omega), rfl⟩
        · skip
          refine T_ld 34 (.int (i32 6)) rfl (fun _ => rfl) ?_
          refine T_goto 49 rfl (fun _ => rfl) ?_
          refine T_ret rfl (fun _ => rfl) ?_
          exact ⟨6, ⟨by omega, by omega⟩, (by omega), (by omega), (by omega), rfl⟩
      · skip
        refine T_ld 23 (.int (i32 5)) rfl (fun _ => rfl) ?_
        refine T_goto 49 rfl (fun _ => rfl) ?_
        refine T_ret rfl (fun _ => rfl) ?_
        exact ⟨5, ⟨by omega, by omega⟩, (by omega), (by omega), (by omega), rfl⟩
    · skip
      refine T_ld 13 (.int (i32 4)) rfl (fun _ => rfl) ?_
      refine T_goto 49 rfl (fun _ => rfl) ?_
      refine T_ret rfl (fun _ => rfl) ?_
      exact ⟨4, ⟨by omega, by omega⟩, (by omega), (by omega), (by omega), rfl⟩
def Q_isSign (m : mR) (c : Nat → Option am_C) (N : Nat) (x : Int) : ag_Re af_T → Prop := fun R => ∃ (r : Int), (0 ≤ r ∧ r ≤ 1) ∧ (r = 1 → 33 ≤ x ∧ x ≤ 126) ∧ R = (.inl (some (.int (i32 r))), (mhp (mO m [] []) c, N), 0, 0)
set_option maxHeartbeats 8000000 in
theorem c_isSign (w : wX) (m : mR) (c : Nat → Option am_C) (N D : Nat) (hD : 1 ≤ D) (hT : Ty m) (x : Int) (qx : R32 x) : TC w D 221 [.int (i32 x)] (mhp m c, N) (Q_isSign m c N x) := by
  obtain ⟨D, rfl⟩ : ∃ k, D = k + 1 := ⟨D - 1, by omega⟩
  obtain ⟨qxa, qxb⟩ := id qx
  refine Tc_of rfl ?_
  show TT w D pm_221 (0, [(0, .int (i32 x))], [], (mhp m c, N), 0, 0) (Q_isSign m c N x)
  rw [show (mhp m c, N) = (mhp (mO m [] []) c, N) from rfl]
  refine T_ld 1 (.int (i32 x)) rfl (fun _ => rfl) ?_
  refine T_ld 3 (.int (i32 123)) rfl (fun _ => rfl) ?_
  refine T_icmp 126 6 rfl rfl rfl (r32 (by omega) (by omega)) ⟨by decide, by decide⟩ (fun (h1 : x = 123) => ?_) (fun (h1 : ¬ (x = 123)) => ?_)
  · skip
    refine T_ld 127 (.int (i32 1)) rfl (fun _ => rfl) ?_
    refine T_goto 131 rfl (fun _ => rfl) ?_
    refine T_ret rfl (fun _ => rfl) ?_
    exact ⟨1, ⟨by omega, by omega⟩, (by omega), rfl⟩
  · skip
    refine T_ld 7 (.int (i32 x)) rfl (fun _ => rfl) ?_
    refine T_ld 9 (.int (i32 125)) rfl (fun _ => rfl) ?_
    refine T_icmp 126 12 rfl rfl rfl (r32 (by omega) (by omega)) ⟨by decide, by decide⟩ (fun (h2 : x = 125) => ?_) (fun (h2 : ¬ (x = 125)) => ?_)
    · skip
      refine T_ld 127 (.int (i32 1)) rfl (fun _ => rfl) ?_
      refine T_goto 131 rfl (fun _ => rfl) ?_
      refine T_ret rfl (fun _ => rfl) ?_
      exact ⟨1, ⟨by omega, by omega⟩, (by omega), rfl⟩
    · skip
      refine T_ld 13 (.int (i32 x)) rfl (fun _ => rfl) ?_
      refine T_ld 15 (.int (i32 40)) rfl (fun _ => rfl) ?_
      refine T_icmp 126 18 rfl rfl rfl (r32 (by omega) (by omega)) ⟨by decide, by decide⟩ (fun (h3 : x = 40) => ?_) (fun (h3 : ¬ (x = 40)) => ?_)
      · skip
        refine T_ld 127 (.int (i32 1)) rfl (fun _ => rfl) ?_
        refine T_goto 131 rfl (fun _ => rfl) ?_
        refine T_ret rfl (fun _ => rfl) ?_
        exact ⟨1, ⟨by omega, by omega⟩, (by omega), rfl⟩
      · skip
        refine T_ld 19 (.int (i32 x)) rfl (fun _ => rfl) ?_
        refine T_ld 21 (.int (i32 41)) rfl (fun _ => rfl) ?_
        refine T_icmp 126 24 rfl rfl rfl (r32 (by omega) (by omega)) ⟨by decide, by decide⟩ (fun (h4 : x = 41) => ?_) (fun (h4 : ¬ (x = 41)) => ?_)
        · skip
          refine T_ld 127 (.int (i32 1)) rfl (fun _ => rfl) ?_
          refine T_goto 131 rfl (fun _ => rfl) ?_
          refine T_ret rfl (fun _ => rfl) ?_
          exact ⟨1, ⟨by omega, by omega⟩, (by omega), rfl⟩
        · skip
          refine T_ld 25 (.int (i32 x)) rfl (fun _ => rfl) ?_
          refine T_ld 27 (.int (i32 91)) rfl (fun _ => rfl) ?_
          refine T_icmp 126 30 rfl rfl rfl (r32 (by omega) (by omega)) ⟨by decide, by decide⟩ (fun (h5 : x = 91) => ?_) (fun (h5 : ¬ (x = 91)) => ?_)
          · skip
            refine T_ld 127 (.int (i32 1)) rfl (fun _ => rfl) ?_
            refine T_goto 131 rfl (fun _ => rfl) ?_
            refine T_ret rfl (fun _ => rfl) ?_
            exact ⟨1, ⟨by omega, by omega⟩, (by omega), rfl⟩
          · skip
            refine T_ld 31 (.int (i32 x)) rfl (fun _ => rfl) ?_
            refine T_ld 33 (.int (i32 93)) rfl (fun _ => rfl) ?_
            refine T_icmp 126 36 rfl rfl rfl (r32 (by omega) (by omega)) ⟨by decide, by decide⟩ (fun (h6 : x = 93) => ?_) (fun (h6 : ¬ (x = 93)) => ?_)
            · skip
              refine T_ld 127 (.int (i32 1)) rfl (fun _ => rfl) ?_
              refine T_goto 131 rfl (fun _ => rfl) ?_
              refine T_ret rfl (fun _ => rfl) ?_
              exact ⟨1, ⟨by omega, by omega⟩, (by omega), rfl⟩
            · skip
              refine T_ld 37 (.int (i32 x)) rfl (fun _ => rfl) ?_
              refine T_ld 39 (.int (i32 58)) rfl (fun _ => rfl) ?_
              refine T_icmp 126 42 rfl rfl rfl (r32 (by omega) (by omega)) ⟨by decide, by decide⟩ (fun (h7 : x = 58) => ?_) (fun (h7 : ¬ (x = 58)) => ?_)
              · skip
                refine T_ld 127 (.int (i32 1)) rfl (fun _ => rfl) ?_
                refine T_goto 131 rfl (fun _ => rfl) ?_
                refine T_ret rfl (fun _ => rfl) ?_
                exact ⟨1, ⟨by omega, by omega⟩, (by omega), rfl⟩
              · skip
                refine T_ld 43 (.int (i32 x)) rfl (fun _ => rfl) ?_
                refine T_ld 45 (.int (i32 59)) rfl (fun _ => rfl) ?_
                refine T_icmp 126 48 rfl rfl rfl (r32 (by omega) (by omega)) ⟨by decide, by decide⟩ (fun (h8 : x = 59) => ?_) (fun (h8 : ¬ (x = 59)) => ?_)
                · skip
                  refine T_ld 127 (.int (i32 1)) rfl (fun _ => rfl) ?_
                  refine T_goto 131 rfl (fun _ => rfl) ?_
                  refine T_ret rfl (fun _ => rfl) ?_
                  exact ⟨1, ⟨by omega, by omega⟩, (by omega), rfl⟩
                · skip
                  refine T_ld 49 (.int (i32 x)) rfl (fun _ => rfl) ?_
                  refine T_ld 51 (.int (i32 44)) rfl (fun _ => rfl) ?_
                  refine T_icmp 126 54 rfl rfl rfl (r32 (by omega) (by omega)) ⟨by decide, by decide⟩ (fun (h9 : x = 44) => ?_) (fun (h9 : ¬ (x = 44)) => ?_)
                  · skip
                    refine T_ld 127 (.int (i32 1)) rfl (fun _ => rfl) ?_
                    refine T_goto 131 rfl (fun _ => rfl) ?_
                    refine T_ret rfl (fun _ => rfl) ?_
                    exact ⟨1, ⟨by omega, by omega⟩, (by omega), rfl⟩
                  · skip
                    refine T_ld 55 (.int (i32 x)) rfl (fun _ => rfl) ?_
                    refine T_ld 57 (.int (i32 46)) rfl (fun _ => rfl) ?_
                    refine T_icmp 126 60 rfl rfl rfl (r32 (by omega) (by omega)) ⟨by decide, by decide⟩ (fun (h10 : x = 46) => ?_) (fun (h10 : ¬ (x = 46)) => ?_)
                    · skip
                      refine T_ld 127 (.int (i32 1)) rfl (fun _ => rfl) ?_
                      refine T_goto 131 rfl (fun _ => rfl) ?_
                      refine T_ret rfl (fun _ => rfl) ?_
                      exact ⟨1, ⟨by omega, by omega⟩, (by omega), rfl⟩
                    · skip
                      refine T_ld 61 (.int (i32 x)) rfl (fun _ => rfl) ?_
                      refine T_ld 63 (.int (i32 63)) rfl (fun _ => rfl) ?_
                      refine T_icmp 126 66 rfl rfl rfl (r32 (by omega) (by omega)) ⟨by decide, by decide⟩ (fun (h11 : x = 63) => ?_) (fun (h11 : ¬ (x = 63)) => ?_)
                      · skip
                        refine T_ld 127 (.int (i32 1)) rfl (fun _ => rfl) ?_
                        refine T_goto 131 rfl (fun _ => rfl) ?_
                        refine T_ret rfl (fun _ => rfl) ?_
                        exact ⟨1, ⟨by omega, by omega⟩, (by omega), rfl⟩
                      · skip
                        refine T_ld 67 (.int (i32 x)) rfl (fun _ => rfl) ?_
                        refine T_ld 69 (.int (i32 61)) rfl (fun _ => rfl) ?_
                        refine T_icmp 126 72 rfl rfl rfl (r32 (by omega) (by omega)) ⟨by decide, by decide⟩ (fun (h12 : x = 61) => ?_) (fun (h12 : ¬ (x = 61)) => ?_)
                        · skip
                          refine T_ld 127 (.int (i32 1)) rfl (fun _ => rfl) ?_
                          refine T_goto 131 rfl (fun _ => rfl) ?_
                          refine T_ret rfl (fun _ => rfl) ?_
                          exact ⟨1, ⟨by omega, by omega⟩, (by omega), rfl⟩
                        · skip
                          refine T_ld 73 (.int (i32 x)) rfl (fun _ => rfl) ?_
                          refine T_ld 75 (.int (i32 60)) rfl (fun _ => rfl) ?_
                          refine T_icmp 126 78 rfl rfl rfl (r32 (by omega) (by omega)) ⟨by decide, by decide⟩ (fun (h13 : x = 60) => ?_) (fun (h13 : ¬ (x = 60)) => ?_)
                          · skip
                            refine T_ld 127 (.int (i32 1)) rfl (fun _ => rfl) ?_
                            refine T_goto 131 rfl (fun _ => rfl) ?_
                            refine T_ret rfl (fun _ => rfl) ?_
                            exact ⟨1, ⟨by omega, by omega⟩, (by omega), rfl⟩
                          · skip
                            refine T_ld 79 (.int (i32 x)) rfl (fun _ => rfl) ?_
                            refine T_ld 81 (.int (i32 62)) rfl (fun _ => rfl) ?_
                            refine T_icmp 126 84 rfl rfl rfl (r32 (by omega) (by omega)) ⟨by decide, by decide⟩ (fun (h14 : x = 62) => ?_) (fun (h14 : ¬ (x = 62)) => ?_)
                            · skip
                              refine T_ld 127 (.int (i32 1)) rfl (fun _ => rfl) ?_
                              refine T_goto 131 rfl (fun _ => rfl) ?_
                              refine T_ret rfl (fun _ => rfl) ?_
                              exact ⟨1, ⟨by omega, by omega⟩, (by omega), rfl⟩
                            · skip
                              refine T_ld 85 (.int (i32 x)) rfl (fun _ => rfl) ?_
                              refine T_ld 87 (.int (i32 43)) rfl (fun _ => rfl) ?_
                              refine T_icmp 126 90 rfl rfl rfl (r32 (by omega) (by omega)) ⟨by decide, by decide⟩ (fun (h15 : x = 43) => ?_) (fun (h15 : ¬ (x = 43)) => ?_)
                              · skip
                                refine T_ld 127 (.int (i32 1)) rfl (fun _ => rfl) ?_
                                refine T_goto 131 rfl (fun _ => rfl) ?_
                                refine T_ret rfl (fun _ => rfl) ?_
                                exact ⟨1, ⟨by omega, by omega⟩, (by omega), rfl⟩
                              · skip
                                refine T_ld 91 (.int (i32 x)) rfl (fun _ => rfl) ?_
                                refine T_ld 93 (.int (i32 45)) rfl (fun _ => rfl) ?_
                                refine T_icmp 126 96 rfl rfl rfl (r32 (by omega) (by omega)) ⟨by decide, by decide⟩ (fun (h16 : x = 45) => ?_) (fun (h16 : ¬ (x = 45)) => ?_)
                                · skip
                                  refine T_ld 127 (.int (i32 1)) rfl (fun _ => rfl) ?_
                                  refine T_goto 131 rfl (fun _ => rfl) ?_
                                  refine T_ret rfl (fun _ => rfl) ?_
                                  exact ⟨1, ⟨by omega, by omega⟩, (by omega), rfl⟩
                                · skip
                                  refine T_ld 97 (.int (i32 x)) rfl (fun _ => rfl) ?_
                                  refine T_ld 99 (.int (i32 38)) rfl (fun _ => rfl) ?_
                                  refine T_icmp 126 102 rfl rfl rfl (r32 (by omega) (by omega)) ⟨by decide, by decide⟩ (fun (h17 : x = 38) => ?_) (fun (h17 : ¬ (x = 38)) => ?_)
                                  · skip
                                    refine T_ld 127 (.int (i32 1)) rfl (fun _ => rfl) ?_
                                    refine T_goto 131 rfl (fun _ => rfl) ?_
                                    refine T_ret rfl (fun _ => rfl) ?_
                                    exact ⟨1, ⟨by omega, by omega⟩, (by omega), rfl⟩
                                  · skip
                                    refine T_ld 103 (.int (i32 x)) rfl (fun _ => rfl) ?_
                                    refine T_ld 105 (.int (i32 124)) rfl (fun _ => rfl) ?_
                                    refine T_icmp 126 108 rfl rfl rfl (r32 (by omega) (by omega)) ⟨by decide, by decide⟩ (fun (h18 : x = 124) => ?_) (fun (h18 : ¬ (x = 124)) => ?_)
                                    · skip
                                      refine T_ld 127 (.int (i32 1)) rfl (fun _ => rfl) ?_
                                      refine T_goto 131 rfl (fun _ => rfl) ?_
                                      refine T_ret rfl (fun _ => rfl) ?_
                                      exact ⟨1, ⟨by omega, by omega⟩, (by omega), rfl⟩
                                    · skip
                                      refine T_ld 109 (.int (i32 x)) rfl (fun _ => rfl) ?_
                                      refine T_ld 111 (.int (i32 94)) rfl (fun _ => rfl) ?_
                                      refine T_icmp 126 114 rfl rfl rfl (r32 (by omega) (by omega)) ⟨by decide, by decide⟩ (fun (h19 : x = 94) => ?_) (fun (h19 : ¬ (x = 94)) => ?_)
                                      · skip
                                        refine T_ld 127 (.int (i32 1)) rfl (fun _ => rfl) ?_
                                        refine T_goto 131 rfl (fun _ => rfl) ?_
                                        refine T_ret rfl (fun _ => rfl) ?_
                                        exact ⟨1, ⟨by omega, by omega⟩, (by omega), rfl⟩
                                      · skip
                                        refine T_ld 115 (.int (i32 x)) rfl (fun _ => rfl) ?_
                                        refine T_ld 117 (.int (i32 126)) rfl (fun _ => rfl) ?_
                                        refine T_icmp 126 120 rfl rfl rfl (r32 (by omega) (by omega)) ⟨by decide, by decide⟩ (fun (h20 : x = 126) => ?_) (fun (h20 : ¬ (x = 126)) => ?_)
                                        · skip
                                          refine T_ld 127 (.int (i32 1)) rfl (fun _ => rfl) ?_
                                          refine T_goto 131 rfl (fun _ => rfl) ?_
                                          refine T_ret rfl (fun _ => rfl) ?_
                                          exact ⟨1, ⟨by omega, by omega⟩, (by omega), rfl⟩
                                        · skip
                                          refine T_ld 121 (.int (i32 x)) rfl (fun _ => rfl) ?_
                                          refine T_ld 123 (.int (i32 33)) rfl (fun _ => rfl) ?_
                                          refine T_icmp 130 126 rfl rfl rfl (r32 (by omega) (by omega)) ⟨by decide, by decide⟩ (fun (h21 : x ≠ 33) => ?_) (fun (h21 : ¬ (x ≠ 33)) => ?_)
                                          · skip
                                            refine T_ld 131 (.int (i32 0)) rfl (fun _ => rfl) ?_
                                            refine T_ret rfl (fun _ => rfl) ?_
                                            exact ⟨0, ⟨by omega, by omega⟩, (by omega), rfl⟩
                                          · skip
                                            refine T_ld 127 (.int (i32 1)) rfl (fun _ => rfl) ?_
                                            refine T_goto 131 rfl (fun _ => rfl) ?_
                                            refine T_ret rfl (fun _ => rfl) ?_
                                            exact ⟨1, ⟨by omega, by omega⟩, (by omega), rfl⟩
def Q_keyword (m : mR) (c : Nat → Option am_C) (N : Nat) : ag_Re af_T → Prop := fun R => ∃ (r : Int), ((-2147483648) ≤ r ∧ r ≤ 2147483647) ∧ (-1 ≤ r ∧ r ≤ 330) ∧ (0 ≤ r → 300 ≤ r) ∧ R = (.inl (some (.int (i32 r))), (mhp (mO m [] []) c, N), 0, 0)
set_option maxHeartbeats 8000000 in
theorem c_keyword (w : wX) (m : mR) (c : Nat → Option am_C) (N D : Nat) (hD : 1 ≤ D) (hT : Ty m) (p0 : 0 ≤ (m.1 8)) (p1 : 1 ≤ (m.1 9)) (p2 : (m.1 8) + (m.1 9) ≤ (m.1 6)) : TC w D 217 [.ref 189] (mhp m c, N) (Q_keyword m c N) := by
  obtain ⟨D, rfl⟩ : ∃ k, D = k + 1 := ⟨D - 1, by omega⟩
  have f8 : 0 ≤ m.1 8 ∧ m.1 8 ≤ 4000 := hT.1 8
  have f6 : 0 ≤ m.1 6 ∧ m.1 6 ≤ 4000 := hT.1 6
  have f9 : 0 ≤ m.1 9 ∧ m.1 9 ≤ 4000 := hT.1 9
  refine Tc_of rfl ?_
  show TT w D pm_217 (0, [(0, .ref 189)], [], (mhp m c, N), 0, 0) (Q_keyword m c N)
  rw [show (mhp m c, N) = (mhp (mO m [] []) c, N) from rfl]
  refine T_ld 1 (.int (i32 0)) rfl (fun _ => rfl) ?_
  refine T_sto 2 [(1, .int (i32 0)), (0, .ref 189)] rfl (fun _ => rfl) ?_
  refine T_ld 3 (.int (i32 0)) rfl (fun _ => rfl) ?_
  refine T_sto 4 [(2, .int (i32 0)), (1, .int (i32 0)), (0, .ref 189)] rfl (fun _ => rfl) ?_
  have L4 : ∀ (n : Nat) (v1 : Int) (v2 : Int), (R32 v1) → (R32 v2) → (0 ≤ v2 ∧ v2 ≤ 31) → (v1 = kst v2) → 31 - v2 < (n : Int) → TT w D pm_217 (4, [(0, .ref 189), (1, .int (i32 v1)), (2, .int (i32 v2))], [], (mhp (mO m [] []) c, N), 0, 0) (Q_keyword m c N) := by
    intro n
    induction n with
    | zero =>
      intro v1 v2 q3 q4 i5 i6 hmu
      obtain ⟨q3a, q3b⟩ := id q3
      obtain ⟨q4a, q4b⟩ := id q4
      exfalso
      omega
    | succ n ih =>
      intro v1 v2 q3 q4 i5 i6 hmu
      obtain ⟨q3a, q3b⟩ := id q3
      obtain ⟨q4a, q4b⟩ := id q4
      have ih7 := ih
      refine T_ld 5 (.int (i32 v2)) rfl (fun _ => rfl) ?_
      refine T_ld 7 (.int (i32 31)) rfl (fun _ => rfl) ?_
      refine T_icmp 118 10 rfl rfl rfl (r32 (by omega) (by omega)) ⟨by decide, by decide⟩ (fun (h8 : (31 : Int) ≤ v2) => ?_) (fun (h8 : ¬ ((31 : Int) ≤ v2)) => ?_)
      · skip
        refine T_ld 119 (.int (i32 (-1))) rfl (fun _ => rfl) ?_
        refine T_ret rfl (fun _ => rfl) ?_
        exact ⟨(-1), ⟨by omega, by omega⟩, (by omega), (by omega), rfl⟩
      · skip
        refine T_ld 11 (.int (i32 0)) rfl (fun _ => rfl) ?_
        refine T_sto 12 [(3, .int (i32 0)), (0, .ref 189), (1, .int (i32 v1)), (2, .int (i32 v2))] rfl (fun _ => rfl) ?_
        have L12 : ∀ (n : Nat) (v9 : Int), (R32 v9) → (0 ≤ v9 ∧ v9 ≤ klen v2) → klen v2 - v9 < (n : Int) → TT w D pm_217 (12, [(0, .ref 189), (1, .int (i32 v1)), (2, .int (i32 v2)), (3, .int (i32 v9))], [], (mhp (mO m [] []) c, N), 0, 0) (Q_keyword m c N) := by
          intro n
          induction n with
          | zero =>
            intro v9 q10 i11 hmu
            obtain ⟨q10a, q10b⟩ := id q10
            have hk := kw_a v2 (by omega) (by omega)
            have hk3 : 0 < m.2 0 (v1 + v9) → v9 < klen v2 := fun h => by
              rw [hT.2.2.1] at h
              apply Classical.byContradiction
              intro h4
              have e : v1 + v9 = kst v2 + klen v2 := by omega
              rw [e, hk.2.2.2.2.1] at h
              omega
            have hk4 : v9 < klen v2 → 0 < m.2 0 (v1 + v9) := fun h => by
              rw [hT.2.2.1, show v1 = kst v2 by omega]
              exact kw_b v2 v9 (by omega) (by omega) (by omega) h
            exfalso
            omega
          | succ n ih =>
            intro v9 q10 i11 hmu
            obtain ⟨q10a, q10b⟩ := id q10
            have hk := kw_a v2 (by omega) (by omega)
            have hk3 : 0 < m.2 0 (v1 + v9) → v9 < klen v2 := fun h => by
              rw [hT.2.2.1] at h
              apply Classical.byContradiction
              intro h4
              have e : v1 + v9 = kst v2 + klen v2 := by omega
              rw [e, hk.2.2.2.2.1] at h
              omega
            have hk4 : v9 < klen v2 → 0 < m.2 0 (v1 + v9) := fun h => by
              rw [hT.2.2.1, show v1 = kst v2 by omega]
              exact kw_b v2 v9 (by omega) (by omega) (by omega) h
            have ih12 := ih
            refine T_gf 16 (.ref 190) rfl rfl rfl rfl rfl rfl ?_
            refine T_ld 17 (.int (i32 v1)) rfl (fun _ => rfl) ?_
            refine T_ld 18 (.int (i32 v9)) rfl (fun _ => rfl) ?_
            refine T_iadd 19 rfl rfl ?_
            refine T_iald 20 0 (m.2 0) rfl rfl rfl (by omega) (show (v1 + v9) < (178 : Int) by omega) rfl ?_
            have e13 : 0 ≤ m.2 0 (v1 + v9) ∧ m.2 0 (v1 + v9) ≤ 255 := hT.2.1 0 (v1 + v9)
            refine T_if 29 23 rfl rfl rfl (r32 (by omega) (by omega)) (fun (h14 : (m.2 0) (v1 + v9) ≤ 0) => ?_) (fun (h14 : ¬ ((m.2 0) (v1 + v9) ≤ 0)) => ?_)
            · skip
              have J42 : ∀ (s15 : Int), (R32 s15) → (s15 = 0 ∨ (s15 = 1 ∧ v9 = (m.1 9))) → TT w D pm_217 (42, [(0, .ref 189), (1, .int (i32 v1)), (2, .int (i32 v2)), (3, .int (i32 v9))], [.int (i32 s15)], (mhp (mO m [] []) c, N), 0, 0) (Q_keyword m c N) := by
                intro s15 q16 i17
                obtain ⟨q16a, q16b⟩ := id q16
                refine T_sto 44 [(4, .int (i32 s15)), (0, .ref 189), (1, .int (i32 v1)), (2, .int (i32 v2)), (3, .int (i32 v9))] rfl (fun _ => rfl) ?_
                refine T_ld 45 (.int (i32 0)) rfl (fun _ => rfl) ?_
                refine T_sto 47 [(5, .int (i32 0)), (4, .int (i32 s15)), (0, .ref 189), (1, .int (i32 v1)), (2, .int (i32 v2)), (3, .int (i32 v9))] rfl (fun _ => rfl) ?_
                have L47 : ∀ (n : Nat) (v18 : Int) (v19 : Int), (R32 v18) → (R32 v19) → (0 ≤ v19 ∧ v19 ≤ v9) → (v18 = 0 ∨ (v18 = 1 ∧ v9 = (m.1 9))) → v9 - v19 < (n : Int) → TT w D pm_217 (47, [(0, .ref 189), (1, .int (i32 v1)), (2, .int (i32 v2)), (3, .int (i32 v9)), (4, .int (i32 v18)), (5, .int (i32 v19))], [], (mhp (mO m [] []) c, N), 0, 0) (Q_keyword m c N) := by
                  intro n
                  induction n with
                  | zero =>
                    intro v18 v19 q20 q21 i22 i23 hmu
                    obtain ⟨q20a, q20b⟩ := id q20
                    obtain ⟨q21a, q21b⟩ := id q21
                    exfalso
                    omega
                  | succ n ih =>
                    intro v18 v19 q20 q21 i22 i23 hmu
                    obtain ⟨q20a, q20b⟩ := id q20
                    obtain ⟨q21a, q21b⟩ := id q21
                    have ih24 := ih
                    refine T_ld 49 (.int (i32 v19)) rfl (fun _ => rfl) ?_
                    refine T_ld 50 (.int (i32 v9)) rfl (fun _ => rfl) ?_
                    refine T_icmp 95 53 rfl rfl rfl (r32 (by omega) (by omega)) (r32 (by omega) (by omega)) (fun (h25 : v9 ≤ v19) => ?_) (fun (h25 : ¬ (v9 ≤ v19)) => ?_)
                    · skip
                      refine T_ld 97 (.int (i32 v18)) rfl (fun _ => rfl) ?_
                      refine T_if 106 100 rfl rfl rfl (r32 (by omega) (by omega)) (fun (h26 : v18 = 0) => ?_) (fun (h26 : ¬ (v18 = 0)) => ?_)
                      · skip
                        refine T_ld 107 (.int (i32 v1)) rfl (fun _ => rfl) ?_
                        refine T_ld 108 (.int (i32 v9)) rfl (fun _ => rfl) ?_
                        refine T_ld 109 (.int (i32 1)) rfl (fun _ => rfl) ?_
                        refine T_iadd 110 rfl rfl ?_
                        refine T_iadd 111 rfl rfl ?_
                        refine T_sto 112 [(1, .int (i32 (v1 + (v9 + 1)))), (0, .ref 189), (2, .int (i32 v2)), (3, .int (i32 v9)), (4, .int (i32 v18)), (5, .int (i32 v19))] rfl (fun _ => rfl) ?_
                        refine T_iinc 115 [(2, .int (i32 (v2 + 1))), (1, .int (i32 (v1 + (v9 + 1)))), (0, .ref 189), (3, .int (i32 v9)), (4, .int (i32 v18)), (5, .int (i32 v19))] rfl rfl (by decide) rfl rfl ?_
                        refine T_goto 4 rfl (fun _ => rfl) ?_
                        refine Tm_lv (a := [(0, .ref 189), (1, .int (i32 (v1 + (v9 + 1)))), (2, .int (i32 (v2 + 1)))]) rfl rfl ⟨rfl, rfl, rfl, trivial⟩ ?_
                        exact ih7 (v1 + (v9 + 1)) (v2 + 1) (r32 (by omega) (by omega)) (r32 (by omega) (by omega)) (by omega) (by first | rfl | omega) (by omega)
                      · skip
                        refine T_ld 103 (.int (i32 300)) rfl (fun _ => rfl) ?_
                        refine T_ld 104 (.int (i32 v2)) rfl (fun _ => rfl) ?_
                        refine T_iadd 105 rfl rfl ?_
                        refine T_ret rfl (fun _ => rfl) ?_
                        exact ⟨300 + v2, ⟨by omega, by omega⟩, (by omega), (by omega), rfl⟩
                    · skip
                      refine T_ld 55 (.int (i32 v18)) rfl (fun _ => rfl) ?_
                      refine T_if 95 58 rfl rfl rfl (r32 (by omega) (by omega)) (fun (h27 : v18 = 0) => ?_) (fun (h27 : ¬ (v18 = 0)) => ?_)
                      · skip
                        refine T_ld 97 (.int (i32 v18)) rfl (fun _ => rfl) ?_
                        refine T_if 106 100 rfl rfl rfl (r32 (by omega) (by omega)) (fun (h28 : v18 = 0) => ?_) (fun (h28 : ¬ (v18 = 0)) => by exfalso; omega)
                        refine T_ld 107 (.int (i32 v1)) rfl (fun _ => rfl) ?_
                        refine T_ld 108 (.int (i32 v9)) rfl (fun _ => rfl) ?_
                        refine T_ld 109 (.int (i32 1)) rfl (fun _ => rfl) ?_
                        refine T_iadd 110 rfl rfl ?_
                        refine T_iadd 111 rfl rfl ?_
                        refine T_sto 112 [(1, .int (i32 (v1 + (v9 + 1)))), (0, .ref 189), (2, .int (i32 v2)), (3, .int (i32 v9)), (4, .int (i32 v18)), (5, .int (i32 v19))] rfl (fun _ => rfl) ?_
                        refine T_iinc 115 [(2, .int (i32 (v2 + 1))), (1, .int (i32 (v1 + (v9 + 1)))), (0, .ref 189), (3, .int (i32 v9)), (4, .int (i32 v18)), (5, .int (i32 v19))] rfl rfl (by decide) rfl rfl ?_
                        refine T_goto 4 rfl (fun _ => rfl) ?_
                        refine Tm_lv (a := [(0, .ref 189), (1, .int (i32 (v1 + (v9 + 1)))), (2, .int (i32 (v2 + 1)))]) rfl rfl ⟨rfl, rfl, rfl, trivial⟩ ?_
                        exact ih7 (v1 + (v9 + 1)) (v2 + 1) (r32 (by omega) (by omega)) (r32 (by omega) (by omega)) (by omega) (by first | rfl | omega) (by omega)
                      · skip
                        refine T_gf 62 (.ref 193) rfl rfl rfl rfl rfl rfl ?_
                        refine T_gf 66 (.int (i32 (m.1 8))) rfl rfl rfl rfl rfl rfl ?_
                        refine T_ld 68 (.int (i32 v19)) rfl (fun _ => rfl) ?_
                        refine T_iadd 69 rfl rfl ?_
                        refine T_iald 70 4 (m.2 4) rfl rfl rfl (by omega) (show ((m.1 8) + v19) < (4000 : Int) by omega) rfl ?_
                        have e29 : 0 ≤ m.2 4 ((m.1 8) + v19) ∧ m.2 4 ((m.1 8) + v19) ≤ 255 := hT.2.1 4 ((m.1 8) + v19)
                        refine T_gf 74 (.ref 190) rfl rfl rfl rfl rfl rfl ?_
                        refine T_ld 75 (.int (i32 v1)) rfl (fun _ => rfl) ?_
                        refine T_ld 77 (.int (i32 v19)) rfl (fun _ => rfl) ?_
                        refine T_iadd 78 rfl rfl ?_
                        refine T_iald 79 0 (m.2 0) rfl rfl rfl (by omega) (show (v1 + v19) < (178 : Int) by omega) rfl ?_
                        have e30 : 0 ≤ m.2 0 (v1 + v19) ∧ m.2 0 (v1 + v19) ≤ 255 := hT.2.1 0 (v1 + v19)
                        refine T_icmp 86 82 rfl rfl rfl (r32 (by omega) (by omega)) (r32 (by omega) (by omega)) (fun (h31 : (m.2 4) ((m.1 8) + v19) ≠ (m.2 0) (v1 + v19)) => ?_) (fun (h31 : ¬ ((m.2 4) ((m.1 8) + v19) ≠ (m.2 0) (v1 + v19))) => ?_)
                        · skip
                          refine T_ld 87 (.int (i32 0)) rfl (fun _ => rfl) ?_
                          refine T_sto 89 [(4, .int (i32 0)), (0, .ref 189), (1, .int (i32 v1)), (2, .int (i32 v2)), (3, .int (i32 v9)), (5, .int (i32 v19))] rfl (fun _ => rfl) ?_
                          refine T_iinc 92 [(5, .int (i32 (v19 + 1))), (4, .int (i32 0)), (0, .ref 189), (1, .int (i32 v1)), (2, .int (i32 v2)), (3, .int (i32 v9))] rfl rfl (by decide) rfl rfl ?_
                          refine T_goto 47 rfl (fun _ => rfl) ?_
                          refine Tm_lv (a := [(0, .ref 189), (1, .int (i32 v1)), (2, .int (i32 v2)), (3, .int (i32 v9)), (4, .int (i32 0)), (5, .int (i32 (v19 + 1)))]) rfl rfl ⟨rfl, rfl, rfl, rfl, rfl, rfl, trivial⟩ ?_
                          exact ih24 0 (v19 + 1) (r32 (by omega) (by omega)) (r32 (by omega) (by omega)) (by omega) (by omega) (by omega)
                        · skip
                          refine T_ld 83 (.int (i32 1)) rfl (fun _ => rfl) ?_
                          refine T_goto 87 rfl (fun _ => rfl) ?_
                          refine T_sto 89 [(4, .int (i32 1)), (0, .ref 189), (1, .int (i32 v1)), (2, .int (i32 v2)), (3, .int (i32 v9)), (5, .int (i32 v19))] rfl (fun _ => rfl) ?_
                          refine T_iinc 92 [(5, .int (i32 (v19 + 1))), (4, .int (i32 1)), (0, .ref 189), (1, .int (i32 v1)), (2, .int (i32 v2)), (3, .int (i32 v9))] rfl rfl (by decide) rfl rfl ?_
                          refine T_goto 47 rfl (fun _ => rfl) ?_
                          refine Tm_lv (a := [(0, .ref 189), (1, .int (i32 v1)), (2, .int (i32 v2)), (3, .int (i32 v9)), (4, .int (i32 1)), (5, .int (i32 (v19 + 1)))]) rfl rfl ⟨rfl, rfl, rfl, rfl, rfl, rfl, trivial⟩ ?_
                          exact ih24 1 (v19 + 1) (r32 (by omega) (by omega)) (r32 (by omega) (by omega)) (by omega) (by omega) (by omega)
                refine Tm_lv (a := [(0, .ref 189), (1, .int (i32 v1)), (2, .int (i32 v2)), (3, .int (i32 v9)), (4, .int (i32 s15)), (5, .int (i32 0))]) rfl rfl ⟨rfl, rfl, rfl, rfl, rfl, rfl, trivial⟩ ?_
                exact L47 ((v9 - 0 : Int) + 1).toNat s15 0 (r32 (by omega) (by omega)) (r32 (by omega) (by omega)) (by omega) (by omega) (by omega)
              refine T_ld 30 (.int (i32 v9)) rfl (fun _ => rfl) ?_
              refine T_gf 34 (.int (i32 (m.1 9))) rfl rfl rfl rfl rfl rfl ?_
              refine T_icmp 41 37 rfl rfl rfl (r32 (by omega) (by omega)) (r32 (by omega) (by omega)) (fun (h32 : v9 ≠ (m.1 9)) => ?_) (fun (h32 : ¬ (v9 ≠ (m.1 9))) => ?_)
              · skip
                refine T_ld 42 (.int (i32 0)) rfl (fun _ => rfl) ?_
                exact J42 0 (r32 (by omega) (by omega)) (by omega)
              · skip
                refine T_ld 38 (.int (i32 1)) rfl (fun _ => rfl) ?_
                refine T_goto 42 rfl (fun _ => rfl) ?_
                exact J42 1 (r32 (by omega) (by omega)) (by omega)
            · skip
              refine T_iinc 26 [(3, .int (i32 (v9 + 1))), (0, .ref 189), (1, .int (i32 v1)), (2, .int (i32 v2))] rfl rfl (by decide) rfl rfl ?_
              refine T_goto 12 rfl (fun _ => rfl) ?_
              have hk0 := kw_a v2 (by omega) (by omega)
              refine Tm_lv (a := [(0, .ref 189), (1, .int (i32 v1)), (2, .int (i32 v2)), (3, .int (i32 (v9 + 1)))]) rfl rfl ⟨rfl, rfl, rfl, rfl, trivial⟩ ?_
              exact ih12 (v9 + 1) (r32 (by omega) (by omega)) (by omega) (by omega)
        have hk0 := kw_a v2 (by omega) (by omega)
        refine Tm_lv (a := [(0, .ref 189), (1, .int (i32 v1)), (2, .int (i32 v2)), (3, .int (i32 0))]) rfl rfl ⟨rfl, rfl, rfl, rfl, trivial⟩ ?_
        exact L12 ((klen v2 - 0 : Int) + 1).toNat 0 (r32 (by omega) (by omega)) (by omega) (by omega)
  refine Tm_lv (a := [(0, .ref 189), (1, .int (i32 0)), (2, .int (i32 0))]) rfl rfl ⟨rfl, rfl, rfl, trivial⟩ ?_
  exact L4 ((31 - 0 : Int) + 1).toNat 0 0 (r32 (by omega) (by omega)) (r32 (by omega) (by omega)) (by omega) (by first | rfl | omega) (by omega)
def Q_lookNumber (m : mR) (c : Nat → Option am_C) (N : Nat) : ag_Re af_T → Prop := fun R => ∃ (y7 : Int) (y9 : Int) (y12 : Int), (0 ≤ y7 ∧ y7 ≤ 330) ∧ (0 ≤ y9 ∧ y9 ≤ 4000) ∧ ((-9223372036854775808) ≤ y12 ∧ y12 ≤ 9223372036854775807) ∧ ((y7 = 2 ∧ 1 ≤ y9 ∧ (m.1 8) + y9 ≤ (m.1 6) ∧ y9 ≤ 18) ∨ y7 = 3) ∧ R = (.inl (none), (mhp (mO m [(7, y7), (9, y9), (12, y12)] []) c, N), 0, 0)
set_option maxHeartbeats 8000000 in
theorem c_lookNumber (w : wX) (m : mR) (c : Nat → Option am_C) (N D : Nat) (hD : 3 ≤ D) (hT : Ty m) (p0 : (m.1 8) < (m.1 6)) (p1 : 48 ≤ (m.2 4) (m.1 8) ∧ (m.2 4) (m.1 8) ≤ 57) : TC w D 218 [.ref 189] (mhp m c, N) (Q_lookNumber m c N) := by
  obtain ⟨D, rfl⟩ : ∃ k, D = k + 1 := ⟨D - 1, by omega⟩
  have f7 : 0 ≤ m.1 7 ∧ m.1 7 ≤ 330 := hT.1 7
  have f9 : 0 ≤ m.1 9 ∧ m.1 9 ≤ 4000 := hT.1 9
  have f12 : (-9223372036854775808) ≤ m.1 12 ∧ m.1 12 ≤ 9223372036854775807 := hT.1 12
  have f8 : 0 ≤ m.1 8 ∧ m.1 8 ≤ 4000 := hT.1 8
  have f6 : 0 ≤ m.1 6 ∧ m.1 6 ≤ 4000 := hT.1 6
  refine Tc_of rfl ?_
  show TT w D pm_218 (0, [(0, .ref 189)], [], (mhp m c, N), 0, 0) (Q_lookNumber m c N)
  rw [show (mhp m c, N) = (mhp (mO m [(7, (m.1 7)), (9, (m.1 9)), (12, (m.1 12))] []) c, N) from congrArg (fun M => (mhp M c, N)) (mO_pad m [7, 9, 12] [])]
  have J38 : ∀ (s1 : Int) (y2 : Int), (R32 s1) → ((-9223372036854775808) ≤ y2 ∧ y2 ≤ 9223372036854775807) → (s1 = 0 ∨ (s1 = 1 ∧ (m.1 8) + 2 ≤ (m.1 6))) → TT w D pm_218 (38, [(0, .ref 189)], [.int (i32 s1)], (mhp (mO m [(7, (m.1 7)), (9, (m.1 9)), (12, y2)] []) c, N), 0, 0) (Q_lookNumber m c N) := by
    intro s1 y2 q3 q4 i5
    obtain ⟨q3a, q3b⟩ := id q3
    refine T_sto 39 [(1, .int (i32 s1)), (0, .ref 189)] rfl (fun _ => rfl) ?_
    refine T_ld 40 (.ref 189) rfl (fun _ => rfl) ?_
    refine T_ld 41 (.int (i32 s1)) rfl (fun _ => rfl) ?_
    refine T_if 48 44 rfl rfl rfl (r32 (by omega) (by omega)) (fun (h6 : s1 = 0) => ?_) (fun (h6 : ¬ (s1 = 0)) => ?_)
    · skip
      refine T_ld 49 (.int (i32 0)) rfl (fun _ => rfl) ?_
      refine T_pf (l' := [(7, (m.1 7)), (9, 0), (12, y2)]) 52 0 rfl rfl rfl rfl rfl rfl ?_
      have L52 : ∀ (n : Nat) (y7 : Int) (y8 : Int), (0 ≤ y7 ∧ y7 ≤ 4000) → ((-9223372036854775808) ≤ y8 ∧ y8 ≤ 9223372036854775807) → (s1 = 0 ∨ (s1 = 1 ∧ 2 ≤ y7)) → ((m.1 8) + y7 ≤ (m.1 6) ∧ 0 ≤ y7) → (m.1 6) - (m.1 8) - y7 < (n : Int) → TT w D pm_218 (52, [(0, .ref 189), (1, .int (i32 s1))], [], (mhp (mO m [(7, (m.1 7)), (9, y7), (12, y8)] []) c, N), 0, 0) (Q_lookNumber m c N) := by
        intro n
        induction n with
        | zero =>
          intro y7 y8 q9 q10 i11 i12 hmu
          have hz : y7 = 0 → (m.2 4) ((m.1 8) + y7) = (m.2 4) (m.1 8) := fun h => by rw [h, Int.add_zero]
          exfalso
          omega
        | succ n ih =>
          intro y7 y8 q9 q10 i11 i12 hmu
          have hz : y7 = 0 → (m.2 4) ((m.1 8) + y7) = (m.2 4) (m.1 8) := fun h => by rw [h, Int.add_zero]
          have ih13 := ih
          refine T_ld 53 (.int (i32 s1)) rfl (fun _ => rfl) ?_
          refine T_if 78 56 rfl rfl rfl (r32 (by omega) (by omega)) (fun (h14 : s1 = 0) => ?_) (fun (h14 : ¬ (s1 = 0)) => by exfalso; omega)
          refine T_ld 79 (.ref 189) rfl (fun _ => rfl) ?_
          refine T_gf 83 (.int (i32 (m.1 8))) rfl rfl rfl rfl rfl rfl ?_
          refine T_gf 87 (.int (i32 y7)) rfl rfl rfl rfl rfl rfl ?_
          refine T_iadd 88 rfl rfl ?_
          refine T_call 91 213 [.ref 189, .int (i32 ((m.1 8) + y7))] [] rfl (fun _ => rfl) rfl (c_byteAt1 w (mO m [(7, (m.1 7)), (9, y7), (12, y8)] []) c N D (by omega) (Ty_mO hT rfl rfl ⟨f7, q9, q10, trivial⟩ trivial) ((m.1 8) + y7) (r32 (by omega) (by omega)) (show 0 ≤ ((m.1 8) + y7) by omega)) (fun r15 k16 => ?_)
          obtain ⟨x17, g18, h19, h20, h21, rfl⟩ := k16
          replace h19 : -1 ≤ x17 ∧ x17 ≤ 255 := h19
          replace h20 : x17 = -1 ↔ (m.1 6) ≤ ((m.1 8) + y7) := h20
          replace h21 : ((m.1 8) + y7) < (m.1 6) → x17 = (m.2 4) ((m.1 8) + y7) := h21
          refine ⟨_, _, rfl, ?_⟩
          refine T_nf (st' := [.int (i32 x17)]) (l' := [(7, (m.1 7)), (9, y7), (12, y8)]) (a' := []) rfl rfl rfl rfl rfl ?_
          obtain ⟨g18a, g18b⟩ := g18
          refine T_call 94 216 [.int (i32 x17)] [] rfl (fun _ => rfl) rfl (c_isDigit w (mO m [(7, (m.1 7)), (9, y7), (12, y8)] []) c N D (by omega) (Ty_mO hT rfl rfl ⟨f7, q9, q10, trivial⟩ trivial) x17 (r32 (by omega) (by omega))) (fun r22 k23 => ?_)
          obtain ⟨x24, g25, h26, rfl⟩ := k23
          replace h26 : x24 = 1 ↔ (48 ≤ x17 ∧ x17 ≤ 57) := h26
          refine ⟨_, _, rfl, ?_⟩
          refine T_nf (st' := [.int (i32 x24)]) (l' := [(7, (m.1 7)), (9, y7), (12, y8)]) (a' := []) rfl rfl rfl rfl rfl ?_
          obtain ⟨g25a, g25b⟩ := g25
          refine T_if 172 97 rfl rfl rfl (r32 (by omega) (by omega)) (fun (h27 : x24 = 0) => ?_) (fun (h27 : ¬ (x24 = 0)) => ?_)
          · skip
            refine T_ld 173 (.ref 189) rfl (fun _ => rfl) ?_
            refine T_gf 177 (.int (i32 y7)) rfl rfl rfl rfl rfl rfl ?_
            refine T_ld 179 (.int (i32 18)) rfl (fun _ => rfl) ?_
            refine T_icmp 194 182 rfl rfl rfl (r32 (by omega) (by omega)) ⟨by decide, by decide⟩ (fun (h28 : (18 : Int) < y7) => ?_) (fun (h28 : ¬ ((18 : Int) < y7)) => ?_)
            · skip
              refine T_ld 195 (.int (i32 3)) rfl (fun _ => rfl) ?_
              refine T_goto 199 rfl (fun _ => rfl) ?_
              refine T_pf (l' := [(7, 3), (9, y7), (12, y8)]) 202 3 rfl rfl rfl rfl rfl rfl ?_
              refine T_ret rfl (fun _ => rfl) ?_
              exact ⟨3, y7, y8, ⟨by omega, by omega⟩, q9, q10, (by omega), rfl⟩
            · skip
              refine T_ld 183 (.int (i32 s1)) rfl (fun _ => rfl) ?_
              refine T_if 198 186 rfl rfl rfl (r32 (by omega) (by omega)) (fun (h29 : s1 = 0) => ?_) (fun (h29 : ¬ (s1 = 0)) => by exfalso; omega)
              refine T_ld 199 (.int (i32 2)) rfl (fun _ => rfl) ?_
              refine T_pf (l' := [(7, 2), (9, y7), (12, y8)]) 202 2 rfl rfl rfl rfl rfl rfl ?_
              refine T_ret rfl (fun _ => rfl) ?_
              exact ⟨2, y7, y8, ⟨by omega, by omega⟩, q9, q10, (by omega), rfl⟩
          · skip
            refine T_ld 98 (.ref 189) rfl (fun _ => rfl) ?_
            refine T_ld 99 (.int (i32 s1)) rfl (fun _ => rfl) ?_
            refine T_if 129 102 rfl rfl rfl (r32 (by omega) (by omega)) (fun (h30 : s1 = 0) => ?_) (fun (h30 : ¬ (s1 = 0)) => by exfalso; omega)
            refine T_ld 132 (.long (i64 10)) rfl (fun _ => rfl) ?_
            refine T_gf 136 (.long (i64 y8)) rfl rfl rfl rfl rfl rfl ?_
            refine T_lmul 137 rfl rfl ?_
            refine T_ld 138 (.ref 189) rfl (fun _ => rfl) ?_
            refine T_gf 142 (.int (i32 (m.1 8))) rfl rfl rfl rfl rfl rfl ?_
            refine T_gf 146 (.int (i32 y7)) rfl rfl rfl rfl rfl rfl ?_
            refine T_iadd 147 rfl rfl ?_
            refine T_call 150 213 [.ref 189, .int (i32 ((m.1 8) + y7))] [.long (i64 (10 * y8)), .ref 189] rfl (fun _ => rfl) rfl (c_byteAt1 w (mO m [(7, (m.1 7)), (9, y7), (12, y8)] []) c N D (by omega) (Ty_mO hT rfl rfl ⟨f7, q9, q10, trivial⟩ trivial) ((m.1 8) + y7) (r32 (by omega) (by omega)) (show 0 ≤ ((m.1 8) + y7) by omega)) (fun r31 k32 => ?_)
            obtain ⟨x33, g34, h35, h36, h37, rfl⟩ := k32
            replace h35 : -1 ≤ x33 ∧ x33 ≤ 255 := h35
            replace h36 : x33 = -1 ↔ (m.1 6) ≤ ((m.1 8) + y7) := h36
            replace h37 : ((m.1 8) + y7) < (m.1 6) → x33 = (m.2 4) ((m.1 8) + y7) := h37
            refine ⟨_, _, rfl, ?_⟩
            refine T_nf (st' := [.int (i32 x33), .long (i64 (10 * y8)), .ref 189]) (l' := [(7, (m.1 7)), (9, y7), (12, y8)]) (a' := []) rfl rfl rfl rfl rfl ?_
            obtain ⟨g34a, g34b⟩ := g34
            refine T_i2l 151 rfl rfl (r32 (by omega) (by omega)) ?_
            refine T_ladd 152 rfl rfl ?_
            refine T_ld 155 (.long (i64 48)) rfl (fun _ => rfl) ?_
            refine T_lsub 156 rfl rfl ?_
            refine T_lnm (fun z38 h39 => ?_)
            obtain ⟨h39a, h39b⟩ := h39
            refine T_pf (l' := [(7, (m.1 7)), (9, y7), (12, z38)]) 159 z38 rfl rfl rfl rfl rfl rfl ?_
            have g40 : (-9223372036854775808) ≤ z38 ∧ z38 ≤ 9223372036854775807 := ⟨by omega, by omega⟩
            refine T_ld 160 (.ref 189) rfl (fun _ => rfl) ?_
            refine T_ld 161 (.ref 189) rfl (fun _ => rfl) ?_
            refine T_gf1 164 (.int (i32 y7)) rfl rfl rfl rfl ?_
            refine T_ld 165 (.int (i32 1)) rfl (fun _ => rfl) ?_
            refine T_iadd 166 rfl rfl ?_
            refine T_pf (l' := [(7, (m.1 7)), (9, y7 + 1), (12, z38)]) 169 (y7 + 1) rfl rfl rfl rfl rfl rfl ?_
            have g41 : 0 ≤ y7 + 1 ∧ y7 + 1 ≤ 4000 := ⟨by omega, by omega⟩
            refine T_goto 52 rfl (fun _ => rfl) ?_
            exact ih13 (y7 + 1) z38 g41 g40 (by omega) (by omega) (by omega)
      refine Tm_lv (a := [(0, .ref 189), (1, .int (i32 s1))]) rfl rfl ⟨rfl, rfl, trivial⟩ ?_
      exact L52 (((m.1 6) - (m.1 8) - 0 : Int) + 1).toNat 0 y2 ⟨by omega, by omega⟩ q4 (by omega) (by omega) (by omega)
    · skip
      refine T_ld 45 (.int (i32 2)) rfl (fun _ => rfl) ?_
      refine T_goto 49 rfl (fun _ => rfl) ?_
      refine T_pf (l' := [(7, (m.1 7)), (9, 2), (12, y2)]) 52 2 rfl rfl rfl rfl rfl rfl ?_
      have L52 : ∀ (n : Nat) (y42 : Int) (y43 : Int), (0 ≤ y42 ∧ y42 ≤ 4000) → ((-9223372036854775808) ≤ y43 ∧ y43 ≤ 9223372036854775807) → (s1 = 0 ∨ (s1 = 1 ∧ 2 ≤ y42)) → ((m.1 8) + y42 ≤ (m.1 6) ∧ 0 ≤ y42) → (m.1 6) - (m.1 8) - y42 < (n : Int) → TT w D pm_218 (52, [(0, .ref 189), (1, .int (i32 s1))], [], (mhp (mO m [(7, (m.1 7)), (9, y42), (12, y43)] []) c, N), 0, 0) (Q_lookNumber m c N) := by
        intro n
        induction n with
        | zero =>
          intro y42 y43 q44 q45 i46 i47 hmu
          have hz : y42 = 0 → (m.2 4) ((m.1 8) + y42) = (m.2 4) (m.1 8) := fun h => by rw [h, Int.add_zero]
          exfalso
          omega
        | succ n ih =>
          intro y42 y43 q44 q45 i46 i47 hmu
          have hz : y42 = 0 → (m.2 4) ((m.1 8) + y42) = (m.2 4) (m.1 8) := fun h => by rw [h, Int.add_zero]
          have ih48 := ih
          refine T_ld 53 (.int (i32 s1)) rfl (fun _ => rfl) ?_
          refine T_if 78 56 rfl rfl rfl (r32 (by omega) (by omega)) (fun (h49 : s1 = 0) => ?_) (fun (h49 : ¬ (s1 = 0)) => ?_)
          · skip
            refine T_ld 79 (.ref 189) rfl (fun _ => rfl) ?_
            refine T_gf 83 (.int (i32 (m.1 8))) rfl rfl rfl rfl rfl rfl ?_
            refine T_gf 87 (.int (i32 y42)) rfl rfl rfl rfl rfl rfl ?_
            refine T_iadd 88 rfl rfl ?_
            refine T_call 91 213 [.ref 189, .int (i32 ((m.1 8) + y42))] [] rfl (fun _ => rfl) rfl (c_byteAt1 w (mO m [(7, (m.1 7)), (9, y42), (12, y43)] []) c N D (by omega) (Ty_mO hT rfl rfl ⟨f7, q44, q45, trivial⟩ trivial) ((m.1 8) + y42) (r32 (by omega) (by omega)) (show 0 ≤ ((m.1 8) + y42) by omega)) (fun r50 k51 => ?_)
            obtain ⟨x52, g53, h54, h55, h56, rfl⟩ := k51
            replace h54 : -1 ≤ x52 ∧ x52 ≤ 255 := h54
            replace h55 : x52 = -1 ↔ (m.1 6) ≤ ((m.1 8) + y42) := h55
            replace h56 : ((m.1 8) + y42) < (m.1 6) → x52 = (m.2 4) ((m.1 8) + y42) := h56
            refine ⟨_, _, rfl, ?_⟩
            refine T_nf (st' := [.int (i32 x52)]) (l' := [(7, (m.1 7)), (9, y42), (12, y43)]) (a' := []) rfl rfl rfl rfl rfl ?_
            obtain ⟨g53a, g53b⟩ := g53
            refine T_call 94 216 [.int (i32 x52)] [] rfl (fun _ => rfl) rfl (c_isDigit w (mO m [(7, (m.1 7)), (9, y42), (12, y43)] []) c N D (by omega) (Ty_mO hT rfl rfl ⟨f7, q44, q45, trivial⟩ trivial) x52 (r32 (by omega) (by omega))) (fun r57 k58 => ?_)
            obtain ⟨x59, g60, h61, rfl⟩ := k58
            replace h61 : x59 = 1 ↔ (48 ≤ x52 ∧ x52 ≤ 57) := h61
            refine ⟨_, _, rfl, ?_⟩
            refine T_nf (st' := [.int (i32 x59)]) (l' := [(7, (m.1 7)), (9, y42), (12, y43)]) (a' := []) rfl rfl rfl rfl rfl ?_
            obtain ⟨g60a, g60b⟩ := g60
            refine T_if 172 97 rfl rfl rfl (r32 (by omega) (by omega)) (fun (h62 : x59 = 0) => ?_) (fun (h62 : ¬ (x59 = 0)) => ?_)
            · skip
              refine T_ld 173 (.ref 189) rfl (fun _ => rfl) ?_
              refine T_gf 177 (.int (i32 y42)) rfl rfl rfl rfl rfl rfl ?_
              refine T_ld 179 (.int (i32 18)) rfl (fun _ => rfl) ?_
              refine T_icmp 194 182 rfl rfl rfl (r32 (by omega) (by omega)) ⟨by decide, by decide⟩ (fun (h63 : (18 : Int) < y42) => ?_) (fun (h63 : ¬ ((18 : Int) < y42)) => ?_)
              · skip
                refine T_ld 195 (.int (i32 3)) rfl (fun _ => rfl) ?_
                refine T_goto 199 rfl (fun _ => rfl) ?_
                refine T_pf (l' := [(7, 3), (9, y42), (12, y43)]) 202 3 rfl rfl rfl rfl rfl rfl ?_
                refine T_ret rfl (fun _ => rfl) ?_
                exact ⟨3, y42, y43, ⟨by omega, by omega⟩, q44, q45, (by omega), rfl⟩
              · skip
                refine T_ld 183 (.int (i32 s1)) rfl (fun _ => rfl) ?_
                refine T_if 198 186 rfl rfl rfl (r32 (by omega) (by omega)) (fun (h64 : s1 = 0) => ?_) (fun (h64 : ¬ (s1 = 0)) => by exfalso; omega)
                refine T_ld 199 (.int (i32 2)) rfl (fun _ => rfl) ?_
                refine T_pf (l' := [(7, 2), (9, y42), (12, y43)]) 202 2 rfl rfl rfl rfl rfl rfl ?_
                refine T_ret rfl (fun _ => rfl) ?_
                exact ⟨2, y42, y43, ⟨by omega, by omega⟩, q44, q45, (by omega), rfl⟩
            · skip
              refine T_ld 98 (.ref 189) rfl (fun _ => rfl) ?_
              refine T_ld 99 (.int (i32 s1)) rfl (fun _ => rfl) ?_
              refine T_if 129 102 rfl rfl rfl (r32 (by omega) (by omega)) (fun (h65 : s1 = 0) => ?_) (fun (h65 : ¬ (s1 = 0)) => by exfalso; omega)
              refine T_ld 132 (.long (i64 10)) rfl (fun _ => rfl) ?_
              refine T_gf 136 (.long (i64 y43)) rfl rfl rfl rfl rfl rfl ?_
              refine T_lmul 137 rfl rfl ?_
              refine T_ld 138 (.ref 189) rfl (fun _ => rfl) ?_
              refine T_gf 142 (.int (i32 (m.1 8))) rfl rfl rfl rfl rfl rfl ?_
              refine T_gf 146 (.int (i32 y42)) rfl rfl rfl rfl rfl rfl ?_
              refine T_iadd 147 rfl rfl ?_
              refine T_call 150 213 [.ref 189, .int (i32 ((m.1 8) + y42))] [.long (i64 (10 * y43)), .ref 189] rfl (fun _ => rfl) rfl (c_byteAt1 w (mO m [(7, (m.1 7)), (9, y42), (12, y43)] []) c N D (by omega) (Ty_mO hT rfl rfl ⟨f7, q44, q45, trivial⟩ trivial) ((m.1 8) + y42) (r32 (by omega) (by omega)) (show 0 ≤ ((m.1 8) + y42) by omega)) (fun r66 k67 => ?_)
              obtain ⟨x68, g69, h70, h71, h72, rfl⟩ := k67
              replace h70 : -1 ≤ x68 ∧ x68 ≤ 255 := h70
              replace h71 : x68 = -1 ↔ (m.1 6) ≤ ((m.1 8) + y42) := h71
              replace h72 : ((m.1 8) + y42) < (m.1 6) → x68 = (m.2 4) ((m.1 8) + y42) := h72
              refine ⟨_, _, rfl, ?_⟩
              refine T_nf (st' := [.int (i32 x68), .long (i64 (10 * y43)), .ref 189]) (l' := [(7, (m.1 7)), (9, y42), (12, y43)]) (a' := []) rfl rfl rfl rfl rfl ?_
              obtain ⟨g69a, g69b⟩ := g69
              refine T_i2l 151 rfl rfl (r32 (by omega) (by omega)) ?_
              refine T_ladd 152 rfl rfl ?_
              refine T_ld 155 (.long (i64 48)) rfl (fun _ => rfl) ?_
              refine T_lsub 156 rfl rfl ?_
              refine T_lnm (fun z73 h74 => ?_)
              obtain ⟨h74a, h74b⟩ := h74
              refine T_pf (l' := [(7, (m.1 7)), (9, y42), (12, z73)]) 159 z73 rfl rfl rfl rfl rfl rfl ?_
              have g75 : (-9223372036854775808) ≤ z73 ∧ z73 ≤ 9223372036854775807 := ⟨by omega, by omega⟩
              refine T_ld 160 (.ref 189) rfl (fun _ => rfl) ?_
              refine T_ld 161 (.ref 189) rfl (fun _ => rfl) ?_
              refine T_gf1 164 (.int (i32 y42)) rfl rfl rfl rfl ?_
              refine T_ld 165 (.int (i32 1)) rfl (fun _ => rfl) ?_
              refine T_iadd 166 rfl rfl ?_
              refine T_pf (l' := [(7, (m.1 7)), (9, y42 + 1), (12, z73)]) 169 (y42 + 1) rfl rfl rfl rfl rfl rfl ?_
              have g76 : 0 ≤ y42 + 1 ∧ y42 + 1 ≤ 4000 := ⟨by omega, by omega⟩
              refine T_goto 52 rfl (fun _ => rfl) ?_
              exact ih48 (y42 + 1) z73 g76 g75 (by omega) (by omega) (by omega)
          · skip
            refine T_ld 57 (.ref 189) rfl (fun _ => rfl) ?_
            refine T_gf 61 (.int (i32 (m.1 8))) rfl rfl rfl rfl rfl rfl ?_
            refine T_gf 65 (.int (i32 y42)) rfl rfl rfl rfl rfl rfl ?_
            refine T_iadd 66 rfl rfl ?_
            refine T_call 69 213 [.ref 189, .int (i32 ((m.1 8) + y42))] [] rfl (fun _ => rfl) rfl (c_byteAt1 w (mO m [(7, (m.1 7)), (9, y42), (12, y43)] []) c N D (by omega) (Ty_mO hT rfl rfl ⟨f7, q44, q45, trivial⟩ trivial) ((m.1 8) + y42) (r32 (by omega) (by omega)) (show 0 ≤ ((m.1 8) + y42) by omega)) (fun r77 k78 => ?_)
            obtain ⟨x79, g80, h81, h82, h83, rfl⟩ := k78
            replace h81 : -1 ≤ x79 ∧ x79 ≤ 255 := h81
            replace h82 : x79 = -1 ↔ (m.1 6) ≤ ((m.1 8) + y42) := h82
            replace h83 : ((m.1 8) + y42) < (m.1 6) → x79 = (m.2 4) ((m.1 8) + y42) := h83
            refine ⟨_, _, rfl, ?_⟩
            refine T_nf (st' := [.int (i32 x79)]) (l' := [(7, (m.1 7)), (9, y42), (12, y43)]) (a' := []) rfl rfl rfl rfl rfl ?_
            obtain ⟨g80a, g80b⟩ := g80
            refine T_call 72 219 [.int (i32 x79)] [] rfl (fun _ => rfl) rfl (c_hex w (mO m [(7, (m.1 7)), (9, y42), (12, y43)] []) c N D (by omega) (Ty_mO hT rfl rfl ⟨f7, q44, q45, trivial⟩ trivial) x79 (r32 (by omega) (by omega))) (fun r84 k85 => ?_)
            obtain ⟨x86, g87, h88, h89, rfl⟩ := k85
            replace h88 : -1 ≤ x86 ∧ x86 ≤ 15 := h88
            replace h89 : 0 ≤ x86 → 0 ≤ x79 := h89
            refine ⟨_, _, rfl, ?_⟩
            refine T_nf (st' := [.int (i32 x86)]) (l' := [(7, (m.1 7)), (9, y42), (12, y43)]) (a' := []) rfl rfl rfl rfl rfl ?_
            obtain ⟨g87a, g87b⟩ := g87
            refine T_if 172 75 rfl rfl rfl (r32 (by omega) (by omega)) (fun (h90 : x86 < 0) => ?_) (fun (h90 : ¬ (x86 < 0)) => ?_)
            · skip
              refine T_ld 173 (.ref 189) rfl (fun _ => rfl) ?_
              refine T_gf 177 (.int (i32 y42)) rfl rfl rfl rfl rfl rfl ?_
              refine T_ld 179 (.int (i32 18)) rfl (fun _ => rfl) ?_
              refine T_icmp 194 182 rfl rfl rfl (r32 (by omega) (by omega)) ⟨by decide, by decide⟩ (fun (h91 : (18 : Int) < y42) => ?_) (fun (h91 : ¬ ((18 : Int) < y42)) => ?_)
              · skip
                refine T_ld 195 (.int (i32 3)) rfl (fun _ => rfl) ?_
                refine T_goto 199 rfl (fun _ => rfl) ?_
                refine T_pf (l' := [(7, 3), (9, y42), (12, y43)]) 202 3 rfl rfl rfl rfl rfl rfl ?_
                refine T_ret rfl (fun _ => rfl) ?_
                exact ⟨3, y42, y43, ⟨by omega, by omega⟩, q44, q45, (by omega), rfl⟩
              · skip
                refine T_ld 183 (.int (i32 s1)) rfl (fun _ => rfl) ?_
                refine T_if 198 186 rfl rfl rfl (r32 (by omega) (by omega)) (fun (h92 : s1 = 0) => ?_) (fun (h92 : ¬ (s1 = 0)) => ?_)
                · skip
                  refine T_ld 199 (.int (i32 2)) rfl (fun _ => rfl) ?_
                  refine T_pf (l' := [(7, 2), (9, y42), (12, y43)]) 202 2 rfl rfl rfl rfl rfl rfl ?_
                  refine T_ret rfl (fun _ => rfl) ?_
                  exact ⟨2, y42, y43, ⟨by omega, by omega⟩, q44, q45, (by omega), rfl⟩
                · skip
                  refine T_gf 190 (.int (i32 y42)) rfl rfl rfl rfl rfl rfl ?_
                  refine T_ld 191 (.int (i32 2)) rfl (fun _ => rfl) ?_
                  refine T_icmp 198 194 rfl rfl rfl (r32 (by omega) (by omega)) ⟨by decide, by decide⟩ (fun (h93 : y42 ≠ 2) => ?_) (fun (h93 : ¬ (y42 ≠ 2)) => ?_)
                  · skip
                    refine T_ld 199 (.int (i32 2)) rfl (fun _ => rfl) ?_
                    refine T_pf (l' := [(7, 2), (9, y42), (12, y43)]) 202 2 rfl rfl rfl rfl rfl rfl ?_
                    refine T_ret rfl (fun _ => rfl) ?_
                    exact ⟨2, y42, y43, ⟨by omega, by omega⟩, q44, q45, (by omega), rfl⟩
                  · skip
                    refine T_ld 195 (.int (i32 3)) rfl (fun _ => rfl) ?_
                    refine T_goto 199 rfl (fun _ => rfl) ?_
                    refine T_pf (l' := [(7, 3), (9, y42), (12, y43)]) 202 3 rfl rfl rfl rfl rfl rfl ?_
                    refine T_ret rfl (fun _ => rfl) ?_
                    exact ⟨3, y42, y43, ⟨by omega, by omega⟩, q44, q45, (by omega), rfl⟩
            · skip
              refine T_goto 97 rfl (fun _ => rfl) ?_
              refine T_ld 98 (.ref 189) rfl (fun _ => rfl) ?_
              refine T_ld 99 (.int (i32 s1)) rfl (fun _ => rfl) ?_
              refine T_if 129 102 rfl rfl rfl (r32 (by omega) (by omega)) (fun (h94 : s1 = 0) => ?_) (fun (h94 : ¬ (s1 = 0)) => ?_)
              · skip
                refine T_ld 132 (.long (i64 10)) rfl (fun _ => rfl) ?_
                refine T_gf 136 (.long (i64 y43)) rfl rfl rfl rfl rfl rfl ?_
                refine T_lmul 137 rfl rfl ?_
                refine T_ld 138 (.ref 189) rfl (fun _ => rfl) ?_
                refine T_gf 142 (.int (i32 (m.1 8))) rfl rfl rfl rfl rfl rfl ?_
                refine T_gf 146 (.int (i32 y42)) rfl rfl rfl rfl rfl rfl ?_
                refine T_iadd 147 rfl rfl ?_
                refine T_call 150 213 [.ref 189, .int (i32 ((m.1 8) + y42))] [.long (i64 (10 * y43)), .ref 189] rfl (fun _ => rfl) rfl (c_byteAt1 w (mO m [(7, (m.1 7)), (9, y42), (12, y43)] []) c N D (by omega) (Ty_mO hT rfl rfl ⟨f7, q44, q45, trivial⟩ trivial) ((m.1 8) + y42) (r32 (by omega) (by omega)) (show 0 ≤ ((m.1 8) + y42) by omega)) (fun r95 k96 => ?_)
                obtain ⟨x97, g98, h99, h100, h101, rfl⟩ := k96
                replace h99 : -1 ≤ x97 ∧ x97 ≤ 255 := h99
                replace h100 : x97 = -1 ↔ (m.1 6) ≤ ((m.1 8) + y42) := h100
                replace h101 : ((m.1 8) + y42) < (m.1 6) → x97 = (m.2 4) ((m.1 8) + y42) := h101
                refine ⟨_, _, rfl, ?_⟩
                refine T_nf (st' := [.int (i32 x97), .long (i64 (10 * y43)), .ref 189]) (l' := [(7, (m.1 7)), (9, y42), (12, y43)]) (a' := []) rfl rfl rfl rfl rfl ?_
                obtain ⟨g98a, g98b⟩ := g98
                refine T_i2l 151 rfl rfl (r32 (by omega) (by omega)) ?_
                refine T_ladd 152 rfl rfl ?_
                refine T_ld 155 (.long (i64 48)) rfl (fun _ => rfl) ?_
                refine T_lsub 156 rfl rfl ?_
                refine T_lnm (fun z102 h103 => ?_)
                obtain ⟨h103a, h103b⟩ := h103
                refine T_pf (l' := [(7, (m.1 7)), (9, y42), (12, z102)]) 159 z102 rfl rfl rfl rfl rfl rfl ?_
                have g104 : (-9223372036854775808) ≤ z102 ∧ z102 ≤ 9223372036854775807 := ⟨by omega, by omega⟩
                refine T_ld 160 (.ref 189) rfl (fun _ => rfl) ?_
                refine T_ld 161 (.ref 189) rfl (fun _ => rfl) ?_
                refine T_gf1 164 (.int (i32 y42)) rfl rfl rfl rfl ?_
                refine T_ld 165 (.int (i32 1)) rfl (fun _ => rfl) ?_
                refine T_iadd 166 rfl rfl ?_
                refine T_pf (l' := [(7, (m.1 7)), (9, y42 + 1), (12, z102)]) 169 (y42 + 1) rfl rfl rfl rfl rfl rfl ?_
                have g105 : 0 ≤ y42 + 1 ∧ y42 + 1 ≤ 4000 := ⟨by omega, by omega⟩
                refine T_goto 52 rfl (fun _ => rfl) ?_
                exact ih48 (y42 + 1) z102 g105 g104 (by omega) (by omega) (by omega)
              · skip
                refine T_gf 106 (.long (i64 y43)) rfl rfl rfl rfl rfl rfl ?_
                refine T_ld 107 (.int (i32 4)) rfl (fun _ => rfl) ?_
                refine T_lhv 108 _ rfl (fun _ => rfl) (fun z106 h107 => ?_)
                obtain ⟨h107a, h107b⟩ := h107
                refine T_ld 109 (.ref 189) rfl (fun _ => rfl) ?_
                refine T_gf 113 (.int (i32 (m.1 8))) rfl rfl rfl rfl rfl rfl ?_
                refine T_gf 117 (.int (i32 y42)) rfl rfl rfl rfl rfl rfl ?_
                refine T_iadd 118 rfl rfl ?_
                refine T_call 121 213 [.ref 189, .int (i32 ((m.1 8) + y42))] [.long (i64 z106), .ref 189] rfl (fun _ => rfl) rfl (c_byteAt1 w (mO m [(7, (m.1 7)), (9, y42), (12, y43)] []) c N D (by omega) (Ty_mO hT rfl rfl ⟨f7, q44, q45, trivial⟩ trivial) ((m.1 8) + y42) (r32 (by omega) (by omega)) (show 0 ≤ ((m.1 8) + y42) by omega)) (fun r108 k109 => ?_)
                obtain ⟨x110, g111, h112, h113, h114, rfl⟩ := k109
                replace h112 : -1 ≤ x110 ∧ x110 ≤ 255 := h112
                replace h113 : x110 = -1 ↔ (m.1 6) ≤ ((m.1 8) + y42) := h113
                replace h114 : ((m.1 8) + y42) < (m.1 6) → x110 = (m.2 4) ((m.1 8) + y42) := h114
                refine ⟨_, _, rfl, ?_⟩
                refine T_nf (st' := [.int (i32 x110), .long (i64 z106), .ref 189]) (l' := [(7, (m.1 7)), (9, y42), (12, y43)]) (a' := []) rfl rfl rfl rfl rfl ?_
                obtain ⟨g111a, g111b⟩ := g111
                refine T_call 124 219 [.int (i32 x110)] [.long (i64 z106), .ref 189] rfl (fun _ => rfl) rfl (c_hex w (mO m [(7, (m.1 7)), (9, y42), (12, y43)] []) c N D (by omega) (Ty_mO hT rfl rfl ⟨f7, q44, q45, trivial⟩ trivial) x110 (r32 (by omega) (by omega))) (fun r115 k116 => ?_)
                obtain ⟨x117, g118, h119, h120, rfl⟩ := k116
                replace h119 : -1 ≤ x117 ∧ x117 ≤ 15 := h119
                replace h120 : 0 ≤ x117 → 0 ≤ x110 := h120
                refine ⟨_, _, rfl, ?_⟩
                refine T_nf (st' := [.int (i32 x117), .long (i64 z106), .ref 189]) (l' := [(7, (m.1 7)), (9, y42), (12, y43)]) (a' := []) rfl rfl rfl rfl rfl ?_
                obtain ⟨g118a, g118b⟩ := g118
                refine T_i2l 125 rfl rfl (r32 (by omega) (by omega)) ?_
                refine T_lhv 126 _ rfl (fun _ => rfl) (fun z121 h122 => ?_)
                obtain ⟨h122a, h122b⟩ := h122
                refine T_goto 156 rfl (fun _ => rfl) ?_
                refine T_lnm (fun z123 h124 => ?_)
                obtain ⟨h124a, h124b⟩ := h124
                refine T_pf (l' := [(7, (m.1 7)), (9, y42), (12, z123)]) 159 z123 rfl rfl rfl rfl rfl rfl ?_
                have g125 : (-9223372036854775808) ≤ z123 ∧ z123 ≤ 9223372036854775807 := ⟨by omega, by omega⟩
                refine T_ld 160 (.ref 189) rfl (fun _ => rfl) ?_
                refine T_ld 161 (.ref 189) rfl (fun _ => rfl) ?_
                refine T_gf1 164 (.int (i32 y42)) rfl rfl rfl rfl ?_
                refine T_ld 165 (.int (i32 1)) rfl (fun _ => rfl) ?_
                refine T_iadd 166 rfl rfl ?_
                refine T_pf (l' := [(7, (m.1 7)), (9, y42 + 1), (12, z123)]) 169 (y42 + 1) rfl rfl rfl rfl rfl rfl ?_
                have g126 : 0 ≤ y42 + 1 ∧ y42 + 1 ≤ 4000 := ⟨by omega, by omega⟩
                refine T_goto 52 rfl (fun _ => rfl) ?_
                exact ih48 (y42 + 1) z123 g126 g125 (by omega) (by omega) (by omega)
      refine Tm_lv (a := [(0, .ref 189), (1, .int (i32 s1))]) rfl rfl ⟨rfl, rfl, trivial⟩ ?_
      exact L52 (((m.1 6) - (m.1 8) - 2 : Int) + 1).toNat 2 y2 ⟨by omega, by omega⟩ q4 (by omega) (by omega) (by omega)
  refine T_ld 1 (.ref 189) rfl (fun _ => rfl) ?_
  refine T_ld 2 (.long (i64 0)) rfl (fun _ => rfl) ?_
  refine T_pf (l' := [(7, (m.1 7)), (9, (m.1 9)), (12, 0)]) 5 0 rfl rfl rfl rfl rfl rfl ?_
  refine T_ld 6 (.ref 189) rfl (fun _ => rfl) ?_
  refine T_gf 10 (.int (i32 (m.1 8))) rfl rfl rfl rfl rfl rfl ?_
  refine T_call 13 213 [.ref 189, .int (i32 (m.1 8))] [] rfl (fun _ => rfl) rfl (c_byteAt1 w (mO m [(7, (m.1 7)), (9, (m.1 9)), (12, 0)] []) c N D (by omega) (Ty_mO hT rfl rfl ⟨f7, f9, ⟨(by omega : ((-9223372036854775808) : Int) ≤ 0), (by omega : (0 : Int) ≤ 9223372036854775807)⟩, trivial⟩ trivial) (m.1 8) (r32 (by omega) (by omega)) (show 0 ≤ (m.1 8) by omega)) (fun r127 k128 => ?_)
  obtain ⟨x129, g130, h131, h132, h133, rfl⟩ := k128
  replace h131 : -1 ≤ x129 ∧ x129 ≤ 255 := h131
  replace h132 : x129 = -1 ↔ (m.1 6) ≤ (m.1 8) := h132
  replace h133 : (m.1 8) < (m.1 6) → x129 = (m.2 4) (m.1 8) := h133
  refine ⟨_, _, rfl, ?_⟩
  refine T_nf (st' := [.int (i32 x129)]) (l' := [(7, (m.1 7)), (9, (m.1 9)), (12, 0)]) (a' := []) rfl rfl rfl rfl rfl ?_
  obtain ⟨g130a, g130b⟩ := g130
  refine T_ld 15 (.int (i32 48)) rfl (fun _ => rfl) ?_
  refine T_icmp 37 18 rfl rfl rfl (r32 (by omega) (by omega)) ⟨by decide, by decide⟩ (fun (h134 : x129 ≠ 48) => ?_) (fun (h134 : ¬ (x129 ≠ 48)) => ?_)
  · skip
    refine T_ld 38 (.int (i32 0)) rfl (fun _ => rfl) ?_
    exact J38 0 0 (r32 (by omega) (by omega)) ⟨by omega, by omega⟩ (by omega)
  · skip
    refine T_ld 19 (.ref 189) rfl (fun _ => rfl) ?_
    refine T_gf 23 (.int (i32 (m.1 8))) rfl rfl rfl rfl rfl rfl ?_
    refine T_ld 24 (.int (i32 1)) rfl (fun _ => rfl) ?_
    refine T_iadd 25 rfl rfl ?_
    refine T_call 28 213 [.ref 189, .int (i32 ((m.1 8) + 1))] [] rfl (fun _ => rfl) rfl (c_byteAt1 w (mO m [(7, (m.1 7)), (9, (m.1 9)), (12, 0)] []) c N D (by omega) (Ty_mO hT rfl rfl ⟨f7, f9, ⟨(by omega : ((-9223372036854775808) : Int) ≤ 0), (by omega : (0 : Int) ≤ 9223372036854775807)⟩, trivial⟩ trivial) ((m.1 8) + 1) (r32 (by omega) (by omega)) (show 0 ≤ ((m.1 8) + 1) by omega)) (fun r135 k136 => ?_)
    obtain ⟨x137, g138, h139, h140, h141, rfl⟩ := k136
    replace h139 : -1 ≤ x137 ∧ x137 ≤ 255 := h139
    replace h140 : x137 = -1 ↔ (m.1 6) ≤ ((m.1 8) + 1) := h140
    replace h141 : ((m.1 8) + 1) < (m.1 6) → x137 = (m.2 4) ((m.1 8) + 1) := h141
    refine ⟨_, _, rfl, ?_⟩
    refine T_nf (st' := [.int (i32 x137)]) (l' := [(7, (m.1 7)), (9, (m.1 9)), (12, 0)]) (a' := []) rfl rfl rfl rfl rfl ?_
    obtain ⟨g138a, g138b⟩ := g138
    refine T_ld 30 (.int (i32 120)) rfl (fun _ => rfl) ?_
    refine T_icmp 37 33 rfl rfl rfl (r32 (by omega) (by omega)) ⟨by decide, by decide⟩ (fun (h142 : x137 ≠ 120) => ?_) (fun (h142 : ¬ (x137 ≠ 120)) => ?_)
    · skip
      refine T_ld 38 (.int (i32 0)) rfl (fun _ => rfl) ?_
      exact J38 0 0 (r32 (by omega) (by omega)) ⟨by omega, by omega⟩ (by omega)
    · skip
      refine T_ld 34 (.int (i32 1)) rfl (fun _ => rfl) ?_
      refine T_goto 38 rfl (fun _ => rfl) ?_
      exact J38 1 0 (r32 (by omega) (by omega)) ⟨by omega, by omega⟩ (by omega)
def Q_look (m : mR) (c : Nat → Option am_C) (N : Nat) : ag_Re af_T → Prop := fun R => ∃ (y7 : Int) (y9 : Int) (y10 : Int) (y11 : Int) (y12 : Int), (0 ≤ y7 ∧ y7 ≤ 330) ∧ (0 ≤ y9 ∧ y9 ≤ 4000) ∧ (0 ≤ y10 ∧ y10 ≤ 8) ∧ ((-1) ≤ y11 ∧ y11 ≤ 4000) ∧ ((-9223372036854775808) ≤ y12 ∧ y12 ≤ 9223372036854775807) ∧ (LxP y7 (m.1 8) y9 (m.1 6) y10) ∧ (y10 = 0 → (m.1 10) = 0) ∧ R = (.inl (none), (mhp (mO m [(7, y7), (9, y9), (10, y10), (11, y11), (12, y12)] []) c, N), 0, 0)
set_option maxHeartbeats 8000000 in
theorem c_look (w : wX) (m : mR) (c : Nat → Option am_C) (N D : Nat) (hD : 4 ≤ D) (hT : Ty m) (p0 : 0 ≤ (m.1 8) ∧ (m.1 8) ≤ (m.1 6)) : TC w D 214 [.ref 189] (mhp m c, N) (Q_look m c N) := by
  obtain ⟨D, rfl⟩ : ∃ k, D = k + 1 := ⟨D - 1, by omega⟩
  have f7 : 0 ≤ m.1 7 ∧ m.1 7 ≤ 330 := hT.1 7
  have f9 : 0 ≤ m.1 9 ∧ m.1 9 ≤ 4000 := hT.1 9
  have f10 : 0 ≤ m.1 10 ∧ m.1 10 ≤ 8 := hT.1 10
  have f11 : (-1) ≤ m.1 11 ∧ m.1 11 ≤ 4000 := hT.1 11
  have f12 : (-9223372036854775808) ≤ m.1 12 ∧ m.1 12 ≤ 9223372036854775807 := hT.1 12
  have f8 : 0 ≤ m.1 8 ∧ m.1 8 ≤ 4000 := hT.1 8
  have f6 : 0 ≤ m.1 6 ∧ m.1 6 ≤ 4000 := hT.1 6
  refine Tc_of rfl ?_
  show TT w D pm_214 (0, [(0, .ref 189)], [], (mhp m c, N), 0, 0) (Q_look m c N)
  rw [show (mhp m c, N) = (mhp (mO m [(7, (m.1 7)), (9, (m.1 9)), (10, (m.1 10)), (11, (m.1 11)), (12, (m.1 12))] []) c, N) from congrArg (fun M => (mhp M c, N)) (mO_pad m [7, 9, 10, 11, 12] [])]
  refine T_ld 1 (.ref 189) rfl (fun _ => rfl) ?_
  refine T_gf 5 (.int (i32 (m.1 8))) rfl rfl rfl rfl rfl rfl ?_
  refine T_call 8 213 [.ref 189, .int (i32 (m.1 8))] [] rfl (fun _ => rfl) rfl (c_byteAt1 w (mO m [(7, (m.1 7)), (9, (m.1 9)), (10, (m.1 10)), (11, (m.1 11)), (12, (m.1 12))] []) c N D (by omega) (Ty_mO hT rfl rfl ⟨f7, f9, f10, f11, f12, trivial⟩ trivial) (m.1 8) (r32 (by omega) (by omega)) (show 0 ≤ (m.1 8) by omega)) (fun r1 k2 => ?_)
  obtain ⟨x3, g4, h5, h6, h7, rfl⟩ := k2
  replace h5 : -1 ≤ x3 ∧ x3 ≤ 255 := h5
  replace h6 : x3 = -1 ↔ (m.1 6) ≤ (m.1 8) := h6
  replace h7 : (m.1 8) < (m.1 6) → x3 = (m.2 4) (m.1 8) := h7
  refine ⟨_, _, rfl, ?_⟩
  refine T_nf (st' := [.int (i32 x3)]) (l' := [(7, (m.1 7)), (9, (m.1 9)), (10, (m.1 10)), (11, (m.1 11)), (12, (m.1 12))]) (a' := []) rfl rfl rfl rfl rfl ?_
  obtain ⟨g4a, g4b⟩ := g4
  refine T_sto 9 [(1, .int (i32 x3)), (0, .ref 189)] rfl (fun _ => rfl) ?_
  refine T_ld 10 (.ref 189) rfl (fun _ => rfl) ?_
  refine T_ld 11 (.int (i32 1)) rfl (fun _ => rfl) ?_
  refine T_pf (l' := [(7, (m.1 7)), (9, 1), (10, (m.1 10)), (11, (m.1 11)), (12, (m.1 12))]) 14 1 rfl rfl rfl rfl rfl rfl ?_
  refine T_ld 15 (.int (i32 x3)) rfl (fun _ => rfl) ?_
  refine T_ld 16 (.int (i32 (-1))) rfl (fun _ => rfl) ?_
  refine T_icmp 27 19 rfl rfl rfl (r32 (by omega) (by omega)) ⟨by decide, by decide⟩ (fun (h8 : x3 ≠ (-1)) => ?_) (fun (h8 : ¬ (x3 ≠ (-1))) => ?_)
  · skip
    refine T_ld 28 (.int (i32 x3)) rfl (fun _ => rfl) ?_
    refine T_call 31 215 [.int (i32 x3)] [] rfl (fun _ => rfl) rfl (c_isSmall w (mO m [(7, (m.1 7)), (9, 1), (10, (m.1 10)), (11, (m.1 11)), (12, (m.1 12))] []) c N D (by omega) (Ty_mO hT rfl rfl ⟨f7, ⟨(by omega : (0 : Int) ≤ 1), (by omega : (1 : Int) ≤ 4000)⟩, f10, f11, f12, trivial⟩ trivial) x3 (r32 (by omega) (by omega))) (fun r9 k10 => ?_)
    obtain ⟨x11, g12, h13, rfl⟩ := k10
    replace h13 : x11 = 1 ↔ (97 ≤ x3 ∧ x3 ≤ 122) := h13
    refine ⟨_, _, rfl, ?_⟩
    refine T_nf (st' := [.int (i32 x11)]) (l' := [(7, (m.1 7)), (9, 1), (10, (m.1 10)), (11, (m.1 11)), (12, (m.1 12))]) (a' := []) rfl rfl rfl rfl rfl ?_
    obtain ⟨g12a, g12b⟩ := g12
    refine T_if 137 34 rfl rfl rfl (r32 (by omega) (by omega)) (fun (h14 : x11 = 0) => ?_) (fun (h14 : ¬ (x11 = 0)) => ?_)
    · skip
      refine T_ld 138 (.int (i32 x3)) rfl (fun _ => rfl) ?_
      refine T_call 141 216 [.int (i32 x3)] [] rfl (fun _ => rfl) rfl (c_isDigit w (mO m [(7, (m.1 7)), (9, 1), (10, (m.1 10)), (11, (m.1 11)), (12, (m.1 12))] []) c N D (by omega) (Ty_mO hT rfl rfl ⟨f7, ⟨(by omega : (0 : Int) ≤ 1), (by omega : (1 : Int) ≤ 4000)⟩, f10, f11, f12, trivial⟩ trivial) x3 (r32 (by omega) (by omega))) (fun r15 k16 => ?_)
      obtain ⟨x17, g18, h19, rfl⟩ := k16
      replace h19 : x17 = 1 ↔ (48 ≤ x3 ∧ x3 ≤ 57) := h19
      refine ⟨_, _, rfl, ?_⟩
      refine T_nf (st' := [.int (i32 x17)]) (l' := [(7, (m.1 7)), (9, 1), (10, (m.1 10)), (11, (m.1 11)), (12, (m.1 12))]) (a' := []) rfl rfl rfl rfl rfl ?_
      obtain ⟨g18a, g18b⟩ := g18
      refine T_if 151 144 rfl rfl rfl (r32 (by omega) (by omega)) (fun (h20 : x17 = 0) => ?_) (fun (h20 : ¬ (x17 = 0)) => ?_)
      · skip
        refine T_ld 152 (.int (i32 x3)) rfl (fun _ => rfl) ?_
        refine T_ld 153 (.ref 189) rfl (fun _ => rfl) ?_
        refine T_gf 157 (.int (i32 (m.1 8))) rfl rfl rfl rfl rfl rfl ?_
        refine T_ld 158 (.int (i32 1)) rfl (fun _ => rfl) ?_
        refine T_iadd 159 rfl rfl ?_
        refine T_call 162 213 [.ref 189, .int (i32 ((m.1 8) + 1))] [.int (i32 x3)] rfl (fun _ => rfl) rfl (c_byteAt1 w (mO m [(7, (m.1 7)), (9, 1), (10, (m.1 10)), (11, (m.1 11)), (12, (m.1 12))] []) c N D (by omega) (Ty_mO hT rfl rfl ⟨f7, ⟨(by omega : (0 : Int) ≤ 1), (by omega : (1 : Int) ≤ 4000)⟩, f10, f11, f12, trivial⟩ trivial) ((m.1 8) + 1) (r32 (by omega) (by omega)) (show 0 ≤ ((m.1 8) + 1) by omega)) (fun r21 k22 => ?_)
        obtain ⟨x23, g24, h25, h26, h27, rfl⟩ := k22
        replace h25 : -1 ≤ x23 ∧ x23 ≤ 255 := h25
        replace h26 : x23 = -1 ↔ (m.1 6) ≤ ((m.1 8) + 1) := h26
        replace h27 : ((m.1 8) + 1) < (m.1 6) → x23 = (m.2 4) ((m.1 8) + 1) := h27
        refine ⟨_, _, rfl, ?_⟩
        refine T_nf (st' := [.int (i32 x23), .int (i32 x3)]) (l' := [(7, (m.1 7)), (9, 1), (10, (m.1 10)), (11, (m.1 11)), (12, (m.1 12))]) (a' := []) rfl rfl rfl rfl rfl ?_
        obtain ⟨g24a, g24b⟩ := g24
        refine T_call 165 220 [.int (i32 x3), .int (i32 x23)] [] rfl (fun _ => rfl) rfl (c_twice w (mO m [(7, (m.1 7)), (9, 1), (10, (m.1 10)), (11, (m.1 11)), (12, (m.1 12))] []) c N D (by omega) (Ty_mO hT rfl rfl ⟨f7, ⟨(by omega : (0 : Int) ≤ 1), (by omega : (1 : Int) ≤ 4000)⟩, f10, f11, f12, trivial⟩ trivial) x3 x23 (r32 (by omega) (by omega)) (r32 (by omega) (by omega))) (fun r28 k29 => ?_)
        obtain ⟨x30, g31, h32, h33, h34, rfl⟩ := k29
        replace h32 : -1 ≤ x30 ∧ x30 ≤ 12 := h32
        replace h33 : 0 ≤ x30 → (0 ≤ x23 ∧ 4 ≤ x30) := h33
        replace h34 : 0 ≤ x30 ↔ ((x23 = 61 ∧ (x3 = 61 ∨ x3 = 33 ∨ x3 = 60 ∨ x3 = 62)) ∨ (x23 ≠ 61 ∧ x3 = x23 ∧ (x3 = 43 ∨ x3 = 38 ∨ x3 = 124 ∨ x3 = 60 ∨ x3 = 62))) := h34
        refine ⟨_, _, rfl, ?_⟩
        refine T_nf (st' := [.int (i32 x30)]) (l' := [(7, (m.1 7)), (9, 1), (10, (m.1 10)), (11, (m.1 11)), (12, (m.1 12))]) (a' := []) rfl rfl rfl rfl rfl ?_
        obtain ⟨g31a, g31b⟩ := g31
        refine T_if 194 168 rfl rfl rfl (r32 (by omega) (by omega)) (fun (h35 : x30 ≤ 0) => ?_) (fun (h35 : ¬ (x30 ≤ 0)) => ?_)
        · skip
          refine T_ld 195 (.ref 189) rfl (fun _ => rfl) ?_
          refine T_ld 196 (.int (i32 x3)) rfl (fun _ => rfl) ?_
          refine T_call 199 221 [.int (i32 x3)] [.ref 189] rfl (fun _ => rfl) rfl (c_isSign w (mO m [(7, (m.1 7)), (9, 1), (10, (m.1 10)), (11, (m.1 11)), (12, (m.1 12))] []) c N D (by omega) (Ty_mO hT rfl rfl ⟨f7, ⟨(by omega : (0 : Int) ≤ 1), (by omega : (1 : Int) ≤ 4000)⟩, f10, f11, f12, trivial⟩ trivial) x3 (r32 (by omega) (by omega))) (fun r36 k37 => ?_)
          obtain ⟨x38, g39, h40, rfl⟩ := k37
          replace h40 : x38 = 1 → 33 ≤ x3 ∧ x3 ≤ 126 := h40
          refine ⟨_, _, rfl, ?_⟩
          refine T_nf (st' := [.int (i32 x38), .ref 189]) (l' := [(7, (m.1 7)), (9, 1), (10, (m.1 10)), (11, (m.1 11)), (12, (m.1 12))]) (a' := []) rfl rfl rfl rfl rfl ?_
          obtain ⟨g39a, g39b⟩ := g39
          refine T_if 206 202 rfl rfl rfl (r32 (by omega) (by omega)) (fun (h41 : x38 = 0) => ?_) (fun (h41 : ¬ (x38 = 0)) => ?_)
          · skip
            refine T_ld 207 (.int (i32 3)) rfl (fun _ => rfl) ?_
            refine T_pf (l' := [(7, 3), (9, 1), (10, (m.1 10)), (11, (m.1 11)), (12, (m.1 12))]) 210 3 rfl rfl rfl rfl rfl rfl ?_
            refine T_gf 214 (.int (i32 3)) rfl rfl rfl rfl rfl rfl ?_
            refine T_ld 215 (.int (i32 3)) rfl (fun _ => rfl) ?_
            refine T_icmp 227 218 rfl rfl rfl ⟨by decide, by decide⟩ ⟨by decide, by decide⟩ (fun h42 => absurd (show (3 : Int) ≠ 3 from h42) (by decide)) (fun _ => ?_)
            refine T_ld 219 (.ref 189) rfl (fun _ => rfl) ?_
            refine T_ld 220 (.int (i32 2)) rfl (fun _ => rfl) ?_
            refine T_gf 224 (.int (i32 (m.1 8))) rfl rfl rfl rfl rfl rfl ?_
            refine T_call 227 222 [.ref 189, .int (i32 2), .int (i32 (m.1 8))] [] rfl (fun _ => rfl) rfl (c_wrong w (mO m [(7, 3), (9, 1), (10, (m.1 10)), (11, (m.1 11)), (12, (m.1 12))] []) c N D (by omega) (Ty_mO hT rfl rfl ⟨⟨(by omega : (0 : Int) ≤ 3), (by omega : (3 : Int) ≤ 330)⟩, ⟨(by omega : (0 : Int) ≤ 1), (by omega : (1 : Int) ≤ 4000)⟩, f10, f11, f12, trivial⟩ trivial) 2 (m.1 8) ⟨by decide, by decide⟩ (r32 (by omega) (by omega)) (show 1 ≤ 2 ∧ 2 ≤ 8 by omega) (show 0 ≤ (m.1 8) ∧ (m.1 8) ≤ 4000 by omega)) (fun r43 k44 => ?_)
            obtain ⟨y45, y47, g46, g48, h49, rfl⟩ := k44
            replace h49 : (0 < (m.1 10) → y45 = (m.1 10) ∧ y47 = (m.1 11)) ∧ ((m.1 10) ≤ 0 → y45 = 2 ∧ y47 = (m.1 8)) := h49
            refine ⟨_, _, rfl, ?_⟩
            refine T_nf (st' := []) (l' := [(7, 3), (9, 1), (10, y45), (11, y47), (12, (m.1 12))]) (a' := []) rfl rfl rfl rfl rfl ?_
            have u50 : 1 ≤ y45 ∧ y45 ≤ 8 := by omega
            refine T_ret rfl (fun _ => rfl) ?_
            exact ⟨3, 1, y45, y47, (m.1 12), ⟨by omega, by omega⟩, ⟨by omega, by omega⟩, g46, g48, f12, (by intro h9; omega), (by omega), rfl⟩
          · skip
            refine T_ld 203 (.int (i32 x3)) rfl (fun _ => rfl) ?_
            refine T_goto 207 rfl (fun _ => rfl) ?_
            refine T_pf (l' := [(7, x3), (9, 1), (10, (m.1 10)), (11, (m.1 11)), (12, (m.1 12))]) 210 x3 rfl rfl rfl rfl rfl rfl ?_
            have g51 : 0 ≤ x3 ∧ x3 ≤ 330 := ⟨by omega, by omega⟩
            refine T_gf 214 (.int (i32 x3)) rfl rfl rfl rfl rfl rfl ?_
            refine T_ld 215 (.int (i32 3)) rfl (fun _ => rfl) ?_
            refine T_icmp 227 218 rfl rfl rfl (r32 (by omega) (by omega)) ⟨by decide, by decide⟩ (fun (h52 : x3 ≠ 3) => ?_) (fun (h52 : ¬ (x3 ≠ 3)) => ?_)
            · skip
              refine T_ret rfl (fun _ => rfl) ?_
              exact ⟨x3, 1, (m.1 10), (m.1 11), (m.1 12), g51, ⟨by omega, by omega⟩, f10, f11, f12, (by intro h9; omega), (by omega), rfl⟩
            · skip
              refine T_ld 219 (.ref 189) rfl (fun _ => rfl) ?_
              refine T_ld 220 (.int (i32 2)) rfl (fun _ => rfl) ?_
              refine T_gf 224 (.int (i32 (m.1 8))) rfl rfl rfl rfl rfl rfl ?_
              refine T_call 227 222 [.ref 189, .int (i32 2), .int (i32 (m.1 8))] [] rfl (fun _ => rfl) rfl (c_wrong w (mO m [(7, x3), (9, 1), (10, (m.1 10)), (11, (m.1 11)), (12, (m.1 12))] []) c N D (by omega) (Ty_mO hT rfl rfl ⟨g51, ⟨(by omega : (0 : Int) ≤ 1), (by omega : (1 : Int) ≤ 4000)⟩, f10, f11, f12, trivial⟩ trivial) 2 (m.1 8) ⟨by decide, by decide⟩ (r32 (by omega) (by omega)) (show 1 ≤ 2 ∧ 2 ≤ 8 by omega) (show 0 ≤ (m.1 8) ∧ (m.1 8) ≤ 4000 by omega)) (fun r53 k54 => ?_)
              obtain ⟨y55, y57, g56, g58, h59, rfl⟩ := k54
              replace h59 : (0 < (m.1 10) → y55 = (m.1 10) ∧ y57 = (m.1 11)) ∧ ((m.1 10) ≤ 0 → y55 = 2 ∧ y57 = (m.1 8)) := h59
              refine ⟨_, _, rfl, ?_⟩
              refine T_nf (st' := []) (l' := [(7, x3), (9, 1), (10, y55), (11, y57), (12, (m.1 12))]) (a' := []) rfl rfl rfl rfl rfl ?_
              have u60 : 1 ≤ y55 ∧ y55 ≤ 8 := by omega
              refine T_ret rfl (fun _ => rfl) ?_
              exact ⟨x3, 1, y55, y57, (m.1 12), g51, ⟨by omega, by omega⟩, g56, g58, f12, (by intro h9; omega), (by omega), rfl⟩
        · skip
          refine T_ld 169 (.ref 189) rfl (fun _ => rfl) ?_
          refine T_ld 170 (.int (i32 x3)) rfl (fun _ => rfl) ?_
          refine T_ld 171 (.ref 189) rfl (fun _ => rfl) ?_
          refine T_gf 175 (.int (i32 (m.1 8))) rfl rfl rfl rfl rfl rfl ?_
          refine T_ld 176 (.int (i32 1)) rfl (fun _ => rfl) ?_
          refine T_iadd 177 rfl rfl ?_
          refine T_call 180 213 [.ref 189, .int (i32 ((m.1 8) + 1))] [.int (i32 x3), .ref 189] rfl (fun _ => rfl) rfl (c_byteAt1 w (mO m [(7, (m.1 7)), (9, 1), (10, (m.1 10)), (11, (m.1 11)), (12, (m.1 12))] []) c N D (by omega) (Ty_mO hT rfl rfl ⟨f7, ⟨(by omega : (0 : Int) ≤ 1), (by omega : (1 : Int) ≤ 4000)⟩, f10, f11, f12, trivial⟩ trivial) ((m.1 8) + 1) (r32 (by omega) (by omega)) (show 0 ≤ ((m.1 8) + 1) by omega)) (fun r61 k62 => ?_)
          obtain ⟨x63, g64, h65, h66, h67, rfl⟩ := k62
          replace h65 : -1 ≤ x63 ∧ x63 ≤ 255 := h65
          replace h66 : x63 = -1 ↔ (m.1 6) ≤ ((m.1 8) + 1) := h66
          replace h67 : ((m.1 8) + 1) < (m.1 6) → x63 = (m.2 4) ((m.1 8) + 1) := h67
          refine ⟨_, _, rfl, ?_⟩
          refine T_nf (st' := [.int (i32 x63), .int (i32 x3), .ref 189]) (l' := [(7, (m.1 7)), (9, 1), (10, (m.1 10)), (11, (m.1 11)), (12, (m.1 12))]) (a' := []) rfl rfl rfl rfl rfl ?_
          obtain ⟨g64a, g64b⟩ := g64
          refine T_call 183 220 [.int (i32 x3), .int (i32 x63)] [.ref 189] rfl (fun _ => rfl) rfl (c_twice w (mO m [(7, (m.1 7)), (9, 1), (10, (m.1 10)), (11, (m.1 11)), (12, (m.1 12))] []) c N D (by omega) (Ty_mO hT rfl rfl ⟨f7, ⟨(by omega : (0 : Int) ≤ 1), (by omega : (1 : Int) ≤ 4000)⟩, f10, f11, f12, trivial⟩ trivial) x3 x63 (r32 (by omega) (by omega)) (r32 (by omega) (by omega))) (fun r68 k69 => ?_)
          obtain ⟨x70, g71, h72, h73, h74, rfl⟩ := k69
          replace h72 : -1 ≤ x70 ∧ x70 ≤ 12 := h72
          replace h73 : 0 ≤ x70 → (0 ≤ x63 ∧ 4 ≤ x70) := h73
          replace h74 : 0 ≤ x70 ↔ ((x63 = 61 ∧ (x3 = 61 ∨ x3 = 33 ∨ x3 = 60 ∨ x3 = 62)) ∨ (x63 ≠ 61 ∧ x3 = x63 ∧ (x3 = 43 ∨ x3 = 38 ∨ x3 = 124 ∨ x3 = 60 ∨ x3 = 62))) := h74
          refine ⟨_, _, rfl, ?_⟩
          refine T_nf (st' := [.int (i32 x70), .ref 189]) (l' := [(7, (m.1 7)), (9, 1), (10, (m.1 10)), (11, (m.1 11)), (12, (m.1 12))]) (a' := []) rfl rfl rfl rfl rfl ?_
          obtain ⟨g71a, g71b⟩ := g71
          refine T_pf (l' := [(7, x70), (9, 1), (10, (m.1 10)), (11, (m.1 11)), (12, (m.1 12))]) 186 x70 rfl rfl rfl rfl rfl rfl ?_
          have g75 : 0 ≤ x70 ∧ x70 ≤ 330 := ⟨by omega, by omega⟩
          refine T_ld 187 (.ref 189) rfl (fun _ => rfl) ?_
          refine T_ld 188 (.int (i32 2)) rfl (fun _ => rfl) ?_
          refine T_pf (l' := [(7, x70), (9, 2), (10, (m.1 10)), (11, (m.1 11)), (12, (m.1 12))]) 191 2 rfl rfl rfl rfl rfl rfl ?_
          refine T_goto 210 rfl (fun _ => rfl) ?_
          refine T_gf 214 (.int (i32 x70)) rfl rfl rfl rfl rfl rfl ?_
          refine T_ld 215 (.int (i32 3)) rfl (fun _ => rfl) ?_
          refine T_icmp 227 218 rfl rfl rfl (r32 (by omega) (by omega)) ⟨by decide, by decide⟩ (fun (h76 : x70 ≠ 3) => ?_) (fun (h76 : ¬ (x70 ≠ 3)) => ?_)
          · skip
            refine T_ret rfl (fun _ => rfl) ?_
            exact ⟨x70, 2, (m.1 10), (m.1 11), (m.1 12), g75, ⟨by omega, by omega⟩, f10, f11, f12, (by intro h9; omega), (by omega), rfl⟩
          · skip
            refine T_ld 219 (.ref 189) rfl (fun _ => rfl) ?_
            refine T_ld 220 (.int (i32 2)) rfl (fun _ => rfl) ?_
            refine T_gf 224 (.int (i32 (m.1 8))) rfl rfl rfl rfl rfl rfl ?_
            refine T_call 227 222 [.ref 189, .int (i32 2), .int (i32 (m.1 8))] [] rfl (fun _ => rfl) rfl (c_wrong w (mO m [(7, x70), (9, 2), (10, (m.1 10)), (11, (m.1 11)), (12, (m.1 12))] []) c N D (by omega) (Ty_mO hT rfl rfl ⟨g75, ⟨(by omega : (0 : Int) ≤ 2), (by omega : (2 : Int) ≤ 4000)⟩, f10, f11, f12, trivial⟩ trivial) 2 (m.1 8) ⟨by decide, by decide⟩ (r32 (by omega) (by omega)) (show 1 ≤ 2 ∧ 2 ≤ 8 by omega) (show 0 ≤ (m.1 8) ∧ (m.1 8) ≤ 4000 by omega)) (fun r77 k78 => ?_)
            obtain ⟨y79, y81, g80, g82, h83, rfl⟩ := k78
            replace h83 : (0 < (m.1 10) → y79 = (m.1 10) ∧ y81 = (m.1 11)) ∧ ((m.1 10) ≤ 0 → y79 = 2 ∧ y81 = (m.1 8)) := h83
            refine ⟨_, _, rfl, ?_⟩
            refine T_nf (st' := []) (l' := [(7, x70), (9, 2), (10, y79), (11, y81), (12, (m.1 12))]) (a' := []) rfl rfl rfl rfl rfl ?_
            have u84 : 1 ≤ y79 ∧ y79 ≤ 8 := by omega
            refine T_ret rfl (fun _ => rfl) ?_
            exact ⟨x70, 2, y79, y81, (m.1 12), g75, ⟨by omega, by omega⟩, g80, g82, f12, (by intro h9; omega), (by omega), rfl⟩
      · skip
        refine T_ld 145 (.ref 189) rfl (fun _ => rfl) ?_
        refine T_call 148 218 [.ref 189] [] rfl (fun _ => rfl) rfl (c_lookNumber w (mO m [(7, (m.1 7)), (9, 1), (10, (m.1 10)), (11, (m.1 11)), (12, (m.1 12))] []) c N D (by omega) (Ty_mO hT rfl rfl ⟨f7, ⟨(by omega : (0 : Int) ≤ 1), (by omega : (1 : Int) ≤ 4000)⟩, f10, f11, f12, trivial⟩ trivial) (show (m.1 8) < (m.1 6) by omega) (show 48 ≤ (m.2 4) (m.1 8) ∧ (m.2 4) (m.1 8) ≤ 57 by omega)) (fun r85 k86 => ?_)
        obtain ⟨y87, y89, y91, g88, g90, g92, h93, rfl⟩ := k86
        replace h93 : (y87 = 2 ∧ 1 ≤ y89 ∧ (m.1 8) + y89 ≤ (m.1 6) ∧ y89 ≤ 18) ∨ y87 = 3 := h93
        refine ⟨_, _, rfl, ?_⟩
        refine T_nf (st' := []) (l' := [(7, y87), (9, y89), (10, (m.1 10)), (11, (m.1 11)), (12, y91)]) (a' := []) rfl rfl rfl rfl rfl ?_
        refine T_goto 210 rfl (fun _ => rfl) ?_
        refine T_gf 214 (.int (i32 y87)) rfl rfl rfl rfl rfl rfl ?_
        refine T_ld 215 (.int (i32 3)) rfl (fun _ => rfl) ?_
        refine T_icmp 227 218 rfl rfl rfl (r32 (by omega) (by omega)) ⟨by decide, by decide⟩ (fun (h94 : y87 ≠ 3) => ?_) (fun (h94 : ¬ (y87 ≠ 3)) => ?_)
        · skip
          refine T_ret rfl (fun _ => rfl) ?_
          exact ⟨y87, y89, (m.1 10), (m.1 11), y91, g88, g90, f10, f11, g92, (by intro h9; omega), (by omega), rfl⟩
        · skip
          refine T_ld 219 (.ref 189) rfl (fun _ => rfl) ?_
          refine T_ld 220 (.int (i32 2)) rfl (fun _ => rfl) ?_
          refine T_gf 224 (.int (i32 (m.1 8))) rfl rfl rfl rfl rfl rfl ?_
          refine T_call 227 222 [.ref 189, .int (i32 2), .int (i32 (m.1 8))] [] rfl (fun _ => rfl) rfl (c_wrong w (mO m [(7, y87), (9, y89), (10, (m.1 10)), (11, (m.1 11)), (12, y91)] []) c N D (by omega) (Ty_mO hT rfl rfl ⟨g88, g90, f10, f11, g92, trivial⟩ trivial) 2 (m.1 8) ⟨by decide, by decide⟩ (r32 (by omega) (by omega)) (show 1 ≤ 2 ∧ 2 ≤ 8 by omega) (show 0 ≤ (m.1 8) ∧ (m.1 8) ≤ 4000 by omega)) (fun r95 k96 => ?_)
          obtain ⟨y97, y99, g98, g100, h101, rfl⟩ := k96
          replace h101 : (0 < (m.1 10) → y97 = (m.1 10) ∧ y99 = (m.1 11)) ∧ ((m.1 10) ≤ 0 → y97 = 2 ∧ y99 = (m.1 8)) := h101
          refine ⟨_, _, rfl, ?_⟩
          refine T_nf (st' := []) (l' := [(7, y87), (9, y89), (10, y97), (11, y99), (12, y91)]) (a' := []) rfl rfl rfl rfl rfl ?_
          have u102 : 1 ≤ y97 ∧ y97 ≤ 8 := by omega
          refine T_ret rfl (fun _ => rfl) ?_
          exact ⟨y87, y89, y97, y99, y91, g88, g90, g98, g100, g92, (by intro h9; omega), (by omega), rfl⟩
    · skip
      have L34 : ∀ (n : Nat) (y103 : Int), (0 ≤ y103 ∧ y103 ≤ 4000) → (1 ≤ y103 ∧ (m.1 8) + y103 ≤ (m.1 6)) → (m.1 6) - (m.1 8) - y103 < (n : Int) → TT w D pm_214 (34, [(0, .ref 189), (1, .int (i32 x3))], [], (mhp (mO m [(7, (m.1 7)), (9, y103), (10, (m.1 10)), (11, (m.1 11)), (12, (m.1 12))] []) c, N), 0, 0) (Q_look m c N) := by
        intro n
        induction n with
        | zero =>
          intro y103 q104 i105 hmu
          exfalso
          omega
        | succ n ih =>
          intro y103 q104 i105 hmu
          have ih106 := ih
          refine T_ld 35 (.ref 189) rfl (fun _ => rfl) ?_
          refine T_gf 39 (.int (i32 (m.1 8))) rfl rfl rfl rfl rfl rfl ?_
          refine T_gf 43 (.int (i32 y103)) rfl rfl rfl rfl rfl rfl ?_
          refine T_iadd 44 rfl rfl ?_
          refine T_call 47 213 [.ref 189, .int (i32 ((m.1 8) + y103))] [] rfl (fun _ => rfl) rfl (c_byteAt1 w (mO m [(7, (m.1 7)), (9, y103), (10, (m.1 10)), (11, (m.1 11)), (12, (m.1 12))] []) c N D (by omega) (Ty_mO hT rfl rfl ⟨f7, q104, f10, f11, f12, trivial⟩ trivial) ((m.1 8) + y103) (r32 (by omega) (by omega)) (show 0 ≤ ((m.1 8) + y103) by omega)) (fun r107 k108 => ?_)
          obtain ⟨x109, g110, h111, h112, h113, rfl⟩ := k108
          replace h111 : -1 ≤ x109 ∧ x109 ≤ 255 := h111
          replace h112 : x109 = -1 ↔ (m.1 6) ≤ ((m.1 8) + y103) := h112
          replace h113 : ((m.1 8) + y103) < (m.1 6) → x109 = (m.2 4) ((m.1 8) + y103) := h113
          refine ⟨_, _, rfl, ?_⟩
          refine T_nf (st' := [.int (i32 x109)]) (l' := [(7, (m.1 7)), (9, y103), (10, (m.1 10)), (11, (m.1 11)), (12, (m.1 12))]) (a' := []) rfl rfl rfl rfl rfl ?_
          obtain ⟨g110a, g110b⟩ := g110
          refine T_call 50 215 [.int (i32 x109)] [] rfl (fun _ => rfl) rfl (c_isSmall w (mO m [(7, (m.1 7)), (9, y103), (10, (m.1 10)), (11, (m.1 11)), (12, (m.1 12))] []) c N D (by omega) (Ty_mO hT rfl rfl ⟨f7, q104, f10, f11, f12, trivial⟩ trivial) x109 (r32 (by omega) (by omega))) (fun r114 k115 => ?_)
          obtain ⟨x116, g117, h118, rfl⟩ := k115
          replace h118 : x116 = 1 ↔ (97 ≤ x109 ∧ x109 ≤ 122) := h118
          refine ⟨_, _, rfl, ?_⟩
          refine T_nf (st' := [.int (i32 x116)]) (l' := [(7, (m.1 7)), (9, y103), (10, (m.1 10)), (11, (m.1 11)), (12, (m.1 12))]) (a' := []) rfl rfl rfl rfl rfl ?_
          obtain ⟨g117a, g117b⟩ := g117
          refine T_if 90 53 rfl rfl rfl (r32 (by omega) (by omega)) (fun (h119 : x116 ≠ 0) => ?_) (fun (h119 : ¬ (x116 ≠ 0)) => ?_)
          · skip
            refine T_ld 91 (.ref 189) rfl (fun _ => rfl) ?_
            refine T_ld 92 (.ref 189) rfl (fun _ => rfl) ?_
            refine T_gf1 95 (.int (i32 y103)) rfl rfl rfl rfl ?_
            refine T_ld 96 (.int (i32 1)) rfl (fun _ => rfl) ?_
            refine T_iadd 97 rfl rfl ?_
            refine T_pf (l' := [(7, (m.1 7)), (9, y103 + 1), (10, (m.1 10)), (11, (m.1 11)), (12, (m.1 12))]) 100 (y103 + 1) rfl rfl rfl rfl rfl rfl ?_
            have g120 : 0 ≤ y103 + 1 ∧ y103 + 1 ≤ 4000 := ⟨by omega, by omega⟩
            refine T_goto 34 rfl (fun _ => rfl) ?_
            exact ih106 (y103 + 1) g120 (by omega) (by omega)
          · skip
            refine T_ld 54 (.ref 189) rfl (fun _ => rfl) ?_
            refine T_gf 58 (.int (i32 (m.1 8))) rfl rfl rfl rfl rfl rfl ?_
            refine T_gf 62 (.int (i32 y103)) rfl rfl rfl rfl rfl rfl ?_
            refine T_iadd 63 rfl rfl ?_
            refine T_call 66 213 [.ref 189, .int (i32 ((m.1 8) + y103))] [] rfl (fun _ => rfl) rfl (c_byteAt1 w (mO m [(7, (m.1 7)), (9, y103), (10, (m.1 10)), (11, (m.1 11)), (12, (m.1 12))] []) c N D (by omega) (Ty_mO hT rfl rfl ⟨f7, q104, f10, f11, f12, trivial⟩ trivial) ((m.1 8) + y103) (r32 (by omega) (by omega)) (show 0 ≤ ((m.1 8) + y103) by omega)) (fun r121 k122 => ?_)
            obtain ⟨x123, g124, h125, h126, h127, rfl⟩ := k122
            replace h125 : -1 ≤ x123 ∧ x123 ≤ 255 := h125
            replace h126 : x123 = -1 ↔ (m.1 6) ≤ ((m.1 8) + y103) := h126
            replace h127 : ((m.1 8) + y103) < (m.1 6) → x123 = (m.2 4) ((m.1 8) + y103) := h127
            refine ⟨_, _, rfl, ?_⟩
            refine T_nf (st' := [.int (i32 x123)]) (l' := [(7, (m.1 7)), (9, y103), (10, (m.1 10)), (11, (m.1 11)), (12, (m.1 12))]) (a' := []) rfl rfl rfl rfl rfl ?_
            obtain ⟨g124a, g124b⟩ := g124
            refine T_call 69 216 [.int (i32 x123)] [] rfl (fun _ => rfl) rfl (c_isDigit w (mO m [(7, (m.1 7)), (9, y103), (10, (m.1 10)), (11, (m.1 11)), (12, (m.1 12))] []) c N D (by omega) (Ty_mO hT rfl rfl ⟨f7, q104, f10, f11, f12, trivial⟩ trivial) x123 (r32 (by omega) (by omega))) (fun r128 k129 => ?_)
            obtain ⟨x130, g131, h132, rfl⟩ := k129
            replace h132 : x130 = 1 ↔ (48 ≤ x123 ∧ x123 ≤ 57) := h132
            refine ⟨_, _, rfl, ?_⟩
            refine T_nf (st' := [.int (i32 x130)]) (l' := [(7, (m.1 7)), (9, y103), (10, (m.1 10)), (11, (m.1 11)), (12, (m.1 12))]) (a' := []) rfl rfl rfl rfl rfl ?_
            obtain ⟨g131a, g131b⟩ := g131
            refine T_if 90 72 rfl rfl rfl (r32 (by omega) (by omega)) (fun (h133 : x130 ≠ 0) => ?_) (fun (h133 : ¬ (x130 ≠ 0)) => ?_)
            · skip
              refine T_ld 91 (.ref 189) rfl (fun _ => rfl) ?_
              refine T_ld 92 (.ref 189) rfl (fun _ => rfl) ?_
              refine T_gf1 95 (.int (i32 y103)) rfl rfl rfl rfl ?_
              refine T_ld 96 (.int (i32 1)) rfl (fun _ => rfl) ?_
              refine T_iadd 97 rfl rfl ?_
              refine T_pf (l' := [(7, (m.1 7)), (9, y103 + 1), (10, (m.1 10)), (11, (m.1 11)), (12, (m.1 12))]) 100 (y103 + 1) rfl rfl rfl rfl rfl rfl ?_
              have g134 : 0 ≤ y103 + 1 ∧ y103 + 1 ≤ 4000 := ⟨by omega, by omega⟩
              refine T_goto 34 rfl (fun _ => rfl) ?_
              exact ih106 (y103 + 1) g134 (by omega) (by omega)
            · skip
              refine T_ld 73 (.ref 189) rfl (fun _ => rfl) ?_
              refine T_gf 77 (.int (i32 (m.1 8))) rfl rfl rfl rfl rfl rfl ?_
              refine T_gf 81 (.int (i32 y103)) rfl rfl rfl rfl rfl rfl ?_
              refine T_iadd 82 rfl rfl ?_
              refine T_call 85 213 [.ref 189, .int (i32 ((m.1 8) + y103))] [] rfl (fun _ => rfl) rfl (c_byteAt1 w (mO m [(7, (m.1 7)), (9, y103), (10, (m.1 10)), (11, (m.1 11)), (12, (m.1 12))] []) c N D (by omega) (Ty_mO hT rfl rfl ⟨f7, q104, f10, f11, f12, trivial⟩ trivial) ((m.1 8) + y103) (r32 (by omega) (by omega)) (show 0 ≤ ((m.1 8) + y103) by omega)) (fun r135 k136 => ?_)
              obtain ⟨x137, g138, h139, h140, h141, rfl⟩ := k136
              replace h139 : -1 ≤ x137 ∧ x137 ≤ 255 := h139
              replace h140 : x137 = -1 ↔ (m.1 6) ≤ ((m.1 8) + y103) := h140
              replace h141 : ((m.1 8) + y103) < (m.1 6) → x137 = (m.2 4) ((m.1 8) + y103) := h141
              refine ⟨_, _, rfl, ?_⟩
              refine T_nf (st' := [.int (i32 x137)]) (l' := [(7, (m.1 7)), (9, y103), (10, (m.1 10)), (11, (m.1 11)), (12, (m.1 12))]) (a' := []) rfl rfl rfl rfl rfl ?_
              obtain ⟨g138a, g138b⟩ := g138
              refine T_ld 87 (.int (i32 95)) rfl (fun _ => rfl) ?_
              refine T_icmp 103 90 rfl rfl rfl (r32 (by omega) (by omega)) ⟨by decide, by decide⟩ (fun (h142 : x137 ≠ 95) => ?_) (fun (h142 : ¬ (x137 ≠ 95)) => ?_)
              · skip
                refine T_ld 104 (.ref 189) rfl (fun _ => rfl) ?_
                refine T_call 107 217 [.ref 189] [] rfl (fun _ => rfl) rfl (c_keyword w (mO m [(7, (m.1 7)), (9, y103), (10, (m.1 10)), (11, (m.1 11)), (12, (m.1 12))] []) c N D (by omega) (Ty_mO hT rfl rfl ⟨f7, q104, f10, f11, f12, trivial⟩ trivial) (show 0 ≤ (m.1 8) by omega) (show 1 ≤ y103 by omega) (show (m.1 8) + y103 ≤ (m.1 6) by omega)) (fun r143 k144 => ?_)
                obtain ⟨x145, g146, h147, h148, rfl⟩ := k144
                replace h147 : -1 ≤ x145 ∧ x145 ≤ 330 := h147
                replace h148 : 0 ≤ x145 → 300 ≤ x145 := h148
                refine ⟨_, _, rfl, ?_⟩
                refine T_nf (st' := [.int (i32 x145)]) (l' := [(7, (m.1 7)), (9, y103), (10, (m.1 10)), (11, (m.1 11)), (12, (m.1 12))]) (a' := []) rfl rfl rfl rfl rfl ?_
                obtain ⟨g146a, g146b⟩ := g146
                refine T_sto 108 [(2, .int (i32 x145)), (0, .ref 189), (1, .int (i32 x3))] rfl (fun _ => rfl) ?_
                refine T_ld 109 (.ref 189) rfl (fun _ => rfl) ?_
                refine T_gf 113 (.int (i32 y103)) rfl rfl rfl rfl rfl rfl ?_
                refine T_ld 115 (.int (i32 16)) rfl (fun _ => rfl) ?_
                refine T_icmp 122 118 rfl rfl rfl (r32 (by omega) (by omega)) ⟨by decide, by decide⟩ (fun (h149 : y103 ≤ 16) => ?_) (fun (h149 : ¬ (y103 ≤ 16)) => ?_)
                · skip
                  refine T_ld 123 (.int (i32 x145)) rfl (fun _ => rfl) ?_
                  refine T_if 130 126 rfl rfl rfl (r32 (by omega) (by omega)) (fun (h150 : x145 ≤ 0) => ?_) (fun (h150 : ¬ (x145 ≤ 0)) => ?_)
                  · skip
                    refine T_ld 131 (.int (i32 1)) rfl (fun _ => rfl) ?_
                    refine T_pf (l' := [(7, 1), (9, y103), (10, (m.1 10)), (11, (m.1 11)), (12, (m.1 12))]) 134 1 rfl rfl rfl rfl rfl rfl ?_
                    refine T_goto 210 rfl (fun _ => rfl) ?_
                    refine T_gf 214 (.int (i32 1)) rfl rfl rfl rfl rfl rfl ?_
                    refine T_ld 215 (.int (i32 3)) rfl (fun _ => rfl) ?_
                    refine T_icmp 227 218 rfl rfl rfl ⟨by decide, by decide⟩ ⟨by decide, by decide⟩ (fun _ => ?_) (fun h151 => absurd (show (1 : Int) ≠ 3 by decide) h151)
                    refine T_ret rfl (fun _ => rfl) ?_
                    exact ⟨1, y103, (m.1 10), (m.1 11), (m.1 12), ⟨by omega, by omega⟩, q104, f10, f11, f12, (by intro h9; omega), (by omega), rfl⟩
                  · skip
                    refine T_ld 127 (.int (i32 x145)) rfl (fun _ => rfl) ?_
                    refine T_goto 131 rfl (fun _ => rfl) ?_
                    refine T_pf (l' := [(7, x145), (9, y103), (10, (m.1 10)), (11, (m.1 11)), (12, (m.1 12))]) 134 x145 rfl rfl rfl rfl rfl rfl ?_
                    have g152 : 0 ≤ x145 ∧ x145 ≤ 330 := ⟨by omega, by omega⟩
                    refine T_goto 210 rfl (fun _ => rfl) ?_
                    refine T_gf 214 (.int (i32 x145)) rfl rfl rfl rfl rfl rfl ?_
                    refine T_ld 215 (.int (i32 3)) rfl (fun _ => rfl) ?_
                    refine T_icmp 227 218 rfl rfl rfl (r32 (by omega) (by omega)) ⟨by decide, by decide⟩ (fun (h153 : x145 ≠ 3) => ?_) (fun (h153 : ¬ (x145 ≠ 3)) => ?_)
                    · skip
                      refine T_ret rfl (fun _ => rfl) ?_
                      exact ⟨x145, y103, (m.1 10), (m.1 11), (m.1 12), g152, q104, f10, f11, f12, (by intro h9; omega), (by omega), rfl⟩
                    · skip
                      refine T_ld 219 (.ref 189) rfl (fun _ => rfl) ?_
                      refine T_ld 220 (.int (i32 2)) rfl (fun _ => rfl) ?_
                      refine T_gf 224 (.int (i32 (m.1 8))) rfl rfl rfl rfl rfl rfl ?_
                      refine T_call 227 222 [.ref 189, .int (i32 2), .int (i32 (m.1 8))] [] rfl (fun _ => rfl) rfl (c_wrong w (mO m [(7, x145), (9, y103), (10, (m.1 10)), (11, (m.1 11)), (12, (m.1 12))] []) c N D (by omega) (Ty_mO hT rfl rfl ⟨g152, q104, f10, f11, f12, trivial⟩ trivial) 2 (m.1 8) ⟨by decide, by decide⟩ (r32 (by omega) (by omega)) (show 1 ≤ 2 ∧ 2 ≤ 8 by omega) (show 0 ≤ (m.1 8) ∧ (m.1 8) ≤ 4000 by omega)) (fun r154 k155 => ?_)
                      obtain ⟨y156, y158, g157, g159, h160, rfl⟩ := k155
                      replace h160 : (0 < (m.1 10) → y156 = (m.1 10) ∧ y158 = (m.1 11)) ∧ ((m.1 10) ≤ 0 → y156 = 2 ∧ y158 = (m.1 8)) := h160
                      refine ⟨_, _, rfl, ?_⟩
                      refine T_nf (st' := []) (l' := [(7, x145), (9, y103), (10, y156), (11, y158), (12, (m.1 12))]) (a' := []) rfl rfl rfl rfl rfl ?_
                      have u161 : 1 ≤ y156 ∧ y156 ≤ 8 := by omega
                      refine T_ret rfl (fun _ => rfl) ?_
                      exact ⟨x145, y103, y156, y158, (m.1 12), g152, q104, g157, g159, f12, (by intro h9; omega), (by omega), rfl⟩
                · skip
                  refine T_ld 119 (.int (i32 3)) rfl (fun _ => rfl) ?_
                  refine T_goto 131 rfl (fun _ => rfl) ?_
                  refine T_pf (l' := [(7, 3), (9, y103), (10, (m.1 10)), (11, (m.1 11)), (12, (m.1 12))]) 134 3 rfl rfl rfl rfl rfl rfl ?_
                  refine T_goto 210 rfl (fun _ => rfl) ?_
                  refine T_gf 214 (.int (i32 3)) rfl rfl rfl rfl rfl rfl ?_
                  refine T_ld 215 (.int (i32 3)) rfl (fun _ => rfl) ?_
                  refine T_icmp 227 218 rfl rfl rfl ⟨by decide, by decide⟩ ⟨by decide, by decide⟩ (fun h162 => absurd (show (3 : Int) ≠ 3 from h162) (by decide)) (fun _ => ?_)
                  refine T_ld 219 (.ref 189) rfl (fun _ => rfl) ?_
                  refine T_ld 220 (.int (i32 2)) rfl (fun _ => rfl) ?_
                  refine T_gf 224 (.int (i32 (m.1 8))) rfl rfl rfl rfl rfl rfl ?_
                  refine T_call 227 222 [.ref 189, .int (i32 2), .int (i32 (m.1 8))] [] rfl (fun _ => rfl) rfl (c_wrong w (mO m [(7, 3), (9, y103), (10, (m.1 10)), (11, (m.1 11)), (12, (m.1 12))] []) c N D (by omega) (Ty_mO hT rfl rfl ⟨⟨(by omega : (0 : Int) ≤ 3), (by omega : (3 : Int) ≤ 330)⟩, q104, f10, f11, f12, trivial⟩ trivial) 2 (m.1 8) ⟨by decide, by decide⟩ (r32 (by omega) (by omega)) (show 1 ≤ 2 ∧ 2 ≤ 8 by omega) (show 0 ≤ (m.1 8) ∧ (m.1 8) ≤ 4000 by omega)) (fun r163 k164 => ?_)
                  obtain ⟨y165, y167, g166, g168, h169, rfl⟩ := k164
                  replace h169 : (0 < (m.1 10) → y165 = (m.1 10) ∧ y167 = (m.1 11)) ∧ ((m.1 10) ≤ 0 → y165 = 2 ∧ y167 = (m.1 8)) := h169
                  refine ⟨_, _, rfl, ?_⟩
                  refine T_nf (st' := []) (l' := [(7, 3), (9, y103), (10, y165), (11, y167), (12, (m.1 12))]) (a' := []) rfl rfl rfl rfl rfl ?_
                  have u170 : 1 ≤ y165 ∧ y165 ≤ 8 := by omega
                  refine T_ret rfl (fun _ => rfl) ?_
                  exact ⟨3, y103, y165, y167, (m.1 12), ⟨by omega, by omega⟩, q104, g166, g168, f12, (by intro h9; omega), (by omega), rfl⟩
              · skip
                refine T_ld 91 (.ref 189) rfl (fun _ => rfl) ?_
                refine T_ld 92 (.ref 189) rfl (fun _ => rfl) ?_
                refine T_gf1 95 (.int (i32 y103)) rfl rfl rfl rfl ?_
                refine T_ld 96 (.int (i32 1)) rfl (fun _ => rfl) ?_
                refine T_iadd 97 rfl rfl ?_
                refine T_pf (l' := [(7, (m.1 7)), (9, y103 + 1), (10, (m.1 10)), (11, (m.1 11)), (12, (m.1 12))]) 100 (y103 + 1) rfl rfl rfl rfl rfl rfl ?_
                have g171 : 0 ≤ y103 + 1 ∧ y103 + 1 ≤ 4000 := ⟨by omega, by omega⟩
                refine T_goto 34 rfl (fun _ => rfl) ?_
                exact ih106 (y103 + 1) g171 (by omega) (by omega)
      refine Tm_lv (a := [(0, .ref 189), (1, .int (i32 x3))]) rfl rfl ⟨rfl, rfl, trivial⟩ ?_
      exact L34 (((m.1 6) - (m.1 8) - 1 : Int) + 1).toNat 1 ⟨by omega, by omega⟩ (by omega) (by omega)
  · skip
    refine T_ld 20 (.ref 189) rfl (fun _ => rfl) ?_
    refine T_ld 21 (.int (i32 0)) rfl (fun _ => rfl) ?_
    refine T_pf (l' := [(7, 0), (9, 1), (10, (m.1 10)), (11, (m.1 11)), (12, (m.1 12))]) 24 0 rfl rfl rfl rfl rfl rfl ?_
    refine T_goto 210 rfl (fun _ => rfl) ?_
    refine T_gf 214 (.int (i32 0)) rfl rfl rfl rfl rfl rfl ?_
    refine T_ld 215 (.int (i32 3)) rfl (fun _ => rfl) ?_
    refine T_icmp 227 218 rfl rfl rfl ⟨by decide, by decide⟩ ⟨by decide, by decide⟩ (fun _ => ?_) (fun h172 => absurd (show (0 : Int) ≠ 3 by decide) h172)
    refine T_ret rfl (fun _ => rfl) ?_
    exact ⟨0, 1, (m.1 10), (m.1 11), (m.1 12), ⟨by omega, by omega⟩, ⟨by omega, by omega⟩, f10, f11, f12, (by intro h9; omega), (by omega), rfl⟩
def Q_next (m : mR) (c : Nat → Option am_C) (N : Nat) : ag_Re af_T → Prop := fun R => ∃ (y7 : Int) (y8 : Int) (y9 : Int) (y10 : Int) (y11 : Int) (y12 : Int), (0 ≤ y7 ∧ y7 ≤ 330) ∧ (0 ≤ y8 ∧ y8 ≤ 4000) ∧ (0 ≤ y9 ∧ y9 ≤ 4000) ∧ (0 ≤ y10 ∧ y10 ≤ 8) ∧ ((-1) ≤ y11 ∧ y11 ≤ 4000) ∧ ((-9223372036854775808) ≤ y12 ∧ y12 ≤ 9223372036854775807) ∧ (LxP y7 y8 y9 (m.1 6) y10) ∧ (y10 = 0 → (m.1 10) = 0) ∧ ((m.1 8) ≤ y8) ∧ (y10 = 0 → (m.1 8) + (m.1 9) ≤ y8) ∧ R = (.inl (none), (mhp (mO m [(7, y7), (8, y8), (9, y9), (10, y10), (11, y11), (12, y12)] []) c, N), 0, 0)
set_option maxHeartbeats 8000000 in
theorem c_next (w : wX) (m : mR) (c : Nat → Option am_C) (N D : Nat) (hD : 5 ≤ D) (hT : Ty m) (p0 : (m.1 10) = 0 → (m.1 8) + (m.1 9) ≤ (m.1 6)) : TC w D 212 [.ref 189] (mhp m c, N) (Q_next m c N) := by
  obtain ⟨D, rfl⟩ : ∃ k, D = k + 1 := ⟨D - 1, by omega⟩
  have f7 : 0 ≤ m.1 7 ∧ m.1 7 ≤ 330 := hT.1 7
  have f8 : 0 ≤ m.1 8 ∧ m.1 8 ≤ 4000 := hT.1 8
  have f9 : 0 ≤ m.1 9 ∧ m.1 9 ≤ 4000 := hT.1 9
  have f10 : 0 ≤ m.1 10 ∧ m.1 10 ≤ 8 := hT.1 10
  have f11 : (-1) ≤ m.1 11 ∧ m.1 11 ≤ 4000 := hT.1 11
  have f12 : (-9223372036854775808) ≤ m.1 12 ∧ m.1 12 ≤ 9223372036854775807 := hT.1 12
  have f6 : 0 ≤ m.1 6 ∧ m.1 6 ≤ 4000 := hT.1 6
  refine Tc_of rfl ?_
  show TT w D pm_212 (0, [(0, .ref 189)], [], (mhp m c, N), 0, 0) (Q_next m c N)
  rw [show (mhp m c, N) = (mhp (mO m [(7, (m.1 7)), (8, (m.1 8)), (9, (m.1 9)), (10, (m.1 10)), (11, (m.1 11)), (12, (m.1 12))] []) c, N) from congrArg (fun M => (mhp M c, N)) (mO_pad m [7, 8, 9, 10, 11, 12] [])]
  refine T_gf 4 (.int (i32 (m.1 10))) rfl rfl rfl rfl rfl rfl ?_
  refine T_if 8 7 rfl rfl rfl (r32 (by omega) (by omega)) (fun (h1 : (m.1 10) ≤ 0) => ?_) (fun (h1 : ¬ ((m.1 10) ≤ 0)) => ?_)
  · skip
    refine T_ld 9 (.ref 189) rfl (fun _ => rfl) ?_
    refine T_ld 10 (.ref 189) rfl (fun _ => rfl) ?_
    refine T_gf1 13 (.int (i32 (m.1 8))) rfl rfl rfl rfl ?_
    refine T_gf 17 (.int (i32 (m.1 9))) rfl rfl rfl rfl rfl rfl ?_
    refine T_iadd 18 rfl rfl ?_
    refine T_pf (l' := [(7, (m.1 7)), (8, (m.1 8) + (m.1 9)), (9, (m.1 9)), (10, (m.1 10)), (11, (m.1 11)), (12, (m.1 12))]) 21 ((m.1 8) + (m.1 9)) rfl rfl rfl rfl rfl rfl ?_
    have g2 : 0 ≤ (m.1 8) + (m.1 9) ∧ (m.1 8) + (m.1 9) ≤ 4000 := ⟨by omega, by omega⟩
    have L21 : ∀ (n : Nat) (y3 : Int), (0 ≤ y3 ∧ y3 ≤ 4000) → (y3 ≤ (m.1 6)) → ((m.1 8) + (m.1 9) ≤ y3) → (m.1 6) - y3 < (n : Int) → TT w D pm_212 (21, [(0, .ref 189)], [], (mhp (mO m [(7, (m.1 7)), (8, y3), (9, (m.1 9)), (10, (m.1 10)), (11, (m.1 11)), (12, (m.1 12))] []) c, N), 0, 0) (Q_next m c N) := by
      intro n
      induction n with
      | zero =>
        intro y3 q4 i5 i6 hmu
        exfalso
        omega
      | succ n ih =>
        intro y3 q4 i5 i6 hmu
        have ih7 := ih
        refine T_ld 22 (.ref 189) rfl (fun _ => rfl) ?_
        refine T_gf 26 (.int (i32 y3)) rfl rfl rfl rfl rfl rfl ?_
        refine T_call 29 213 [.ref 189, .int (i32 y3)] [] rfl (fun _ => rfl) rfl (c_byteAt1 w (mO m [(7, (m.1 7)), (8, y3), (9, (m.1 9)), (10, (m.1 10)), (11, (m.1 11)), (12, (m.1 12))] []) c N D (by omega) (Ty_mO hT rfl rfl ⟨f7, q4, f9, f10, f11, f12, trivial⟩ trivial) y3 (r32 (by omega) (by omega)) (show 0 ≤ y3 by omega)) (fun r8 k9 => ?_)
        obtain ⟨x10, g11, h12, h13, h14, rfl⟩ := k9
        replace h12 : -1 ≤ x10 ∧ x10 ≤ 255 := h12
        replace h13 : x10 = -1 ↔ (m.1 6) ≤ y3 := h13
        replace h14 : y3 < (m.1 6) → x10 = (m.2 4) y3 := h14
        refine ⟨_, _, rfl, ?_⟩
        refine T_nf (st' := [.int (i32 x10)]) (l' := [(7, (m.1 7)), (8, y3), (9, (m.1 9)), (10, (m.1 10)), (11, (m.1 11)), (12, (m.1 12))]) (a' := []) rfl rfl rfl rfl rfl ?_
        obtain ⟨g11a, g11b⟩ := g11
        refine T_ld 31 (.int (i32 32)) rfl (fun _ => rfl) ?_
        refine T_icmp 47 34 rfl rfl rfl (r32 (by omega) (by omega)) ⟨by decide, by decide⟩ (fun (h15 : x10 = 32) => ?_) (fun (h15 : ¬ (x10 = 32)) => ?_)
        · skip
          refine T_ld 48 (.ref 189) rfl (fun _ => rfl) ?_
          refine T_ld 49 (.ref 189) rfl (fun _ => rfl) ?_
          refine T_gf1 52 (.int (i32 y3)) rfl rfl rfl rfl ?_
          refine T_ld 53 (.int (i32 1)) rfl (fun _ => rfl) ?_
          refine T_iadd 54 rfl rfl ?_
          refine T_pf (l' := [(7, (m.1 7)), (8, y3 + 1), (9, (m.1 9)), (10, (m.1 10)), (11, (m.1 11)), (12, (m.1 12))]) 57 (y3 + 1) rfl rfl rfl rfl rfl rfl ?_
          have g16 : 0 ≤ y3 + 1 ∧ y3 + 1 ≤ 4000 := ⟨by omega, by omega⟩
          refine T_goto 21 rfl (fun _ => rfl) ?_
          exact ih7 (y3 + 1) g16 (by omega) (by omega) (by omega)
        · skip
          refine T_ld 35 (.ref 189) rfl (fun _ => rfl) ?_
          refine T_gf 39 (.int (i32 y3)) rfl rfl rfl rfl rfl rfl ?_
          refine T_call 42 213 [.ref 189, .int (i32 y3)] [] rfl (fun _ => rfl) rfl (c_byteAt1 w (mO m [(7, (m.1 7)), (8, y3), (9, (m.1 9)), (10, (m.1 10)), (11, (m.1 11)), (12, (m.1 12))] []) c N D (by omega) (Ty_mO hT rfl rfl ⟨f7, q4, f9, f10, f11, f12, trivial⟩ trivial) y3 (r32 (by omega) (by omega)) (show 0 ≤ y3 by omega)) (fun r17 k18 => ?_)
          obtain ⟨x19, g20, h21, h22, h23, rfl⟩ := k18
          replace h21 : -1 ≤ x19 ∧ x19 ≤ 255 := h21
          replace h22 : x19 = -1 ↔ (m.1 6) ≤ y3 := h22
          replace h23 : y3 < (m.1 6) → x19 = (m.2 4) y3 := h23
          refine ⟨_, _, rfl, ?_⟩
          refine T_nf (st' := [.int (i32 x19)]) (l' := [(7, (m.1 7)), (8, y3), (9, (m.1 9)), (10, (m.1 10)), (11, (m.1 11)), (12, (m.1 12))]) (a' := []) rfl rfl rfl rfl rfl ?_
          obtain ⟨g20a, g20b⟩ := g20
          refine T_ld 44 (.int (i32 10)) rfl (fun _ => rfl) ?_
          refine T_icmp 60 47 rfl rfl rfl (r32 (by omega) (by omega)) ⟨by decide, by decide⟩ (fun (h24 : x19 ≠ 10) => ?_) (fun (h24 : ¬ (x19 ≠ 10)) => ?_)
          · skip
            refine T_ld 61 (.ref 189) rfl (fun _ => rfl) ?_
            refine T_call 64 214 [.ref 189] [] rfl (fun _ => rfl) rfl (c_look w (mO m [(7, (m.1 7)), (8, y3), (9, (m.1 9)), (10, (m.1 10)), (11, (m.1 11)), (12, (m.1 12))] []) c N D (by omega) (Ty_mO hT rfl rfl ⟨f7, q4, f9, f10, f11, f12, trivial⟩ trivial) (show 0 ≤ y3 ∧ y3 ≤ (m.1 6) by omega)) (fun r25 k26 => ?_)
            obtain ⟨y27, y29, y31, y33, y35, g28, g30, g32, g34, g36, h37, h38, rfl⟩ := k26
            replace h37 : LxP y27 y3 y29 (m.1 6) y31 := h37
            replace h38 : y31 = 0 → (m.1 10) = 0 := h38
            have hLx := h37
            refine ⟨_, _, rfl, ?_⟩
            refine T_nf (st' := []) (l' := [(7, y27), (8, y3), (9, y29), (10, y31), (11, y33), (12, y35)]) (a' := []) rfl rfl rfl rfl rfl ?_
            refine T_ret rfl (fun _ => rfl) ?_
            exact ⟨y27, y3, y29, y31, y33, y35, g28, q4, g30, g32, g34, g36, (by first | exact hLx | (intro h9; first | omega | (have h8 := hLx (by omega); omega))), (by omega), (by omega), (by omega), rfl⟩
          · skip
            refine T_ld 48 (.ref 189) rfl (fun _ => rfl) ?_
            refine T_ld 49 (.ref 189) rfl (fun _ => rfl) ?_
            refine T_gf1 52 (.int (i32 y3)) rfl rfl rfl rfl ?_
            refine T_ld 53 (.int (i32 1)) rfl (fun _ => rfl) ?_
            refine T_iadd 54 rfl rfl ?_
            refine T_pf (l' := [(7, (m.1 7)), (8, y3 + 1), (9, (m.1 9)), (10, (m.1 10)), (11, (m.1 11)), (12, (m.1 12))]) 57 (y3 + 1) rfl rfl rfl rfl rfl rfl ?_
            have g39 : 0 ≤ y3 + 1 ∧ y3 + 1 ≤ 4000 := ⟨by omega, by omega⟩
            refine T_goto 21 rfl (fun _ => rfl) ?_
            exact ih7 (y3 + 1) g39 (by omega) (by omega) (by omega)
    exact L21 (((m.1 6) - ((m.1 8) + (m.1 9)) : Int) + 1).toNat ((m.1 8) + (m.1 9)) g2 (by omega) (by omega) (by omega)
  · skip
    refine T_ret rfl (fun _ => rfl) ?_
    exact ⟨(m.1 7), (m.1 8), (m.1 9), (m.1 10), (m.1 11), (m.1 12), f7, f8, f9, f10, f11, f12, (by first | exact hLx | (intro h9; first | omega | (have h8 := hLx (by omega); omega))), (by omega), (by omega), (by omega), rfl⟩
def Q_need (m : mR) (c : Nat → Option am_C) (N : Nat) (x : Int) : ag_Re af_T → Prop := fun R => ∃ (y7 : Int) (y8 : Int) (y9 : Int) (y10 : Int) (y11 : Int) (y12 : Int), (0 ≤ y7 ∧ y7 ≤ 330) ∧ (0 ≤ y8 ∧ y8 ≤ 4000) ∧ (0 ≤ y9 ∧ y9 ≤ 4000) ∧ (0 ≤ y10 ∧ y10 ≤ 8) ∧ ((-1) ≤ y11 ∧ y11 ≤ 4000) ∧ ((-9223372036854775808) ≤ y12 ∧ y12 ≤ 9223372036854775807) ∧ (LxP y7 y8 y9 (m.1 6) y10) ∧ (y10 = 0 → (m.1 10) = 0 ∧ (m.1 7) = x) ∧ ((m.1 8) ≤ y8) ∧ (y10 = 0 → (m.1 8) + (m.1 9) ≤ y8) ∧ R = (.inl (none), (mhp (mO m [(7, y7), (8, y8), (9, y9), (10, y10), (11, y11), (12, y12)] []) c, N), 0, 0)
set_option maxHeartbeats 8000000 in
theorem c_need (w : wX) (m : mR) (c : Nat → Option am_C) (N D : Nat) (hD : 6 ≤ D) (hT : Ty m) (x : Int) (qx : R32 x) (p0 : 1 ≤ x) (hLx0 : LxP (m.1 7) (m.1 8) (m.1 9) (m.1 6) (m.1 10)) : TC w D 232 [.ref 189, .int (i32 x)] (mhp m c, N) (Q_need m c N x) := by
  obtain ⟨D, rfl⟩ : ∃ k, D = k + 1 := ⟨D - 1, by omega⟩
  obtain ⟨qxa, qxb⟩ := id qx
  have hLx := hLx0
  have f7 : 0 ≤ m.1 7 ∧ m.1 7 ≤ 330 := hT.1 7
  have f8 : 0 ≤ m.1 8 ∧ m.1 8 ≤ 4000 := hT.1 8
  have f9 : 0 ≤ m.1 9 ∧ m.1 9 ≤ 4000 := hT.1 9
  have f10 : 0 ≤ m.1 10 ∧ m.1 10 ≤ 8 := hT.1 10
  have f11 : (-1) ≤ m.1 11 ∧ m.1 11 ≤ 4000 := hT.1 11
  have f12 : (-9223372036854775808) ≤ m.1 12 ∧ m.1 12 ≤ 9223372036854775807 := hT.1 12
  have f6 : 0 ≤ m.1 6 ∧ m.1 6 ≤ 4000 := hT.1 6
  refine Tc_of rfl ?_
  show TT w D pm_232 (0, [(0, .ref 189), (1, .int (i32 x))], [], (mhp m c, N), 0, 0) (Q_need m c N x)
  rw [show (mhp m c, N) = (mhp (mO m [(7, (m.1 7)), (8, (m.1 8)), (9, (m.1 9)), (10, (m.1 10)), (11, (m.1 11)), (12, (m.1 12))] []) c, N) from congrArg (fun M => (mhp M c, N)) (mO_pad m [7, 8, 9, 10, 11, 12] [])]
  refine T_gf 4 (.int (i32 (m.1 10))) rfl rfl rfl rfl rfl rfl ?_
  refine T_if 8 7 rfl rfl rfl (r32 (by omega) (by omega)) (fun (h1 : (m.1 10) ≤ 0) => ?_) (fun (h1 : ¬ ((m.1 10) ≤ 0)) => ?_)
  · skip
    refine T_gf 12 (.int (i32 (m.1 7))) rfl rfl rfl rfl rfl rfl ?_
    refine T_ld 13 (.int (i32 x)) rfl (fun _ => rfl) ?_
    refine T_icmp 23 16 rfl rfl rfl (r32 (by omega) (by omega)) (r32 (by omega) (by omega)) (fun (h2 : (m.1 7) ≠ x) => ?_) (fun (h2 : ¬ ((m.1 7) ≠ x)) => ?_)
    · skip
      refine T_ld 24 (.ref 189) rfl (fun _ => rfl) ?_
      refine T_call 27 226 [.ref 189] [] rfl (fun _ => rfl) rfl (c_bad w (mO m [(7, (m.1 7)), (8, (m.1 8)), (9, (m.1 9)), (10, (m.1 10)), (11, (m.1 11)), (12, (m.1 12))] []) c N D (by omega) (Ty_mO hT rfl rfl ⟨f7, f8, f9, f10, f11, f12, trivial⟩ trivial) ) (fun r3 k4 => ?_)
      obtain ⟨y5, y7, g6, g8, h9, rfl⟩ := k4
      replace h9 : (0 < (m.1 10) → y5 = (m.1 10) ∧ y7 = (m.1 11)) ∧ ((m.1 10) ≤ 0 → y5 = 1 ∧ y7 = (m.1 8)) := h9
      refine ⟨_, _, rfl, ?_⟩
      refine T_nf (st' := []) (l' := [(7, (m.1 7)), (8, (m.1 8)), (9, (m.1 9)), (10, y5), (11, y7), (12, (m.1 12))]) (a' := []) rfl rfl rfl rfl rfl ?_
      have u10 : 1 ≤ y5 ∧ y5 ≤ 8 := by omega
      refine T_ret rfl (fun _ => rfl) ?_
      exact ⟨(m.1 7), (m.1 8), (m.1 9), y5, y7, (m.1 12), f7, f8, f9, g6, g8, f12, (by first | exact hLx | (intro h9; first | omega | (have h8 := hLx (by omega); omega))), (by omega), (by omega), (by omega), rfl⟩
    · skip
      refine T_ld 17 (.ref 189) rfl (fun _ => rfl) ?_
      refine T_call 20 212 [.ref 189] [] rfl (fun _ => rfl) rfl (c_next w (mO m [(7, (m.1 7)), (8, (m.1 8)), (9, (m.1 9)), (10, (m.1 10)), (11, (m.1 11)), (12, (m.1 12))] []) c N D (by omega) (Ty_mO hT rfl rfl ⟨f7, f8, f9, f10, f11, f12, trivial⟩ trivial) (show (m.1 10) = 0 → (m.1 8) + (m.1 9) ≤ (m.1 6) by first | omega | (intro h9; have h8 := hLx h9; omega))) (fun r11 k12 => ?_)
      obtain ⟨y13, y15, y17, y19, y21, y23, g14, g16, g18, g20, g22, g24, h25, h26, h27, h28, rfl⟩ := k12
      replace h25 : LxP y13 y15 y17 (m.1 6) y19 := h25
      replace h26 : y19 = 0 → (m.1 10) = 0 := h26
      replace h27 : (m.1 8) ≤ y15 := h27
      replace h28 : y19 = 0 → (m.1 8) + (m.1 9) ≤ y15 := h28
      have hLx := h25
      refine ⟨_, _, rfl, ?_⟩
      refine T_nf (st' := []) (l' := [(7, y13), (8, y15), (9, y17), (10, y19), (11, y21), (12, y23)]) (a' := []) rfl rfl rfl rfl rfl ?_
      refine T_goto 27 rfl (fun _ => rfl) ?_
      refine T_ret rfl (fun _ => rfl) ?_
      exact ⟨y13, y15, y17, y19, y21, y23, g14, g16, g18, g20, g22, g24, (by first | exact hLx | (intro h9; first | omega | (have h8 := hLx (by omega); omega))), (by omega), (by omega), (by omega), rfl⟩
  · skip
    refine T_ret rfl (fun _ => rfl) ?_
    exact ⟨(m.1 7), (m.1 8), (m.1 9), (m.1 10), (m.1 11), (m.1 12), f7, f8, f9, f10, f11, f12, (by first | exact hLx | (intro h9; first | omega | (have h8 := hLx (by omega); omega))), (by omega), (by omega), (by omega), rfl⟩
def Q_isHere (m : mR) (c : Nat → Option am_C) (N : Nat) (x : Int) (y : Int) : ag_Re af_T → Prop := fun R => ∃ (r : Int), (0 ≤ r ∧ r ≤ 1) ∧ ((r = 1 ∧ sameN (m.2 4) (m.1 8) (m.1 9) x y) ∨ (r = 0 ∧ ¬ sameN (m.2 4) (m.1 8) (m.1 9) x y)) ∧ R = (.inl (some (.int (i32 r))), (mhp (mO m [] []) c, N), 0, 0)
set_option maxHeartbeats 8000000 in
theorem c_isHere (w : wX) (m : mR) (c : Nat → Option am_C) (N D : Nat) (hD : 1 ≤ D) (hT : Ty m) (x : Int) (y : Int) (qx : R32 x) (qy : R32 y) (p0 : 0 ≤ x) (p1 : 0 ≤ y) (p2 : x + y ≤ 4000) (p3 : 1 ≤ (m.1 9) ∧ (m.1 8) + (m.1 9) ≤ (m.1 6)) : TC w D 230 [.ref 189, .int (i32 x), .int (i32 y)] (mhp m c, N) (Q_isHere m c N x y) := by
  obtain ⟨D, rfl⟩ : ∃ k, D = k + 1 := ⟨D - 1, by omega⟩
  obtain ⟨qxa, qxb⟩ := id qx
  obtain ⟨qya, qyb⟩ := id qy
  have f8 : 0 ≤ m.1 8 ∧ m.1 8 ≤ 4000 := hT.1 8
  have f6 : 0 ≤ m.1 6 ∧ m.1 6 ≤ 4000 := hT.1 6
  have f9 : 0 ≤ m.1 9 ∧ m.1 9 ≤ 4000 := hT.1 9
  refine Tc_of rfl ?_
  show TT w D pm_230 (0, [(0, .ref 189), (1, .int (i32 x)), (2, .int (i32 y))], [], (mhp m c, N), 0, 0) (Q_isHere m c N x y)
  rw [show (mhp m c, N) = (mhp (mO m [] []) c, N) from rfl]
  refine T_ld 1 (.int (i32 y)) rfl (fun _ => rfl) ?_
  refine T_gf 5 (.int (i32 (m.1 9))) rfl rfl rfl rfl rfl rfl ?_
  refine T_icmp 12 8 rfl rfl rfl (r32 (by omega) (by omega)) (r32 (by omega) (by omega)) (fun (h1 : y ≠ (m.1 9)) => ?_) (fun (h1 : ¬ (y ≠ (m.1 9))) => ?_)
  · skip
    refine T_ld 13 (.int (i32 0)) rfl (fun _ => rfl) ?_
    refine T_sto 14 [(3, .int (i32 0)), (0, .ref 189), (1, .int (i32 x)), (2, .int (i32 y))] rfl (fun _ => rfl) ?_
    refine T_ld 15 (.int (i32 0)) rfl (fun _ => rfl) ?_
    refine T_sto 17 [(4, .int (i32 0)), (3, .int (i32 0)), (0, .ref 189), (1, .int (i32 x)), (2, .int (i32 y))] rfl (fun _ => rfl) ?_
    have L17 : ∀ (n : Nat) (v2 : Int) (v3 : Int), (R32 v2) → (R32 v3) → (0 ≤ v3 ∧ v3 ≤ y) → ((v2 = 1 ∧ y = (m.1 9) ∧ ∀ j, 0 ≤ j → j < v3 → (m.2 4) (x + j) = (m.2 4) ((m.1 8) + j)) ∨ (v2 = 0 ∧ ¬ sameN (m.2 4) (m.1 8) (m.1 9) x y)) → y - v3 < (n : Int) → TT w D pm_230 (17, [(0, .ref 189), (1, .int (i32 x)), (2, .int (i32 y)), (3, .int (i32 v2)), (4, .int (i32 v3))], [], (mhp (mO m [] []) c, N), 0, 0) (Q_isHere m c N x y) := by
      intro n
      induction n with
      | zero =>
        intro v2 v3 q4 q5 i6 i7 hmu
        obtain ⟨q4a, q4b⟩ := id q4
        obtain ⟨q5a, q5b⟩ := id q5
        have hS := i7
        exfalso
        omega
      | succ n ih =>
        intro v2 v3 q4 q5 i6 i7 hmu
        obtain ⟨q4a, q4b⟩ := id q4
        obtain ⟨q5a, q5b⟩ := id q5
        have hS := i7
        have ih8 := ih
        refine T_ld 19 (.int (i32 v3)) rfl (fun _ => rfl) ?_
        refine T_ld 20 (.int (i32 y)) rfl (fun _ => rfl) ?_
        refine T_icmp 63 23 rfl rfl rfl (r32 (by omega) (by omega)) (r32 (by omega) (by omega)) (fun (h9 : y ≤ v3) => ?_) (fun (h9 : ¬ (y ≤ v3)) => ?_)
        · skip
          refine T_ld 64 (.int (i32 v2)) rfl (fun _ => rfl) ?_
          refine T_retb rfl rfl (by omega) ?_
          exact ⟨v2, ⟨by omega, by omega⟩, (by exact hS.elim (fun ⟨e1, e2, e3⟩ => Or.inl ⟨e1, e2, fun j h1 h2 => e3 j h1 (by omega)⟩) (fun h => Or.inr h)), rfl⟩
        · skip
          refine T_ld 24 (.int (i32 v2)) rfl (fun _ => rfl) ?_
          refine T_if 63 27 rfl rfl rfl (r32 (by omega) (by omega)) (fun (h10 : v2 = 0) => ?_) (fun (h10 : ¬ (v2 = 0)) => ?_)
          · skip
            refine T_ld 64 (.int (i32 v2)) rfl (fun _ => rfl) ?_
            refine T_retb rfl rfl (by omega) ?_
            exact ⟨v2, ⟨by omega, by omega⟩, (by exact hS.elim (fun ⟨e1, e2, e3⟩ => Or.inl ⟨e1, e2, fun j h1 h2 => e3 j h1 (by omega)⟩) (fun h => Or.inr h)), rfl⟩
          · skip
            refine T_gf 31 (.ref 193) rfl rfl rfl rfl rfl rfl ?_
            refine T_ld 32 (.int (i32 x)) rfl (fun _ => rfl) ?_
            refine T_ld 34 (.int (i32 v3)) rfl (fun _ => rfl) ?_
            refine T_iadd 35 rfl rfl ?_
            refine T_iald 36 4 (m.2 4) rfl rfl rfl (by omega) (show (x + v3) < (4000 : Int) by omega) rfl ?_
            have e11 : 0 ≤ m.2 4 (x + v3) ∧ m.2 4 (x + v3) ≤ 255 := hT.2.1 4 (x + v3)
            refine T_gf 40 (.ref 193) rfl rfl rfl rfl rfl rfl ?_
            refine T_gf 44 (.int (i32 (m.1 8))) rfl rfl rfl rfl rfl rfl ?_
            refine T_ld 46 (.int (i32 v3)) rfl (fun _ => rfl) ?_
            refine T_iadd 47 rfl rfl ?_
            refine T_iald 48 4 (m.2 4) rfl rfl rfl (by omega) (show ((m.1 8) + v3) < (4000 : Int) by omega) rfl ?_
            have e12 : 0 ≤ m.2 4 ((m.1 8) + v3) ∧ m.2 4 ((m.1 8) + v3) ≤ 255 := hT.2.1 4 ((m.1 8) + v3)
            refine T_icmp 55 51 rfl rfl rfl (r32 (by omega) (by omega)) (r32 (by omega) (by omega)) (fun (h13 : (m.2 4) (x + v3) ≠ (m.2 4) ((m.1 8) + v3)) => ?_) (fun (h13 : ¬ ((m.2 4) (x + v3) ≠ (m.2 4) ((m.1 8) + v3))) => ?_)
            · skip
              refine T_ld 56 (.int (i32 0)) rfl (fun _ => rfl) ?_
              refine T_sto 57 [(3, .int (i32 0)), (0, .ref 189), (1, .int (i32 x)), (2, .int (i32 y)), (4, .int (i32 v3))] rfl (fun _ => rfl) ?_
              refine T_iinc 60 [(4, .int (i32 (v3 + 1))), (3, .int (i32 0)), (0, .ref 189), (1, .int (i32 x)), (2, .int (i32 y))] rfl rfl (by decide) rfl rfl ?_
              refine T_goto 17 rfl (fun _ => rfl) ?_
              refine Tm_lv (a := [(0, .ref 189), (1, .int (i32 x)), (2, .int (i32 y)), (3, .int (i32 0)), (4, .int (i32 (v3 + 1)))]) rfl rfl ⟨rfl, rfl, rfl, rfl, rfl, trivial⟩ ?_
              exact ih8 0 (v3 + 1) (r32 (by omega) (by omega)) (r32 (by omega) (by omega)) (by omega) (by first | exact Or.inl ⟨rfl, by omega, fun j h1 h2 => by omega⟩ | exact Or.inr ⟨rfl, fun h => absurd h.1 (by omega)⟩ | exact hS.elim (fun ⟨e1, e2, e3⟩ => Or.inl ⟨rfl, e2, fun j h1 h2 => by by_cases hj : j < v3; exact e3 j h1 hj; rw [show j = v3 by omega]; omega⟩) (fun h => absurd h.1 (by omega)) | exact hS.elim (fun ⟨e1, e2, e3⟩ => Or.inr ⟨rfl, fun h => absurd (h.2 v3 (by omega) (by omega)) (by omega)⟩) (fun h => absurd h.1 (by omega))) (by omega)
            · skip
              refine T_ld 52 (.int (i32 1)) rfl (fun _ => rfl) ?_
              refine T_goto 56 rfl (fun _ => rfl) ?_
              refine T_sto 57 [(3, .int (i32 1)), (0, .ref 189), (1, .int (i32 x)), (2, .int (i32 y)), (4, .int (i32 v3))] rfl (fun _ => rfl) ?_
              refine T_iinc 60 [(4, .int (i32 (v3 + 1))), (3, .int (i32 1)), (0, .ref 189), (1, .int (i32 x)), (2, .int (i32 y))] rfl rfl (by decide) rfl rfl ?_
              refine T_goto 17 rfl (fun _ => rfl) ?_
              refine Tm_lv (a := [(0, .ref 189), (1, .int (i32 x)), (2, .int (i32 y)), (3, .int (i32 1)), (4, .int (i32 (v3 + 1)))]) rfl rfl ⟨rfl, rfl, rfl, rfl, rfl, trivial⟩ ?_
              exact ih8 1 (v3 + 1) (r32 (by omega) (by omega)) (r32 (by omega) (by omega)) (by omega) (by first | exact Or.inl ⟨rfl, by omega, fun j h1 h2 => by omega⟩ | exact Or.inr ⟨rfl, fun h => absurd h.1 (by omega)⟩ | exact hS.elim (fun ⟨e1, e2, e3⟩ => Or.inl ⟨rfl, e2, fun j h1 h2 => by by_cases hj : j < v3; exact e3 j h1 hj; rw [show j = v3 by omega]; omega⟩) (fun h => absurd h.1 (by omega)) | exact hS.elim (fun ⟨e1, e2, e3⟩ => Or.inr ⟨rfl, fun h => absurd (h.2 v3 (by omega) (by omega)) (by omega)⟩) (fun h => absurd h.1 (by omega))) (by omega)
    refine Tm_lv (a := [(0, .ref 189), (1, .int (i32 x)), (2, .int (i32 y)), (3, .int (i32 0)), (4, .int (i32 0))]) rfl rfl ⟨rfl, rfl, rfl, rfl, rfl, trivial⟩ ?_
    exact L17 ((y - 0 : Int) + 1).toNat 0 0 (r32 (by omega) (by omega)) (r32 (by omega) (by omega)) (by omega) (by first | exact Or.inl ⟨rfl, by omega, fun j h1 h2 => by omega⟩ | exact Or.inr ⟨rfl, fun h => absurd h.1 (by omega)⟩ | exact hS.elim (fun ⟨e1, e2, e3⟩ => Or.inl ⟨rfl, e2, fun j h1 h2 => by by_cases hj : j < v3; exact e3 j h1 hj; rw [show j = v3 by omega]; omega⟩) (fun h => absurd h.1 (by omega)) | exact hS.elim (fun ⟨e1, e2, e3⟩ => Or.inr ⟨rfl, fun h => absurd (h.2 v3 (by omega) (by omega)) (by omega)⟩) (fun h => absurd h.1 (by omega))) (by omega)
  · skip
    refine T_ld 9 (.int (i32 1)) rfl (fun _ => rfl) ?_
    refine T_goto 13 rfl (fun _ => rfl) ?_
    refine T_sto 14 [(3, .int (i32 1)), (0, .ref 189), (1, .int (i32 x)), (2, .int (i32 y))] rfl (fun _ => rfl) ?_
    refine T_ld 15 (.int (i32 0)) rfl (fun _ => rfl) ?_
    refine T_sto 17 [(4, .int (i32 0)), (3, .int (i32 1)), (0, .ref 189), (1, .int (i32 x)), (2, .int (i32 y))] rfl (fun _ => rfl) ?_
    have L17 : ∀ (n : Nat) (v14 : Int) (v15 : Int), (R32 v14) → (R32 v15) → (0 ≤ v15 ∧ v15 ≤ y) → ((v14 = 1 ∧ y = (m.1 9) ∧ ∀ j, 0 ≤ j → j < v15 → (m.2 4) (x + j) = (m.2 4) ((m.1 8) + j)) ∨ (v14 = 0 ∧ ¬ sameN (m.2 4) (m.1 8) (m.1 9) x y)) → y - v15 < (n : Int) → TT w D pm_230 (17, [(0, .ref 189), (1, .int (i32 x)), (2, .int (i32 y)), (3, .int (i32 v14)), (4, .int (i32 v15))], [], (mhp (mO m [] []) c, N), 0, 0) (Q_isHere m c N x y) := by
      intro n
      induction n with
      | zero =>
        intro v14 v15 q16 q17 i18 i19 hmu
        obtain ⟨q16a, q16b⟩ := id q16
        obtain ⟨q17a, q17b⟩ := id q17
        have hS := i19
        exfalso
        omega
      | succ n ih =>
        intro v14 v15 q16 q17 i18 i19 hmu
        obtain ⟨q16a, q16b⟩ := id q16
        obtain ⟨q17a, q17b⟩ := id q17
        have hS := i19
        have ih20 := ih
        refine T_ld 19 (.int (i32 v15)) rfl (fun _ => rfl) ?_
        refine T_ld 20 (.int (i32 y)) rfl (fun _ => rfl) ?_
        refine T_icmp 63 23 rfl rfl rfl (r32 (by omega) (by omega)) (r32 (by omega) (by omega)) (fun (h21 : y ≤ v15) => ?_) (fun (h21 : ¬ (y ≤ v15)) => ?_)
        · skip
          refine T_ld 64 (.int (i32 v14)) rfl (fun _ => rfl) ?_
          refine T_retb rfl rfl (by omega) ?_
          exact ⟨v14, ⟨by omega, by omega⟩, (by exact hS.elim (fun ⟨e1, e2, e3⟩ => Or.inl ⟨e1, e2, fun j h1 h2 => e3 j h1 (by omega)⟩) (fun h => Or.inr h)), rfl⟩
        · skip
          refine T_ld 24 (.int (i32 v14)) rfl (fun _ => rfl) ?_
          refine T_if 63 27 rfl rfl rfl (r32 (by omega) (by omega)) (fun (h22 : v14 = 0) => ?_) (fun (h22 : ¬ (v14 = 0)) => ?_)
          · skip
            refine T_ld 64 (.int (i32 v14)) rfl (fun _ => rfl) ?_
            refine T_retb rfl rfl (by omega) ?_
            exact ⟨v14, ⟨by omega, by omega⟩, (by exact hS.elim (fun ⟨e1, e2, e3⟩ => Or.inl ⟨e1, e2, fun j h1 h2 => e3 j h1 (by omega)⟩) (fun h => Or.inr h)), rfl⟩
          · skip
            refine T_gf 31 (.ref 193) rfl rfl rfl rfl rfl rfl ?_
            refine T_ld 32 (.int (i32 x)) rfl (fun _ => rfl) ?_
            refine T_ld 34 (.int (i32 v15)) rfl (fun _ => rfl) ?_
            refine T_iadd 35 rfl rfl ?_
            refine T_iald 36 4 (m.2 4) rfl rfl rfl (by omega) (show (x + v15) < (4000 : Int) by omega) rfl ?_
            have e23 : 0 ≤ m.2 4 (x + v15) ∧ m.2 4 (x + v15) ≤ 255 := hT.2.1 4 (x + v15)
            refine T_gf 40 (.ref 193) rfl rfl rfl rfl rfl rfl ?_
            refine T_gf 44 (.int (i32 (m.1 8))) rfl rfl rfl rfl rfl rfl ?_
            refine T_ld 46 (.int (i32 v15)) rfl (fun _ => rfl) ?_
            refine T_iadd 47 rfl rfl ?_
            refine T_iald 48 4 (m.2 4) rfl rfl rfl (by omega) (show ((m.1 8) + v15) < (4000 : Int) by omega) rfl ?_
            have e24 : 0 ≤ m.2 4 ((m.1 8) + v15) ∧ m.2 4 ((m.1 8) + v15) ≤ 255 := hT.2.1 4 ((m.1 8) + v15)
            refine T_icmp 55 51 rfl rfl rfl (r32 (by omega) (by omega)) (r32 (by omega) (by omega)) (fun (h25 : (m.2 4) (x + v15) ≠ (m.2 4) ((m.1 8) + v15)) => ?_) (fun (h25 : ¬ ((m.2 4) (x + v15) ≠ (m.2 4) ((m.1 8) + v15))) => ?_)
            · skip
              refine T_ld 56 (.int (i32 0)) rfl (fun _ => rfl) ?_
              refine T_sto 57 [(3, .int (i32 0)), (0, .ref 189), (1, .int (i32 x)), (2, .int (i32 y)), (4, .int (i32 v15))] rfl (fun _ => rfl) ?_
              refine T_iinc 60 [(4, .int (i32 (v15 + 1))), (3, .int (i32 0)), (0, .ref 189), (1, .int (i32 x)), (2, .int (i32 y))] rfl rfl (by decide) rfl rfl ?_
              refine T_goto 17 rfl (fun _ => rfl) ?_
              refine Tm_lv (a := [(0, .ref 189), (1, .int (i32 x)), (2, .int (i32 y)), (3, .int (i32 0)), (4, .int (i32 (v15 + 1)))]) rfl rfl ⟨rfl, rfl, rfl, rfl, rfl, trivial⟩ ?_
              exact ih20 0 (v15 + 1) (r32 (by omega) (by omega)) (r32 (by omega) (by omega)) (by omega) (by first | exact Or.inl ⟨rfl, by omega, fun j h1 h2 => by omega⟩ | exact Or.inr ⟨rfl, fun h => absurd h.1 (by omega)⟩ | exact hS.elim (fun ⟨e1, e2, e3⟩ => Or.inl ⟨rfl, e2, fun j h1 h2 => by by_cases hj : j < v15; exact e3 j h1 hj; rw [show j = v15 by omega]; omega⟩) (fun h => absurd h.1 (by omega)) | exact hS.elim (fun ⟨e1, e2, e3⟩ => Or.inr ⟨rfl, fun h => absurd (h.2 v15 (by omega) (by omega)) (by omega)⟩) (fun h => absurd h.1 (by omega))) (by omega)
            · skip
              refine T_ld 52 (.int (i32 1)) rfl (fun _ => rfl) ?_
              refine T_goto 56 rfl (fun _ => rfl) ?_
              refine T_sto 57 [(3, .int (i32 1)), (0, .ref 189), (1, .int (i32 x)), (2, .int (i32 y)), (4, .int (i32 v15))] rfl (fun _ => rfl) ?_
              refine T_iinc 60 [(4, .int (i32 (v15 + 1))), (3, .int (i32 1)), (0, .ref 189), (1, .int (i32 x)), (2, .int (i32 y))] rfl rfl (by decide) rfl rfl ?_
              refine T_goto 17 rfl (fun _ => rfl) ?_
              refine Tm_lv (a := [(0, .ref 189), (1, .int (i32 x)), (2, .int (i32 y)), (3, .int (i32 1)), (4, .int (i32 (v15 + 1)))]) rfl rfl ⟨rfl, rfl, rfl, rfl, rfl, trivial⟩ ?_
              exact ih20 1 (v15 + 1) (r32 (by omega) (by omega)) (r32 (by omega) (by omega)) (by omega) (by first | exact Or.inl ⟨rfl, by omega, fun j h1 h2 => by omega⟩ | exact Or.inr ⟨rfl, fun h => absurd h.1 (by omega)⟩ | exact hS.elim (fun ⟨e1, e2, e3⟩ => Or.inl ⟨rfl, e2, fun j h1 h2 => by by_cases hj : j < v15; exact e3 j h1 hj; rw [show j = v15 by omega]; omega⟩) (fun h => absurd h.1 (by omega)) | exact hS.elim (fun ⟨e1, e2, e3⟩ => Or.inr ⟨rfl, fun h => absurd (h.2 v15 (by omega) (by omega)) (by omega)⟩) (fun h => absurd h.1 (by omega))) (by omega)
    refine Tm_lv (a := [(0, .ref 189), (1, .int (i32 x)), (2, .int (i32 y)), (3, .int (i32 1)), (4, .int (i32 0))]) rfl rfl ⟨rfl, rfl, rfl, rfl, rfl, trivial⟩ ?_
    exact L17 ((y - 0 : Int) + 1).toNat 1 0 (r32 (by omega) (by omega)) (r32 (by omega) (by omega)) (by omega) (by first | exact Or.inl ⟨rfl, by omega, fun j h1 h2 => by omega⟩ | exact Or.inr ⟨rfl, fun h => absurd h.1 (by omega)⟩ | exact hS.elim (fun ⟨e1, e2, e3⟩ => Or.inl ⟨rfl, e2, fun j h1 h2 => by by_cases hj : j < v15; exact e3 j h1 hj; rw [show j = v15 by omega]; omega⟩) (fun h => absurd h.1 (by omega)) | exact hS.elim (fun ⟨e1, e2, e3⟩ => Or.inr ⟨rfl, fun h => absurd (h.2 v15 (by omega) (by omega)) (by omega)⟩) (fun h => absurd h.1 (by omega))) (by omega)
def Q_givenHere (m : mR) (c : Nat → Option am_C) (N : Nat) : ag_Re af_T → Prop := fun R => ∃ (r : Int), ((-2147483648) ≤ r ∧ r ≤ 2147483647) ∧ (isGH (m.2 4) (m.1 8) (m.1 9) r) ∧ (-1 ≤ r ∧ r ≤ 4) ∧ R = (.inl (some (.int (i32 r))), (mhp (mO m [] []) c, N), 0, 0)
set_option maxHeartbeats 8000000 in
theorem c_givenHere (w : wX) (m : mR) (c : Nat → Option am_C) (N D : Nat) (hD : 1 ≤ D) (hT : Ty m) (p0 : 1 ≤ (m.1 9) ∧ (m.1 8) + (m.1 9) ≤ (m.1 6)) : TC w D 228 [.ref 189] (mhp m c, N) (Q_givenHere m c N) := by
  obtain ⟨D, rfl⟩ : ∃ k, D = k + 1 := ⟨D - 1, by omega⟩
  have f8 : 0 ≤ m.1 8 ∧ m.1 8 ≤ 4000 := hT.1 8
  have f6 : 0 ≤ m.1 6 ∧ m.1 6 ≤ 4000 := hT.1 6
  have f9 : 0 ≤ m.1 9 ∧ m.1 9 ≤ 4000 := hT.1 9
  refine Tc_of rfl ?_
  show TT w D pm_228 (0, [(0, .ref 189)], [], (mhp m c, N), 0, 0) (Q_givenHere m c N)
  rw [show (mhp m c, N) = (mhp (mO m [] []) c, N) from rfl]
  refine T_ld 1 (.int (i32 0)) rfl (fun _ => rfl) ?_
  refine T_sto 2 [(1, .int (i32 0)), (0, .ref 189)] rfl (fun _ => rfl) ?_
  refine T_ld 3 (.int (i32 0)) rfl (fun _ => rfl) ?_
  refine T_sto 4 [(2, .int (i32 0)), (1, .int (i32 0)), (0, .ref 189)] rfl (fun _ => rfl) ?_
  have L4 : ∀ (n : Nat) (v1 : Int) (v2 : Int), (R32 v1) → (R32 v2) → (0 ≤ v2 ∧ v2 ≤ 5) → (v1 = gst v2) → (∀ k, 0 ≤ k → k < v2 → ¬ sameG (m.2 4) (m.1 8) (m.1 9) k) → 5 - v2 < (n : Int) → TT w D pm_228 (4, [(0, .ref 189), (1, .int (i32 v1)), (2, .int (i32 v2))], [], (mhp (mO m [] []) c, N), 0, 0) (Q_givenHere m c N) := by
    intro n
    induction n with
    | zero =>
      intro v1 v2 q3 q4 i5 i6 i7 hmu
      obtain ⟨q3a, q3b⟩ := id q3
      obtain ⟨q4a, q4b⟩ := id q4
      have hO := i7
      exfalso
      omega
    | succ n ih =>
      intro v1 v2 q3 q4 i5 i6 i7 hmu
      obtain ⟨q3a, q3b⟩ := id q3
      obtain ⟨q4a, q4b⟩ := id q4
      have hO := i7
      have ih8 := ih
      refine T_ld 5 (.int (i32 v2)) rfl (fun _ => rfl) ?_
      refine T_ld 6 (.int (i32 5)) rfl (fun _ => rfl) ?_
      refine T_icmp 113 9 rfl rfl rfl (r32 (by omega) (by omega)) ⟨by decide, by decide⟩ (fun (h9 : (5 : Int) ≤ v2) => ?_) (fun (h9 : ¬ ((5 : Int) ≤ v2)) => ?_)
      · skip
        refine T_ld 114 (.int (i32 (-1))) rfl (fun _ => rfl) ?_
        refine T_ret rfl (fun _ => rfl) ?_
        exact ⟨(-1), ⟨by omega, by omega⟩, (by first | exact Or.inr ⟨rfl, fun k h1 h2 => hO k h1 (by omega)⟩ | exact hS.elim (fun ⟨e1, e2, e3⟩ => Or.inl ⟨by omega, by omega, ⟨by omega, fun j h1 h2 => by rw [← show v1 = gst v2 by omega]; exact e3 j h1 (by omega)⟩, hO⟩) (fun h => absurd h.1 (by omega))), (by omega), rfl⟩
      · skip
        refine T_ld 10 (.int (i32 0)) rfl (fun _ => rfl) ?_
        refine T_sto 11 [(3, .int (i32 0)), (0, .ref 189), (1, .int (i32 v1)), (2, .int (i32 v2))] rfl (fun _ => rfl) ?_
        have L11 : ∀ (n : Nat) (v10 : Int), (R32 v10) → (0 ≤ v10 ∧ v10 ≤ glen v2) → glen v2 - v10 < (n : Int) → TT w D pm_228 (11, [(0, .ref 189), (1, .int (i32 v1)), (2, .int (i32 v2)), (3, .int (i32 v10))], [], (mhp (mO m [] []) c, N), 0, 0) (Q_givenHere m c N) := by
          intro n
          induction n with
          | zero =>
            intro v10 q11 i12 hmu
            obtain ⟨q11a, q11b⟩ := id q11
            have hk := gv_a v2 (by omega) (by omega)
            have hk3 : 0 < m.2 18 (v1 + v10) → v10 < glen v2 := fun h => by
              rw [hT.2.2.2] at h
              apply Classical.byContradiction
              intro h4
              have e : v1 + v10 = gst v2 + glen v2 := by omega
              rw [e, hk.2.2.2.2.1] at h
              omega
            have hk4 : v10 < glen v2 → 0 < m.2 18 (v1 + v10) := fun h => by
              rw [hT.2.2.2, show v1 = gst v2 by omega]
              exact gv_b v2 v10 (by omega) (by omega) (by omega) h (by omega)
            exfalso
            omega
          | succ n ih =>
            intro v10 q11 i12 hmu
            obtain ⟨q11a, q11b⟩ := id q11
            have hk := gv_a v2 (by omega) (by omega)
            have hk3 : 0 < m.2 18 (v1 + v10) → v10 < glen v2 := fun h => by
              rw [hT.2.2.2] at h
              apply Classical.byContradiction
              intro h4
              have e : v1 + v10 = gst v2 + glen v2 := by omega
              rw [e, hk.2.2.2.2.1] at h
              omega
            have hk4 : v10 < glen v2 → 0 < m.2 18 (v1 + v10) := fun h => by
              rw [hT.2.2.2, show v1 = gst v2 by omega]
              exact gv_b v2 v10 (by omega) (by omega) (by omega) h (by omega)
            have ih13 := ih
            refine T_gf 15 (.ref 198) rfl rfl rfl rfl rfl rfl ?_
            refine T_ld 16 (.int (i32 v1)) rfl (fun _ => rfl) ?_
            refine T_ld 17 (.int (i32 v10)) rfl (fun _ => rfl) ?_
            refine T_iadd 18 rfl rfl ?_
            refine T_iald 19 18 (m.2 18) rfl rfl rfl (by omega) (show (v1 + v10) < (38 : Int) by omega) rfl ?_
            have e14 : 0 ≤ m.2 18 (v1 + v10) ∧ m.2 18 (v1 + v10) ≤ 255 := hT.2.1 18 (v1 + v10)
            refine T_if 28 22 rfl rfl rfl (r32 (by omega) (by omega)) (fun (h15 : (m.2 18) (v1 + v10) ≤ 0) => ?_) (fun (h15 : ¬ ((m.2 18) (v1 + v10) ≤ 0)) => ?_)
            · skip
              have J41 : ∀ (s16 : Int), (R32 s16) → ((s16 = 1 ∧ v10 = (m.1 9)) ∨ (s16 = 0 ∧ ¬ sameG (m.2 4) (m.1 8) (m.1 9) v2)) → TT w D pm_228 (41, [(0, .ref 189), (1, .int (i32 v1)), (2, .int (i32 v2)), (3, .int (i32 v10))], [.int (i32 s16)], (mhp (mO m [] []) c, N), 0, 0) (Q_givenHere m c N) := by
                intro s16 q17 i18
                obtain ⟨q17a, q17b⟩ := id q17
                have hJ := i18
                refine T_sto 43 [(4, .int (i32 s16)), (0, .ref 189), (1, .int (i32 v1)), (2, .int (i32 v2)), (3, .int (i32 v10))] rfl (fun _ => rfl) ?_
                refine T_ld 44 (.int (i32 0)) rfl (fun _ => rfl) ?_
                refine T_sto 46 [(5, .int (i32 0)), (4, .int (i32 s16)), (0, .ref 189), (1, .int (i32 v1)), (2, .int (i32 v2)), (3, .int (i32 v10))] rfl (fun _ => rfl) ?_
                have L46 : ∀ (n : Nat) (v19 : Int) (v20 : Int), (R32 v19) → (R32 v20) → (0 ≤ v20 ∧ v20 ≤ v10) → ((v19 = 1 ∧ v10 = (m.1 9) ∧ ∀ j, 0 ≤ j → j < v20 → (m.2 4) ((m.1 8) + j) = gvF (v1 + j)) ∨ (v19 = 0 ∧ ¬ sameG (m.2 4) (m.1 8) (m.1 9) v2)) → v10 - v20 < (n : Int) → TT w D pm_228 (46, [(0, .ref 189), (1, .int (i32 v1)), (2, .int (i32 v2)), (3, .int (i32 v10)), (4, .int (i32 v19)), (5, .int (i32 v20))], [], (mhp (mO m [] []) c, N), 0, 0) (Q_givenHere m c N) := by
                  intro n
                  induction n with
                  | zero =>
                    intro v19 v20 q21 q22 i23 i24 hmu
                    obtain ⟨q21a, q21b⟩ := id q21
                    obtain ⟨q22a, q22b⟩ := id q22
                    have hS := i24
                    have hg5 : m.2 18 (v1 + v20) = gvF (v1 + v20) := by rw [hT.2.2.2]
                    exfalso
                    omega
                  | succ n ih =>
                    intro v19 v20 q21 q22 i23 i24 hmu
                    obtain ⟨q21a, q21b⟩ := id q21
                    obtain ⟨q22a, q22b⟩ := id q22
                    have hS := i24
                    have hg5 : m.2 18 (v1 + v20) = gvF (v1 + v20) := by rw [hT.2.2.2]
                    have ih25 := ih
                    refine T_ld 48 (.int (i32 v20)) rfl (fun _ => rfl) ?_
                    refine T_ld 49 (.int (i32 v10)) rfl (fun _ => rfl) ?_
                    refine T_icmp 94 52 rfl rfl rfl (r32 (by omega) (by omega)) (r32 (by omega) (by omega)) (fun (h26 : v10 ≤ v20) => ?_) (fun (h26 : ¬ (v10 ≤ v20)) => ?_)
                    · skip
                      refine T_ld 96 (.int (i32 v19)) rfl (fun _ => rfl) ?_
                      refine T_if 101 99 rfl rfl rfl (r32 (by omega) (by omega)) (fun (h27 : v19 = 0) => ?_) (fun (h27 : ¬ (v19 = 0)) => ?_)
                      · skip
                        refine T_ld 102 (.int (i32 v1)) rfl (fun _ => rfl) ?_
                        refine T_ld 103 (.int (i32 v10)) rfl (fun _ => rfl) ?_
                        refine T_ld 104 (.int (i32 1)) rfl (fun _ => rfl) ?_
                        refine T_iadd 105 rfl rfl ?_
                        refine T_iadd 106 rfl rfl ?_
                        refine T_sto 107 [(1, .int (i32 (v1 + (v10 + 1)))), (0, .ref 189), (2, .int (i32 v2)), (3, .int (i32 v10)), (4, .int (i32 v19)), (5, .int (i32 v20))] rfl (fun _ => rfl) ?_
                        refine T_iinc 110 [(2, .int (i32 (v2 + 1))), (1, .int (i32 (v1 + (v10 + 1)))), (0, .ref 189), (3, .int (i32 v10)), (4, .int (i32 v19)), (5, .int (i32 v20))] rfl rfl (by decide) rfl rfl ?_
                        refine T_goto 4 rfl (fun _ => rfl) ?_
                        refine Tm_lv (a := [(0, .ref 189), (1, .int (i32 (v1 + (v10 + 1)))), (2, .int (i32 (v2 + 1)))]) rfl rfl ⟨rfl, rfl, rfl, trivial⟩ ?_
                        exact ih8 (v1 + (v10 + 1)) (v2 + 1) (r32 (by omega) (by omega)) (r32 (by omega) (by omega)) (by omega) (by first | rfl | omega) (by intro k h1 h2; first | omega | (by_cases hj : k < v2; exact hO k h1 hj; rw [show k = v2 by omega]; exact hS.elim (fun h => absurd h.1 (by omega)) (fun h => h.2))) (by omega)
                      · skip
                        refine T_ld 100 (.int (i32 v2)) rfl (fun _ => rfl) ?_
                        refine T_ret rfl (fun _ => rfl) ?_
                        exact ⟨v2, ⟨by omega, by omega⟩, (by first | exact Or.inr ⟨rfl, fun k h1 h2 => hO k h1 (by omega)⟩ | exact hS.elim (fun ⟨e1, e2, e3⟩ => Or.inl ⟨by omega, by omega, ⟨by omega, fun j h1 h2 => by rw [← show v1 = gst v2 by omega]; exact e3 j h1 (by omega)⟩, hO⟩) (fun h => absurd h.1 (by omega))), (by omega), rfl⟩
                    · skip
                      refine T_ld 54 (.int (i32 v19)) rfl (fun _ => rfl) ?_
                      refine T_if 94 57 rfl rfl rfl (r32 (by omega) (by omega)) (fun (h28 : v19 = 0) => ?_) (fun (h28 : ¬ (v19 = 0)) => ?_)
                      · skip
                        refine T_ld 96 (.int (i32 v19)) rfl (fun _ => rfl) ?_
                        refine T_if 101 99 rfl rfl rfl (r32 (by omega) (by omega)) (fun (h29 : v19 = 0) => ?_) (fun (h29 : ¬ (v19 = 0)) => by exfalso; omega)
                        refine T_ld 102 (.int (i32 v1)) rfl (fun _ => rfl) ?_
                        refine T_ld 103 (.int (i32 v10)) rfl (fun _ => rfl) ?_
                        refine T_ld 104 (.int (i32 1)) rfl (fun _ => rfl) ?_
                        refine T_iadd 105 rfl rfl ?_
                        refine T_iadd 106 rfl rfl ?_
                        refine T_sto 107 [(1, .int (i32 (v1 + (v10 + 1)))), (0, .ref 189), (2, .int (i32 v2)), (3, .int (i32 v10)), (4, .int (i32 v19)), (5, .int (i32 v20))] rfl (fun _ => rfl) ?_
                        refine T_iinc 110 [(2, .int (i32 (v2 + 1))), (1, .int (i32 (v1 + (v10 + 1)))), (0, .ref 189), (3, .int (i32 v10)), (4, .int (i32 v19)), (5, .int (i32 v20))] rfl rfl (by decide) rfl rfl ?_
                        refine T_goto 4 rfl (fun _ => rfl) ?_
                        refine Tm_lv (a := [(0, .ref 189), (1, .int (i32 (v1 + (v10 + 1)))), (2, .int (i32 (v2 + 1)))]) rfl rfl ⟨rfl, rfl, rfl, trivial⟩ ?_
                        exact ih8 (v1 + (v10 + 1)) (v2 + 1) (r32 (by omega) (by omega)) (r32 (by omega) (by omega)) (by omega) (by first | rfl | omega) (by intro k h1 h2; first | omega | (by_cases hj : k < v2; exact hO k h1 hj; rw [show k = v2 by omega]; exact hS.elim (fun h => absurd h.1 (by omega)) (fun h => h.2))) (by omega)
                      · skip
                        refine T_gf 61 (.ref 193) rfl rfl rfl rfl rfl rfl ?_
                        refine T_gf 65 (.int (i32 (m.1 8))) rfl rfl rfl rfl rfl rfl ?_
                        refine T_ld 67 (.int (i32 v20)) rfl (fun _ => rfl) ?_
                        refine T_iadd 68 rfl rfl ?_
                        refine T_iald 69 4 (m.2 4) rfl rfl rfl (by omega) (show ((m.1 8) + v20) < (4000 : Int) by omega) rfl ?_
                        have e30 : 0 ≤ m.2 4 ((m.1 8) + v20) ∧ m.2 4 ((m.1 8) + v20) ≤ 255 := hT.2.1 4 ((m.1 8) + v20)
                        refine T_gf 73 (.ref 198) rfl rfl rfl rfl rfl rfl ?_
                        refine T_ld 74 (.int (i32 v1)) rfl (fun _ => rfl) ?_
                        refine T_ld 76 (.int (i32 v20)) rfl (fun _ => rfl) ?_
                        refine T_iadd 77 rfl rfl ?_
                        refine T_iald 78 18 (m.2 18) rfl rfl rfl (by omega) (show (v1 + v20) < (38 : Int) by omega) rfl ?_
                        have e31 : 0 ≤ m.2 18 (v1 + v20) ∧ m.2 18 (v1 + v20) ≤ 255 := hT.2.1 18 (v1 + v20)
                        refine T_icmp 85 81 rfl rfl rfl (r32 (by omega) (by omega)) (r32 (by omega) (by omega)) (fun (h32 : (m.2 4) ((m.1 8) + v20) ≠ (m.2 18) (v1 + v20)) => ?_) (fun (h32 : ¬ ((m.2 4) ((m.1 8) + v20) ≠ (m.2 18) (v1 + v20))) => ?_)
                        · skip
                          refine T_ld 86 (.int (i32 0)) rfl (fun _ => rfl) ?_
                          refine T_sto 88 [(4, .int (i32 0)), (0, .ref 189), (1, .int (i32 v1)), (2, .int (i32 v2)), (3, .int (i32 v10)), (5, .int (i32 v20))] rfl (fun _ => rfl) ?_
                          refine T_iinc 91 [(5, .int (i32 (v20 + 1))), (4, .int (i32 0)), (0, .ref 189), (1, .int (i32 v1)), (2, .int (i32 v2)), (3, .int (i32 v10))] rfl rfl (by decide) rfl rfl ?_
                          refine T_goto 46 rfl (fun _ => rfl) ?_
                          refine Tm_lv (a := [(0, .ref 189), (1, .int (i32 v1)), (2, .int (i32 v2)), (3, .int (i32 v10)), (4, .int (i32 0)), (5, .int (i32 (v20 + 1)))]) rfl rfl ⟨rfl, rfl, rfl, rfl, rfl, rfl, trivial⟩ ?_
                          exact ih25 0 (v20 + 1) (r32 (by omega) (by omega)) (r32 (by omega) (by omega)) (by omega) (by first | exact hJ.elim (fun ⟨e1, e2⟩ => Or.inl ⟨e1, by omega, fun j h1 h2 => by omega⟩) (fun h => Or.inr h) | exact hS.elim (fun ⟨e1, e2, e3⟩ => Or.inl ⟨rfl, e2, fun j h1 h2 => by by_cases hj : j < v20; exact e3 j h1 hj; rw [show j = v20 by omega]; omega⟩) (fun h => absurd h.1 (by omega)) | exact hS.elim (fun ⟨e1, e2, e3⟩ => Or.inr ⟨rfl, fun h => absurd (h.2 v20 (by omega) (by omega)) (by rw [← show v1 = gst v2 by omega]; omega)⟩) (fun h => absurd h.1 (by omega))) (by omega)
                        · skip
                          refine T_ld 82 (.int (i32 1)) rfl (fun _ => rfl) ?_
                          refine T_goto 86 rfl (fun _ => rfl) ?_
                          refine T_sto 88 [(4, .int (i32 1)), (0, .ref 189), (1, .int (i32 v1)), (2, .int (i32 v2)), (3, .int (i32 v10)), (5, .int (i32 v20))] rfl (fun _ => rfl) ?_
                          refine T_iinc 91 [(5, .int (i32 (v20 + 1))), (4, .int (i32 1)), (0, .ref 189), (1, .int (i32 v1)), (2, .int (i32 v2)), (3, .int (i32 v10))] rfl rfl (by decide) rfl rfl ?_
                          refine T_goto 46 rfl (fun _ => rfl) ?_
                          refine Tm_lv (a := [(0, .ref 189), (1, .int (i32 v1)), (2, .int (i32 v2)), (3, .int (i32 v10)), (4, .int (i32 1)), (5, .int (i32 (v20 + 1)))]) rfl rfl ⟨rfl, rfl, rfl, rfl, rfl, rfl, trivial⟩ ?_
                          exact ih25 1 (v20 + 1) (r32 (by omega) (by omega)) (r32 (by omega) (by omega)) (by omega) (by first | exact hJ.elim (fun ⟨e1, e2⟩ => Or.inl ⟨e1, by omega, fun j h1 h2 => by omega⟩) (fun h => Or.inr h) | exact hS.elim (fun ⟨e1, e2, e3⟩ => Or.inl ⟨rfl, e2, fun j h1 h2 => by by_cases hj : j < v20; exact e3 j h1 hj; rw [show j = v20 by omega]; omega⟩) (fun h => absurd h.1 (by omega)) | exact hS.elim (fun ⟨e1, e2, e3⟩ => Or.inr ⟨rfl, fun h => absurd (h.2 v20 (by omega) (by omega)) (by rw [← show v1 = gst v2 by omega]; omega)⟩) (fun h => absurd h.1 (by omega))) (by omega)
                refine Tm_lv (a := [(0, .ref 189), (1, .int (i32 v1)), (2, .int (i32 v2)), (3, .int (i32 v10)), (4, .int (i32 s16)), (5, .int (i32 0))]) rfl rfl ⟨rfl, rfl, rfl, rfl, rfl, rfl, trivial⟩ ?_
                exact L46 ((v10 - 0 : Int) + 1).toNat s16 0 (r32 (by omega) (by omega)) (r32 (by omega) (by omega)) (by omega) (by first | exact hJ.elim (fun ⟨e1, e2⟩ => Or.inl ⟨e1, by omega, fun j h1 h2 => by omega⟩) (fun h => Or.inr h) | exact hS.elim (fun ⟨e1, e2, e3⟩ => Or.inl ⟨rfl, e2, fun j h1 h2 => by by_cases hj : j < v20; exact e3 j h1 hj; rw [show j = v20 by omega]; omega⟩) (fun h => absurd h.1 (by omega)) | exact hS.elim (fun ⟨e1, e2, e3⟩ => Or.inr ⟨rfl, fun h => absurd (h.2 v20 (by omega) (by omega)) (by rw [← show v1 = gst v2 by omega]; omega)⟩) (fun h => absurd h.1 (by omega))) (by omega)
              refine T_ld 29 (.int (i32 v10)) rfl (fun _ => rfl) ?_
              refine T_gf 33 (.int (i32 (m.1 9))) rfl rfl rfl rfl rfl rfl ?_
              refine T_icmp 40 36 rfl rfl rfl (r32 (by omega) (by omega)) (r32 (by omega) (by omega)) (fun (h33 : v10 ≠ (m.1 9)) => ?_) (fun (h33 : ¬ (v10 ≠ (m.1 9))) => ?_)
              · skip
                refine T_ld 41 (.int (i32 0)) rfl (fun _ => rfl) ?_
                exact J41 0 (r32 (by omega) (by omega)) (by first | exact Or.inl ⟨rfl, by omega⟩ | exact Or.inr ⟨rfl, fun h => absurd h.1 (by omega)⟩)
              · skip
                refine T_ld 37 (.int (i32 1)) rfl (fun _ => rfl) ?_
                refine T_goto 41 rfl (fun _ => rfl) ?_
                exact J41 1 (r32 (by omega) (by omega)) (by first | exact Or.inl ⟨rfl, by omega⟩ | exact Or.inr ⟨rfl, fun h => absurd h.1 (by omega)⟩)
            · skip
              refine T_iinc 25 [(3, .int (i32 (v10 + 1))), (0, .ref 189), (1, .int (i32 v1)), (2, .int (i32 v2))] rfl rfl (by decide) rfl rfl ?_
              refine T_goto 11 rfl (fun _ => rfl) ?_
              have hk0 := gv_a v2 (by omega) (by omega)
              refine Tm_lv (a := [(0, .ref 189), (1, .int (i32 v1)), (2, .int (i32 v2)), (3, .int (i32 (v10 + 1)))]) rfl rfl ⟨rfl, rfl, rfl, rfl, trivial⟩ ?_
              exact ih13 (v10 + 1) (r32 (by omega) (by omega)) (by omega) (by omega)
        have hk0 := gv_a v2 (by omega) (by omega)
        refine Tm_lv (a := [(0, .ref 189), (1, .int (i32 v1)), (2, .int (i32 v2)), (3, .int (i32 0))]) rfl rfl ⟨rfl, rfl, rfl, rfl, trivial⟩ ?_
        exact L11 ((glen v2 - 0 : Int) + 1).toNat 0 (r32 (by omega) (by omega)) (by omega) (by omega)
  refine Tm_lv (a := [(0, .ref 189), (1, .int (i32 0)), (2, .int (i32 0))]) rfl rfl ⟨rfl, rfl, rfl, trivial⟩ ?_
  exact L4 ((5 - 0 : Int) + 1).toNat 0 0 (r32 (by omega) (by omega)) (r32 (by omega) (by omega)) (by omega) (by first | rfl | omega) (by intro k h1 h2; first | omega | (by_cases hj : k < v2; exact hO k h1 hj; rw [show k = v2 by omega]; exact hS.elim (fun h => absurd h.1 (by omega)) (fun h => h.2))) (by omega)
def Q_findHere (m : mR) (c : Nat → Option am_C) (N : Nat) : ag_Re af_T → Prop := fun R => ∃ (r : Int), ((-2147483648) ≤ r ∧ r ≤ 2147483647) ∧ (isFH (m.2 4) (m.2 14) (m.2 15) (m.1 8) (m.1 9) (m.1 13) r) ∧ (-1 ≤ r ∧ r < (m.1 13)) ∧ R = (.inl (some (.int (i32 r))), (mhp (mO m [] []) c, N), 0, 0)
set_option maxHeartbeats 8000000 in
theorem c_findHere (w : wX) (m : mR) (c : Nat → Option am_C) (N D : Nat) (hD : 2 ≤ D) (hT : Ty m) (p0 : 1 ≤ (m.1 9) ∧ (m.1 8) + (m.1 9) ≤ (m.1 6)) (p1 : ∀ k, (m.2 14) k + (m.2 15) k ≤ 4000) : TC w D 229 [.ref 189] (mhp m c, N) (Q_findHere m c N) := by
  obtain ⟨D, rfl⟩ : ∃ k, D = k + 1 := ⟨D - 1, by omega⟩
  have f8 : 0 ≤ m.1 8 ∧ m.1 8 ≤ 4000 := hT.1 8
  have f13 : 0 ≤ m.1 13 ∧ m.1 13 ≤ 120 := hT.1 13
  have f6 : 0 ≤ m.1 6 ∧ m.1 6 ≤ 4000 := hT.1 6
  have f9 : 0 ≤ m.1 9 ∧ m.1 9 ≤ 4000 := hT.1 9
  refine Tc_of rfl ?_
  show TT w D pm_229 (0, [(0, .ref 189)], [], (mhp m c, N), 0, 0) (Q_findHere m c N)
  rw [show (mhp m c, N) = (mhp (mO m [] []) c, N) from rfl]
  refine T_ld 1 (.int (i32 (-1))) rfl (fun _ => rfl) ?_
  refine T_sto 2 [(1, .int (i32 (-1))), (0, .ref 189)] rfl (fun _ => rfl) ?_
  refine T_ld 3 (.int (i32 0)) rfl (fun _ => rfl) ?_
  refine T_sto 4 [(2, .int (i32 0)), (1, .int (i32 (-1))), (0, .ref 189)] rfl (fun _ => rfl) ?_
  have L4 : ∀ (n : Nat) (v1 : Int) (v2 : Int), (R32 v1) → (R32 v2) → (0 ≤ v2 ∧ v2 ≤ (m.1 13)) → (-1 ≤ v1 ∧ v1 < v2) → (isFH (m.2 4) (m.2 14) (m.2 15) (m.1 8) (m.1 9) v2 v1) → (m.1 13) - v2 < (n : Int) → TT w D pm_229 (4, [(0, .ref 189), (1, .int (i32 v1)), (2, .int (i32 v2))], [], (mhp (mO m [] []) c, N), 0, 0) (Q_findHere m c N) := by
    intro n
    induction n with
    | zero =>
      intro v1 v2 q3 q4 i5 i6 i7 hmu
      obtain ⟨q3a, q3b⟩ := id q3
      obtain ⟨q4a, q4b⟩ := id q4
      have hF := i7
      exfalso
      omega
    | succ n ih =>
      intro v1 v2 q3 q4 i5 i6 i7 hmu
      obtain ⟨q3a, q3b⟩ := id q3
      obtain ⟨q4a, q4b⟩ := id q4
      have hF := i7
      have ih8 := ih
      refine T_ld 5 (.int (i32 v2)) rfl (fun _ => rfl) ?_
      refine T_gf 9 (.int (i32 (m.1 13))) rfl rfl rfl rfl rfl rfl ?_
      refine T_icmp 43 12 rfl rfl rfl (r32 (by omega) (by omega)) (r32 (by omega) (by omega)) (fun (h9 : (m.1 13) ≤ v2) => ?_) (fun (h9 : ¬ ((m.1 13) ≤ v2)) => ?_)
      · skip
        refine T_ld 44 (.int (i32 v1)) rfl (fun _ => rfl) ?_
        refine T_ret rfl (fun _ => rfl) ?_
        exact ⟨v1, ⟨by omega, by omega⟩, (by first | exact hF.elim (fun ⟨e1, e2, e3, e4⟩ => Or.inl ⟨e1, by omega, e3, fun k h1 h2 => e4 k h1 (by omega)⟩) (fun ⟨e1, e2⟩ => Or.inr ⟨e1, fun k h1 h2 => e2 k h1 (by omega)⟩)), (by omega), rfl⟩
      · skip
        have hp2 := p1 v2
        refine T_ld 13 (.ref 189) rfl (fun _ => rfl) ?_
        refine T_gf 17 (.ref 194) rfl rfl rfl rfl rfl rfl ?_
        refine T_ld 18 (.int (i32 v2)) rfl (fun _ => rfl) ?_
        refine T_iald 19 14 (m.2 14) rfl rfl rfl (by omega) (show v2 < (120 : Int) by omega) rfl ?_
        have e10 : 0 ≤ m.2 14 v2 ∧ m.2 14 v2 ≤ 4000 := hT.2.1 14 v2
        refine T_gf 23 (.ref 195) rfl rfl rfl rfl rfl rfl ?_
        refine T_ld 24 (.int (i32 v2)) rfl (fun _ => rfl) ?_
        refine T_iald 25 15 (m.2 15) rfl rfl rfl (by omega) (show v2 < (120 : Int) by omega) rfl ?_
        have e11 : 0 ≤ m.2 15 v2 ∧ m.2 15 v2 ≤ 4000 := hT.2.1 15 v2
        refine T_call 28 230 [.ref 189, .int (i32 ((m.2 14) v2)), .int (i32 ((m.2 15) v2))] [] rfl (fun _ => rfl) rfl (c_isHere w (mO m [] []) c N D (by omega) hT ((m.2 14) v2) ((m.2 15) v2) (r32 (by omega) (by omega)) (r32 (by omega) (by omega)) (show 0 ≤ ((m.2 14) v2) by omega) (show 0 ≤ ((m.2 15) v2) by omega) (show ((m.2 14) v2) + ((m.2 15) v2) ≤ 4000 by omega) (show 1 ≤ (m.1 9) ∧ (m.1 8) + (m.1 9) ≤ (m.1 6) by first | omega | (have h8 := hLx (by omega); omega))) (fun r12 k13 => ?_)
        obtain ⟨x14, g15, h16, rfl⟩ := k13
        replace h16 : (x14 = 1 ∧ sameN (m.2 4) (m.1 8) (m.1 9) ((m.2 14) v2) ((m.2 15) v2)) ∨ (x14 = 0 ∧ ¬ sameN (m.2 4) (m.1 8) (m.1 9) ((m.2 14) v2) ((m.2 15) v2)) := h16
        have hh := h16
        refine ⟨_, _, rfl, ?_⟩
        refine T_nf (st' := [.int (i32 x14)]) (l' := []) (a' := []) rfl rfl rfl rfl rfl ?_
        obtain ⟨g15a, g15b⟩ := g15
        refine T_if 35 31 rfl rfl rfl (r32 (by omega) (by omega)) (fun (h17 : x14 = 0) => ?_) (fun (h17 : ¬ (x14 = 0)) => ?_)
        · skip
          refine T_ld 36 (.int (i32 v1)) rfl (fun _ => rfl) ?_
          refine T_sto 37 [(1, .int (i32 v1)), (0, .ref 189), (2, .int (i32 v2))] rfl (fun _ => rfl) ?_
          refine T_iinc 40 [(2, .int (i32 (v2 + 1))), (1, .int (i32 v1)), (0, .ref 189)] rfl rfl (by decide) rfl rfl ?_
          refine T_goto 4 rfl (fun _ => rfl) ?_
          refine Tm_lv (a := [(0, .ref 189), (1, .int (i32 v1)), (2, .int (i32 (v2 + 1)))]) rfl rfl ⟨rfl, rfl, rfl, trivial⟩ ?_
          exact ih8 v1 (v2 + 1) (r32 (by omega) (by omega)) (r32 (by omega) (by omega)) (by omega) (by omega) (by first | exact Or.inr ⟨rfl, fun k h1 h2 => by omega⟩ | exact hh.elim (fun h => Or.inl ⟨by omega, by omega, h.2, fun k h1 h2 => by omega⟩) (fun h => absurd h.1 (by omega)) | exact hF.elim (fun ⟨e1, e2, e3, e4⟩ => Or.inl ⟨e1, by omega, e3, fun k h1 h2 => by by_cases hj : k < v2; exact e4 k h1 hj; rw [show k = v2 by omega]; exact hh.elim (fun h => absurd h.1 (by omega)) (fun h => h.2)⟩) (fun ⟨e1, e2⟩ => Or.inr ⟨e1, fun k h1 h2 => by by_cases hj : k < v2; exact e2 k h1 hj; rw [show k = v2 by omega]; exact hh.elim (fun h => absurd h.1 (by omega)) (fun h => h.2)⟩)) (by omega)
        · skip
          refine T_ld 32 (.int (i32 v2)) rfl (fun _ => rfl) ?_
          refine T_goto 36 rfl (fun _ => rfl) ?_
          refine T_sto 37 [(1, .int (i32 v2)), (0, .ref 189), (2, .int (i32 v2))] rfl (fun _ => rfl) ?_
          refine T_iinc 40 [(2, .int (i32 (v2 + 1))), (1, .int (i32 v2)), (0, .ref 189)] rfl rfl (by decide) rfl rfl ?_
          refine T_goto 4 rfl (fun _ => rfl) ?_
          refine Tm_lv (a := [(0, .ref 189), (1, .int (i32 v2)), (2, .int (i32 (v2 + 1)))]) rfl rfl ⟨rfl, rfl, rfl, trivial⟩ ?_
          exact ih8 v2 (v2 + 1) (r32 (by omega) (by omega)) (r32 (by omega) (by omega)) (by omega) (by omega) (by first | exact Or.inr ⟨rfl, fun k h1 h2 => by omega⟩ | exact hh.elim (fun h => Or.inl ⟨by omega, by omega, h.2, fun k h1 h2 => by omega⟩) (fun h => absurd h.1 (by omega)) | exact hF.elim (fun ⟨e1, e2, e3, e4⟩ => Or.inl ⟨e1, by omega, e3, fun k h1 h2 => by by_cases hj : k < v2; exact e4 k h1 hj; rw [show k = v2 by omega]; exact hh.elim (fun h => absurd h.1 (by omega)) (fun h => h.2)⟩) (fun ⟨e1, e2⟩ => Or.inr ⟨e1, fun k h1 h2 => by by_cases hj : k < v2; exact e2 k h1 hj; rw [show k = v2 by omega]; exact hh.elim (fun h => absurd h.1 (by omega)) (fun h => h.2)⟩)) (by omega)
  refine Tm_lv (a := [(0, .ref 189), (1, .int (i32 (-1))), (2, .int (i32 0))]) rfl rfl ⟨rfl, rfl, rfl, trivial⟩ ?_
  exact L4 (((m.1 13) - 0 : Int) + 1).toNat (-1) 0 (r32 (by omega) (by omega)) (r32 (by omega) (by omega)) (by omega) (by omega) (by first | exact Or.inr ⟨rfl, fun k h1 h2 => by omega⟩ | exact hh.elim (fun h => Or.inl ⟨by omega, by omega, h.2, fun k h1 h2 => by omega⟩) (fun h => absurd h.1 (by omega)) | exact hF.elim (fun ⟨e1, e2, e3, e4⟩ => Or.inl ⟨e1, by omega, e3, fun k h1 h2 => by by_cases hj : k < v2; exact e4 k h1 hj; rw [show k = v2 by omega]; exact hh.elim (fun h => absurd h.1 (by omega)) (fun h => h.2)⟩) (fun ⟨e1, e2⟩ => Or.inr ⟨e1, fun k h1 h2 => by by_cases hj : k < v2; exact e2 k h1 hj; rw [show k = v2 by omega]; exact hh.elim (fun h => absurd h.1 (by omega)) (fun h => h.2)⟩)) (by omega)
def Q_sortHere (m : mR) (c : Nat → Option am_C) (N : Nat) : ag_Re af_T → Prop := fun R => ∃ (r : Int), ((-2147483648) ≤ r ∧ r ≤ 2147483647) ∧ (∃ g k, isGH (m.2 4) (m.1 8) (m.1 9) g ∧ (g < 0 → isFH (m.2 4) (m.2 14) (m.2 15) (m.1 8) (m.1 9) (m.1 13) k) ∧ r = sortV (m.2 16) g k) ∧ (-1 ≤ r ∧ r ≤ 7) ∧ R = (.inl (some (.int (i32 r))), (mhp (mO m [] []) c, N), 0, 0)
set_option maxHeartbeats 8000000 in
theorem c_sortHere (w : wX) (m : mR) (c : Nat → Option am_C) (N D : Nat) (hD : 3 ≤ D) (hT : Ty m) (p0 : 1 ≤ (m.1 9) ∧ (m.1 8) + (m.1 9) ≤ (m.1 6)) (p1 : ∀ k, (m.2 14) k + (m.2 15) k ≤ 4000) : TC w D 227 [.ref 189] (mhp m c, N) (Q_sortHere m c N) := by
  obtain ⟨D, rfl⟩ : ∃ k, D = k + 1 := ⟨D - 1, by omega⟩
  have f8 : 0 ≤ m.1 8 ∧ m.1 8 ≤ 4000 := hT.1 8
  have f13 : 0 ≤ m.1 13 ∧ m.1 13 ≤ 120 := hT.1 13
  have f6 : 0 ≤ m.1 6 ∧ m.1 6 ≤ 4000 := hT.1 6
  have f9 : 0 ≤ m.1 9 ∧ m.1 9 ≤ 4000 := hT.1 9
  refine Tc_of rfl ?_
  show TT w D pm_227 (0, [(0, .ref 189)], [], (mhp m c, N), 0, 0) (Q_sortHere m c N)
  rw [show (mhp m c, N) = (mhp (mO m [] []) c, N) from rfl]
  refine T_ld 1 (.ref 189) rfl (fun _ => rfl) ?_
  refine T_call 4 228 [.ref 189] [] rfl (fun _ => rfl) rfl (c_givenHere w (mO m [] []) c N D (by omega) hT (show 1 ≤ (m.1 9) ∧ (m.1 8) + (m.1 9) ≤ (m.1 6) by first | omega | (have h8 := hLx (by omega); omega))) (fun r1 k2 => ?_)
  obtain ⟨gg, g3, h4, h5, rfl⟩ := k2
  replace h4 : isGH (m.2 4) (m.1 8) (m.1 9) gg := h4
  replace h5 : -1 ≤ gg ∧ gg ≤ 4 := h5
  have hG := h4
  refine ⟨_, _, rfl, ?_⟩
  refine T_nf (st' := [.int (i32 gg)]) (l' := []) (a' := []) rfl rfl rfl rfl rfl ?_
  obtain ⟨g3a, g3b⟩ := g3
  refine T_sto 5 [(1, .int (i32 gg)), (0, .ref 189)] rfl (fun _ => rfl) ?_
  refine T_ld 6 (.int (i32 gg)) rfl (fun _ => rfl) ?_
  refine T_if 20 9 rfl rfl rfl (r32 (by omega) (by omega)) (fun (h6 : gg < 0) => ?_) (fun (h6 : ¬ (gg < 0)) => ?_)
  · skip
    refine T_ld 21 (.ref 189) rfl (fun _ => rfl) ?_
    refine T_call 24 229 [.ref 189] [] rfl (fun _ => rfl) rfl (c_findHere w (mO m [] []) c N D (by omega) hT (show 1 ≤ (m.1 9) ∧ (m.1 8) + (m.1 9) ≤ (m.1 6) by first | omega | (have h8 := hLx (by omega); omega)) (show ∀ k, (m.2 14) k + (m.2 15) k ≤ 4000 by exact p1)) (fun r7 k8 => ?_)
    obtain ⟨kk, g9, h10, h11, rfl⟩ := k8
    replace h10 : isFH (m.2 4) (m.2 14) (m.2 15) (m.1 8) (m.1 9) (m.1 13) kk := h10
    replace h11 : -1 ≤ kk ∧ kk < (m.1 13) := h11
    have hK := h10
    refine ⟨_, _, rfl, ?_⟩
    refine T_nf (st' := [.int (i32 kk)]) (l' := []) (a' := []) rfl rfl rfl rfl rfl ?_
    obtain ⟨g9a, g9b⟩ := g9
    refine T_sto 25 [(2, .int (i32 kk)), (1, .int (i32 gg)), (0, .ref 189)] rfl (fun _ => rfl) ?_
    refine T_ld 26 (.int (i32 kk)) rfl (fun _ => rfl) ?_
    refine T_if 33 29 rfl rfl rfl (r32 (by omega) (by omega)) (fun (h12 : (0 : Int) ≤ kk) => ?_) (fun (h12 : ¬ ((0 : Int) ≤ kk)) => ?_)
    · skip
      refine T_gf 37 (.ref 196) rfl rfl rfl rfl rfl rfl ?_
      refine T_ld 38 (.int (i32 kk)) rfl (fun _ => rfl) ?_
      refine T_iald 39 16 (m.2 16) rfl rfl rfl (by omega) (show kk < (120 : Int) by omega) rfl ?_
      have e13 : 0 ≤ m.2 16 kk ∧ m.2 16 kk ≤ 7 := hT.2.1 16 kk
      refine T_ret rfl (fun _ => rfl) ?_
      exact ⟨(m.2 16) kk, ⟨by omega, by omega⟩, (by first | exact ⟨gg, 0, hG, fun h => absurd h (by omega), by unfold sortV; rw [if_pos (by omega), if_pos (by omega)]⟩ | exact ⟨gg, 0, hG, fun h => absurd h (by omega), by unfold sortV; rw [if_pos (by omega), if_neg (by omega)]⟩ | exact ⟨gg, kk, hG, fun _ => hK, by unfold sortV; rw [if_neg (by omega), if_pos (by omega)]⟩ | exact ⟨gg, kk, hG, fun _ => hK, by unfold sortV; rw [if_neg (by omega), if_neg (by omega)]⟩), (by omega), rfl⟩
    · skip
      refine T_ld 30 (.int (i32 (-1))) rfl (fun _ => rfl) ?_
      refine T_goto 39 rfl (fun _ => rfl) ?_
      refine T_ret rfl (fun _ => rfl) ?_
      exact ⟨(-1), ⟨by omega, by omega⟩, (by first | exact ⟨gg, 0, hG, fun h => absurd h (by omega), by unfold sortV; rw [if_pos (by omega), if_pos (by omega)]⟩ | exact ⟨gg, 0, hG, fun h => absurd h (by omega), by unfold sortV; rw [if_pos (by omega), if_neg (by omega)]⟩ | exact ⟨gg, kk, hG, fun _ => hK, by unfold sortV; rw [if_neg (by omega), if_pos (by omega)]⟩ | exact ⟨gg, kk, hG, fun _ => hK, by unfold sortV; rw [if_neg (by omega), if_neg (by omega)]⟩), (by omega), rfl⟩
  · skip
    refine T_ld 10 (.int (i32 gg)) rfl (fun _ => rfl) ?_
    refine T_ld 11 (.int (i32 3)) rfl (fun _ => rfl) ?_
    refine T_icmp 18 14 rfl rfl rfl (r32 (by omega) (by omega)) ⟨by decide, by decide⟩ (fun (h14 : (3 : Int) ≤ gg) => ?_) (fun (h14 : ¬ ((3 : Int) ≤ gg)) => ?_)
    · skip
      refine T_ld 19 (.int (i32 5)) rfl (fun _ => rfl) ?_
      refine T_ret rfl (fun _ => rfl) ?_
      exact ⟨5, ⟨by omega, by omega⟩, (by first | exact ⟨gg, 0, hG, fun h => absurd h (by omega), by unfold sortV; rw [if_pos (by omega), if_pos (by omega)]⟩ | exact ⟨gg, 0, hG, fun h => absurd h (by omega), by unfold sortV; rw [if_pos (by omega), if_neg (by omega)]⟩ | exact ⟨gg, kk, hG, fun _ => hK, by unfold sortV; rw [if_neg (by omega), if_pos (by omega)]⟩ | exact ⟨gg, kk, hG, fun _ => hK, by unfold sortV; rw [if_neg (by omega), if_neg (by omega)]⟩), (by omega), rfl⟩
    · skip
      refine T_ld 15 (.int (i32 3)) rfl (fun _ => rfl) ?_
      refine T_goto 19 rfl (fun _ => rfl) ?_
      refine T_ret rfl (fun _ => rfl) ?_
      exact ⟨3, ⟨by omega, by omega⟩, (by first | exact ⟨gg, 0, hG, fun h => absurd h (by omega), by unfold sortV; rw [if_pos (by omega), if_pos (by omega)]⟩ | exact ⟨gg, 0, hG, fun h => absurd h (by omega), by unfold sortV; rw [if_pos (by omega), if_neg (by omega)]⟩ | exact ⟨gg, kk, hG, fun _ => hK, by unfold sortV; rw [if_neg (by omega), if_pos (by omega)]⟩ | exact ⟨gg, kk, hG, fun _ => hK, by unfold sortV; rw [if_neg (by omega), if_neg (by omega)]⟩), (by omega), rfl⟩
def Q_whichHere (m : mR) (c : Nat → Option am_C) (N : Nat) : ag_Re af_T → Prop := fun R => ∃ (r : Int), ((-2147483648) ≤ r ∧ r ≤ 2147483647) ∧ (∃ g k, isGH (m.2 4) (m.1 8) (m.1 9) g ∧ (g < 0 → isFH (m.2 4) (m.2 14) (m.2 15) (m.1 8) (m.1 9) (m.1 13) k) ∧ r = whichV (m.2 17) g k) ∧ R = (.inl (some (.int (i32 r))), (mhp (mO m [] []) c, N), 0, 0)
set_option maxHeartbeats 8000000 in
theorem c_whichHere (w : wX) (m : mR) (c : Nat → Option am_C) (N D : Nat) (hD : 3 ≤ D) (hT : Ty m) (p0 : 1 ≤ (m.1 9) ∧ (m.1 8) + (m.1 9) ≤ (m.1 6)) (p1 : ∀ k, (m.2 14) k + (m.2 15) k ≤ 4000) (p2 : ∀ g k, isGH (m.2 4) (m.1 8) (m.1 9) g → g < 0 → isFH (m.2 4) (m.2 14) (m.2 15) (m.1 8) (m.1 9) (m.1 13) k → 0 ≤ k) : TC w D 237 [.ref 189] (mhp m c, N) (Q_whichHere m c N) := by
  obtain ⟨D, rfl⟩ : ∃ k, D = k + 1 := ⟨D - 1, by omega⟩
  have f8 : 0 ≤ m.1 8 ∧ m.1 8 ≤ 4000 := hT.1 8
  have f13 : 0 ≤ m.1 13 ∧ m.1 13 ≤ 120 := hT.1 13
  have f6 : 0 ≤ m.1 6 ∧ m.1 6 ≤ 4000 := hT.1 6
  have f9 : 0 ≤ m.1 9 ∧ m.1 9 ≤ 4000 := hT.1 9
  refine Tc_of rfl ?_
  show TT w D pm_237 (0, [(0, .ref 189)], [], (mhp m c, N), 0, 0) (Q_whichHere m c N)
  rw [show (mhp m c, N) = (mhp (mO m [] []) c, N) from rfl]
  refine T_ld 1 (.ref 189) rfl (fun _ => rfl) ?_
  refine T_call 4 228 [.ref 189] [] rfl (fun _ => rfl) rfl (c_givenHere w (mO m [] []) c N D (by omega) hT (show 1 ≤ (m.1 9) ∧ (m.1 8) + (m.1 9) ≤ (m.1 6) by first | omega | (have h8 := hLx (by omega); omega))) (fun r1 k2 => ?_)
  obtain ⟨gg, g3, h4, h5, rfl⟩ := k2
  replace h4 : isGH (m.2 4) (m.1 8) (m.1 9) gg := h4
  replace h5 : -1 ≤ gg ∧ gg ≤ 4 := h5
  have hG := h4
  refine ⟨_, _, rfl, ?_⟩
  refine T_nf (st' := [.int (i32 gg)]) (l' := []) (a' := []) rfl rfl rfl rfl rfl ?_
  obtain ⟨g3a, g3b⟩ := g3
  refine T_sto 5 [(1, .int (i32 gg)), (0, .ref 189)] rfl (fun _ => rfl) ?_
  refine T_ld 6 (.int (i32 gg)) rfl (fun _ => rfl) ?_
  refine T_if 30 9 rfl rfl rfl (r32 (by omega) (by omega)) (fun (h6 : gg < 0) => ?_) (fun (h6 : ¬ (gg < 0)) => ?_)
  · skip
    refine T_gf 34 (.ref 197) rfl rfl rfl rfl rfl rfl ?_
    refine T_ld 35 (.ref 189) rfl (fun _ => rfl) ?_
    refine T_call 38 229 [.ref 189] [.ref 197] rfl (fun _ => rfl) rfl (c_findHere w (mO m [] []) c N D (by omega) hT (show 1 ≤ (m.1 9) ∧ (m.1 8) + (m.1 9) ≤ (m.1 6) by first | omega | (have h8 := hLx (by omega); omega)) (show ∀ k, (m.2 14) k + (m.2 15) k ≤ 4000 by exact p1)) (fun r7 k8 => ?_)
    obtain ⟨kk, g9, h10, h11, rfl⟩ := k8
    replace h10 : isFH (m.2 4) (m.2 14) (m.2 15) (m.1 8) (m.1 9) (m.1 13) kk := h10
    replace h11 : -1 ≤ kk ∧ kk < (m.1 13) := h11
    have hK := h10
    refine ⟨_, _, rfl, ?_⟩
    refine T_nf (st' := [.int (i32 kk), .ref 197]) (l' := []) (a' := []) rfl rfl rfl rfl rfl ?_
    obtain ⟨g9a, g9b⟩ := g9
    have hp2 := p2 gg kk hG (by omega) hK
    refine T_iald 39 17 (m.2 17) rfl rfl rfl (by omega) (show kk < (120 : Int) by omega) rfl ?_
    have e12 : 0 ≤ m.2 17 kk ∧ m.2 17 kk ≤ 15 := hT.2.1 17 kk
    refine T_ret rfl (fun _ => rfl) ?_
    exact ⟨(m.2 17) kk, ⟨by omega, by omega⟩, (by first | exact ⟨gg, 0, hG, fun h => absurd h (by omega), by unfold whichV; rw [if_pos (by omega), if_pos (by omega)]⟩ | exact ⟨gg, 0, hG, fun h => absurd h (by omega), by unfold whichV; rw [if_pos (by omega), if_neg (by omega), if_pos (by omega)]⟩ | exact ⟨gg, 0, hG, fun h => absurd h (by omega), by unfold whichV; rw [if_pos (by omega), if_neg (by omega), if_neg (by omega)]⟩ | exact ⟨gg, kk, hG, fun _ => hK, by unfold whichV; rw [if_neg (by omega)]⟩), rfl⟩
  · skip
    refine T_ld 10 (.int (i32 gg)) rfl (fun _ => rfl) ?_
    refine T_ld 11 (.int (i32 3)) rfl (fun _ => rfl) ?_
    refine T_icmp 18 14 rfl rfl rfl (r32 (by omega) (by omega)) ⟨by decide, by decide⟩ (fun (h13 : (3 : Int) ≤ gg) => ?_) (fun (h13 : ¬ ((3 : Int) ≤ gg)) => ?_)
    · skip
      refine T_ld 19 (.int (i32 gg)) rfl (fun _ => rfl) ?_
      refine T_ld 20 (.int (i32 3)) rfl (fun _ => rfl) ?_
      refine T_icmp 27 23 rfl rfl rfl (r32 (by omega) (by omega)) ⟨by decide, by decide⟩ (fun (h14 : gg ≠ 3) => ?_) (fun (h14 : ¬ (gg ≠ 3)) => ?_)
      · skip
        refine T_ld 29 (.int (i32 (-2))) rfl (fun _ => rfl) ?_
        refine T_ret rfl (fun _ => rfl) ?_
        exact ⟨(-2), ⟨by omega, by omega⟩, (by first | exact ⟨gg, 0, hG, fun h => absurd h (by omega), by unfold whichV; rw [if_pos (by omega), if_pos (by omega)]⟩ | exact ⟨gg, 0, hG, fun h => absurd h (by omega), by unfold whichV; rw [if_pos (by omega), if_neg (by omega), if_pos (by omega)]⟩ | exact ⟨gg, 0, hG, fun h => absurd h (by omega), by unfold whichV; rw [if_pos (by omega), if_neg (by omega), if_neg (by omega)]⟩ | exact ⟨gg, kk, hG, fun _ => hK, by unfold whichV; rw [if_neg (by omega)]⟩), rfl⟩
      · skip
        refine T_ld 24 (.int (i32 (-1))) rfl (fun _ => rfl) ?_
        refine T_goto 29 rfl (fun _ => rfl) ?_
        refine T_ret rfl (fun _ => rfl) ?_
        exact ⟨(-1), ⟨by omega, by omega⟩, (by first | exact ⟨gg, 0, hG, fun h => absurd h (by omega), by unfold whichV; rw [if_pos (by omega), if_pos (by omega)]⟩ | exact ⟨gg, 0, hG, fun h => absurd h (by omega), by unfold whichV; rw [if_pos (by omega), if_neg (by omega), if_pos (by omega)]⟩ | exact ⟨gg, 0, hG, fun h => absurd h (by omega), by unfold whichV; rw [if_pos (by omega), if_neg (by omega), if_neg (by omega)]⟩ | exact ⟨gg, kk, hG, fun _ => hK, by unfold whichV; rw [if_neg (by omega)]⟩), rfl⟩
    · skip
      refine T_ld 15 (.int (i32 gg)) rfl (fun _ => rfl) ?_
      refine T_goto 29 rfl (fun _ => rfl) ?_
      refine T_ret rfl (fun _ => rfl) ?_
      exact ⟨gg, ⟨by omega, by omega⟩, (by first | exact ⟨gg, 0, hG, fun h => absurd h (by omega), by unfold whichV; rw [if_pos (by omega), if_pos (by omega)]⟩ | exact ⟨gg, 0, hG, fun h => absurd h (by omega), by unfold whichV; rw [if_pos (by omega), if_neg (by omega), if_pos (by omega)]⟩ | exact ⟨gg, 0, hG, fun h => absurd h (by omega), by unfold whichV; rw [if_pos (by omega), if_neg (by omega), if_neg (by omega)]⟩ | exact ⟨gg, kk, hG, fun _ => hK, by unfold whichV; rw [if_neg (by omega)]⟩), rfl⟩
def Q_enter (m : mR) (c : Nat → Option am_C) (N : Nat) (a : Int) (b : Int) : ag_Re af_T → Prop := fun R => ∃ (y13 : Int) (F14 : Int → Int) (F15 : Int → Int) (F16 : Int → Int) (F17 : Int → Int), (0 ≤ y13 ∧ y13 ≤ 120) ∧ (∀ j, 0 ≤ F14 j ∧ F14 j ≤ 4000) ∧ (∀ j, 0 ≤ F15 j ∧ F15 j ≤ 4000) ∧ (∀ j, 0 ≤ F16 j ∧ F16 j ≤ 7) ∧ (∀ j, 0 ≤ F17 j ∧ F17 j ≤ 15) ∧ (y13 = (m.1 13) + 1) ∧ (F14 = upI (m.2 14) (m.1 13) (m.1 8)) ∧ (F15 = upI (m.2 15) (m.1 13) (m.1 9)) ∧ (F16 = upI (m.2 16) (m.1 13) a) ∧ (F17 = upI (m.2 17) (m.1 13) b) ∧ R = (.inl (none), (mhp (mO m [(13, y13)] [(14, F14), (15, F15), (16, F16), (17, F17)]) c, N), 0, 0)
set_option maxHeartbeats 8000000 in
theorem c_enter (w : wX) (m : mR) (c : Nat → Option am_C) (N D : Nat) (hD : 1 ≤ D) (hT : Ty m) (a : Int) (b : Int) (qa : R32 a) (qb : R32 b) (p0 : (m.1 13) ≤ 119) (p1 : 1 ≤ a ∧ a ≤ 7) (p2 : 0 ≤ b ∧ b ≤ 15) : TC w D 231 [.ref 189, .int (i32 a), .int (i32 b)] (mhp m c, N) (Q_enter m c N a b) := by
  obtain ⟨D, rfl⟩ : ∃ k, D = k + 1 := ⟨D - 1, by omega⟩
  obtain ⟨qaa, qab⟩ := id qa
  obtain ⟨qba, qbb⟩ := id qb
  have f13 : 0 ≤ m.1 13 ∧ m.1 13 ≤ 120 := hT.1 13
  have f8 : 0 ≤ m.1 8 ∧ m.1 8 ≤ 4000 := hT.1 8
  have f9 : 0 ≤ m.1 9 ∧ m.1 9 ≤ 4000 := hT.1 9
  refine Tc_of rfl ?_
  show TT w D pm_231 (0, [(0, .ref 189), (1, .int (i32 a)), (2, .int (i32 b))], [], (mhp m c, N), 0, 0) (Q_enter m c N a b)
  rw [show (mhp m c, N) = (mhp (mO m [(13, (m.1 13))] [(14, (m.2 14)), (15, (m.2 15)), (16, (m.2 16)), (17, (m.2 17))]) c, N) from congrArg (fun M => (mhp M c, N)) (mO_pad m [13] [14, 15, 16, 17])]
  refine T_gf 4 (.ref 194) rfl rfl rfl rfl rfl rfl ?_
  refine T_gf 8 (.int (i32 (m.1 13))) rfl rfl rfl rfl rfl rfl ?_
  refine T_gf 12 (.int (i32 (m.1 8))) rfl rfl rfl rfl rfl rfl ?_
  have G1 : ∀ j, 0 ≤ (upI (m.2 14) (m.1 13) (m.1 8)) j ∧ (upI (m.2 14) (m.1 13) (m.1 8)) j ≤ 4000 := upI_rg (hT.2.1 14) ⟨by omega, by omega⟩
  refine T_iast (a' := [(14, upI (m.2 14) (m.1 13) (m.1 8)), (15, (m.2 15)), (16, (m.2 16)), (17, (m.2 17))]) 13 14 (m.2 14) rfl rfl rfl (by omega) (show (m.1 13) < (120 : Int) by omega) rfl rfl ?_
  refine T_gf 17 (.ref 195) rfl rfl rfl rfl rfl rfl ?_
  refine T_gf 21 (.int (i32 (m.1 13))) rfl rfl rfl rfl rfl rfl ?_
  refine T_gf 25 (.int (i32 (m.1 9))) rfl rfl rfl rfl rfl rfl ?_
  have G2 : ∀ j, 0 ≤ (upI (m.2 15) (m.1 13) (m.1 9)) j ∧ (upI (m.2 15) (m.1 13) (m.1 9)) j ≤ 4000 := upI_rg (hT.2.1 15) ⟨by omega, by omega⟩
  refine T_iast (a' := [(14, upI (m.2 14) (m.1 13) (m.1 8)), (15, upI (m.2 15) (m.1 13) (m.1 9)), (16, (m.2 16)), (17, (m.2 17))]) 26 15 (m.2 15) rfl rfl rfl (by omega) (show (m.1 13) < (120 : Int) by omega) rfl rfl ?_
  refine T_gf 30 (.ref 196) rfl rfl rfl rfl rfl rfl ?_
  refine T_gf 34 (.int (i32 (m.1 13))) rfl rfl rfl rfl rfl rfl ?_
  refine T_ld 35 (.int (i32 a)) rfl (fun _ => rfl) ?_
  have G3 : ∀ j, 0 ≤ (upI (m.2 16) (m.1 13) a) j ∧ (upI (m.2 16) (m.1 13) a) j ≤ 7 := upI_rg (hT.2.1 16) ⟨by omega, by omega⟩
  refine T_iast (a' := [(14, upI (m.2 14) (m.1 13) (m.1 8)), (15, upI (m.2 15) (m.1 13) (m.1 9)), (16, upI (m.2 16) (m.1 13) a), (17, (m.2 17))]) 36 16 (m.2 16) rfl rfl rfl (by omega) (show (m.1 13) < (120 : Int) by omega) rfl rfl ?_
  refine T_gf 40 (.ref 197) rfl rfl rfl rfl rfl rfl ?_
  refine T_gf 44 (.int (i32 (m.1 13))) rfl rfl rfl rfl rfl rfl ?_
  refine T_ld 45 (.int (i32 b)) rfl (fun _ => rfl) ?_
  have G4 : ∀ j, 0 ≤ (upI (m.2 17) (m.1 13) b) j ∧ (upI (m.2 17) (m.1 13) b) j ≤ 15 := upI_rg (hT.2.1 17) ⟨by omega, by omega⟩
  refine T_iast (a' := [(14, upI (m.2 14) (m.1 13) (m.1 8)), (15, upI (m.2 15) (m.1 13) (m.1 9)), (16, upI (m.2 16) (m.1 13) a), (17, upI (m.2 17) (m.1 13) b)]) 46 17 (m.2 17) rfl rfl rfl (by omega) (show (m.1 13) < (120 : Int) by omega) rfl rfl ?_
  refine T_ld 47 (.ref 189) rfl (fun _ => rfl) ?_
  refine T_ld 48 (.ref 189) rfl (fun _ => rfl) ?_
  refine T_gf1 51 (.int (i32 (m.1 13))) rfl rfl rfl rfl ?_
  refine T_ld 52 (.int (i32 1)) rfl (fun _ => rfl) ?_
  refine T_iadd 53 rfl rfl ?_
  refine T_pf (l' := [(13, (m.1 13) + 1)]) 56 ((m.1 13) + 1) rfl rfl rfl rfl rfl rfl ?_
  have g5 : 0 ≤ (m.1 13) + 1 ∧ (m.1 13) + 1 ≤ 120 := ⟨by omega, by omega⟩
  refine T_ret rfl (fun _ => rfl) ?_
  exact ⟨(m.1 13) + 1, upI (m.2 14) (m.1 13) (m.1 8), upI (m.2 15) (m.1 13) (m.1 9), upI (m.2 16) (m.1 13) a, upI (m.2 17) (m.1 13) b, g5, G1, G2, G3, G4, (by omega), (by rfl), (by rfl), (by rfl), (by rfl), rfl⟩
def Q_newName (m : mR) (c : Nat → Option am_C) (N : Nat) (a : Int) (b : Int) (cc : Int) : ag_Re af_T → Prop := fun R => ∃ (y7 : Int) (y8 : Int) (y9 : Int) (y10 : Int) (y11 : Int) (y12 : Int) (y13 : Int) (F14 : Int → Int) (F15 : Int → Int) (F16 : Int → Int) (F17 : Int → Int) (r : Int), (0 ≤ y7 ∧ y7 ≤ 330) ∧ (0 ≤ y8 ∧ y8 ≤ 4000) ∧ (0 ≤ y9 ∧ y9 ≤ 4000) ∧ (0 ≤ y10 ∧ y10 ≤ 8) ∧ ((-1) ≤ y11 ∧ y11 ≤ 4000) ∧ ((-9223372036854775808) ≤ y12 ∧ y12 ≤ 9223372036854775807) ∧ (0 ≤ y13 ∧ y13 ≤ 120) ∧ (∀ j, 0 ≤ F14 j ∧ F14 j ≤ 4000) ∧ (∀ j, 0 ≤ F15 j ∧ F15 j ≤ 4000) ∧ (∀ j, 0 ≤ F16 j ∧ F16 j ≤ 7) ∧ (∀ j, 0 ≤ F17 j ∧ F17 j ≤ 15) ∧ (0 ≤ r ∧ r ≤ 1) ∧ (LxP y7 y8 y9 (m.1 6) y10) ∧ ((m.1 8) ≤ y8) ∧ (y10 = 0 → (m.1 10) = 0 ∧ (m.1 8) + (m.1 9) ≤ y8) ∧ (y10 = 0 → r = 1 ∧ (m.1 7) = 1) ∧ (r = 1 → b ≠ cc) ∧ (∀ k, F14 k + F15 k ≤ 4000) ∧ ((r = 1 ∧ (m.1 10) = 0 ∧ y13 = (m.1 13) + 1 ∧ F14 = upI (m.2 14) (m.1 13) (m.1 8) ∧ F15 = upI (m.2 15) (m.1 13) (m.1 9) ∧ F16 = upI (m.2 16) (m.1 13) a ∧ F17 = upI (m.2 17) (m.1 13) b) ∨ (r = 0 ∧ 0 < y10 ∧ y13 = (m.1 13) ∧ F14 = (m.2 14) ∧ F15 = (m.2 15) ∧ F16 = (m.2 16) ∧ F17 = (m.2 17))) ∧ R = (.inl (some (.int (i32 r))), (mhp (mO m [(7, y7), (8, y8), (9, y9), (10, y10), (11, y11), (12, y12), (13, y13)] [(14, F14), (15, F15), (16, F16), (17, F17)]) c, N), 0, 0)
set_option maxHeartbeats 8000000 in
theorem c_newName (w : wX) (m : mR) (c : Nat → Option am_C) (N D : Nat) (hD : 6 ≤ D) (hT : Ty m) (a : Int) (b : Int) (cc : Int) (qa : R32 a) (qb : R32 b) (qcc : R32 cc) (hLx0 : LxP (m.1 7) (m.1 8) (m.1 9) (m.1 6) (m.1 10)) (p1 : ∀ k, (m.2 14) k + (m.2 15) k ≤ 4000) (p2 : (m.1 10) = 0 → (m.1 13) ≤ 119) (p3 : 1 ≤ a ∧ a ≤ 7) (p4 : 0 ≤ b ∧ (b ≠ cc → b ≤ 15)) : TC w D 225 [.ref 189, .int (i32 a), .int (i32 b), .int (i32 cc)] (mhp m c, N) (Q_newName m c N a b cc) := by
  obtain ⟨D, rfl⟩ : ∃ k, D = k + 1 := ⟨D - 1, by omega⟩
  obtain ⟨qaa, qab⟩ := id qa
  obtain ⟨qba, qbb⟩ := id qb
  obtain ⟨qcca, qccb⟩ := id qcc
  have hLx := hLx0
  have f7 : 0 ≤ m.1 7 ∧ m.1 7 ≤ 330 := hT.1 7
  have f8 : 0 ≤ m.1 8 ∧ m.1 8 ≤ 4000 := hT.1 8
  have f9 : 0 ≤ m.1 9 ∧ m.1 9 ≤ 4000 := hT.1 9
  have f10 : 0 ≤ m.1 10 ∧ m.1 10 ≤ 8 := hT.1 10
  have f11 : (-1) ≤ m.1 11 ∧ m.1 11 ≤ 4000 := hT.1 11
  have f12 : (-9223372036854775808) ≤ m.1 12 ∧ m.1 12 ≤ 9223372036854775807 := hT.1 12
  have f13 : 0 ≤ m.1 13 ∧ m.1 13 ≤ 120 := hT.1 13
  have f6 : 0 ≤ m.1 6 ∧ m.1 6 ≤ 4000 := hT.1 6
  refine Tc_of rfl ?_
  show TT w D pm_225 (0, [(0, .ref 189), (1, .int (i32 a)), (2, .int (i32 b)), (3, .int (i32 cc))], [], (mhp m c, N), 0, 0) (Q_newName m c N a b cc)
  rw [show (mhp m c, N) = (mhp (mO m [(7, (m.1 7)), (8, (m.1 8)), (9, (m.1 9)), (10, (m.1 10)), (11, (m.1 11)), (12, (m.1 12)), (13, (m.1 13))] [(14, (m.2 14)), (15, (m.2 15)), (16, (m.2 16)), (17, (m.2 17))]) c, N) from congrArg (fun M => (mhp M c, N)) (mO_pad m [7, 8, 9, 10, 11, 12, 13] [14, 15, 16, 17])]
  refine T_gf 4 (.int (i32 (m.1 10))) rfl rfl rfl rfl rfl rfl ?_
  refine T_if 9 7 rfl rfl rfl (r32 (by omega) (by omega)) (fun (h1 : (m.1 10) ≤ 0) => ?_) (fun (h1 : ¬ ((m.1 10) ≤ 0)) => ?_)
  · skip
    refine T_gf 13 (.int (i32 (m.1 7))) rfl rfl rfl rfl rfl rfl ?_
    refine T_ld 14 (.int (i32 1)) rfl (fun _ => rfl) ?_
    refine T_icmp 24 17 rfl rfl rfl (r32 (by omega) (by omega)) ⟨by decide, by decide⟩ (fun (h2 : (m.1 7) = 1) => ?_) (fun (h2 : ¬ ((m.1 7) = 1)) => ?_)
    · skip
      refine T_ld 25 (.int (i32 b)) rfl (fun _ => rfl) ?_
      refine T_ld 26 (.int (i32 cc)) rfl (fun _ => rfl) ?_
      refine T_icmp 41 29 rfl rfl rfl (r32 (by omega) (by omega)) (r32 (by omega) (by omega)) (fun (h3 : b ≠ cc) => ?_) (fun (h3 : ¬ (b ≠ cc)) => ?_)
      · skip
        refine T_ld 42 (.ref 189) rfl (fun _ => rfl) ?_
        refine T_call 45 227 [.ref 189] [] rfl (fun _ => rfl) rfl (c_sortHere w (mO m [(7, (m.1 7)), (8, (m.1 8)), (9, (m.1 9)), (10, (m.1 10)), (11, (m.1 11)), (12, (m.1 12)), (13, (m.1 13))] [(14, (m.2 14)), (15, (m.2 15)), (16, (m.2 16)), (17, (m.2 17))]) c N D (by omega) (Ty_mO hT rfl rfl ⟨f7, f8, f9, f10, f11, f12, f13, trivial⟩ ⟨(hT.2.1 14), (hT.2.1 15), (hT.2.1 16), (hT.2.1 17), trivial⟩) (show 1 ≤ (m.1 9) ∧ (m.1 8) + (m.1 9) ≤ (m.1 6) by first | omega | (have h8 := hLx (by omega); omega)) (show ∀ k, (m.2 14) k + (m.2 15) k ≤ 4000 by first | exact hNM | exact p1)) (fun r4 k5 => ?_)
        obtain ⟨so, g6, h7, h8, rfl⟩ := k5
        replace h7 : ∃ g k, isGH (m.2 4) (m.1 8) (m.1 9) g ∧ (g < 0 → isFH (m.2 4) (m.2 14) (m.2 15) (m.1 8) (m.1 9) (m.1 13) k) ∧ so = sortV (m.2 16) g k := h7
        replace h8 : -1 ≤ so ∧ so ≤ 7 := h8
        have hSo := h7
        refine ⟨_, _, rfl, ?_⟩
        refine T_nf (st' := [.int (i32 so)]) (l' := [(7, (m.1 7)), (8, (m.1 8)), (9, (m.1 9)), (10, (m.1 10)), (11, (m.1 11)), (12, (m.1 12)), (13, (m.1 13))]) (a' := [(14, (m.2 14)), (15, (m.2 15)), (16, (m.2 16)), (17, (m.2 17))]) rfl rfl rfl rfl rfl ?_
        obtain ⟨g6a, g6b⟩ := g6
        refine T_ld 46 (.int (i32 (-1))) rfl (fun _ => rfl) ?_
        refine T_icmp 58 49 rfl rfl rfl (r32 (by omega) (by omega)) ⟨by decide, by decide⟩ (fun (h9 : so = (-1)) => ?_) (fun (h9 : ¬ (so = (-1))) => ?_)
        · skip
          refine T_gf 62 (.int (i32 (m.1 10))) rfl rfl rfl rfl rfl rfl ?_
          refine T_if 67 65 rfl rfl rfl (r32 (by omega) (by omega)) (fun (h10 : (m.1 10) ≤ 0) => ?_) (fun (h10 : ¬ ((m.1 10) ≤ 0)) => by exfalso; omega)
          refine T_ld 68 (.ref 189) rfl (fun _ => rfl) ?_
          refine T_ld 69 (.int (i32 a)) rfl (fun _ => rfl) ?_
          refine T_ld 70 (.int (i32 b)) rfl (fun _ => rfl) ?_
          refine T_call 73 231 [.ref 189, .int (i32 a), .int (i32 b)] [] rfl (fun _ => rfl) rfl (c_enter w (mO m [(7, (m.1 7)), (8, (m.1 8)), (9, (m.1 9)), (10, (m.1 10)), (11, (m.1 11)), (12, (m.1 12)), (13, (m.1 13))] [(14, (m.2 14)), (15, (m.2 15)), (16, (m.2 16)), (17, (m.2 17))]) c N D (by omega) (Ty_mO hT rfl rfl ⟨f7, f8, f9, f10, f11, f12, f13, trivial⟩ ⟨(hT.2.1 14), (hT.2.1 15), (hT.2.1 16), (hT.2.1 17), trivial⟩) a b (r32 (by omega) (by omega)) (r32 (by omega) (by omega)) (show (m.1 13) ≤ 119 by omega) (show 1 ≤ a ∧ a ≤ 7 by omega) (show 0 ≤ b ∧ b ≤ 15 by omega)) (fun r11 k12 => ?_)
          obtain ⟨y13, F15, F17, F19, F21, g14, G16, G18, G20, G22, h23, h24, h25, h26, h27, rfl⟩ := k12
          replace h23 : y13 = (m.1 13) + 1 := h23
          replace h24 : F15 = upI (m.2 14) (m.1 13) (m.1 8) := h24
          replace h25 : F17 = upI (m.2 15) (m.1 13) (m.1 9) := h25
          replace h26 : F19 = upI (m.2 16) (m.1 13) a := h26
          replace h27 : F21 = upI (m.2 17) (m.1 13) b := h27
          have hE0 := h23
          have hE1 := h24
          have hE2 := h25
          have hE3 := h26
          have hE4 := h27
          refine ⟨_, _, rfl, ?_⟩
          refine T_nf (st' := []) (l' := [(7, (m.1 7)), (8, (m.1 8)), (9, (m.1 9)), (10, (m.1 10)), (11, (m.1 11)), (12, (m.1 12)), (13, y13)]) (a' := [(14, F15), (15, F17), (16, F19), (17, F21)]) rfl rfl rfl rfl rfl ?_
          refine T_ld 74 (.ref 189) rfl (fun _ => rfl) ?_
          refine T_call 77 212 [.ref 189] [] rfl (fun _ => rfl) rfl (c_next w (mO m [(7, (m.1 7)), (8, (m.1 8)), (9, (m.1 9)), (10, (m.1 10)), (11, (m.1 11)), (12, (m.1 12)), (13, y13)] [(14, F15), (15, F17), (16, F19), (17, F21)]) c N D (by omega) (Ty_mO hT rfl rfl ⟨f7, f8, f9, f10, f11, f12, g14, trivial⟩ ⟨G16, G18, G20, G22, trivial⟩) (show (m.1 10) = 0 → (m.1 8) + (m.1 9) ≤ (m.1 6) by first | omega | (intro h9; have h8 := hLx h9; omega))) (fun r28 k29 => ?_)
          obtain ⟨y30, y32, y34, y36, y38, y40, g31, g33, g35, g37, g39, g41, h42, h43, h44, h45, rfl⟩ := k29
          replace h42 : LxP y30 y32 y34 (m.1 6) y36 := h42
          replace h43 : y36 = 0 → (m.1 10) = 0 := h43
          replace h44 : (m.1 8) ≤ y32 := h44
          replace h45 : y36 = 0 → (m.1 8) + (m.1 9) ≤ y32 := h45
          have hLx := h42
          refine ⟨_, _, rfl, ?_⟩
          refine T_nf (st' := []) (l' := [(7, y30), (8, y32), (9, y34), (10, y36), (11, y38), (12, y40), (13, y13)]) (a' := [(14, F15), (15, F17), (16, F19), (17, F21)]) rfl rfl rfl rfl rfl ?_
          refine T_ld 78 (.int (i32 1)) rfl (fun _ => rfl) ?_
          refine T_ret rfl (fun _ => rfl) ?_
          exact ⟨y30, y32, y34, y36, y38, y40, y13, F15, F17, F19, F21, 1, g31, g33, g35, g37, g39, g41, g14, G16, G18, G20, G22, ⟨by omega, by omega⟩, (by first | exact hLx | (intro h9; first | omega | (have h8 := hLx (by omega); omega))), (by omega), (by omega), (by omega), (by omega), (by first | exact p1 | (intro k; rw [hE1, hE2]; have := p1 k; have h7 := hLx0 (by omega); unfold upI; split <;> omega)), (by first | exact Or.inl ⟨rfl, by omega, by omega, hE1, hE2, hE3, hE4⟩ | exact Or.inr ⟨rfl, by omega, rfl, rfl, rfl, rfl, rfl⟩), rfl⟩
        · skip
          refine T_ld 50 (.ref 189) rfl (fun _ => rfl) ?_
          refine T_ld 51 (.int (i32 3)) rfl (fun _ => rfl) ?_
          refine T_gf 55 (.int (i32 (m.1 8))) rfl rfl rfl rfl rfl rfl ?_
          refine T_call 58 222 [.ref 189, .int (i32 3), .int (i32 (m.1 8))] [] rfl (fun _ => rfl) rfl (c_wrong w (mO m [(7, (m.1 7)), (8, (m.1 8)), (9, (m.1 9)), (10, (m.1 10)), (11, (m.1 11)), (12, (m.1 12)), (13, (m.1 13))] [(14, (m.2 14)), (15, (m.2 15)), (16, (m.2 16)), (17, (m.2 17))]) c N D (by omega) (Ty_mO hT rfl rfl ⟨f7, f8, f9, f10, f11, f12, f13, trivial⟩ ⟨(hT.2.1 14), (hT.2.1 15), (hT.2.1 16), (hT.2.1 17), trivial⟩) 3 (m.1 8) ⟨by decide, by decide⟩ (r32 (by omega) (by omega)) (show 1 ≤ 3 ∧ 3 ≤ 8 by omega) (show 0 ≤ (m.1 8) ∧ (m.1 8) ≤ 4000 by omega)) (fun r46 k47 => ?_)
          obtain ⟨y48, y50, g49, g51, h52, rfl⟩ := k47
          replace h52 : (0 < (m.1 10) → y48 = (m.1 10) ∧ y50 = (m.1 11)) ∧ ((m.1 10) ≤ 0 → y48 = 3 ∧ y50 = (m.1 8)) := h52
          refine ⟨_, _, rfl, ?_⟩
          refine T_nf (st' := []) (l' := [(7, (m.1 7)), (8, (m.1 8)), (9, (m.1 9)), (10, y48), (11, y50), (12, (m.1 12)), (13, (m.1 13))]) (a' := [(14, (m.2 14)), (15, (m.2 15)), (16, (m.2 16)), (17, (m.2 17))]) rfl rfl rfl rfl rfl ?_
          have u53 : 1 ≤ y48 ∧ y48 ≤ 8 := by omega
          refine T_gf 62 (.int (i32 y48)) rfl rfl rfl rfl rfl rfl ?_
          refine T_if 67 65 rfl rfl rfl (r32 (by omega) (by omega)) (fun (h54 : y48 ≤ 0) => by exfalso; omega) (fun (h54 : ¬ (y48 ≤ 0)) => ?_)
          refine T_ld 66 (.int (i32 0)) rfl (fun _ => rfl) ?_
          refine T_ret rfl (fun _ => rfl) ?_
          exact ⟨(m.1 7), (m.1 8), (m.1 9), y48, y50, (m.1 12), (m.1 13), (m.2 14), (m.2 15), (m.2 16), (m.2 17), 0, f7, f8, f9, g49, g51, f12, f13, (hT.2.1 14), (hT.2.1 15), (hT.2.1 16), (hT.2.1 17), ⟨by omega, by omega⟩, (by first | exact hLx | (intro h9; first | omega | (have h8 := hLx (by omega); omega))), (by omega), (by omega), (by omega), (by omega), (by first | exact p1 | (intro k; rw [hE1, hE2]; have := p1 k; have h7 := hLx0 (by omega); unfold upI; split <;> omega)), (by first | exact Or.inl ⟨rfl, by omega, by omega, hE1, hE2, hE3, hE4⟩ | exact Or.inr ⟨rfl, by omega, rfl, rfl, rfl, rfl, rfl⟩), rfl⟩
      · skip
        refine T_ld 30 (.ref 189) rfl (fun _ => rfl) ?_
        refine T_ld 31 (.int (i32 4)) rfl (fun _ => rfl) ?_
        refine T_gf 35 (.int (i32 (m.1 8))) rfl rfl rfl rfl rfl rfl ?_
        refine T_call 38 222 [.ref 189, .int (i32 4), .int (i32 (m.1 8))] [] rfl (fun _ => rfl) rfl (c_wrong w (mO m [(7, (m.1 7)), (8, (m.1 8)), (9, (m.1 9)), (10, (m.1 10)), (11, (m.1 11)), (12, (m.1 12)), (13, (m.1 13))] [(14, (m.2 14)), (15, (m.2 15)), (16, (m.2 16)), (17, (m.2 17))]) c N D (by omega) (Ty_mO hT rfl rfl ⟨f7, f8, f9, f10, f11, f12, f13, trivial⟩ ⟨(hT.2.1 14), (hT.2.1 15), (hT.2.1 16), (hT.2.1 17), trivial⟩) 4 (m.1 8) ⟨by decide, by decide⟩ (r32 (by omega) (by omega)) (show 1 ≤ 4 ∧ 4 ≤ 8 by omega) (show 0 ≤ (m.1 8) ∧ (m.1 8) ≤ 4000 by omega)) (fun r55 k56 => ?_)
        obtain ⟨y57, y59, g58, g60, h61, rfl⟩ := k56
        replace h61 : (0 < (m.1 10) → y57 = (m.1 10) ∧ y59 = (m.1 11)) ∧ ((m.1 10) ≤ 0 → y57 = 4 ∧ y59 = (m.1 8)) := h61
        refine ⟨_, _, rfl, ?_⟩
        refine T_nf (st' := []) (l' := [(7, (m.1 7)), (8, (m.1 8)), (9, (m.1 9)), (10, y57), (11, y59), (12, (m.1 12)), (13, (m.1 13))]) (a' := [(14, (m.2 14)), (15, (m.2 15)), (16, (m.2 16)), (17, (m.2 17))]) rfl rfl rfl rfl rfl ?_
        have u62 : 1 ≤ y57 ∧ y57 ≤ 8 := by omega
        refine T_goto 58 rfl (fun _ => rfl) ?_
        refine T_gf 62 (.int (i32 y57)) rfl rfl rfl rfl rfl rfl ?_
        refine T_if 67 65 rfl rfl rfl (r32 (by omega) (by omega)) (fun (h63 : y57 ≤ 0) => by exfalso; omega) (fun (h63 : ¬ (y57 ≤ 0)) => ?_)
        refine T_ld 66 (.int (i32 0)) rfl (fun _ => rfl) ?_
        refine T_ret rfl (fun _ => rfl) ?_
        exact ⟨(m.1 7), (m.1 8), (m.1 9), y57, y59, (m.1 12), (m.1 13), (m.2 14), (m.2 15), (m.2 16), (m.2 17), 0, f7, f8, f9, g58, g60, f12, f13, (hT.2.1 14), (hT.2.1 15), (hT.2.1 16), (hT.2.1 17), ⟨by omega, by omega⟩, (by first | exact hLx | (intro h9; first | omega | (have h8 := hLx (by omega); omega))), (by omega), (by omega), (by omega), (by omega), (by first | exact p1 | (intro k; rw [hE1, hE2]; have := p1 k; have h7 := hLx0 (by omega); unfold upI; split <;> omega)), (by first | exact Or.inl ⟨rfl, by omega, by omega, hE1, hE2, hE3, hE4⟩ | exact Or.inr ⟨rfl, by omega, rfl, rfl, rfl, rfl, rfl⟩), rfl⟩
    · skip
      refine T_ld 18 (.ref 189) rfl (fun _ => rfl) ?_
      refine T_call 21 226 [.ref 189] [] rfl (fun _ => rfl) rfl (c_bad w (mO m [(7, (m.1 7)), (8, (m.1 8)), (9, (m.1 9)), (10, (m.1 10)), (11, (m.1 11)), (12, (m.1 12)), (13, (m.1 13))] [(14, (m.2 14)), (15, (m.2 15)), (16, (m.2 16)), (17, (m.2 17))]) c N D (by omega) (Ty_mO hT rfl rfl ⟨f7, f8, f9, f10, f11, f12, f13, trivial⟩ ⟨(hT.2.1 14), (hT.2.1 15), (hT.2.1 16), (hT.2.1 17), trivial⟩) ) (fun r64 k65 => ?_)
      obtain ⟨y66, y68, g67, g69, h70, rfl⟩ := k65
      replace h70 : (0 < (m.1 10) → y66 = (m.1 10) ∧ y68 = (m.1 11)) ∧ ((m.1 10) ≤ 0 → y66 = 1 ∧ y68 = (m.1 8)) := h70
      refine ⟨_, _, rfl, ?_⟩
      refine T_nf (st' := []) (l' := [(7, (m.1 7)), (8, (m.1 8)), (9, (m.1 9)), (10, y66), (11, y68), (12, (m.1 12)), (13, (m.1 13))]) (a' := [(14, (m.2 14)), (15, (m.2 15)), (16, (m.2 16)), (17, (m.2 17))]) rfl rfl rfl rfl rfl ?_
      have u71 : 1 ≤ y66 ∧ y66 ≤ 8 := by omega
      refine T_goto 58 rfl (fun _ => rfl) ?_
      refine T_gf 62 (.int (i32 y66)) rfl rfl rfl rfl rfl rfl ?_
      refine T_if 67 65 rfl rfl rfl (r32 (by omega) (by omega)) (fun (h72 : y66 ≤ 0) => by exfalso; omega) (fun (h72 : ¬ (y66 ≤ 0)) => ?_)
      refine T_ld 66 (.int (i32 0)) rfl (fun _ => rfl) ?_
      refine T_ret rfl (fun _ => rfl) ?_
      exact ⟨(m.1 7), (m.1 8), (m.1 9), y66, y68, (m.1 12), (m.1 13), (m.2 14), (m.2 15), (m.2 16), (m.2 17), 0, f7, f8, f9, g67, g69, f12, f13, (hT.2.1 14), (hT.2.1 15), (hT.2.1 16), (hT.2.1 17), ⟨by omega, by omega⟩, (by first | exact hLx | (intro h9; first | omega | (have h8 := hLx (by omega); omega))), (by omega), (by omega), (by omega), (by omega), (by first | exact p1 | (intro k; rw [hE1, hE2]; have := p1 k; have h7 := hLx0 (by omega); unfold upI; split <;> omega)), (by first | exact Or.inl ⟨rfl, by omega, by omega, hE1, hE2, hE3, hE4⟩ | exact Or.inr ⟨rfl, by omega, rfl, rfl, rfl, rfl, rfl⟩), rfl⟩
  · skip
    refine T_ld 8 (.int (i32 0)) rfl (fun _ => rfl) ?_
    refine T_ret rfl (fun _ => rfl) ?_
    exact ⟨(m.1 7), (m.1 8), (m.1 9), (m.1 10), (m.1 11), (m.1 12), (m.1 13), (m.2 14), (m.2 15), (m.2 16), (m.2 17), 0, f7, f8, f9, f10, f11, f12, f13, (hT.2.1 14), (hT.2.1 15), (hT.2.1 16), (hT.2.1 17), ⟨by omega, by omega⟩, (by first | exact hLx | (intro h9; first | omega | (have h8 := hLx (by omega); omega))), (by omega), (by omega), (by omega), (by omega), (by first | exact p1 | (intro k; rw [hE1, hE2]; have := p1 k; have h7 := hLx0 (by omega); unfold upI; split <;> omega)), (by first | exact Or.inl ⟨rfl, by omega, by omega, hE1, hE2, hE3, hE4⟩ | exact Or.inr ⟨rfl, by omega, rfl, rfl, rfl, rfl, rfl⟩), rfl⟩
def Q_oldName (m : mR) (c : Nat → Option am_C) (N : Nat) (a : Int) (B : Int) : ag_Re af_T → Prop := fun R => ∃ (y7 : Int) (y8 : Int) (y9 : Int) (y10 : Int) (y11 : Int) (y12 : Int) (r : Int), (0 ≤ y7 ∧ y7 ≤ 330) ∧ (0 ≤ y8 ∧ y8 ≤ 4000) ∧ (0 ≤ y9 ∧ y9 ≤ 4000) ∧ (0 ≤ y10 ∧ y10 ≤ 8) ∧ ((-1) ≤ y11 ∧ y11 ≤ 4000) ∧ ((-9223372036854775808) ≤ y12 ∧ y12 ≤ 9223372036854775807) ∧ ((-2147483648) ≤ r ∧ r ≤ 2147483647) ∧ (LxP y7 y8 y9 (m.1 6) y10) ∧ ((m.1 8) ≤ y8) ∧ (y10 = 0 → (m.1 10) = 0 ∧ (m.1 8) + (m.1 9) ≤ y8) ∧ (y10 = 0 → (m.1 7) = 1) ∧ (0 ≤ r ∧ (r < B ∨ r = 0)) ∧ (y10 = 0 → r < B) ∧ R = (.inl (some (.int (i32 r))), (mhp (mO m [(7, y7), (8, y8), (9, y9), (10, y10), (11, y11), (12, y12)] []) c, N), 0, 0)
set_option maxHeartbeats 8000000 in
theorem c_oldName (w : wX) (m : mR) (c : Nat → Option am_C) (N D : Nat) (hD : 6 ≤ D) (hT : Ty m) (a : Int) (B : Int) (qa : R32 a) (hLx0 : LxP (m.1 7) (m.1 8) (m.1 9) (m.1 6) (m.1 10)) (p1 : ∀ k, (m.2 14) k + (m.2 15) k ≤ 4000) (p2 : 1 ≤ a ∧ a ≤ 7 ∧ a ≠ 5) (p3 : B ≤ 16) (p4 : (m.1 10) = 0 → ∀ k, 0 ≤ k → k < (m.1 13) → (m.2 16) k = a → 0 ≤ (m.2 17) k ∧ (m.2 17) k < B) (p5 : a = 3 → 3 ≤ B) : TC w D 236 [.ref 189, .int (i32 a)] (mhp m c, N) (Q_oldName m c N a B) := by
  obtain ⟨D, rfl⟩ : ∃ k, D = k + 1 := ⟨D - 1, by omega⟩
  obtain ⟨qaa, qab⟩ := id qa
  have hLx := hLx0
  have f7 : 0 ≤ m.1 7 ∧ m.1 7 ≤ 330 := hT.1 7
  have f8 : 0 ≤ m.1 8 ∧ m.1 8 ≤ 4000 := hT.1 8
  have f9 : 0 ≤ m.1 9 ∧ m.1 9 ≤ 4000 := hT.1 9
  have f10 : 0 ≤ m.1 10 ∧ m.1 10 ≤ 8 := hT.1 10
  have f11 : (-1) ≤ m.1 11 ∧ m.1 11 ≤ 4000 := hT.1 11
  have f12 : (-9223372036854775808) ≤ m.1 12 ∧ m.1 12 ≤ 9223372036854775807 := hT.1 12
  have f13 : 0 ≤ m.1 13 ∧ m.1 13 ≤ 120 := hT.1 13
  have f6 : 0 ≤ m.1 6 ∧ m.1 6 ≤ 4000 := hT.1 6
  refine Tc_of rfl ?_
  show TT w D pm_236 (0, [(0, .ref 189), (1, .int (i32 a))], [], (mhp m c, N), 0, 0) (Q_oldName m c N a B)
  rw [show (mhp m c, N) = (mhp (mO m [(7, (m.1 7)), (8, (m.1 8)), (9, (m.1 9)), (10, (m.1 10)), (11, (m.1 11)), (12, (m.1 12))] []) c, N) from congrArg (fun M => (mhp M c, N)) (mO_pad m [7, 8, 9, 10, 11, 12] [])]
  refine T_gf 4 (.int (i32 (m.1 10))) rfl rfl rfl rfl rfl rfl ?_
  refine T_if 9 7 rfl rfl rfl (r32 (by omega) (by omega)) (fun (h1 : (m.1 10) ≤ 0) => ?_) (fun (h1 : ¬ ((m.1 10) ≤ 0)) => ?_)
  · skip
    refine T_gf 13 (.int (i32 (m.1 7))) rfl rfl rfl rfl rfl rfl ?_
    refine T_ld 14 (.int (i32 1)) rfl (fun _ => rfl) ?_
    refine T_icmp 24 17 rfl rfl rfl (r32 (by omega) (by omega)) ⟨by decide, by decide⟩ (fun (h2 : (m.1 7) = 1) => ?_) (fun (h2 : ¬ ((m.1 7) = 1)) => ?_)
    · skip
      refine T_ld 25 (.ref 189) rfl (fun _ => rfl) ?_
      refine T_call 28 227 [.ref 189] [] rfl (fun _ => rfl) rfl (c_sortHere w (mO m [(7, (m.1 7)), (8, (m.1 8)), (9, (m.1 9)), (10, (m.1 10)), (11, (m.1 11)), (12, (m.1 12))] []) c N D (by omega) (Ty_mO hT rfl rfl ⟨f7, f8, f9, f10, f11, f12, trivial⟩ trivial) (show 1 ≤ (m.1 9) ∧ (m.1 8) + (m.1 9) ≤ (m.1 6) by first | omega | (have h8 := hLx (by omega); omega)) (show ∀ k, (m.2 14) k + (m.2 15) k ≤ 4000 by first | exact hNM | exact p1)) (fun r3 k4 => ?_)
      obtain ⟨so, g5, h6, h7, rfl⟩ := k4
      replace h6 : ∃ g k, isGH (m.2 4) (m.1 8) (m.1 9) g ∧ (g < 0 → isFH (m.2 4) (m.2 14) (m.2 15) (m.1 8) (m.1 9) (m.1 13) k) ∧ so = sortV (m.2 16) g k := h6
      replace h7 : -1 ≤ so ∧ so ≤ 7 := h7
      have hSo := h6
      refine ⟨_, _, rfl, ?_⟩
      refine T_nf (st' := [.int (i32 so)]) (l' := [(7, (m.1 7)), (8, (m.1 8)), (9, (m.1 9)), (10, (m.1 10)), (11, (m.1 11)), (12, (m.1 12))]) (a' := []) rfl rfl rfl rfl rfl ?_
      obtain ⟨g5a, g5b⟩ := g5
      refine T_ld 29 (.int (i32 a)) rfl (fun _ => rfl) ?_
      refine T_icmp 42 32 rfl rfl rfl (r32 (by omega) (by omega)) (r32 (by omega) (by omega)) (fun (h8 : so = a) => ?_) (fun (h8 : ¬ (so = a)) => ?_)
      · skip
        refine T_gf 46 (.int (i32 (m.1 10))) rfl rfl rfl rfl rfl rfl ?_
        refine T_if 51 49 rfl rfl rfl (r32 (by omega) (by omega)) (fun (h9 : (m.1 10) ≤ 0) => ?_) (fun (h9 : ¬ ((m.1 10) ≤ 0)) => by exfalso; omega)
        refine T_ld 52 (.ref 189) rfl (fun _ => rfl) ?_
        refine T_call 55 237 [.ref 189] [] rfl (fun _ => rfl) rfl (c_whichHere w (mO m [(7, (m.1 7)), (8, (m.1 8)), (9, (m.1 9)), (10, (m.1 10)), (11, (m.1 11)), (12, (m.1 12))] []) c N D (by omega) (Ty_mO hT rfl rfl ⟨f7, f8, f9, f10, f11, f12, trivial⟩ trivial) (show 1 ≤ (m.1 9) ∧ (m.1 8) + (m.1 9) ≤ (m.1 6) by first | omega | (have h8 := hLx (by omega); omega)) (show ∀ k, (m.2 14) k + (m.2 15) k ≤ 4000 by first | exact hNM | exact p1) (show ∀ g k, isGH (m.2 4) (m.1 8) (m.1 9) g → g < 0 → isFH (m.2 4) (m.2 14) (m.2 15) (m.1 8) (m.1 9) (m.1 13) k → 0 ≤ k by exact old_ok hSo (by omega))) (fun r10 k11 => ?_)
        obtain ⟨wi, g12, h13, rfl⟩ := k11
        replace h13 : ∃ g k, isGH (m.2 4) (m.1 8) (m.1 9) g ∧ (g < 0 → isFH (m.2 4) (m.2 14) (m.2 15) (m.1 8) (m.1 9) (m.1 13) k) ∧ wi = whichV (m.2 17) g k := h13
        have hWi := h13
        refine ⟨_, _, rfl, ?_⟩
        refine T_nf (st' := [.int (i32 wi)]) (l' := [(7, (m.1 7)), (8, (m.1 8)), (9, (m.1 9)), (10, (m.1 10)), (11, (m.1 11)), (12, (m.1 12))]) (a' := []) rfl rfl rfl rfl rfl ?_
        obtain ⟨g12a, g12b⟩ := g12
        refine T_sto 56 [(2, .int (i32 wi)), (0, .ref 189), (1, .int (i32 a))] rfl (fun _ => rfl) ?_
        refine T_ld 57 (.ref 189) rfl (fun _ => rfl) ?_
        refine T_call 60 212 [.ref 189] [] rfl (fun _ => rfl) rfl (c_next w (mO m [(7, (m.1 7)), (8, (m.1 8)), (9, (m.1 9)), (10, (m.1 10)), (11, (m.1 11)), (12, (m.1 12))] []) c N D (by omega) (Ty_mO hT rfl rfl ⟨f7, f8, f9, f10, f11, f12, trivial⟩ trivial) (show (m.1 10) = 0 → (m.1 8) + (m.1 9) ≤ (m.1 6) by first | omega | (intro h9; have h8 := hLx h9; omega))) (fun r14 k15 => ?_)
        obtain ⟨y16, y18, y20, y22, y24, y26, g17, g19, g21, g23, g25, g27, h28, h29, h30, h31, rfl⟩ := k15
        replace h28 : LxP y16 y18 y20 (m.1 6) y22 := h28
        replace h29 : y22 = 0 → (m.1 10) = 0 := h29
        replace h30 : (m.1 8) ≤ y18 := h30
        replace h31 : y22 = 0 → (m.1 8) + (m.1 9) ≤ y18 := h31
        have hLx := h28
        refine ⟨_, _, rfl, ?_⟩
        refine T_nf (st' := []) (l' := [(7, y16), (8, y18), (9, y20), (10, y22), (11, y24), (12, y26)]) (a' := []) rfl rfl rfl rfl rfl ?_
        refine T_ld 61 (.int (i32 wi)) rfl (fun _ => rfl) ?_
        refine T_ret rfl (fun _ => rfl) ?_
        exact ⟨y16, y18, y20, y22, y24, y26, wi, g17, g19, g21, g23, g25, g27, ⟨by omega, by omega⟩, (by first | exact hLx | (intro h9; first | omega | (have h8 := hLx (by omega); omega))), (by omega), (by omega), (by omega), (by first | omega | (have h6 := old_rg hSo hWi (by omega) (by omega) (by omega) (p4 (by omega)) p5; omega)), (by first | omega | (have h6 := old_rg hSo hWi (by omega) (by omega) (by omega) (p4 (by omega)) p5; omega)), rfl⟩
      · skip
        refine T_ld 33 (.ref 189) rfl (fun _ => rfl) ?_
        refine T_ld 35 (.int (i32 6)) rfl (fun _ => rfl) ?_
        refine T_gf 39 (.int (i32 (m.1 8))) rfl rfl rfl rfl rfl rfl ?_
        refine T_call 42 222 [.ref 189, .int (i32 6), .int (i32 (m.1 8))] [] rfl (fun _ => rfl) rfl (c_wrong w (mO m [(7, (m.1 7)), (8, (m.1 8)), (9, (m.1 9)), (10, (m.1 10)), (11, (m.1 11)), (12, (m.1 12))] []) c N D (by omega) (Ty_mO hT rfl rfl ⟨f7, f8, f9, f10, f11, f12, trivial⟩ trivial) 6 (m.1 8) ⟨by decide, by decide⟩ (r32 (by omega) (by omega)) (show 1 ≤ 6 ∧ 6 ≤ 8 by omega) (show 0 ≤ (m.1 8) ∧ (m.1 8) ≤ 4000 by omega)) (fun r32 k33 => ?_)
        obtain ⟨y34, y36, g35, g37, h38, rfl⟩ := k33
        replace h38 : (0 < (m.1 10) → y34 = (m.1 10) ∧ y36 = (m.1 11)) ∧ ((m.1 10) ≤ 0 → y34 = 6 ∧ y36 = (m.1 8)) := h38
        refine ⟨_, _, rfl, ?_⟩
        refine T_nf (st' := []) (l' := [(7, (m.1 7)), (8, (m.1 8)), (9, (m.1 9)), (10, y34), (11, y36), (12, (m.1 12))]) (a' := []) rfl rfl rfl rfl rfl ?_
        have u39 : 1 ≤ y34 ∧ y34 ≤ 8 := by omega
        refine T_gf 46 (.int (i32 y34)) rfl rfl rfl rfl rfl rfl ?_
        refine T_if 51 49 rfl rfl rfl (r32 (by omega) (by omega)) (fun (h40 : y34 ≤ 0) => by exfalso; omega) (fun (h40 : ¬ (y34 ≤ 0)) => ?_)
        refine T_ld 50 (.int (i32 0)) rfl (fun _ => rfl) ?_
        refine T_ret rfl (fun _ => rfl) ?_
        exact ⟨(m.1 7), (m.1 8), (m.1 9), y34, y36, (m.1 12), 0, f7, f8, f9, g35, g37, f12, ⟨by omega, by omega⟩, (by first | exact hLx | (intro h9; first | omega | (have h8 := hLx (by omega); omega))), (by omega), (by omega), (by omega), (by first | omega | (have h6 := old_rg hSo hWi (by omega) (by omega) (by omega) (p4 (by omega)) p5; omega)), (by first | omega | (have h6 := old_rg hSo hWi (by omega) (by omega) (by omega) (p4 (by omega)) p5; omega)), rfl⟩
    · skip
      refine T_ld 18 (.ref 189) rfl (fun _ => rfl) ?_
      refine T_call 21 226 [.ref 189] [] rfl (fun _ => rfl) rfl (c_bad w (mO m [(7, (m.1 7)), (8, (m.1 8)), (9, (m.1 9)), (10, (m.1 10)), (11, (m.1 11)), (12, (m.1 12))] []) c N D (by omega) (Ty_mO hT rfl rfl ⟨f7, f8, f9, f10, f11, f12, trivial⟩ trivial) ) (fun r41 k42 => ?_)
      obtain ⟨y43, y45, g44, g46, h47, rfl⟩ := k42
      replace h47 : (0 < (m.1 10) → y43 = (m.1 10) ∧ y45 = (m.1 11)) ∧ ((m.1 10) ≤ 0 → y43 = 1 ∧ y45 = (m.1 8)) := h47
      refine ⟨_, _, rfl, ?_⟩
      refine T_nf (st' := []) (l' := [(7, (m.1 7)), (8, (m.1 8)), (9, (m.1 9)), (10, y43), (11, y45), (12, (m.1 12))]) (a' := []) rfl rfl rfl rfl rfl ?_
      have u48 : 1 ≤ y43 ∧ y43 ≤ 8 := by omega
      refine T_goto 42 rfl (fun _ => rfl) ?_
      refine T_gf 46 (.int (i32 y43)) rfl rfl rfl rfl rfl rfl ?_
      refine T_if 51 49 rfl rfl rfl (r32 (by omega) (by omega)) (fun (h49 : y43 ≤ 0) => by exfalso; omega) (fun (h49 : ¬ (y43 ≤ 0)) => ?_)
      refine T_ld 50 (.int (i32 0)) rfl (fun _ => rfl) ?_
      refine T_ret rfl (fun _ => rfl) ?_
      exact ⟨(m.1 7), (m.1 8), (m.1 9), y43, y45, (m.1 12), 0, f7, f8, f9, g44, g46, f12, ⟨by omega, by omega⟩, (by first | exact hLx | (intro h9; first | omega | (have h8 := hLx (by omega); omega))), (by omega), (by omega), (by omega), (by first | omega | (have h6 := old_rg hSo hWi (by omega) (by omega) (by omega) (p4 (by omega)) p5; omega)), (by first | omega | (have h6 := old_rg hSo hWi (by omega) (by omega) (by omega) (p4 (by omega)) p5; omega)), rfl⟩
  · skip
    refine T_ld 8 (.int (i32 0)) rfl (fun _ => rfl) ?_
    refine T_ret rfl (fun _ => rfl) ?_
    exact ⟨(m.1 7), (m.1 8), (m.1 9), (m.1 10), (m.1 11), (m.1 12), 0, f7, f8, f9, f10, f11, f12, ⟨by omega, by omega⟩, (by first | exact hLx | (intro h9; first | omega | (have h8 := hLx (by omega); omega))), (by omega), (by omega), (by omega), (by first | omega | (have h6 := old_rg hSo hWi (by omega) (by omega) (by omega) (p4 (by omega)) p5; omega)), (by first | omega | (have h6 := old_rg hSo hWi (by omega) (by omega) (by omega) (p4 (by omega)) p5; omega)), rfl⟩
def Q_number (m : mR) (c : Nat → Option am_C) (N : Nat) (a : Int) (b : Int) : ag_Re af_T → Prop := fun R => ∃ (y7 : Int) (y8 : Int) (y9 : Int) (y10 : Int) (y11 : Int) (y12 : Int) (r : Int), (0 ≤ y7 ∧ y7 ≤ 330) ∧ (0 ≤ y8 ∧ y8 ≤ 4000) ∧ (0 ≤ y9 ∧ y9 ≤ 4000) ∧ (0 ≤ y10 ∧ y10 ≤ 8) ∧ ((-1) ≤ y11 ∧ y11 ≤ 4000) ∧ ((-9223372036854775808) ≤ y12 ∧ y12 ≤ 9223372036854775807) ∧ ((-2147483648) ≤ r ∧ r ≤ 2147483647) ∧ (LxP y7 y8 y9 (m.1 6) y10) ∧ ((m.1 8) ≤ y8) ∧ (y10 = 0 → (m.1 10) = 0 ∧ (m.1 8) + (m.1 9) ≤ y8) ∧ (y10 = 0 → (m.1 7) = 2) ∧ (a ≤ r ∧ r ≤ b) ∧ (y10 = 0 → r = (m.1 12)) ∧ R = (.inl (some (.int (i32 r))), (mhp (mO m [(7, y7), (8, y8), (9, y9), (10, y10), (11, y11), (12, y12)] []) c, N), 0, 0)
set_option maxHeartbeats 8000000 in
theorem c_number (w : wX) (m : mR) (c : Nat → Option am_C) (N D : Nat) (hD : 6 ≤ D) (hT : Ty m) (a : Int) (b : Int) (qa : R32 a) (qb : R32 b) (hLx0 : LxP (m.1 7) (m.1 8) (m.1 9) (m.1 6) (m.1 10)) (p1 : a ≤ b) : TC w D 234 [.ref 189, .int (i32 a), .int (i32 b)] (mhp m c, N) (Q_number m c N a b) := by
  obtain ⟨D, rfl⟩ : ∃ k, D = k + 1 := ⟨D - 1, by omega⟩
  obtain ⟨qaa, qab⟩ := id qa
  obtain ⟨qba, qbb⟩ := id qb
  have hLx := hLx0
  have f7 : 0 ≤ m.1 7 ∧ m.1 7 ≤ 330 := hT.1 7
  have f8 : 0 ≤ m.1 8 ∧ m.1 8 ≤ 4000 := hT.1 8
  have f9 : 0 ≤ m.1 9 ∧ m.1 9 ≤ 4000 := hT.1 9
  have f10 : 0 ≤ m.1 10 ∧ m.1 10 ≤ 8 := hT.1 10
  have f11 : (-1) ≤ m.1 11 ∧ m.1 11 ≤ 4000 := hT.1 11
  have f12 : (-9223372036854775808) ≤ m.1 12 ∧ m.1 12 ≤ 9223372036854775807 := hT.1 12
  have f6 : 0 ≤ m.1 6 ∧ m.1 6 ≤ 4000 := hT.1 6
  refine Tc_of rfl ?_
  show TT w D pm_234 (0, [(0, .ref 189), (1, .int (i32 a)), (2, .int (i32 b))], [], (mhp m c, N), 0, 0) (Q_number m c N a b)
  rw [show (mhp m c, N) = (mhp (mO m [(7, (m.1 7)), (8, (m.1 8)), (9, (m.1 9)), (10, (m.1 10)), (11, (m.1 11)), (12, (m.1 12))] []) c, N) from congrArg (fun M => (mhp M c, N)) (mO_pad m [7, 8, 9, 10, 11, 12] [])]
  refine T_gf 4 (.int (i32 (m.1 10))) rfl rfl rfl rfl rfl rfl ?_
  refine T_if 9 7 rfl rfl rfl (r32 (by omega) (by omega)) (fun (h1 : (m.1 10) ≤ 0) => ?_) (fun (h1 : ¬ ((m.1 10) ≤ 0)) => ?_)
  · skip
    refine T_gf 13 (.int (i32 (m.1 7))) rfl rfl rfl rfl rfl rfl ?_
    refine T_ld 14 (.int (i32 2)) rfl (fun _ => rfl) ?_
    refine T_icmp 24 17 rfl rfl rfl (r32 (by omega) (by omega)) ⟨by decide, by decide⟩ (fun (h2 : (m.1 7) = 2) => ?_) (fun (h2 : ¬ ((m.1 7) = 2)) => ?_)
    · skip
      refine T_gf 28 (.long (i64 (m.1 12))) rfl rfl rfl rfl rfl rfl ?_
      refine T_ld 29 (.int (i32 a)) rfl (fun _ => rfl) ?_
      refine T_i2l 30 rfl rfl (r32 (by omega) (by omega)) ?_
      refine T_lcmp 31 rfl rfl (r64 (by omega) (by omega)) (r64 (by omega) (by omega)) (fun z3 h4 => ?_)
      obtain ⟨h4a, h4b, h4c, h4d, h4e⟩ := h4
      refine T_if 44 34 rfl rfl rfl (r32 (by omega) (by omega)) (fun (h5 : z3 < 0) => ?_) (fun (h5 : ¬ (z3 < 0)) => ?_)
      · skip
        refine T_ld 45 (.ref 189) rfl (fun _ => rfl) ?_
        refine T_ld 46 (.int (i32 5)) rfl (fun _ => rfl) ?_
        refine T_gf 50 (.int (i32 (m.1 8))) rfl rfl rfl rfl rfl rfl ?_
        refine T_call 53 222 [.ref 189, .int (i32 5), .int (i32 (m.1 8))] [] rfl (fun _ => rfl) rfl (c_wrong w (mO m [(7, (m.1 7)), (8, (m.1 8)), (9, (m.1 9)), (10, (m.1 10)), (11, (m.1 11)), (12, (m.1 12))] []) c N D (by omega) (Ty_mO hT rfl rfl ⟨f7, f8, f9, f10, f11, f12, trivial⟩ trivial) 5 (m.1 8) ⟨by decide, by decide⟩ (r32 (by omega) (by omega)) (show 1 ≤ 5 ∧ 5 ≤ 8 by omega) (show 0 ≤ (m.1 8) ∧ (m.1 8) ≤ 4000 by omega)) (fun r6 k7 => ?_)
        obtain ⟨y8, y10, g9, g11, h12, rfl⟩ := k7
        replace h12 : (0 < (m.1 10) → y8 = (m.1 10) ∧ y10 = (m.1 11)) ∧ ((m.1 10) ≤ 0 → y8 = 5 ∧ y10 = (m.1 8)) := h12
        refine ⟨_, _, rfl, ?_⟩
        refine T_nf (st' := []) (l' := [(7, (m.1 7)), (8, (m.1 8)), (9, (m.1 9)), (10, y8), (11, y10), (12, (m.1 12))]) (a' := []) rfl rfl rfl rfl rfl ?_
        have u13 : 1 ≤ y8 ∧ y8 ≤ 8 := by omega
        refine T_gf 57 (.int (i32 y8)) rfl rfl rfl rfl rfl rfl ?_
        refine T_if 62 60 rfl rfl rfl (r32 (by omega) (by omega)) (fun (h14 : y8 ≤ 0) => by exfalso; omega) (fun (h14 : ¬ (y8 ≤ 0)) => ?_)
        refine T_ld 61 (.int (i32 a)) rfl (fun _ => rfl) ?_
        refine T_ret rfl (fun _ => rfl) ?_
        exact ⟨(m.1 7), (m.1 8), (m.1 9), y8, y10, (m.1 12), a, f7, f8, f9, g9, g11, f12, ⟨by omega, by omega⟩, (by first | exact hLx | (intro h9; first | omega | (have h8 := hLx (by omega); omega))), (by omega), (by omega), (by omega), (by omega), (by omega), rfl⟩
      · skip
        refine T_gf 38 (.long (i64 (m.1 12))) rfl rfl rfl rfl rfl rfl ?_
        refine T_ld 39 (.int (i32 b)) rfl (fun _ => rfl) ?_
        refine T_i2l 40 rfl rfl (r32 (by omega) (by omega)) ?_
        refine T_lcmp 41 rfl rfl (r64 (by omega) (by omega)) (r64 (by omega) (by omega)) (fun z15 h16 => ?_)
        obtain ⟨h16a, h16b, h16c, h16d, h16e⟩ := h16
        refine T_if 53 44 rfl rfl rfl (r32 (by omega) (by omega)) (fun (h17 : z15 ≤ 0) => ?_) (fun (h17 : ¬ (z15 ≤ 0)) => ?_)
        · skip
          refine T_gf 57 (.int (i32 (m.1 10))) rfl rfl rfl rfl rfl rfl ?_
          refine T_if 62 60 rfl rfl rfl (r32 (by omega) (by omega)) (fun (h18 : (m.1 10) ≤ 0) => ?_) (fun (h18 : ¬ ((m.1 10) ≤ 0)) => by exfalso; omega)
          refine T_gf 66 (.long (i64 (m.1 12))) rfl rfl rfl rfl rfl rfl ?_
          refine T_l2i 67 rfl rfl ?_
          refine T_sto 68 [(3, .int (i32 (m.1 12))), (0, .ref 189), (1, .int (i32 a)), (2, .int (i32 b))] rfl (fun _ => rfl) ?_
          refine T_ld 69 (.ref 189) rfl (fun _ => rfl) ?_
          refine T_call 72 212 [.ref 189] [] rfl (fun _ => rfl) rfl (c_next w (mO m [(7, (m.1 7)), (8, (m.1 8)), (9, (m.1 9)), (10, (m.1 10)), (11, (m.1 11)), (12, (m.1 12))] []) c N D (by omega) (Ty_mO hT rfl rfl ⟨f7, f8, f9, f10, f11, f12, trivial⟩ trivial) (show (m.1 10) = 0 → (m.1 8) + (m.1 9) ≤ (m.1 6) by first | omega | (intro h9; have h8 := hLx h9; omega))) (fun r19 k20 => ?_)
          obtain ⟨y21, y23, y25, y27, y29, y31, g22, g24, g26, g28, g30, g32, h33, h34, h35, h36, rfl⟩ := k20
          replace h33 : LxP y21 y23 y25 (m.1 6) y27 := h33
          replace h34 : y27 = 0 → (m.1 10) = 0 := h34
          replace h35 : (m.1 8) ≤ y23 := h35
          replace h36 : y27 = 0 → (m.1 8) + (m.1 9) ≤ y23 := h36
          have hLx := h33
          refine ⟨_, _, rfl, ?_⟩
          refine T_nf (st' := []) (l' := [(7, y21), (8, y23), (9, y25), (10, y27), (11, y29), (12, y31)]) (a' := []) rfl rfl rfl rfl rfl ?_
          refine T_ld 73 (.int (i32 (m.1 12))) rfl (fun _ => rfl) ?_
          refine T_ret rfl (fun _ => rfl) ?_
          exact ⟨y21, y23, y25, y27, y29, y31, (m.1 12), g22, g24, g26, g28, g30, g32, ⟨by omega, by omega⟩, (by first | exact hLx | (intro h9; first | omega | (have h8 := hLx (by omega); omega))), (by omega), (by omega), (by omega), (by omega), (by omega), rfl⟩
        · skip
          refine T_ld 45 (.ref 189) rfl (fun _ => rfl) ?_
          refine T_ld 46 (.int (i32 5)) rfl (fun _ => rfl) ?_
          refine T_gf 50 (.int (i32 (m.1 8))) rfl rfl rfl rfl rfl rfl ?_
          refine T_call 53 222 [.ref 189, .int (i32 5), .int (i32 (m.1 8))] [] rfl (fun _ => rfl) rfl (c_wrong w (mO m [(7, (m.1 7)), (8, (m.1 8)), (9, (m.1 9)), (10, (m.1 10)), (11, (m.1 11)), (12, (m.1 12))] []) c N D (by omega) (Ty_mO hT rfl rfl ⟨f7, f8, f9, f10, f11, f12, trivial⟩ trivial) 5 (m.1 8) ⟨by decide, by decide⟩ (r32 (by omega) (by omega)) (show 1 ≤ 5 ∧ 5 ≤ 8 by omega) (show 0 ≤ (m.1 8) ∧ (m.1 8) ≤ 4000 by omega)) (fun r37 k38 => ?_)
          obtain ⟨y39, y41, g40, g42, h43, rfl⟩ := k38
          replace h43 : (0 < (m.1 10) → y39 = (m.1 10) ∧ y41 = (m.1 11)) ∧ ((m.1 10) ≤ 0 → y39 = 5 ∧ y41 = (m.1 8)) := h43
          refine ⟨_, _, rfl, ?_⟩
          refine T_nf (st' := []) (l' := [(7, (m.1 7)), (8, (m.1 8)), (9, (m.1 9)), (10, y39), (11, y41), (12, (m.1 12))]) (a' := []) rfl rfl rfl rfl rfl ?_
          have u44 : 1 ≤ y39 ∧ y39 ≤ 8 := by omega
          refine T_gf 57 (.int (i32 y39)) rfl rfl rfl rfl rfl rfl ?_
          refine T_if 62 60 rfl rfl rfl (r32 (by omega) (by omega)) (fun (h45 : y39 ≤ 0) => by exfalso; omega) (fun (h45 : ¬ (y39 ≤ 0)) => ?_)
          refine T_ld 61 (.int (i32 a)) rfl (fun _ => rfl) ?_
          refine T_ret rfl (fun _ => rfl) ?_
          exact ⟨(m.1 7), (m.1 8), (m.1 9), y39, y41, (m.1 12), a, f7, f8, f9, g40, g42, f12, ⟨by omega, by omega⟩, (by first | exact hLx | (intro h9; first | omega | (have h8 := hLx (by omega); omega))), (by omega), (by omega), (by omega), (by omega), (by omega), rfl⟩
    · skip
      refine T_ld 18 (.ref 189) rfl (fun _ => rfl) ?_
      refine T_call 21 226 [.ref 189] [] rfl (fun _ => rfl) rfl (c_bad w (mO m [(7, (m.1 7)), (8, (m.1 8)), (9, (m.1 9)), (10, (m.1 10)), (11, (m.1 11)), (12, (m.1 12))] []) c N D (by omega) (Ty_mO hT rfl rfl ⟨f7, f8, f9, f10, f11, f12, trivial⟩ trivial) ) (fun r46 k47 => ?_)
      obtain ⟨y48, y50, g49, g51, h52, rfl⟩ := k47
      replace h52 : (0 < (m.1 10) → y48 = (m.1 10) ∧ y50 = (m.1 11)) ∧ ((m.1 10) ≤ 0 → y48 = 1 ∧ y50 = (m.1 8)) := h52
      refine ⟨_, _, rfl, ?_⟩
      refine T_nf (st' := []) (l' := [(7, (m.1 7)), (8, (m.1 8)), (9, (m.1 9)), (10, y48), (11, y50), (12, (m.1 12))]) (a' := []) rfl rfl rfl rfl rfl ?_
      have u53 : 1 ≤ y48 ∧ y48 ≤ 8 := by omega
      refine T_goto 53 rfl (fun _ => rfl) ?_
      refine T_gf 57 (.int (i32 y48)) rfl rfl rfl rfl rfl rfl ?_
      refine T_if 62 60 rfl rfl rfl (r32 (by omega) (by omega)) (fun (h54 : y48 ≤ 0) => by exfalso; omega) (fun (h54 : ¬ (y48 ≤ 0)) => ?_)
      refine T_ld 61 (.int (i32 a)) rfl (fun _ => rfl) ?_
      refine T_ret rfl (fun _ => rfl) ?_
      exact ⟨(m.1 7), (m.1 8), (m.1 9), y48, y50, (m.1 12), a, f7, f8, f9, g49, g51, f12, ⟨by omega, by omega⟩, (by first | exact hLx | (intro h9; first | omega | (have h8 := hLx (by omega); omega))), (by omega), (by omega), (by omega), (by omega), (by omega), rfl⟩
  · skip
    refine T_ld 8 (.int (i32 a)) rfl (fun _ => rfl) ?_
    refine T_ret rfl (fun _ => rfl) ?_
    exact ⟨(m.1 7), (m.1 8), (m.1 9), (m.1 10), (m.1 11), (m.1 12), a, f7, f8, f9, f10, f11, f12, ⟨by omega, by omega⟩, (by first | exact hLx | (intro h9; first | omega | (have h8 := hLx (by omega); omega))), (by omega), (by omega), (by omega), (by omega), (by omega), rfl⟩
