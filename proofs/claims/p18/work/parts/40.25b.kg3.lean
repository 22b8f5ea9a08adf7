def Q_StringLatin1_canEncode (m : mR) (c : Nat → Option am_C) (N : Nat) (x : Int) : ag_Re af_T → Prop := fun R => (∃ (r : Int), (0 ≤ r ∧ r ≤ 1) ∧ R = (.inl (some (.int (i32 r))), (khp m c, N), 0, 0))
set_option maxHeartbeats 3000000 in
theorem c_StringLatin1_canEncode (w : wX) (m : mR) (c : Nat → Option am_C) (N D : Nat) (hD : 1 ≤ D) (hT : KTy m) (x : Int) (qx : R32 x) : TC w D 60 [.int (i32 x)] (khp m c, N) (Q_StringLatin1_canEncode m c N x) := by
  obtain ⟨D, rfl⟩ : ∃ k, D = k + 1 := ⟨D - 1, by omega⟩
  obtain ⟨qxa, qxb⟩ := id qx
  refine Tc_of rfl ?_
  rw [show (khp m c, N) = (khp (mO m [] []) c, N) from by rw [mO_nil m]]
  show TT w D pm_60 (0, [(0, .int (i32 x))], [], (khp (mO m [] []) c, N), 0, 0) (Q_StringLatin1_canEncode m c N x)
  refine T_ld 1 (.int (i32 x)) rfl (fun _ => rfl) ?_
  refine T_if 15 4 rfl rfl rfl (r32 (by omega) (by omega)) (fun (h1 : x < 0) => ?_) (fun (h1 : ¬ (x < 0)) => ?_)
  · skip
    refine T_ld 16 (.int (i32 0)) rfl (fun _ => rfl) ?_
    refine T_ret rfl (fun _ => rfl) ?_
    exact ⟨0, ⟨by omega, by omega⟩, rfl⟩
  · skip
    refine T_ld 5 (.int (i32 x)) rfl (fun _ => rfl) ?_
    refine T_ld 8 (.int (i32 255)) rfl (fun _ => rfl) ?_
    refine T_icmp 15 11 rfl rfl rfl (r32 (by omega) (by omega)) ⟨by decide, by decide⟩ (fun (h2 : (255 : Int) < x) => ?_) (fun (h2 : ¬ ((255 : Int) < x)) => ?_)
    · skip
      refine T_ld 16 (.int (i32 0)) rfl (fun _ => rfl) ?_
      refine T_ret rfl (fun _ => rfl) ?_
      exact ⟨0, ⟨by omega, by omega⟩, rfl⟩
    · skip
      refine T_ld 12 (.int (i32 1)) rfl (fun _ => rfl) ?_
      refine T_goto 16 rfl (fun _ => rfl) ?_
      refine T_ret rfl (fun _ => rfl) ?_
      exact ⟨1, ⟨by omega, by omega⟩, rfl⟩
def Q_isLatin1_1 (m : mR) (c : Nat → Option am_C) (N : Nat) : ag_Re af_T → Prop := fun R => (∃ (r : Int), (1 ≤ r ∧ r ≤ 1) ∧ (r = 1) ∧ R = (.inl (some (.int (i32 r))), (khp m c, N), 0, 0))
set_option maxHeartbeats 3000000 in
theorem c_isLatin1_1 (w : wX) (m : mR) (c : Nat → Option am_C) (N D : Nat) (hD : 1 ≤ D) (hT : KTy m) : TC w D 6 [.ref 1000003] (khp m c, N) (Q_isLatin1_1 m c N) := by
  obtain ⟨D, rfl⟩ : ∃ k, D = k + 1 := ⟨D - 1, by omega⟩
  refine Tc_of rfl ?_
  rw [show (khp m c, N) = (khp (mO m [] []) c, N) from by rw [mO_nil m]]
  show TT w D pm_6 (0, [(0, .ref 1000003)], [], (khp (mO m [] []) c, N), 0, 0) (Q_isLatin1_1 m c N)
  refine T_ld 3 (.int (i32 1)) rfl (fun _ => rfl) ?_
  refine T_if 17 6 rfl rfl rfl ⟨by decide, by decide⟩ (fun h1 => absurd (show (1 : Int) = 0 from h1) (by decide)) (fun _ => ?_)
  refine T_ld 7 (.ref 1000003) rfl (fun _ => rfl) ?_
  refine T_ld1 10 (.int (i32 0)) rfl (fun _ => rfl) ?_
  refine T_if 17 13 rfl rfl rfl ⟨by decide, by decide⟩ (fun h2 => absurd (show (0 : Int) ≠ 0 from h2) (by decide)) (fun _ => ?_)
  refine T_ld 14 (.int (i32 1)) rfl (fun _ => rfl) ?_
  refine T_goto 18 rfl (fun _ => rfl) ?_
  refine T_ret rfl (fun _ => rfl) ?_
  exact ⟨1, ⟨by omega, by omega⟩, (show (1 : Int) = 1 by omega), rfl⟩
def Q_coder_1 (m : mR) (c : Nat → Option am_C) (N : Nat) : ag_Re af_T → Prop := fun R => (∃ (r : Int), (0 ≤ r ∧ r ≤ 0) ∧ (r = 0) ∧ R = (.inl (some (.int (i32 r))), (khp m c, N), 0, 0))
set_option maxHeartbeats 3000000 in
theorem c_coder_1 (w : wX) (m : mR) (c : Nat → Option am_C) (N D : Nat) (hD : 1 ≤ D) (hT : KTy m) : TC w D 4 [.ref 1000003] (khp m c, N) (Q_coder_1 m c N) := by
  obtain ⟨D, rfl⟩ : ∃ k, D = k + 1 := ⟨D - 1, by omega⟩
  refine Tc_of rfl ?_
  rw [show (khp m c, N) = (khp (mO m [] []) c, N) from by rw [mO_nil m]]
  show TT w D pm_4 (0, [(0, .ref 1000003)], [], (khp (mO m [] []) c, N), 0, 0) (Q_coder_1 m c N)
  refine T_ld 3 (.int (i32 1)) rfl (fun _ => rfl) ?_
  refine T_if 13 6 rfl rfl rfl ⟨by decide, by decide⟩ (fun h1 => absurd (show (1 : Int) = 0 from h1) (by decide)) (fun _ => ?_)
  refine T_ld 7 (.ref 1000003) rfl (fun _ => rfl) ?_
  refine T_ld1 10 (.int (i32 0)) rfl (fun _ => rfl) ?_
  refine T_goto 14 rfl (fun _ => rfl) ?_
  refine T_ret rfl (fun _ => rfl) ?_
  exact ⟨0, ⟨by omega, by omega⟩, (show (0 : Int) = 0 by omega), rfl⟩
def Q_length_1 (m : mR) (c : Nat → Option am_C) (N : Nat) : ag_Re af_T → Prop := fun R => (∃ (r : Int), (7 ≤ r ∧ r ≤ 7) ∧ (r = 7) ∧ R = (.inl (some (.int (i32 r))), (khp m c, N), 0, 0))
set_option maxHeartbeats 3000000 in
theorem c_length_1 (w : wX) (m : mR) (c : Nat → Option am_C) (N D : Nat) (hD : 2 ≤ D) (hT : KTy m) : TC w D 3 [.ref 1000003] (khp m c, N) (Q_length_1 m c N) := by
  obtain ⟨D, rfl⟩ : ∃ k, D = k + 1 := ⟨D - 1, by omega⟩
  refine Tc_of rfl ?_
  rw [show (khp m c, N) = (khp (mO m [] []) c, N) from by rw [mO_nil m]]
  show TT w D pm_3 (0, [(0, .ref 1000003)], [], (khp (mO m [] []) c, N), 0, 0) (Q_length_1 m c N)
  refine T_ld 1 (.ref 1000003) rfl (fun _ => rfl) ?_
  refine T_ld1 4 (.ref 1000004) rfl (fun _ => rfl) ?_
  refine T_ld1 5 (.int (i32 7)) rfl (fun _ => rfl) ?_
  refine T_ld 6 (.ref 1000003) rfl (fun _ => rfl) ?_
  refine T_callx 9 4 [.ref 1000003] [.int (i32 7)] rfl (fun _ => rfl) rfl rfl (c_coder_1 w (mO m [] []) c N D (by omega) hT ) (fun rr1 k2 => ?_)
  obtain ⟨x3, g4, h5, rfl⟩ := k2
  refine Or.inl ⟨_, _, _, _, rfl, ?_⟩
  refine T_ns (st' := [.int (i32 x3), .int (i32 7)]) rfl ?_
  obtain ⟨g4a, g4b⟩ := g4
  refine T_cast 0 (by omega) ?_
  replace h5 : x3 = 0 := h5
  clear g4a g4b h5
  refine T_lit2 10 (.int (i32 7)) rfl (fun _ => rfl) ?_
  refine T_ret rfl (fun _ => rfl) ?_
  exact ⟨7, ⟨by omega, by omega⟩, (show (7 : Int) = 7 by omega), rfl⟩
def Q_isLatin1_2 (m : mR) (c : Nat → Option am_C) (N : Nat) : ag_Re af_T → Prop := fun R => (∃ (r : Int), (1 ≤ r ∧ r ≤ 1) ∧ (r = 1) ∧ R = (.inl (some (.int (i32 r))), (khp m c, N), 0, 0))
set_option maxHeartbeats 3000000 in
theorem c_isLatin1_2 (w : wX) (m : mR) (c : Nat → Option am_C) (N D : Nat) (hD : 1 ≤ D) (hT : KTy m) : TC w D 6 [.ref 1000005] (khp m c, N) (Q_isLatin1_2 m c N) := by
  obtain ⟨D, rfl⟩ : ∃ k, D = k + 1 := ⟨D - 1, by omega⟩
  refine Tc_of rfl ?_
  rw [show (khp m c, N) = (khp (mO m [] []) c, N) from by rw [mO_nil m]]
  show TT w D pm_6 (0, [(0, .ref 1000005)], [], (khp (mO m [] []) c, N), 0, 0) (Q_isLatin1_2 m c N)
  refine T_ld 3 (.int (i32 1)) rfl (fun _ => rfl) ?_
  refine T_if 17 6 rfl rfl rfl ⟨by decide, by decide⟩ (fun h1 => absurd (show (1 : Int) = 0 from h1) (by decide)) (fun _ => ?_)
  refine T_ld 7 (.ref 1000005) rfl (fun _ => rfl) ?_
  refine T_ld1 10 (.int (i32 0)) rfl (fun _ => rfl) ?_
  refine T_if 17 13 rfl rfl rfl ⟨by decide, by decide⟩ (fun h2 => absurd (show (0 : Int) ≠ 0 from h2) (by decide)) (fun _ => ?_)
  refine T_ld 14 (.int (i32 1)) rfl (fun _ => rfl) ?_
  refine T_goto 18 rfl (fun _ => rfl) ?_
  refine T_ret rfl (fun _ => rfl) ?_
  exact ⟨1, ⟨by omega, by omega⟩, (show (1 : Int) = 1 by omega), rfl⟩
def Q_coder_2 (m : mR) (c : Nat → Option am_C) (N : Nat) : ag_Re af_T → Prop := fun R => (∃ (r : Int), (0 ≤ r ∧ r ≤ 0) ∧ (r = 0) ∧ R = (.inl (some (.int (i32 r))), (khp m c, N), 0, 0))
set_option maxHeartbeats 3000000 in
theorem c_coder_2 (w : wX) (m : mR) (c : Nat → Option am_C) (N D : Nat) (hD : 1 ≤ D) (hT : KTy m) : TC w D 4 [.ref 1000005] (khp m c, N) (Q_coder_2 m c N) := by
  obtain ⟨D, rfl⟩ : ∃ k, D = k + 1 := ⟨D - 1, by omega⟩
  refine Tc_of rfl ?_
  rw [show (khp m c, N) = (khp (mO m [] []) c, N) from by rw [mO_nil m]]
  show TT w D pm_4 (0, [(0, .ref 1000005)], [], (khp (mO m [] []) c, N), 0, 0) (Q_coder_2 m c N)
  refine T_ld 3 (.int (i32 1)) rfl (fun _ => rfl) ?_
  refine T_if 13 6 rfl rfl rfl ⟨by decide, by decide⟩ (fun h1 => absurd (show (1 : Int) = 0 from h1) (by decide)) (fun _ => ?_)
  refine T_ld 7 (.ref 1000005) rfl (fun _ => rfl) ?_
  refine T_ld1 10 (.int (i32 0)) rfl (fun _ => rfl) ?_
  refine T_goto 14 rfl (fun _ => rfl) ?_
  refine T_ret rfl (fun _ => rfl) ?_
  exact ⟨0, ⟨by omega, by omega⟩, (show (0 : Int) = 0 by omega), rfl⟩
def Q_length_2 (m : mR) (c : Nat → Option am_C) (N : Nat) : ag_Re af_T → Prop := fun R => (∃ (r : Int), (6 ≤ r ∧ r ≤ 6) ∧ (r = 6) ∧ R = (.inl (some (.int (i32 r))), (khp m c, N), 0, 0))
set_option maxHeartbeats 3000000 in
theorem c_length_2 (w : wX) (m : mR) (c : Nat → Option am_C) (N D : Nat) (hD : 2 ≤ D) (hT : KTy m) : TC w D 3 [.ref 1000005] (khp m c, N) (Q_length_2 m c N) := by
  obtain ⟨D, rfl⟩ : ∃ k, D = k + 1 := ⟨D - 1, by omega⟩
  refine Tc_of rfl ?_
  rw [show (khp m c, N) = (khp (mO m [] []) c, N) from by rw [mO_nil m]]
  show TT w D pm_3 (0, [(0, .ref 1000005)], [], (khp (mO m [] []) c, N), 0, 0) (Q_length_2 m c N)
  refine T_ld 1 (.ref 1000005) rfl (fun _ => rfl) ?_
  refine T_ld1 4 (.ref 1000006) rfl (fun _ => rfl) ?_
  refine T_ld1 5 (.int (i32 6)) rfl (fun _ => rfl) ?_
  refine T_ld 6 (.ref 1000005) rfl (fun _ => rfl) ?_
  refine T_callx 9 4 [.ref 1000005] [.int (i32 6)] rfl (fun _ => rfl) rfl rfl (c_coder_2 w (mO m [] []) c N D (by omega) hT ) (fun rr1 k2 => ?_)
  obtain ⟨x3, g4, h5, rfl⟩ := k2
  refine Or.inl ⟨_, _, _, _, rfl, ?_⟩
  refine T_ns (st' := [.int (i32 x3), .int (i32 6)]) rfl ?_
  obtain ⟨g4a, g4b⟩ := g4
  refine T_cast 0 (by omega) ?_
  replace h5 : x3 = 0 := h5
  clear g4a g4b h5
  refine T_lit2 10 (.int (i32 6)) rfl (fun _ => rfl) ?_
  refine T_ret rfl (fun _ => rfl) ?_
  exact ⟨6, ⟨by omega, by omega⟩, (show (6 : Int) = 6 by omega), rfl⟩
def Q_isLatin1_3 (m : mR) (c : Nat → Option am_C) (N : Nat) : ag_Re af_T → Prop := fun R => (∃ (r : Int), (1 ≤ r ∧ r ≤ 1) ∧ (r = 1) ∧ R = (.inl (some (.int (i32 r))), (khp m c, N), 0, 0))
set_option maxHeartbeats 3000000 in
theorem c_isLatin1_3 (w : wX) (m : mR) (c : Nat → Option am_C) (N D : Nat) (hD : 1 ≤ D) (hT : KTy m) : TC w D 6 [.ref 1000007] (khp m c, N) (Q_isLatin1_3 m c N) := by
  obtain ⟨D, rfl⟩ : ∃ k, D = k + 1 := ⟨D - 1, by omega⟩
  refine Tc_of rfl ?_
  rw [show (khp m c, N) = (khp (mO m [] []) c, N) from by rw [mO_nil m]]
  show TT w D pm_6 (0, [(0, .ref 1000007)], [], (khp (mO m [] []) c, N), 0, 0) (Q_isLatin1_3 m c N)
  refine T_ld 3 (.int (i32 1)) rfl (fun _ => rfl) ?_
  refine T_if 17 6 rfl rfl rfl ⟨by decide, by decide⟩ (fun h1 => absurd (show (1 : Int) = 0 from h1) (by decide)) (fun _ => ?_)
  refine T_ld 7 (.ref 1000007) rfl (fun _ => rfl) ?_
  refine T_ld1 10 (.int (i32 0)) rfl (fun _ => rfl) ?_
  refine T_if 17 13 rfl rfl rfl ⟨by decide, by decide⟩ (fun h2 => absurd (show (0 : Int) ≠ 0 from h2) (by decide)) (fun _ => ?_)
  refine T_ld 14 (.int (i32 1)) rfl (fun _ => rfl) ?_
  refine T_goto 18 rfl (fun _ => rfl) ?_
  refine T_ret rfl (fun _ => rfl) ?_
  exact ⟨1, ⟨by omega, by omega⟩, (show (1 : Int) = 1 by omega), rfl⟩
def Q_coder_3 (m : mR) (c : Nat → Option am_C) (N : Nat) : ag_Re af_T → Prop := fun R => (∃ (r : Int), (0 ≤ r ∧ r ≤ 0) ∧ (r = 0) ∧ R = (.inl (some (.int (i32 r))), (khp m c, N), 0, 0))
set_option maxHeartbeats 3000000 in
theorem c_coder_3 (w : wX) (m : mR) (c : Nat → Option am_C) (N D : Nat) (hD : 1 ≤ D) (hT : KTy m) : TC w D 4 [.ref 1000007] (khp m c, N) (Q_coder_3 m c N) := by
  obtain ⟨D, rfl⟩ : ∃ k, D = k + 1 := ⟨D - 1, by omega⟩
  refine Tc_of rfl ?_
  rw [show (khp m c, N) = (khp (mO m [] []) c, N) from by rw [mO_nil m]]
  show TT w D pm_4 (0, [(0, .ref 1000007)], [], (khp (mO m [] []) c, N), 0, 0) (Q_coder_3 m c N)
  refine T_ld 3 (.int (i32 1)) rfl (fun _ => rfl) ?_
  refine T_if 13 6 rfl rfl rfl ⟨by decide, by decide⟩ (fun h1 => absurd (show (1 : Int) = 0 from h1) (by decide)) (fun _ => ?_)
  refine T_ld 7 (.ref 1000007) rfl (fun _ => rfl) ?_
  refine T_ld1 10 (.int (i32 0)) rfl (fun _ => rfl) ?_
  refine T_goto 14 rfl (fun _ => rfl) ?_
  refine T_ret rfl (fun _ => rfl) ?_
  exact ⟨0, ⟨by omega, by omega⟩, (show (0 : Int) = 0 by omega), rfl⟩
def Q_length_3 (m : mR) (c : Nat → Option am_C) (N : Nat) : ag_Re af_T → Prop := fun R => (∃ (r : Int), (8 ≤ r ∧ r ≤ 8) ∧ (r = 8) ∧ R = (.inl (some (.int (i32 r))), (khp m c, N), 0, 0))
set_option maxHeartbeats 3000000 in
theorem c_length_3 (w : wX) (m : mR) (c : Nat → Option am_C) (N D : Nat) (hD : 2 ≤ D) (hT : KTy m) : TC w D 3 [.ref 1000007] (khp m c, N) (Q_length_3 m c N) := by
  obtain ⟨D, rfl⟩ : ∃ k, D = k + 1 := ⟨D - 1, by omega⟩
  refine Tc_of rfl ?_
  rw [show (khp m c, N) = (khp (mO m [] []) c, N) from by rw [mO_nil m]]
  show TT w D pm_3 (0, [(0, .ref 1000007)], [], (khp (mO m [] []) c, N), 0, 0) (Q_length_3 m c N)
  refine T_ld 1 (.ref 1000007) rfl (fun _ => rfl) ?_
  refine T_ld1 4 (.ref 1000008) rfl (fun _ => rfl) ?_
  refine T_ld1 5 (.int (i32 8)) rfl (fun _ => rfl) ?_
  refine T_ld 6 (.ref 1000007) rfl (fun _ => rfl) ?_
  refine T_callx 9 4 [.ref 1000007] [.int (i32 8)] rfl (fun _ => rfl) rfl rfl (c_coder_3 w (mO m [] []) c N D (by omega) hT ) (fun rr1 k2 => ?_)
  obtain ⟨x3, g4, h5, rfl⟩ := k2
  refine Or.inl ⟨_, _, _, _, rfl, ?_⟩
  refine T_ns (st' := [.int (i32 x3), .int (i32 8)]) rfl ?_
  obtain ⟨g4a, g4b⟩ := g4
  refine T_cast 0 (by omega) ?_
  replace h5 : x3 = 0 := h5
  clear g4a g4b h5
  refine T_lit2 10 (.int (i32 8)) rfl (fun _ => rfl) ?_
  refine T_ret rfl (fun _ => rfl) ?_
  exact ⟨8, ⟨by omega, by omega⟩, (show (8 : Int) = 8 by omega), rfl⟩
def Q_isLatin1_4 (m : mR) (c : Nat → Option am_C) (N : Nat) : ag_Re af_T → Prop := fun R => (∃ (r : Int), (1 ≤ r ∧ r ≤ 1) ∧ (r = 1) ∧ R = (.inl (some (.int (i32 r))), (khp m c, N), 0, 0))
set_option maxHeartbeats 3000000 in
theorem c_isLatin1_4 (w : wX) (m : mR) (c : Nat → Option am_C) (N D : Nat) (hD : 1 ≤ D) (hT : KTy m) : TC w D 6 [.ref 1000009] (khp m c, N) (Q_isLatin1_4 m c N) := by
  obtain ⟨D, rfl⟩ : ∃ k, D = k + 1 := ⟨D - 1, by omega⟩
  refine Tc_of rfl ?_
  rw [show (khp m c, N) = (khp (mO m [] []) c, N) from by rw [mO_nil m]]
  show TT w D pm_6 (0, [(0, .ref 1000009)], [], (khp (mO m [] []) c, N), 0, 0) (Q_isLatin1_4 m c N)
  refine T_ld 3 (.int (i32 1)) rfl (fun _ => rfl) ?_
  refine T_if 17 6 rfl rfl rfl ⟨by decide, by decide⟩ (fun h1 => absurd (show (1 : Int) = 0 from h1) (by decide)) (fun _ => ?_)
  refine T_ld 7 (.ref 1000009) rfl (fun _ => rfl) ?_
  refine T_ld1 10 (.int (i32 0)) rfl (fun _ => rfl) ?_
  refine T_if 17 13 rfl rfl rfl ⟨by decide, by decide⟩ (fun h2 => absurd (show (0 : Int) ≠ 0 from h2) (by decide)) (fun _ => ?_)
  refine T_ld 14 (.int (i32 1)) rfl (fun _ => rfl) ?_
  refine T_goto 18 rfl (fun _ => rfl) ?_
  refine T_ret rfl (fun _ => rfl) ?_
  exact ⟨1, ⟨by omega, by omega⟩, (show (1 : Int) = 1 by omega), rfl⟩
def Q_coder_4 (m : mR) (c : Nat → Option am_C) (N : Nat) : ag_Re af_T → Prop := fun R => (∃ (r : Int), (0 ≤ r ∧ r ≤ 0) ∧ (r = 0) ∧ R = (.inl (some (.int (i32 r))), (khp m c, N), 0, 0))
set_option maxHeartbeats 3000000 in
theorem c_coder_4 (w : wX) (m : mR) (c : Nat → Option am_C) (N D : Nat) (hD : 1 ≤ D) (hT : KTy m) : TC w D 4 [.ref 1000009] (khp m c, N) (Q_coder_4 m c N) := by
  obtain ⟨D, rfl⟩ : ∃ k, D = k + 1 := ⟨D - 1, by omega⟩
  refine Tc_of rfl ?_
  rw [show (khp m c, N) = (khp (mO m [] []) c, N) from by rw [mO_nil m]]
  show TT w D pm_4 (0, [(0, .ref 1000009)], [], (khp (mO m [] []) c, N), 0, 0) (Q_coder_4 m c N)
  refine T_ld 3 (.int (i32 1)) rfl (fun _ => rfl) ?_
  refine T_if 13 6 rfl rfl rfl ⟨by decide, by decide⟩ (fun h1 => absurd (show (1 : Int) = 0 from h1) (by decide)) (fun _ => ?_)
  refine T_ld 7 (.ref 1000009) rfl (fun _ => rfl) ?_
  refine T_ld1 10 (.int (i32 0)) rfl (fun _ => rfl) ?_
  refine T_goto 14 rfl (fun _ => rfl) ?_
  refine T_ret rfl (fun _ => rfl) ?_
  exact ⟨0, ⟨by omega, by omega⟩, (show (0 : Int) = 0 by omega), rfl⟩
def Q_length_4 (m : mR) (c : Nat → Option am_C) (N : Nat) : ag_Re af_T → Prop := fun R => (∃ (r : Int), (6 ≤ r ∧ r ≤ 6) ∧ (r = 6) ∧ R = (.inl (some (.int (i32 r))), (khp m c, N), 0, 0))
set_option maxHeartbeats 3000000 in
theorem c_length_4 (w : wX) (m : mR) (c : Nat → Option am_C) (N D : Nat) (hD : 2 ≤ D) (hT : KTy m) : TC w D 3 [.ref 1000009] (khp m c, N) (Q_length_4 m c N) := by
  obtain ⟨D, rfl⟩ : ∃ k, D = k + 1 := ⟨D - 1, by omega⟩
  refine Tc_of rfl ?_
  rw [show (khp m c, N) = (khp (mO m [] []) c, N) from by rw [mO_nil m]]
  show TT w D pm_3 (0, [(0, .ref 1000009)], [], (khp (mO m [] []) c, N), 0, 0) (Q_length_4 m c N)
  refine T_ld 1 (.ref 1000009) rfl (fun _ => rfl) ?_
  refine T_ld1 4 (.ref 1000010) rfl (fun _ => rfl) ?_
  refine T_ld1 5 (.int (i32 6)) rfl (fun _ => rfl) ?_
  refine T_ld 6 (.ref 1000009) rfl (fun _ => rfl) ?_
  refine T_callx 9 4 [.ref 1000009] [.int (i32 6)] rfl (fun _ => rfl) rfl rfl (c_coder_4 w (mO m [] []) c N D (by omega) hT ) (fun rr1 k2 => ?_)
  obtain ⟨x3, g4, h5, rfl⟩ := k2
  refine Or.inl ⟨_, _, _, _, rfl, ?_⟩
  refine T_ns (st' := [.int (i32 x3), .int (i32 6)]) rfl ?_
  obtain ⟨g4a, g4b⟩ := g4
  refine T_cast 0 (by omega) ?_
  replace h5 : x3 = 0 := h5
  clear g4a g4b h5
  refine T_lit2 10 (.int (i32 6)) rfl (fun _ => rfl) ?_
  refine T_ret rfl (fun _ => rfl) ?_
  exact ⟨6, ⟨by omega, by omega⟩, (show (6 : Int) = 6 by omega), rfl⟩
def Q_isLatin1_5 (m : mR) (c : Nat → Option am_C) (N : Nat) : ag_Re af_T → Prop := fun R => (∃ (r : Int), (1 ≤ r ∧ r ≤ 1) ∧ (r = 1) ∧ R = (.inl (some (.int (i32 r))), (khp m c, N), 0, 0))
set_option maxHeartbeats 3000000 in
theorem c_isLatin1_5 (w : wX) (m : mR) (c : Nat → Option am_C) (N D : Nat) (hD : 1 ≤ D) (hT : KTy m) : TC w D 6 [.ref 1000011] (khp m c, N) (Q_isLatin1_5 m c N) := by
  obtain ⟨D, rfl⟩ : ∃ k, D = k + 1 := ⟨D - 1, by omega⟩
  refine Tc_of rfl ?_
  rw [show (khp m c, N) = (khp (mO m [] []) c, N) from by rw [mO_nil m]]
  show TT w D pm_6 (0, [(0, .ref 1000011)], [], (khp (mO m [] []) c, N), 0, 0) (Q_isLatin1_5 m c N)
  refine T_ld 3 (.int (i32 1)) rfl (fun _ => rfl) ?_
  refine T_if 17 6 rfl rfl rfl ⟨by decide, by decide⟩ (fun h1 => absurd (show (1 : Int) = 0 from h1) (by decide)) (fun _ => ?_)
  refine T_ld 7 (.ref 1000011) rfl (fun _ => rfl) ?_
  refine T_ld1 10 (.int (i32 0)) rfl (fun _ => rfl) ?_
  refine T_if 17 13 rfl rfl rfl ⟨by decide, by decide⟩ (fun h2 => absurd (show (0 : Int) ≠ 0 from h2) (by decide)) (fun _ => ?_)
  refine T_ld 14 (.int (i32 1)) rfl (fun _ => rfl) ?_
  refine T_goto 18 rfl (fun _ => rfl) ?_
  refine T_ret rfl (fun _ => rfl) ?_
  exact ⟨1, ⟨by omega, by omega⟩, (show (1 : Int) = 1 by omega), rfl⟩
def Q_coder_5 (m : mR) (c : Nat → Option am_C) (N : Nat) : ag_Re af_T → Prop := fun R => (∃ (r : Int), (0 ≤ r ∧ r ≤ 0) ∧ (r = 0) ∧ R = (.inl (some (.int (i32 r))), (khp m c, N), 0, 0))
set_option maxHeartbeats 3000000 in
theorem c_coder_5 (w : wX) (m : mR) (c : Nat → Option am_C) (N D : Nat) (hD : 1 ≤ D) (hT : KTy m) : TC w D 4 [.ref 1000011] (khp m c, N) (Q_coder_5 m c N) := by
  obtain ⟨D, rfl⟩ : ∃ k, D = k + 1 := ⟨D - 1, by omega⟩
  refine Tc_of rfl ?_
  rw [show (khp m c, N) = (khp (mO m [] []) c, N) from by rw [mO_nil m]]
  show TT w D pm_4 (0, [(0, .ref 1000011)], [], (khp (mO m [] []) c, N), 0, 0) (Q_coder_5 m c N)
  refine T_ld 3 (.int (i32 1)) rfl (fun _ => rfl) ?_
  refine T_if 13 6 rfl rfl rfl ⟨by decide, by decide⟩ (fun h1 => absurd (show (1 : Int) = 0 from h1) (by decide)) (fun _ => ?_)
  refine T_ld 7 (.ref 1000011) rfl (fun _ => rfl) ?_
  refine T_ld1 10 (.int (i32 0)) rfl (fun _ => rfl) ?_
  refine T_goto 14 rfl (fun _ => rfl) ?_
  refine T_ret rfl (fun _ => rfl) ?_
  exact ⟨0, ⟨by omega, by omega⟩, (show (0 : Int) = 0 by omega), rfl⟩
def Q_length_5 (m : mR) (c : Nat → Option am_C) (N : Nat) : ag_Re af_T → Prop := fun R => (∃ (r : Int), (6 ≤ r ∧ r ≤ 6) ∧ (r = 6) ∧ R = (.inl (some (.int (i32 r))), (khp m c, N), 0, 0))
set_option maxHeartbeats 3000000 in
theorem c_length_5 (w : wX) (m : mR) (c : Nat → Option am_C) (N D : Nat) (hD : 2 ≤ D) (hT : KTy m) : TC w D 3 [.ref 1000011] (khp m c, N) (Q_length_5 m c N) := by
  obtain ⟨D, rfl⟩ : ∃ k, D = k + 1 := ⟨D - 1, by omega⟩
  refine Tc_of rfl ?_
  rw [show (khp m c, N) = (khp (mO m [] []) c, N) from by rw [mO_nil m]]
  show TT w D pm_3 (0, [(0, .ref 1000011)], [], (khp (mO m [] []) c, N), 0, 0) (Q_length_5 m c N)
  refine T_ld 1 (.ref 1000011) rfl (fun _ => rfl) ?_
  refine T_ld1 4 (.ref 1000012) rfl (fun _ => rfl) ?_
  refine T_ld1 5 (.int (i32 6)) rfl (fun _ => rfl) ?_
  refine T_ld 6 (.ref 1000011) rfl (fun _ => rfl) ?_
  refine T_callx 9 4 [.ref 1000011] [.int (i32 6)] rfl (fun _ => rfl) rfl rfl (c_coder_5 w (mO m [] []) c N D (by omega) hT ) (fun rr1 k2 => ?_)
  obtain ⟨x3, g4, h5, rfl⟩ := k2
  refine Or.inl ⟨_, _, _, _, rfl, ?_⟩
  refine T_ns (st' := [.int (i32 x3), .int (i32 6)]) rfl ?_
  obtain ⟨g4a, g4b⟩ := g4
  refine T_cast 0 (by omega) ?_
  replace h5 : x3 = 0 := h5
  clear g4a g4b h5
  refine T_lit2 10 (.int (i32 6)) rfl (fun _ => rfl) ?_
  refine T_ret rfl (fun _ => rfl) ?_
  exact ⟨6, ⟨by omega, by omega⟩, (show (6 : Int) = 6 by omega), rfl⟩
def Q_isLatin1_7 (m : mR) (c : Nat → Option am_C) (N : Nat) : ag_Re af_T → Prop := fun R => (∃ (r : Int), (1 ≤ r ∧ r ≤ 1) ∧ (r = 1) ∧ R = (.inl (some (.int (i32 r))), (khp m c, N), 0, 0))
set_option maxHeartbeats 3000000 in
theorem c_isLatin1_7 (w : wX) (m : mR) (c : Nat → Option am_C) (N D : Nat) (hD : 1 ≤ D) (hT : KTy m) : TC w D 6 [.ref 1000015] (khp m c, N) (Q_isLatin1_7 m c N) := by
  obtain ⟨D, rfl⟩ : ∃ k, D = k + 1 := ⟨D - 1, by omega⟩
  refine Tc_of rfl ?_
  rw [show (khp m c, N) = (khp (mO m [] []) c, N) from by rw [mO_nil m]]
  show TT w D pm_6 (0, [(0, .ref 1000015)], [], (khp (mO m [] []) c, N), 0, 0) (Q_isLatin1_7 m c N)
  refine T_ld 3 (.int (i32 1)) rfl (fun _ => rfl) ?_
  refine T_if 17 6 rfl rfl rfl ⟨by decide, by decide⟩ (fun h1 => absurd (show (1 : Int) = 0 from h1) (by decide)) (fun _ => ?_)
  refine T_ld 7 (.ref 1000015) rfl (fun _ => rfl) ?_
  refine T_ld1 10 (.int (i32 0)) rfl (fun _ => rfl) ?_
  refine T_if 17 13 rfl rfl rfl ⟨by decide, by decide⟩ (fun h2 => absurd (show (0 : Int) ≠ 0 from h2) (by decide)) (fun _ => ?_)
  refine T_ld 14 (.int (i32 1)) rfl (fun _ => rfl) ?_
  refine T_goto 18 rfl (fun _ => rfl) ?_
  refine T_ret rfl (fun _ => rfl) ?_
  exact ⟨1, ⟨by omega, by omega⟩, (show (1 : Int) = 1 by omega), rfl⟩
def Q_coder_7 (m : mR) (c : Nat → Option am_C) (N : Nat) : ag_Re af_T → Prop := fun R => (∃ (r : Int), (0 ≤ r ∧ r ≤ 0) ∧ (r = 0) ∧ R = (.inl (some (.int (i32 r))), (khp m c, N), 0, 0))
set_option maxHeartbeats 3000000 in
theorem c_coder_7 (w : wX) (m : mR) (c : Nat → Option am_C) (N D : Nat) (hD : 1 ≤ D) (hT : KTy m) : TC w D 4 [.ref 1000015] (khp m c, N) (Q_coder_7 m c N) := by
  obtain ⟨D, rfl⟩ : ∃ k, D = k + 1 := ⟨D - 1, by omega⟩
  refine Tc_of rfl ?_
  rw [show (khp m c, N) = (khp (mO m [] []) c, N) from by rw [mO_nil m]]
  show TT w D pm_4 (0, [(0, .ref 1000015)], [], (khp (mO m [] []) c, N), 0, 0) (Q_coder_7 m c N)
  refine T_ld 3 (.int (i32 1)) rfl (fun _ => rfl) ?_
  refine T_if 13 6 rfl rfl rfl ⟨by decide, by decide⟩ (fun h1 => absurd (show (1 : Int) = 0 from h1) (by decide)) (fun _ => ?_)
  refine T_ld 7 (.ref 1000015) rfl (fun _ => rfl) ?_
  refine T_ld1 10 (.int (i32 0)) rfl (fun _ => rfl) ?_
  refine T_goto 14 rfl (fun _ => rfl) ?_
  refine T_ret rfl (fun _ => rfl) ?_
  exact ⟨0, ⟨by omega, by omega⟩, (show (0 : Int) = 0 by omega), rfl⟩
def Q_length_7 (m : mR) (c : Nat → Option am_C) (N : Nat) : ag_Re af_T → Prop := fun R => (∃ (r : Int), (21 ≤ r ∧ r ≤ 21) ∧ (r = 21) ∧ R = (.inl (some (.int (i32 r))), (khp m c, N), 0, 0))
set_option maxHeartbeats 3000000 in
theorem c_length_7 (w : wX) (m : mR) (c : Nat → Option am_C) (N D : Nat) (hD : 2 ≤ D) (hT : KTy m) : TC w D 3 [.ref 1000015] (khp m c, N) (Q_length_7 m c N) := by
  obtain ⟨D, rfl⟩ : ∃ k, D = k + 1 := ⟨D - 1, by omega⟩
  refine Tc_of rfl ?_
  rw [show (khp m c, N) = (khp (mO m [] []) c, N) from by rw [mO_nil m]]
  show TT w D pm_3 (0, [(0, .ref 1000015)], [], (khp (mO m [] []) c, N), 0, 0) (Q_length_7 m c N)
  refine T_ld 1 (.ref 1000015) rfl (fun _ => rfl) ?_
  refine T_ld1 4 (.ref 1000016) rfl (fun _ => rfl) ?_
  refine T_ld1 5 (.int (i32 21)) rfl (fun _ => rfl) ?_
  refine T_ld 6 (.ref 1000015) rfl (fun _ => rfl) ?_
  refine T_callx 9 4 [.ref 1000015] [.int (i32 21)] rfl (fun _ => rfl) rfl rfl (c_coder_7 w (mO m [] []) c N D (by omega) hT ) (fun rr1 k2 => ?_)
  obtain ⟨x3, g4, h5, rfl⟩ := k2
  refine Or.inl ⟨_, _, _, _, rfl, ?_⟩
  refine T_ns (st' := [.int (i32 x3), .int (i32 21)]) rfl ?_
  obtain ⟨g4a, g4b⟩ := g4
  refine T_cast 0 (by omega) ?_
  replace h5 : x3 = 0 := h5
  clear g4a g4b h5
  refine T_lit2 10 (.int (i32 21)) rfl (fun _ => rfl) ?_
  refine T_ret rfl (fun _ => rfl) ?_
  exact ⟨21, ⟨by omega, by omega⟩, (show (21 : Int) = 21 by omega), rfl⟩
def Q_isLatin1_8 (m : mR) (c : Nat → Option am_C) (N : Nat) : ag_Re af_T → Prop := fun R => (∃ (r : Int), (1 ≤ r ∧ r ≤ 1) ∧ (r = 1) ∧ R = (.inl (some (.int (i32 r))), (khp m c, N), 0, 0))
set_option maxHeartbeats 3000000 in
theorem c_isLatin1_8 (w : wX) (m : mR) (c : Nat → Option am_C) (N D : Nat) (hD : 1 ≤ D) (hT : KTy m) : TC w D 6 [.ref 1000017] (khp m c, N) (Q_isLatin1_8 m c N) := by
  obtain ⟨D, rfl⟩ : ∃ k, D = k + 1 := ⟨D - 1, by omega⟩
  refine Tc_of rfl ?_
  rw [show (khp m c, N) = (khp (mO m [] []) c, N) from by rw [mO_nil m]]
  show TT w D pm_6 (0, [(0, .ref 1000017)], [], (khp (mO m [] []) c, N), 0, 0) (Q_isLatin1_8 m c N)
  refine T_ld 3 (.int (i32 1)) rfl (fun _ => rfl) ?_
  refine T_if 17 6 rfl rfl rfl ⟨by decide, by decide⟩ (fun h1 => absurd (show (1 : Int) = 0 from h1) (by decide)) (fun _ => ?_)
  refine T_ld 7 (.ref 1000017) rfl (fun _ => rfl) ?_
  refine T_ld1 10 (.int (i32 0)) rfl (fun _ => rfl) ?_
  refine T_if 17 13 rfl rfl rfl ⟨by decide, by decide⟩ (fun h2 => absurd (show (0 : Int) ≠ 0 from h2) (by decide)) (fun _ => ?_)
  refine T_ld 14 (.int (i32 1)) rfl (fun _ => rfl) ?_
  refine T_goto 18 rfl (fun _ => rfl) ?_
  refine T_ret rfl (fun _ => rfl) ?_
  exact ⟨1, ⟨by omega, by omega⟩, (show (1 : Int) = 1 by omega), rfl⟩
def Q_coder_8 (m : mR) (c : Nat → Option am_C) (N : Nat) : ag_Re af_T → Prop := fun R => (∃ (r : Int), (0 ≤ r ∧ r ≤ 0) ∧ (r = 0) ∧ R = (.inl (some (.int (i32 r))), (khp m c, N), 0, 0))
set_option maxHeartbeats 3000000 in
theorem c_coder_8 (w : wX) (m : mR) (c : Nat → Option am_C) (N D : Nat) (hD : 1 ≤ D) (hT : KTy m) : TC w D 4 [.ref 1000017] (khp m c, N) (Q_coder_8 m c N) := by
  obtain ⟨D, rfl⟩ : ∃ k, D = k + 1 := ⟨D - 1, by omega⟩
  refine Tc_of rfl ?_
  rw [show (khp m c, N) = (khp (mO m [] []) c, N) from by rw [mO_nil m]]
  show TT w D pm_4 (0, [(0, .ref 1000017)], [], (khp (mO m [] []) c, N), 0, 0) (Q_coder_8 m c N)
  refine T_ld 3 (.int (i32 1)) rfl (fun _ => rfl) ?_
  refine T_if 13 6 rfl rfl rfl ⟨by decide, by decide⟩ (fun h1 => absurd (show (1 : Int) = 0 from h1) (by decide)) (fun _ => ?_)
  refine T_ld 7 (.ref 1000017) rfl (fun _ => rfl) ?_
  refine T_ld1 10 (.int (i32 0)) rfl (fun _ => rfl) ?_
  refine T_goto 14 rfl (fun _ => rfl) ?_
  refine T_ret rfl (fun _ => rfl) ?_
  exact ⟨0, ⟨by omega, by omega⟩, (show (0 : Int) = 0 by omega), rfl⟩
def Q_length_8 (m : mR) (c : Nat → Option am_C) (N : Nat) : ag_Re af_T → Prop := fun R => (∃ (r : Int), (6 ≤ r ∧ r ≤ 6) ∧ (r = 6) ∧ R = (.inl (some (.int (i32 r))), (khp m c, N), 0, 0))
set_option maxHeartbeats 3000000 in
theorem c_length_8 (w : wX) (m : mR) (c : Nat → Option am_C) (N D : Nat) (hD : 2 ≤ D) (hT : KTy m) : TC w D 3 [.ref 1000017] (khp m c, N) (Q_length_8 m c N) := by
  obtain ⟨D, rfl⟩ : ∃ k, D = k + 1 := ⟨D - 1, by omega⟩
  refine Tc_of rfl ?_
  rw [show (khp m c, N) = (khp (mO m [] []) c, N) from by rw [mO_nil m]]
  show TT w D pm_3 (0, [(0, .ref 1000017)], [], (khp (mO m [] []) c, N), 0, 0) (Q_length_8 m c N)
  refine T_ld 1 (.ref 1000017) rfl (fun _ => rfl) ?_
  refine T_ld1 4 (.ref 1000018) rfl (fun _ => rfl) ?_
  refine T_ld1 5 (.int (i32 6)) rfl (fun _ => rfl) ?_
  refine T_ld 6 (.ref 1000017) rfl (fun _ => rfl) ?_
  refine T_callx 9 4 [.ref 1000017] [.int (i32 6)] rfl (fun _ => rfl) rfl rfl (c_coder_8 w (mO m [] []) c N D (by omega) hT ) (fun rr1 k2 => ?_)
  obtain ⟨x3, g4, h5, rfl⟩ := k2
  refine Or.inl ⟨_, _, _, _, rfl, ?_⟩
  refine T_ns (st' := [.int (i32 x3), .int (i32 6)]) rfl ?_
  obtain ⟨g4a, g4b⟩ := g4
  refine T_cast 0 (by omega) ?_
  replace h5 : x3 = 0 := h5
  clear g4a g4b h5
  refine T_lit2 10 (.int (i32 6)) rfl (fun _ => rfl) ?_
  refine T_ret rfl (fun _ => rfl) ?_
  exact ⟨6, ⟨by omega, by omega⟩, (show (6 : Int) = 6 by omega), rfl⟩
def Q_isLatin1_9 (m : mR) (c : Nat → Option am_C) (N : Nat) : ag_Re af_T → Prop := fun R => (∃ (r : Int), (1 ≤ r ∧ r ≤ 1) ∧ (r = 1) ∧ R = (.inl (some (.int (i32 r))), (khp m c, N), 0, 0))
set_option maxHeartbeats 3000000 in
theorem c_isLatin1_9 (w : wX) (m : mR) (c : Nat → Option am_C) (N D : Nat) (hD : 1 ≤ D) (hT : KTy m) : TC w D 6 [.ref 1000019] (khp m c, N) (Q_isLatin1_9 m c N) := by
  obtain ⟨D, rfl⟩ : ∃ k, D = k + 1 := ⟨D - 1, by omega⟩
  refine Tc_of rfl ?_
  rw [show (khp m c, N) = (khp (mO m [] []) c, N) from by rw [mO_nil m]]
  show TT w D pm_6 (0, [(0, .ref 1000019)], [], (khp (mO m [] []) c, N), 0, 0) (Q_isLatin1_9 m c N)
  refine T_ld 3 (.int (i32 1)) rfl (fun _ => rfl) ?_
  refine T_if 17 6 rfl rfl rfl ⟨by decide, by decide⟩ (fun h1 => absurd (show (1 : Int) = 0 from h1) (by decide)) (fun _ => ?_)
  refine T_ld 7 (.ref 1000019) rfl (fun _ => rfl) ?_
  refine T_ld1 10 (.int (i32 0)) rfl (fun _ => rfl) ?_
  refine T_if 17 13 rfl rfl rfl ⟨by decide, by decide⟩ (fun h2 => absurd (show (0 : Int) ≠ 0 from h2) (by decide)) (fun _ => ?_)
  refine T_ld 14 (.int (i32 1)) rfl (fun _ => rfl) ?_
  refine T_goto 18 rfl (fun _ => rfl) ?_
  refine T_ret rfl (fun _ => rfl) ?_
  exact ⟨1, ⟨by omega, by omega⟩, (show (1 : Int) = 1 by omega), rfl⟩
def Q_coder_9 (m : mR) (c : Nat → Option am_C) (N : Nat) : ag_Re af_T → Prop := fun R => (∃ (r : Int), (0 ≤ r ∧ r ≤ 0) ∧ (r = 0) ∧ R = (.inl (some (.int (i32 r))), (khp m c, N), 0, 0))
set_option maxHeartbeats 3000000 in
theorem c_coder_9 (w : wX) (m : mR) (c : Nat → Option am_C) (N D : Nat) (hD : 1 ≤ D) (hT : KTy m) : TC w D 4 [.ref 1000019] (khp m c, N) (Q_coder_9 m c N) := by
  obtain ⟨D, rfl⟩ : ∃ k, D = k + 1 := ⟨D - 1, by omega⟩
  refine Tc_of rfl ?_
  rw [show (khp m c, N) = (khp (mO m [] []) c, N) from by rw [mO_nil m]]
  show TT w D pm_4 (0, [(0, .ref 1000019)], [], (khp (mO m [] []) c, N), 0, 0) (Q_coder_9 m c N)
  refine T_ld 3 (.int (i32 1)) rfl (fun _ => rfl) ?_
  refine T_if 13 6 rfl rfl rfl ⟨by decide, by decide⟩ (fun h1 => absurd (show (1 : Int) = 0 from h1) (by decide)) (fun _ => ?_)
  refine T_ld 7 (.ref 1000019) rfl (fun _ => rfl) ?_
  refine T_ld1 10 (.int (i32 0)) rfl (fun _ => rfl) ?_
  refine T_goto 14 rfl (fun _ => rfl) ?_
  refine T_ret rfl (fun _ => rfl) ?_
  exact ⟨0, ⟨by omega, by omega⟩, (show (0 : Int) = 0 by omega), rfl⟩
def Q_length_9 (m : mR) (c : Nat → Option am_C) (N : Nat) : ag_Re af_T → Prop := fun R => (∃ (r : Int), (3 ≤ r ∧ r ≤ 3) ∧ (r = 3) ∧ R = (.inl (some (.int (i32 r))), (khp m c, N), 0, 0))
set_option maxHeartbeats 3000000 in
theorem c_length_9 (w : wX) (m : mR) (c : Nat → Option am_C) (N D : Nat) (hD : 2 ≤ D) (hT : KTy m) : TC w D 3 [.ref 1000019] (khp m c, N) (Q_length_9 m c N) := by
  obtain ⟨D, rfl⟩ : ∃ k, D = k + 1 := ⟨D - 1, by omega⟩
  refine Tc_of rfl ?_
  rw [show (khp m c, N) = (khp (mO m [] []) c, N) from by rw [mO_nil m]]
  show TT w D pm_3 (0, [(0, .ref 1000019)], [], (khp (mO m [] []) c, N), 0, 0) (Q_length_9 m c N)
  refine T_ld 1 (.ref 1000019) rfl (fun _ => rfl) ?_
  refine T_ld1 4 (.ref 1000020) rfl (fun _ => rfl) ?_
  refine T_ld1 5 (.int (i32 3)) rfl (fun _ => rfl) ?_
  refine T_ld 6 (.ref 1000019) rfl (fun _ => rfl) ?_
  refine T_callx 9 4 [.ref 1000019] [.int (i32 3)] rfl (fun _ => rfl) rfl rfl (c_coder_9 w (mO m [] []) c N D (by omega) hT ) (fun rr1 k2 => ?_)
  obtain ⟨x3, g4, h5, rfl⟩ := k2
  refine Or.inl ⟨_, _, _, _, rfl, ?_⟩
  refine T_ns (st' := [.int (i32 x3), .int (i32 3)]) rfl ?_
  obtain ⟨g4a, g4b⟩ := g4
  refine T_cast 0 (by omega) ?_
  replace h5 : x3 = 0 := h5
  clear g4a g4b h5
  refine T_lit2 10 (.int (i32 3)) rfl (fun _ => rfl) ?_
  refine T_ret rfl (fun _ => rfl) ?_
  exact ⟨3, ⟨by omega, by omega⟩, (show (3 : Int) = 3 by omega), rfl⟩
def Q_indexOfChar_7 (m : mR) (c : Nat → Option am_C) (N : Nat) (x : Int) (f : Int) (n : Int) : ag_Re af_T → Prop := fun R => (∃ (r : Int), ((-1) ≤ r ∧ r ≤ 21) ∧ R = (.inl (some (.int (i32 r))), (khp m c, N), 0, 0))
set_option maxHeartbeats 3000000 in
theorem c_indexOfChar_7 (w : wX) (m : mR) (c : Nat → Option am_C) (N D : Nat) (hD : 1 ≤ D) (hT : KTy m) (x : Int) (f : Int) (n : Int) (qx : R32 x) (qf : R32 f) (qn : R32 n) (p0 : 0 ≤ f ∧ f ≤ 21) (p1 : n ≤ 21) : TC w D 63 [.ref 1000016, .int (i32 x), .int (i32 f), .int (i32 n)] (khp m c, N) (Q_indexOfChar_7 m c N x f n) := by
  obtain ⟨D, rfl⟩ : ∃ k, D = k + 1 := ⟨D - 1, by omega⟩
  obtain ⟨qxa, qxb⟩ := id qx
  obtain ⟨qfa, qfb⟩ := id qf
  obtain ⟨qna, qnb⟩ := id qn
  refine Tc_of rfl ?_
  rw [show (khp m c, N) = (khp (mO m [] []) c, N) from by rw [mO_nil m]]
  show TT w D pm_63 (0, [(0, .ref 1000016), (1, .int (i32 x)), (2, .int (i32 f)), (3, .int (i32 n))], [], (khp (mO m [] []) c, N), 0, 0) (Q_indexOfChar_7 m c N x f n)
  refine T_ld 1 (.int (i32 x)) rfl (fun _ => rfl) ?_
  refine T_i2b 2 rfl rfl (fun z1 h2 => ?_)
  refine T_sto 4 [(4, .int (i32 z1)), (0, .ref 1000016), (1, .int (i32 x)), (2, .int (i32 f)), (3, .int (i32 n))] rfl (fun _ => rfl) ?_
  refine T_ld 5 (.int (i32 f)) rfl (fun _ => rfl) ?_
  refine T_sto 7 [(5, .int (i32 f)), (4, .int (i32 z1)), (0, .ref 1000016), (1, .int (i32 x)), (2, .int (i32 f)), (3, .int (i32 n))] rfl (fun _ => rfl) ?_
  have L7_4 : ∀ (n9 : Nat) (v3 : Int), (R32 v3) → (0 ≤ v3) → (0 ≤ v3 ∧ v3 ≤ 21) → 22 - v3 < (n9 : Int) → TT w D pm_63 (7, [(0, .ref 1000016), (3, .int (i32 n)), (4, .int (i32 z1)), (5, .int (i32 v3))], [], (khp (mO m [] []) c, N), 0, 0) (Q_indexOfChar_7 m c N x f n) := by
    intro n9
    induction n9 with
    | zero =>
      intro v3 q7 ic5 ic6 hmu
      obtain ⟨q7a, q7b⟩ := id q7
      exfalso
      omega
    | succ n9 ih =>
      intro v3 q7 ic5 ic6 hmu
      obtain ⟨q7a, q7b⟩ := id q7
      have ih10 := ih
      refine T_ld 9 (.int (i32 v3)) rfl (fun _ => rfl) ?_
      refine T_ld 10 (.int (i32 n)) rfl (fun _ => rfl) ?_
      refine T_icmp 31 13 rfl rfl rfl (r32 (by omega) (by omega)) (r32 (by omega) (by omega)) (fun (h11 : n ≤ v3) => ?_) (fun (h11 : ¬ (n ≤ v3)) => ?_)
      · skip
        refine T_ld 32 (.int (i32 (-1))) rfl (fun _ => rfl) ?_
        refine T_ret rfl (fun _ => rfl) ?_
        exact ⟨(-1), ⟨by omega, by omega⟩, rfl⟩
      · skip
        refine T_ld 14 (.ref 1000016) rfl (fun _ => rfl) ?_
        refine T_ld 16 (.int (i32 v3)) rfl (fun _ => rfl) ?_
        refine T_xbald 17 7 21 rfl rfl rfl (by omega) (show v3 < ((21 : Nat) : Int) by omega) (fun z12 h13 => ?_)
        obtain ⟨h13a, h13b⟩ := h13
        refine T_ld 19 (.int (i32 z1)) rfl (fun _ => rfl) ?_
        refine T_icmp 25 22 rfl rfl rfl (r32 (by omega) (by omega)) (r32 (by omega) (by omega)) (fun (h14 : z12 ≠ z1) => ?_) (fun (h14 : ¬ (z12 ≠ z1)) => ?_)
        · skip
          refine T_iinc 28 [(5, .int (i32 (v3 + 1))), (0, .ref 1000016), (3, .int (i32 n)), (4, .int (i32 z1))] rfl rfl (by decide) rfl rfl ?_
          refine T_goto 7 rfl (fun _ => rfl) ?_
          refine Tm_lv (a := [(0, .ref 1000016), (3, .int (i32 n)), (4, .int (i32 z1)), (5, .int (i32 (v3 + 1)))]) rfl rfl ⟨rfl, rfl, rfl, rfl, trivial⟩ ?_
          exact ih10 (v3 + 1) (r32 (by omega) (by omega)) (show 0 ≤ (v3 + 1) by omega) (show 0 ≤ (v3 + 1) ∧ (v3 + 1) ≤ 21 by omega) (show 22 - (v3 + 1) < (n9 : Int) by omega)
        · skip
          refine T_ld 24 (.int (i32 v3)) rfl (fun _ => rfl) ?_
          refine T_ret rfl (fun _ => rfl) ?_
          exact ⟨v3, ⟨by omega, by omega⟩, rfl⟩
  refine Tm_lv (a := [(0, .ref 1000016), (3, .int (i32 n)), (4, .int (i32 z1)), (5, .int (i32 f))]) rfl rfl ⟨rfl, rfl, rfl, rfl, trivial⟩ ?_
  exact L7_4 ((22 - f : Int) + 1).toNat f (r32 (by omega) (by omega)) (show 0 ≤ f by omega) (show 0 ≤ f ∧ f ≤ 21 by omega) (show 22 - f < ((((22 - f : Int) + 1).toNat : Nat) : Int) by omega)
def Q_lindexOf_7 (m : mR) (c : Nat → Option am_C) (N : Nat) (x : Int) (f : Int) (n : Int) : ag_Re af_T → Prop := fun R => (∃ (r : Int), ((-1) ≤ r ∧ r ≤ 21) ∧ R = (.inl (some (.int (i32 r))), (khp m c, N), 0, 0))
set_option maxHeartbeats 3000000 in
theorem c_lindexOf_7 (w : wX) (m : mR) (c : Nat → Option am_C) (N D : Nat) (hD : 2 ≤ D) (hT : KTy m) (x : Int) (f : Int) (n : Int) (qx : R32 x) (qf : R32 f) (qn : R32 n) (p0 : f = 0) (p1 : n = 21) : TC w D 59 [.ref 1000016, .int (i32 x), .int (i32 f), .int (i32 n)] (khp m c, N) (Q_lindexOf_7 m c N x f n) := by
  obtain ⟨D, rfl⟩ : ∃ k, D = k + 1 := ⟨D - 1, by omega⟩
  obtain ⟨qxa, qxb⟩ := id qx
  obtain ⟨qfa, qfb⟩ := id qf
  obtain ⟨qna, qnb⟩ := id qn
  refine Tc_of rfl ?_
  rw [show (khp m c, N) = (khp (mO m [] []) c, N) from by rw [mO_nil m]]
  show TT w D pm_59 (0, [(0, .ref 1000016), (1, .int (i32 x)), (2, .int (i32 f)), (3, .int (i32 n))], [], (khp (mO m [] []) c, N), 0, 0) (Q_lindexOf_7 m c N x f n)
  refine T_ld 1 (.int (i32 x)) rfl (fun _ => rfl) ?_
  refine T_callx 4 60 [.int (i32 x)] [] rfl (fun _ => rfl) rfl rfl (c_StringLatin1_canEncode w (mO m [] []) c N D (by omega) hT x (r32 (by omega) (by omega))) (fun rr1 k2 => ?_)
  obtain ⟨x3, g4, rfl⟩ := k2
  refine Or.inl ⟨_, _, _, _, rfl, ?_⟩
  refine T_ns (st' := [.int (i32 x3)]) rfl ?_
  obtain ⟨g4a, g4b⟩ := g4
  refine T_if 9 7 rfl rfl rfl (r32 (by omega) (by omega)) (fun (h5 : x3 ≠ 0) => ?_) (fun (h5 : ¬ (x3 ≠ 0)) => ?_)
  · skip
    refine T_ld 10 (.int (i32 f)) rfl (fun _ => rfl) ?_
    refine T_ld 11 (.int (i32 0)) rfl (fun _ => rfl) ?_
    refine T_callx 14 61 [.int (i32 f), .int (i32 0)] [] rfl (fun _ => rfl) rfl rfl (c_Math_max w (mO m [] []) c N D (by omega) hT f 0 (r32 (by omega) (by omega)) ⟨by decide, by decide⟩) (fun rr6 k7 => ?_)
    obtain ⟨x8, g9, h10, h11, rfl⟩ := k7
    refine Or.inl ⟨_, _, _, _, rfl, ?_⟩
    refine T_ns (st' := [.int (i32 x8)]) rfl ?_
    obtain ⟨g9a, g9b⟩ := g9
    replace h10 : x8 = f ∨ x8 = (0 : Int) := h10
    replace h11 : f ≤ x8 ∧ (0 : Int) ≤ x8 := h11
    clear g4a g4b h5
    refine T_sto 15 [(2, .int (i32 x8)), (0, .ref 1000016), (1, .int (i32 x)), (3, .int (i32 n))] rfl (fun _ => rfl) ?_
    refine T_ld 16 (.int (i32 n)) rfl (fun _ => rfl) ?_
    refine T_ld 17 (.ref 1000016) rfl (fun _ => rfl) ?_
    refine T_ld1 18 (.int (i32 21)) rfl (fun _ => rfl) ?_
    refine T_callx 21 62 [.int (i32 n), .int (i32 21)] [] rfl (fun _ => rfl) rfl rfl (c_Math_min w (mO m [] []) c N D (by omega) hT n 21 (r32 (by omega) (by omega)) ⟨by decide, by decide⟩) (fun rr12 k13 => ?_)
    obtain ⟨x14, g15, h16, h17, rfl⟩ := k13
    refine Or.inl ⟨_, _, _, _, rfl, ?_⟩
    refine T_ns (st' := [.int (i32 x14)]) rfl ?_
    obtain ⟨g15a, g15b⟩ := g15
    replace h16 : x14 = n ∨ x14 = (21 : Int) := h16
    replace h17 : x14 ≤ n ∧ x14 ≤ (21 : Int) := h17
    refine T_sto 22 [(3, .int (i32 x14)), (2, .int (i32 x8)), (0, .ref 1000016), (1, .int (i32 x))] rfl (fun _ => rfl) ?_
    refine T_ld 23 (.int (i32 x8)) rfl (fun _ => rfl) ?_
    refine T_ld 24 (.int (i32 x14)) rfl (fun _ => rfl) ?_
    refine T_icmp 29 27 rfl rfl rfl (r32 (by omega) (by omega)) (r32 (by omega) (by omega)) (fun (h18 : x8 < x14) => ?_) (fun (h18 : ¬ (x8 < x14)) => ?_)
    · skip
      refine T_ld 30 (.ref 1000016) rfl (fun _ => rfl) ?_
      refine T_ld 31 (.int (i32 x)) rfl (fun _ => rfl) ?_
      refine T_ld 32 (.int (i32 x8)) rfl (fun _ => rfl) ?_
      refine T_ld 33 (.int (i32 x14)) rfl (fun _ => rfl) ?_
      refine T_callx 36 63 [.ref 1000016, .int (i32 x), .int (i32 x8), .int (i32 x14)] [] rfl (fun _ => rfl) rfl rfl (c_indexOfChar_7 w (mO m [] []) c N D (by omega) hT x x8 x14 (r32 (by omega) (by omega)) (r32 (by omega) (by omega)) (r32 (by omega) (by omega)) (show 0 ≤ x8 ∧ x8 ≤ 21 by omega) (show x14 ≤ 21 by omega)) (fun rr19 k20 => ?_)
      obtain ⟨x21, g22, rfl⟩ := k20
      refine Or.inl ⟨_, _, _, _, rfl, ?_⟩
      refine T_ns (st' := [.int (i32 x21)]) rfl ?_
      obtain ⟨g22a, g22b⟩ := g22
      refine T_ret rfl (fun _ => rfl) ?_
      exact ⟨x21, ⟨by omega, by omega⟩, rfl⟩
    · skip
      refine T_ld 28 (.int (i32 (-1))) rfl (fun _ => rfl) ?_
      refine T_ret rfl (fun _ => rfl) ?_
      exact ⟨(-1), ⟨by omega, by omega⟩, rfl⟩
  · skip
    refine T_ld 8 (.int (i32 (-1))) rfl (fun _ => rfl) ?_
    refine T_ret rfl (fun _ => rfl) ?_
    exact ⟨(-1), ⟨by omega, by omega⟩, rfl⟩
def Q_indexOf2_7 (m : mR) (c : Nat → Option am_C) (N : Nat) (x : Int) (f : Int) : ag_Re af_T → Prop := fun R => (∃ (r : Int), ((-1) ≤ r ∧ r ≤ 21) ∧ R = (.inl (some (.int (i32 r))), (khp m c, N), 0, 0))
set_option maxHeartbeats 3000000 in
theorem c_indexOf2_7 (w : wX) (m : mR) (c : Nat → Option am_C) (N D : Nat) (hD : 3 ≤ D) (hT : KTy m) (x : Int) (f : Int) (qx : R32 x) (qf : R32 f) (p0 : f = 0) : TC w D 58 [.ref 1000015, .int (i32 x), .int (i32 f)] (khp m c, N) (Q_indexOf2_7 m c N x f) := by
  obtain ⟨D, rfl⟩ : ∃ k, D = k + 1 := ⟨D - 1, by omega⟩
  obtain ⟨qxa, qxb⟩ := id qx
  obtain ⟨qfa, qfb⟩ := id qf
  refine Tc_of rfl ?_
  rw [show (khp m c, N) = (khp (mO m [] []) c, N) from by rw [mO_nil m]]
  show TT w D pm_58 (0, [(0, .ref 1000015), (1, .int (i32 x)), (2, .int (i32 f))], [], (khp (mO m [] []) c, N), 0, 0) (Q_indexOf2_7 m c N x f)
  refine T_ld 1 (.ref 1000015) rfl (fun _ => rfl) ?_
  refine T_callx 4 6 [.ref 1000015] [] rfl (fun _ => rfl) rfl rfl (c_isLatin1_7 w (mO m [] []) c N D (by omega) hT ) (fun rr1 k2 => ?_)
  obtain ⟨x3, g4, h5, rfl⟩ := k2
  refine Or.inl ⟨_, _, _, _, rfl, ?_⟩
  refine T_ns (st' := [.int (i32 x3)]) rfl ?_
  obtain ⟨g4a, g4b⟩ := g4
  refine T_cast 1 (by omega) ?_
  replace h5 : x3 = 1 := h5
  clear g4a g4b h5
  refine T_if 23 7 rfl rfl rfl ⟨by decide, by decide⟩ (fun h6 => absurd (show (1 : Int) = 0 from h6) (by decide)) (fun _ => ?_)
  refine T_ld 8 (.ref 1000015) rfl (fun _ => rfl) ?_
  refine T_ld1 11 (.ref 1000016) rfl (fun _ => rfl) ?_
  refine T_ld 12 (.int (i32 x)) rfl (fun _ => rfl) ?_
  refine T_ld 13 (.int (i32 f)) rfl (fun _ => rfl) ?_
  refine T_ld 14 (.ref 1000015) rfl (fun _ => rfl) ?_
  refine T_callx 17 3 [.ref 1000015] [.int (i32 f), .int (i32 x), .ref 1000016] rfl (fun _ => rfl) rfl rfl (c_length_7 w (mO m [] []) c N D (by omega) hT ) (fun rr7 k8 => ?_)
  obtain ⟨x9, g10, h11, rfl⟩ := k8
  refine Or.inl ⟨_, _, _, _, rfl, ?_⟩
  refine T_ns (st' := [.int (i32 x9), .int (i32 f), .int (i32 x), .ref 1000016]) rfl ?_
  obtain ⟨g10a, g10b⟩ := g10
  refine T_cast 21 (by omega) ?_
  replace h11 : x9 = 21 := h11
  clear g10a g10b h11
  refine T_callx 20 59 [.ref 1000016, .int (i32 x), .int (i32 f), .int (i32 21)] [] rfl (fun _ => rfl) rfl rfl (c_lindexOf_7 w (mO m [] []) c N D (by omega) hT x f 21 (r32 (by omega) (by omega)) (r32 (by omega) (by omega)) ⟨by decide, by decide⟩ (show f = 0 by omega) (show (21 : Int) = 21 by omega)) (fun rr12 k13 => ?_)
  obtain ⟨x14, g15, rfl⟩ := k13
  refine Or.inl ⟨_, _, _, _, rfl, ?_⟩
  refine T_ns (st' := [.int (i32 x14)]) rfl ?_
  obtain ⟨g15a, g15b⟩ := g15
  refine T_goto 36 rfl (fun _ => rfl) ?_
  refine T_ret rfl (fun _ => rfl) ?_
  exact ⟨x14, ⟨by omega, by omega⟩, rfl⟩
def Q_indexOf_7 (m : mR) (c : Nat → Option am_C) (N : Nat) (x : Int) : ag_Re af_T → Prop := fun R => (∃ (r : Int), ((-1) ≤ r ∧ r ≤ 21) ∧ R = (.inl (some (.int (i32 r))), (khp m c, N), 0, 0))
set_option maxHeartbeats 3000000 in
theorem c_indexOf_7 (w : wX) (m : mR) (c : Nat → Option am_C) (N D : Nat) (hD : 4 ≤ D) (hT : KTy m) (x : Int) (qx : R32 x) : TC w D 57 [.ref 1000015, .int (i32 x)] (khp m c, N) (Q_indexOf_7 m c N x) := by
  obtain ⟨D, rfl⟩ : ∃ k, D = k + 1 := ⟨D - 1, by omega⟩
  obtain ⟨qxa, qxb⟩ := id qx
  refine Tc_of rfl ?_
  rw [show (khp m c, N) = (khp (mO m [] []) c, N) from by rw [mO_nil m]]
  show TT w D pm_57 (0, [(0, .ref 1000015), (1, .int (i32 x))], [], (khp (mO m [] []) c, N), 0, 0) (Q_indexOf_7 m c N x)
  refine T_ld 1 (.ref 1000015) rfl (fun _ => rfl) ?_
  refine T_ld 2 (.int (i32 x)) rfl (fun _ => rfl) ?_
  refine T_ld 3 (.int (i32 0)) rfl (fun _ => rfl) ?_
  refine T_callx 6 58 [.ref 1000015, .int (i32 x), .int (i32 0)] [] rfl (fun _ => rfl) rfl rfl (c_indexOf2_7 w (mO m [] []) c N D (by omega) hT x 0 (r32 (by omega) (by omega)) ⟨by decide, by decide⟩ (show (0 : Int) = 0 by omega)) (fun rr1 k2 => ?_)
  obtain ⟨x3, g4, rfl⟩ := k2
  refine Or.inl ⟨_, _, _, _, rfl, ?_⟩
  refine T_ns (st' := [.int (i32 x3)]) rfl ?_
  obtain ⟨g4a, g4b⟩ := g4
  refine T_ret rfl (fun _ => rfl) ?_
  exact ⟨x3, ⟨by omega, by omega⟩, rfl⟩
def Q_indexOfChar_8 (m : mR) (c : Nat → Option am_C) (N : Nat) (x : Int) (f : Int) (n : Int) : ag_Re af_T → Prop := fun R => (∃ (r : Int), ((-1) ≤ r ∧ r ≤ 6) ∧ R = (.inl (some (.int (i32 r))), (khp m c, N), 0, 0))
set_option maxHeartbeats 3000000 in
theorem c_indexOfChar_8 (w : wX) (m : mR) (c : Nat → Option am_C) (N D : Nat) (hD : 1 ≤ D) (hT : KTy m) (x : Int) (f : Int) (n : Int) (qx : R32 x) (qf : R32 f) (qn : R32 n) (p0 : 0 ≤ f ∧ f ≤ 6) (p1 : n ≤ 6) : TC w D 63 [.ref 1000018, .int (i32 x), .int (i32 f), .int (i32 n)] (khp m c, N) (Q_indexOfChar_8 m c N x f n) := by
  obtain ⟨D, rfl⟩ : ∃ k, D = k + 1 := ⟨D - 1, by omega⟩
  obtain ⟨qxa, qxb⟩ := id qx
  obtain ⟨qfa, qfb⟩ := id qf
  obtain ⟨qna, qnb⟩ := id qn
  refine Tc_of rfl ?_
  rw [show (khp m c, N) = (khp (mO m [] []) c, N) from by rw [mO_nil m]]
  show TT w D pm_63 (0, [(0, .ref 1000018), (1, .int (i32 x)), (2, .int (i32 f)), (3, .int (i32 n))], [], (khp (mO m [] []) c, N), 0, 0) (Q_indexOfChar_8 m c N x f n)
  refine T_ld 1 (.int (i32 x)) rfl (fun _ => rfl) ?_
  refine T_i2b 2 rfl rfl (fun z1 h2 => ?_)
  refine T_sto 4 [(4, .int (i32 z1)), (0, .ref 1000018), (1, .int (i32 x)), (2, .int (i32 f)), (3, .int (i32 n))] rfl (fun _ => rfl) ?_
  refine T_ld 5 (.int (i32 f)) rfl (fun _ => rfl) ?_
  refine T_sto 7 [(5, .int (i32 f)), (4, .int (i32 z1)), (0, .ref 1000018), (1, .int (i32 x)), (2, .int (i32 f)), (3, .int (i32 n))] rfl (fun _ => rfl) ?_
  have L7_4 : ∀ (n9 : Nat) (v3 : Int), (R32 v3) → (0 ≤ v3) → (0 ≤ v3 ∧ v3 ≤ 6) → 7 - v3 < (n9 : Int) → TT w D pm_63 (7, [(0, .ref 1000018), (3, .int (i32 n)), (4, .int (i32 z1)), (5, .int (i32 v3))], [], (khp (mO m [] []) c, N), 0, 0) (Q_indexOfChar_8 m c N x f n) := by
    intro n9
    induction n9 with
    | zero =>
      intro v3 q7 ic5 ic6 hmu
      obtain ⟨q7a, q7b⟩ := id q7
      exfalso
      omega
    | succ n9 ih =>
      intro v3 q7 ic5 ic6 hmu
      obtain ⟨q7a, q7b⟩ := id q7
      have ih10 := ih
      refine T_ld 9 (.int (i32 v3)) rfl (fun _ => rfl) ?_
      refine T_ld 10 (.int (i32 n)) rfl (fun _ => rfl) ?_
      refine T_icmp 31 13 rfl rfl rfl (r32 (by omega) (by omega)) (r32 (by omega) (by omega)) (fun (h11 : n ≤ v3) => ?_) (fun (h11 : ¬ (n ≤ v3)) => ?_)
      · skip
        refine T_ld 32 (.int (i32 (-1))) rfl (fun _ => rfl) ?_
        refine T_ret rfl (fun _ => rfl) ?_
        exact ⟨(-1), ⟨by omega, by omega⟩, rfl⟩
      · skip
        refine T_ld 14 (.ref 1000018) rfl (fun _ => rfl) ?_
        refine T_ld 16 (.int (i32 v3)) rfl (fun _ => rfl) ?_
        refine T_xbald 17 8 6 rfl rfl rfl (by omega) (show v3 < ((6 : Nat) : Int) by omega) (fun z12 h13 => ?_)
        obtain ⟨h13a, h13b⟩ := h13
        refine T_ld 19 (.int (i32 z1)) rfl (fun _ => rfl) ?_
        refine T_icmp 25 22 rfl rfl rfl (r32 (by omega) (by omega)) (r32 (by omega) (by omega)) (fun (h14 : z12 ≠ z1) => ?_) (fun (h14 : ¬ (z12 ≠ z1)) => ?_)
        · skip
          refine T_iinc 28 [(5, .int (i32 (v3 + 1))), (0, .ref 1000018), (3, .int (i32 n)), (4, .int (i32 z1))] rfl rfl (by decide) rfl rfl ?_
          refine T_goto 7 rfl (fun _ => rfl) ?_
          refine Tm_lv (a := [(0, .ref 1000018), (3, .int (i32 n)), (4, .int (i32 z1)), (5, .int (i32 (v3 + 1)))]) rfl rfl ⟨rfl, rfl, rfl, rfl, trivial⟩ ?_
          exact ih10 (v3 + 1) (r32 (by omega) (by omega)) (show 0 ≤ (v3 + 1) by omega) (show 0 ≤ (v3 + 1) ∧ (v3 + 1) ≤ 6 by omega) (show 7 - (v3 + 1) < (n9 : Int) by omega)
        · skip
          refine T_ld 24 (.int (i32 v3)) rfl (fun _ => rfl) ?_
          refine T_ret rfl (fun _ => rfl) ?_
          exact ⟨v3, ⟨by omega, by omega⟩, rfl⟩
  refine Tm_lv (a := [(0, .ref 1000018), (3, .int (i32 n)), (4, .int (i32 z1)), (5, .int (i32 f))]) rfl rfl ⟨rfl, rfl, rfl, rfl, trivial⟩ ?_
  exact L7_4 ((7 - f : Int) + 1).toNat f (r32 (by omega) (by omega)) (show 0 ≤ f by omega) (show 0 ≤ f ∧ f ≤ 6 by omega) (show 7 - f < ((((7 - f : Int) + 1).toNat : Nat) : Int) by omega)
def Q_lindexOf_8 (m : mR) (c : Nat → Option am_C) (N : Nat) (x : Int) (f : Int) (n : Int) : ag_Re af_T → Prop := fun R => (∃ (r : Int), ((-1) ≤ r ∧ r ≤ 6) ∧ R = (.inl (some (.int (i32 r))), (khp m c, N), 0, 0))
set_option maxHeartbeats 3000000 in
theorem c_lindexOf_8 (w : wX) (m : mR) (c : Nat → Option am_C) (N D : Nat) (hD : 2 ≤ D) (hT : KTy m) (x : Int) (f : Int) (n : Int) (qx : R32 x) (qf : R32 f) (qn : R32 n) (p0 : f = 0) (p1 : n = 6) : TC w D 59 [.ref 1000018, .int (i32 x), .int (i32 f), .int (i32 n)] (khp m c, N) (Q_lindexOf_8 m c N x f n) := by
  obtain ⟨D, rfl⟩ : ∃ k, D = k + 1 := ⟨D - 1, by omega⟩
  obtain ⟨qxa, qxb⟩ := id qx
  obtain ⟨qfa, qfb⟩ := id qf
  obtain ⟨qna, qnb⟩ := id qn
  refine Tc_of rfl ?_
  rw [show (khp m c, N) = (khp (mO m [] []) c, N) from by rw [mO_nil m]]
  show TT w D pm_59 (0, [(0, .ref 1000018), (1, .int (i32 x)), (2, .int (i32 f)), (3, .int (i32 n))], [], (khp (mO m [] []) c, N), 0, 0) (Q_lindexOf_8 m c N x f n)
  refine T_ld 1 (.int (i32 x)) rfl (fun _ => rfl) ?_
  refine T_callx 4 60 [.int (i32 x)] [] rfl (fun _ => rfl) rfl rfl (c_StringLatin1_canEncode w (mO m [] []) c N D (by omega) hT x (r32 (by omega) (by omega))) (fun rr1 k2 => ?_)
  obtain ⟨x3, g4, rfl⟩ := k2
  refine Or.inl ⟨_, _, _, _, rfl, ?_⟩
  refine T_ns (st' := [.int (i32 x3)]) rfl ?_
  obtain ⟨g4a, g4b⟩ := g4
  refine T_if 9 7 rfl rfl rfl (r32 (by omega) (by omega)) (fun (h5 : x3 ≠ 0) => ?_) (fun (h5 : ¬ (x3 ≠ 0)) => ?_)
  · skip
    refine T_ld 10 (.int (i32 f)) rfl (fun _ => rfl) ?_
    refine T_ld 11 (.int (i32 0)) rfl (fun _ => rfl) ?_
    refine T_callx 14 61 [.int (i32 f), .int (i32 0)] [] rfl (fun _ => rfl) rfl rfl (c_Math_max w (mO m [] []) c N D (by omega) hT f 0 (r32 (by omega) (by omega)) ⟨by decide, by decide⟩) (fun rr6 k7 => ?_)
    obtain ⟨x8, g9, h10, h11, rfl⟩ := k7
    refine Or.inl ⟨_, _, _, _, rfl, ?_⟩
    refine T_ns (st' := [.int (i32 x8)]) rfl ?_
    obtain ⟨g9a, g9b⟩ := g9
    replace h10 : x8 = f ∨ x8 = (0 : Int) := h10
    replace h11 : f ≤ x8 ∧ (0 : Int) ≤ x8 := h11
    clear g4a g4b h5
    refine T_sto 15 [(2, .int (i32 x8)), (0, .ref 1000018), (1, .int (i32 x)), (3, .int (i32 n))] rfl (fun _ => rfl) ?_
    refine T_ld 16 (.int (i32 n)) rfl (fun _ => rfl) ?_
    refine T_ld 17 (.ref 1000018) rfl (fun _ => rfl) ?_
    refine T_ld1 18 (.int (i32 6)) rfl (fun _ => rfl) ?_
    refine T_callx 21 62 [.int (i32 n), .int (i32 6)] [] rfl (fun _ => rfl) rfl rfl (c_Math_min w (mO m [] []) c N D (by omega) hT n 6 (r32 (by omega) (by omega)) ⟨by decide, by decide⟩) (fun rr12 k13 => ?_)
    obtain ⟨x14, g15, h16, h17, rfl⟩ := k13
    refine Or.inl ⟨_, _, _, _, rfl, ?_⟩
    refine T_ns (st' := [.int (i32 x14)]) rfl ?_
    obtain ⟨g15a, g15b⟩ := g15
    replace h16 : x14 = n ∨ x14 = (6 : Int) := h16
    replace h17 : x14 ≤ n ∧ x14 ≤ (6 : Int) := h17
    refine T_sto 22 [(3, .int (i32 x14)), (2, .int (i32 x8)), (0, .ref 1000018), (1, .int (i32 x))] rfl (fun _ => rfl) ?_
    refine T_ld 23 (.int (i32 x8)) rfl (fun _ => rfl) ?_
    refine T_ld 24 (.int (i32 x14)) rfl (fun _ => rfl) ?_
    refine T_icmp 29 27 rfl rfl rfl (r32 (by omega) (by omega)) (r32 (by omega) (by omega)) (fun (h18 : x8 < x14) => ?_) (fun (h18 : ¬ (x8 < x14)) => ?_)
    · skip
      refine T_ld 30 (.ref 1000018) rfl (fun _ => rfl) ?_
      refine T_ld 31 (.int (i32 x)) rfl (fun _ => rfl) ?_
      refine T_ld 32 (.int (i32 x8)) rfl (fun _ => rfl) ?_
      refine T_ld 33 (.int (i32 x14)) rfl (fun _ => rfl) ?_
      refine T_callx 36 63 [.ref 1000018, .int (i32 x), .int (i32 x8), .int (i32 x14)] [] rfl (fun _ => rfl) rfl rfl (c_indexOfChar_8 w (mO m [] []) c N D (by omega) hT x x8 x14 (r32 (by omega) (by omega)) (r32 (by omega) (by omega)) (r32 (by omega) (by omega)) (show 0 ≤ x8 ∧ x8 ≤ 6 by omega) (show x14 ≤ 6 by omega)) (fun rr19 k20 => ?_)
      obtain ⟨x21, g22, rfl⟩ := k20
      refine Or.inl ⟨_, _, _, _, rfl, ?_⟩
      refine T_ns (st' := [.int (i32 x21)]) rfl ?_
      obtain ⟨g22a, g22b⟩ := g22
      refine T_ret rfl (fun _ => rfl) ?_
      exact ⟨x21, ⟨by omega, by omega⟩, rfl⟩
    · skip
      refine T_ld 28 (.int (i32 (-1))) rfl (fun _ => rfl) ?_
      refine T_ret rfl (fun _ => rfl) ?_
      exact ⟨(-1), ⟨by omega, by omega⟩, rfl⟩
  · skip
    refine T_ld 8 (.int (i32 (-1))) rfl (fun _ => rfl) ?_
    refine T_ret rfl (fun _ => rfl) ?_
    exact ⟨(-1), ⟨by omega, by omega⟩, rfl⟩
def Q_indexOf2_8 (m : mR) (c : Nat → Option am_C) (N : Nat) (x : Int) (f : Int) : ag_Re af_T → Prop := fun R => (∃ (r : Int), ((-1) ≤ r ∧ r ≤ 6) ∧ R = (.inl (some (.int (i32 r))), (khp m c, N), 0, 0))
set_option maxHeartbeats 3000000 in
theorem c_indexOf2_8 (w : wX) (m : mR) (c : Nat → Option am_C) (N D : Nat) (hD : 3 ≤ D) (hT : KTy m) (x : Int) (f : Int) (qx : R32 x) (qf : R32 f) (p0 : f = 0) : TC w D 58 [.ref 1000017, .int (i32 x), .int (i32 f)] (khp m c, N) (Q_indexOf2_8 m c N x f) := by
  obtain ⟨D, rfl⟩ : ∃ k, D = k + 1 := ⟨D - 1, by omega⟩
  obtain ⟨qxa, qxb⟩ := id qx
  obtain ⟨qfa, qfb⟩ := id qf
  refine Tc_of rfl ?_
  rw [show (khp m c, N) = (khp (mO m [] []) c, N) from by rw [mO_nil m]]
  show TT w D pm_58 (0, [(0, .ref 1000017), (1, .int (i32 x)), (2, .int (i32 f))], [], (khp (mO m [] []) c, N), 0, 0) (Q_indexOf2_8 m c N x f)
  refine T_ld 1 (.ref 1000017) rfl (fun _ => rfl) ?_
  refine T_callx 4 6 [.ref 1000017] [] rfl (fun _ => rfl) rfl rfl (c_isLatin1_8 w (mO m [] []) c N D (by omega) hT ) (fun rr1 k2 => ?_)
  obtain ⟨x3, g4, h5, rfl⟩ := k2
  refine Or.inl ⟨_, _, _, _, rfl, ?_⟩
  refine T_ns (st' := [.int (i32 x3)]) rfl ?_
  obtain ⟨g4a, g4b⟩ := g4
  refine T_cast 1 (by omega) ?_
  replace h5 : x3 = 1 := h5
  clear g4a g4b h5
  refine T_if 23 7 rfl rfl rfl ⟨by decide, by decide⟩ (fun h6 => absurd (show (1 : Int) = 0 from h6) (by decide)) (fun _ => ?_)
  refine T_ld 8 (.ref 1000017) rfl (fun _ => rfl) ?_
  refine T_ld1 11 (.ref 1000018) rfl (fun _ => rfl) ?_
  refine T_ld 12 (.int (i32 x)) rfl (fun _ => rfl) ?_
  refine T_ld 13 (.int (i32 f)) rfl (fun _ => rfl) ?_
  refine T_ld 14 (.ref 1000017) rfl (fun _ => rfl) ?_
  refine T_callx 17 3 [.ref 1000017] [.int (i32 f), .int (i32 x), .ref 1000018] rfl (fun _ => rfl) rfl rfl (c_length_8 w (mO m [] []) c N D (by omega) hT ) (fun rr7 k8 => ?_)
  obtain ⟨x9, g10, h11, rfl⟩ := k8
  refine Or.inl ⟨_, _, _, _, rfl, ?_⟩
  refine T_ns (st' := [.int (i32 x9), .int (i32 f), .int (i32 x), .ref 1000018]) rfl ?_
  obtain ⟨g10a, g10b⟩ := g10
  refine T_cast 6 (by omega) ?_
  replace h11 : x9 = 6 := h11
  clear g10a g10b h11
  refine T_callx 20 59 [.ref 1000018, .int (i32 x), .int (i32 f), .int (i32 6)] [] rfl (fun _ => rfl) rfl rfl (c_lindexOf_8 w (mO m [] []) c N D (by omega) hT x f 6 (r32 (by omega) (by omega)) (r32 (by omega) (by omega)) ⟨by decide, by decide⟩ (show f = 0 by omega) (show (6 : Int) = 6 by omega)) (fun rr12 k13 => ?_)
  obtain ⟨x14, g15, rfl⟩ := k13
  refine Or.inl ⟨_, _, _, _, rfl, ?_⟩
  refine T_ns (st' := [.int (i32 x14)]) rfl ?_
  obtain ⟨g15a, g15b⟩ := g15
  refine T_goto 36 rfl (fun _ => rfl) ?_
  refine T_ret rfl (fun _ => rfl) ?_
  exact ⟨x14, ⟨by omega, by omega⟩, rfl⟩
def Q_indexOf_8 (m : mR) (c : Nat → Option am_C) (N : Nat) (x : Int) : ag_Re af_T → Prop := fun R => (∃ (r : Int), ((-1) ≤ r ∧ r ≤ 6) ∧ R = (.inl (some (.int (i32 r))), (khp m c, N), 0, 0))
set_option maxHeartbeats 3000000 in
theorem c_indexOf_8 (w : wX) (m : mR) (c : Nat → Option am_C) (N D : Nat) (hD : 4 ≤ D) (hT : KTy m) (x : Int) (qx : R32 x) : TC w D 57 [.ref 1000017, .int (i32 x)] (khp m c, N) (Q_indexOf_8 m c N x) := by
  obtain ⟨D, rfl⟩ : ∃ k, D = k + 1 := ⟨D - 1, by omega⟩
  obtain ⟨qxa, qxb⟩ := id qx
  refine Tc_of rfl ?_
  rw [show (khp m c, N) = (khp (mO m [] []) c, N) from by rw [mO_nil m]]
  show TT w D pm_57 (0, [(0, .ref 1000017), (1, .int (i32 x))], [], (khp (mO m [] []) c, N), 0, 0) (Q_indexOf_8 m c N x)
  refine T_ld 1 (.ref 1000017) rfl (fun _ => rfl) ?_
  refine T_ld 2 (.int (i32 x)) rfl (fun _ => rfl) ?_
  refine T_ld 3 (.int (i32 0)) rfl (fun _ => rfl) ?_
  refine T_callx 6 58 [.ref 1000017, .int (i32 x), .int (i32 0)] [] rfl (fun _ => rfl) rfl rfl (c_indexOf2_8 w (mO m [] []) c N D (by omega) hT x 0 (r32 (by omega) (by omega)) ⟨by decide, by decide⟩ (show (0 : Int) = 0 by omega)) (fun rr1 k2 => ?_)
  obtain ⟨x3, g4, rfl⟩ := k2
  refine Or.inl ⟨_, _, _, _, rfl, ?_⟩
  refine T_ns (st' := [.int (i32 x3)]) rfl ?_
  obtain ⟨g4a, g4b⟩ := g4
  refine T_ret rfl (fun _ => rfl) ?_
  exact ⟨x3, ⟨by omega, by omega⟩, rfl⟩
def Q_indexOfChar_9 (m : mR) (c : Nat → Option am_C) (N : Nat) (x : Int) (f : Int) (n : Int) : ag_Re af_T → Prop := fun R => (∃ (r : Int), ((-1) ≤ r ∧ r ≤ 3) ∧ R = (.inl (some (.int (i32 r))), (khp m c, N), 0, 0))
set_option maxHeartbeats 3000000 in
theorem c_indexOfChar_9 (w : wX) (m : mR) (c : Nat → Option am_C) (N D : Nat) (hD : 1 ≤ D) (hT : KTy m) (x : Int) (f : Int) (n : Int) (qx : R32 x) (qf : R32 f) (qn : R32 n) (p0 : 0 ≤ f ∧ f ≤ 3) (p1 : n ≤ 3) : TC w D 63 [.ref 1000020, .int (i32 x), .int (i32 f), .int (i32 n)] (khp m c, N) (Q_indexOfChar_9 m c N x f n) := by
  obtain ⟨D, rfl⟩ : ∃ k, D = k + 1 := ⟨D - 1, by omega⟩
  obtain ⟨qxa, qxb⟩ := id qx
  obtain ⟨qfa, qfb⟩ := id qf
  obtain ⟨qna, qnb⟩ := id qn
  refine Tc_of rfl ?_
  rw [show (khp m c, N) = (khp (mO m [] []) c, N) from by rw [mO_nil m]]
  show TT w D pm_63 (0, [(0, .ref 1000020), (1, .int (i32 x)), (2, .int (i32 f)), (3, .int (i32 n))], [], (khp (mO m [] []) c, N), 0, 0) (Q_indexOfChar_9 m c N x f n)
  refine T_ld 1 (.int (i32 x)) rfl (fun _ => rfl) ?_
  refine T_i2b 2 rfl rfl (fun z1 h2 => ?_)
  refine T_sto 4 [(4, .int (i32 z1)), (0, .ref 1000020), (1, .int (i32 x)), (2, .int (i32 f)), (3, .int (i32 n))] rfl (fun _ => rfl) ?_
  refine T_ld 5 (.int (i32 f)) rfl (fun _ => rfl) ?_
  refine T_sto 7 [(5, .int (i32 f)), (4, .int (i32 z1)), (0, .ref 1000020), (1, .int (i32 x)), (2, .int (i32 f)), (3, .int (i32 n))] rfl (fun _ => rfl) ?_
  have L7_4 : ∀ (n9 : Nat) (v3 : Int), (R32 v3) → (0 ≤ v3) → (0 ≤ v3 ∧ v3 ≤ 3) → 4 - v3 < (n9 : Int) → TT w D pm_63 (7, [(0, .ref 1000020), (3, .int (i32 n)), (4, .int (i32 z1)), (5, .int (i32 v3))], [], (khp (mO m [] []) c, N), 0, 0) (Q_indexOfChar_9 m c N x f n) := by
    intro n9
    induction n9 with
    | zero =>
      intro v3 q7 ic5 ic6 hmu
      obtain ⟨q7a, q7b⟩ := id q7
      exfalso
      omega
    | succ n9 ih =>
      intro v3 q7 ic5 ic6 hmu
      obtain ⟨q7a, q7b⟩ := id q7
      have ih10 := ih
      refine T_ld 9 (.int (i32 v3)) rfl (fun _ => rfl) ?_
      refine T_ld 10 (.int (i32 n)) rfl (fun _ => rfl) ?_
      refine T_icmp 31 13 rfl rfl rfl (r32 (by omega) (by omega)) (r32 (by omega) (by omega)) (fun (h11 : n ≤ v3) => ?_) (fun (h11 : ¬ (n ≤ v3)) => ?_)
      · skip
        refine T_ld 32 (.int (i32 (-1))) rfl (fun _ => rfl) ?_
        refine T_ret rfl (fun _ => rfl) ?_
        exact ⟨(-1), ⟨by omega, by omega⟩, rfl⟩
      · skip
        refine T_ld 14 (.ref 1000020) rfl (fun _ => rfl) ?_
        refine T_ld 16 (.int (i32 v3)) rfl (fun _ => rfl) ?_
        refine T_xbald 17 9 3 rfl rfl rfl (by omega) (show v3 < ((3 : Nat) : Int) by omega) (fun z12 h13 => ?_)
        obtain ⟨h13a, h13b⟩ := h13
        refine T_ld 19 (.int (i32 z1)) rfl (fun _ => rfl) ?_
        refine T_icmp 25 22 rfl rfl rfl (r32 (by omega) (by omega)) (r32 (by omega) (by omega)) (fun (h14 : z12 ≠ z1) => ?_) (fun (h14 : ¬ (z12 ≠ z1)) => ?_)
        · skip
          refine T_iinc 28 [(5, .int (i32 (v3 + 1))), (0, .ref 1000020), (3, .int (i32 n)), (4, .int (i32 z1))] rfl rfl (by decide) rfl rfl ?_
          refine T_goto 7 rfl (fun _ => rfl) ?_
          refine Tm_lv (a := [(0, .ref 1000020), (3, .int (i32 n)), (4, .int (i32 z1)), (5, .int (i32 (v3 + 1)))]) rfl rfl ⟨rfl, rfl, rfl, rfl, trivial⟩ ?_
          exact ih10 (v3 + 1) (r32 (by omega) (by omega)) (show 0 ≤ (v3 + 1) by omega) (show 0 ≤ (v3 + 1) ∧ (v3 + 1) ≤ 3 by omega) (show 4 - (v3 + 1) < (n9 : Int) by omega)
        · skip
          refine T_ld 24 (.int (i32 v3)) rfl (fun _ => rfl) ?_
          refine T_ret rfl (fun _ => rfl) ?_
          exact ⟨v3, ⟨by omega, by omega⟩, rfl⟩
  refine Tm_lv (a := [(0, .ref 1000020), (3, .int (i32 n)), (4, .int (i32 z1)), (5, .int (i32 f))]) rfl rfl ⟨rfl, rfl, rfl, rfl, trivial⟩ ?_
  exact L7_4 ((4 - f : Int) + 1).toNat f (r32 (by omega) (by omega)) (show 0 ≤ f by omega) (show 0 ≤ f ∧ f ≤ 3 by omega) (show 4 - f < ((((4 - f : Int) + 1).toNat : Nat) : Int) by omega)
def Q_lindexOf_9 (m : mR) (c : Nat → Option am_C) (N : Nat) (x : Int) (f : Int) (n : Int) : ag_Re af_T → Prop := fun R => (∃ (r : Int), ((-1) ≤ r ∧ r ≤ 3) ∧ R = (.inl (some (.int (i32 r))), (khp m c, N), 0, 0))
set_option maxHeartbeats 3000000 in
theorem c_lindexOf_9 (w : wX) (m : mR) (c : Nat → Option am_C) (N D : Nat) (hD : 2 ≤ D) (hT : KTy m) (x : Int) (f : Int) (n : Int) (qx : R32 x) (qf : R32 f) (qn : R32 n) (p0 : f = 0) (p1 : n = 3) : TC w D 59 [.ref 1000020, .int (i32 x), .int (i32 f), .int (i32 n)] (khp m c, N) (Q_lindexOf_9 m c N x f n) := by
  obtain ⟨D, rfl⟩ : ∃ k, D = k + 1 := ⟨D - 1, by omega⟩
  obtain ⟨qxa, qxb⟩ := id qx
  obtain ⟨qfa, qfb⟩ := id qf
  obtain ⟨qna, qnb⟩ := id qn
  refine Tc_of rfl ?_
  rw [show (khp m c, N) = (khp (mO m [] []) c, N) from by rw [mO_nil m]]
  show TT w D pm_59 (0, [(0, .ref 1000020), (1, .int (i32 x)), (2, .int (i32 f)), (3, .int (i32 n))], [], (khp (mO m [] []) c, N), 0, 0) (Q_lindexOf_9 m c N x f n)
  refine T_ld 1 (.int (i32 x)) rfl (fun _ => rfl) ?_
  refine T_callx 4 60 [.int (i32 x)] [] rfl (fun _ => rfl) rfl rfl (c_StringLatin1_canEncode w (mO m [] []) c N D (by omega) hT x (r32 (by omega) (by omega))) (fun rr1 k2 => ?_)
  obtain ⟨x3, g4, rfl⟩ := k2
  refine Or.inl ⟨_, _, _, _, rfl, ?_⟩
  refine T_ns (st' := [.int (i32 x3)]) rfl ?_
  obtain ⟨g4a, g4b⟩ := g4
  refine T_if 9 7 rfl rfl rfl (r32 (by omega) (by omega)) (fun (h5 : x3 ≠ 0) => ?_) (fun (h5 : ¬ (x3 ≠ 0)) => ?_)
  · skip
    refine T_ld 10 (.int (i32 f)) rfl (fun _ => rfl) ?_
    refine T_ld 11 (.int (i32 0)) rfl (fun _ => rfl) ?_
    refine T_callx 14 61 [.int (i32 f), .int (i32 0)] [] rfl (fun _ => rfl) rfl rfl (c_Math_max w (mO m [] []) c N D (by omega) hT f 0 (r32 (by omega) (by omega)) ⟨by decide, by decide⟩) (fun rr6 k7 => ?_)
    obtain ⟨x8, g9, h10, h11, rfl⟩ := k7
    refine Or.inl ⟨_, _, _, _, rfl, ?_⟩
    refine T_ns (st' := [.int (i32 x8)]) rfl ?_
    obtain ⟨g9a, g9b⟩ := g9
    replace h10 : x8 = f ∨ x8 = (0 : Int) := h10
    replace h11 : f ≤ x8 ∧ (0 : Int) ≤ x8 := h11
    clear g4a g4b h5
    refine T_sto 15 [(2, .int (i32 x8)), (0, .ref 1000020), (1, .int (i32 x)), (3, .int (i32 n))] rfl (fun _ => rfl) ?_
    refine T_ld 16 (.int (i32 n)) rfl (fun _ => rfl) ?_
    refine T_ld 17 (.ref 1000020) rfl (fun _ => rfl) ?_
    refine T_ld1 18 (.int (i32 3)) rfl (fun _ => rfl) ?_
    refine T_callx 21 62 [.int (i32 n), .int (i32 3)] [] rfl (fun _ => rfl) rfl rfl (c_Math_min w (mO m [] []) c N D (by omega) hT n 3 (r32 (by omega) (by omega)) ⟨by decide, by decide⟩) (fun rr12 k13 => ?_)
    obtain ⟨x14, g15, h16, h17, rfl⟩ := k13
    refine Or.inl ⟨_, _, _, _, rfl, ?_⟩
    refine T_ns (st' := [.int (i32 x14)]) rfl ?_
    obtain ⟨g15a, g15b⟩ := g15
    replace h16 : x14 = n ∨ x14 = (3 : Int) := h16
    replace h17 : x14 ≤ n ∧ x14 ≤ (3 : Int) := h17
    refine T_sto 22 [(3, .int (i32 x14)), (2, .int (i32 x8)), (0, .ref 1000020), (1, .int (i32 x))] rfl (fun _ => rfl) ?_
    refine T_ld 23 (.int (i32 x8)) rfl (fun _ => rfl) ?_
    refine T_ld 24 (.int (i32 x14)) rfl (fun _ => rfl) ?_
    refine T_icmp 29 27 rfl rfl rfl (r32 (by omega) (by omega)) (r32 (by omega) (by omega)) (fun (h18 : x8 < x14) => ?_) (fun (h18 : ¬ (x8 < x14)) => ?_)
    · skip
      refine T_ld 30 (.ref 1000020) rfl (fun _ => rfl) ?_
      refine T_ld 31 (.int (i32 x)) rfl (fun _ => rfl) ?_
      refine T_ld 32 (.int (i32 x8)) rfl (fun _ => rfl) ?_
      refine T_ld 33 (.int (i32 x14)) rfl (fun _ => rfl) ?_
      refine T_callx 36 63 [.ref 1000020, .int (i32 x), .int (i32 x8), .int (i32 x14)] [] rfl (fun _ => rfl) rfl rfl (c_indexOfChar_9 w (mO m [] []) c N D (by omega) hT x x8 x14 (r32 (by omega) (by omega)) (r32 (by omega) (by omega)) (r32 (by omega) (by omega)) (show 0 ≤ x8 ∧ x8 ≤ 3 by omega) (show x14 ≤ 3 by omega)) (fun rr19 k20 => ?_)
      obtain ⟨x21, g22, rfl⟩ := k20
      refine Or.inl ⟨_, _, _, _, rfl, ?_⟩
      refine T_ns (st' := [.int (i32 x21)]) rfl ?_
      obtain ⟨g22a, g22b⟩ := g22
      refine T_ret rfl (fun _ => rfl) ?_
      exact ⟨x21, ⟨by omega, by omega⟩, rfl⟩
    · skip
      refine T_ld 28 (.int (i32 (-1))) rfl (fun _ => rfl) ?_
      refine T_ret rfl (fun _ => rfl) ?_
      exact ⟨(-1), ⟨by omega, by omega⟩, rfl⟩
  · skip
    refine T_ld 8 (.int (i32 (-1))) rfl (fun _ => rfl) ?_
    refine T_ret rfl (fun _ => rfl) ?_
    exact ⟨(-1), ⟨by omega, by omega⟩, rfl⟩
def Q_indexOf2_9 (m : mR) (c : Nat → Option am_C) (N : Nat) (x : Int) (f : Int) : ag_Re af_T → Prop := fun R => (∃ (r : Int), ((-1) ≤ r ∧ r ≤ 3) ∧ R = (.inl (some (.int (i32 r))), (khp m c, N), 0, 0))
set_option maxHeartbeats 3000000 in
theorem c_indexOf2_9 (w : wX) (m : mR) (c : Nat → Option am_C) (N D : Nat) (hD : 3 ≤ D) (hT : KTy m) (x : Int) (f : Int) (qx : R32 x) (qf : R32 f) (p0 : f = 0) : TC w D 58 [.ref 1000019, .int (i32 x), .int (i32 f)] (khp m c, N) (Q_indexOf2_9 m c N x f) := by
  obtain ⟨D, rfl⟩ : ∃ k, D = k + 1 := ⟨D - 1, by omega⟩
  obtain ⟨qxa, qxb⟩ := id qx
  obtain ⟨qfa, qfb⟩ := id qf
  refine Tc_of rfl ?_
  rw [show (khp m c, N) = (khp (mO m [] []) c, N) from by rw [mO_nil m]]
  show TT w D pm_58 (0, [(0, .ref 1000019), (1, .int (i32 x)), (2, .int (i32 f))], [], (khp (mO m [] []) c, N), 0, 0) (Q_indexOf2_9 m c N x f)
  refine T_ld 1 (.ref 1000019) rfl (fun _ => rfl) ?_
  refine T_callx 4 6 [.ref 1000019] [] rfl (fun _ => rfl) rfl rfl (c_isLatin1_9 w (mO m [] []) c N D (by omega) hT ) (fun rr1 k2 => ?_)
  obtain ⟨x3, g4, h5, rfl⟩ := k2
  refine Or.inl ⟨_, _, _, _, rfl, ?_⟩
  refine T_ns (st' := [.int (i32 x3)]) rfl ?_
  obtain ⟨g4a, g4b⟩ := g4
  refine T_cast 1 (by omega) ?_
  replace h5 : x3 = 1 := h5
  clear g4a g4b h5
  refine T_if 23 7 rfl rfl rfl ⟨by decide, by decide⟩ (fun h6 => absurd (show (1 : Int) = 0 from h6) (by decide)) (fun _ => ?_)
  refine T_ld 8 (.ref 1000019) rfl (fun _ => rfl) ?_
  refine T_ld1 11 (.ref 1000020) rfl (fun _ => rfl) ?_
  refine T_ld 12 (.int (i32 x)) rfl (fun _ => rfl) ?_
  refine T_ld 13 (.int (i32 f)) rfl (fun _ => rfl) ?_
  refine T_ld 14 (.ref 1000019) rfl (fun _ => rfl) ?_
  refine T_callx 17 3 [.ref 1000019] [.int (i32 f), .int (i32 x), .ref 1000020] rfl (fun _ => rfl) rfl rfl (c_length_9 w (mO m [] []) c N D (by omega) hT ) (fun rr7 k8 => ?_)
  obtain ⟨x9, g10, h11, rfl⟩ := k8
  refine Or.inl ⟨_, _, _, _, rfl, ?_⟩
  refine T_ns (st' := [.int (i32 x9), .int (i32 f), .int (i32 x), .ref 1000020]) rfl ?_
  obtain ⟨g10a, g10b⟩ := g10
  refine T_cast 3 (by omega) ?_
  replace h11 : x9 = 3 := h11
  clear g10a g10b h11
  refine T_callx 20 59 [.ref 1000020, .int (i32 x), .int (i32 f), .int (i32 3)] [] rfl (fun _ => rfl) rfl rfl (c_lindexOf_9 w (mO m [] []) c N D (by omega) hT x f 3 (r32 (by omega) (by omega)) (r32 (by omega) (by omega)) ⟨by decide, by decide⟩ (show f = 0 by omega) (show (3 : Int) = 3 by omega)) (fun rr12 k13 => ?_)
  obtain ⟨x14, g15, rfl⟩ := k13
  refine Or.inl ⟨_, _, _, _, rfl, ?_⟩
  refine T_ns (st' := [.int (i32 x14)]) rfl ?_
  obtain ⟨g15a, g15b⟩ := g15
  refine T_goto 36 rfl (fun _ => rfl) ?_
  refine T_ret rfl (fun _ => rfl) ?_
  exact ⟨x14, ⟨by omega, by omega⟩, rfl⟩
def Q_indexOf_9 (m : mR) (c : Nat → Option am_C) (N : Nat) (x : Int) : ag_Re af_T → Prop := fun R => (∃ (r : Int), ((-1) ≤ r ∧ r ≤ 3) ∧ R = (.inl (some (.int (i32 r))), (khp m c, N), 0, 0))
set_option maxHeartbeats 3000000 in
theorem c_indexOf_9 (w : wX) (m : mR) (c : Nat → Option am_C) (N D : Nat) (hD : 4 ≤ D) (hT : KTy m) (x : Int) (qx : R32 x) : TC w D 57 [.ref 1000019, .int (i32 x)] (khp m c, N) (Q_indexOf_9 m c N x) := by
  obtain ⟨D, rfl⟩ : ∃ k, D = k + 1 := ⟨D - 1, by omega⟩
  obtain ⟨qxa, qxb⟩ := id qx
  refine Tc_of rfl ?_
  rw [show (khp m c, N) = (khp (mO m [] []) c, N) from by rw [mO_nil m]]
  show TT w D pm_57 (0, [(0, .ref 1000019), (1, .int (i32 x))], [], (khp (mO m [] []) c, N), 0, 0) (Q_indexOf_9 m c N x)
  refine T_ld 1 (.ref 1000019) rfl (fun _ => rfl) ?_
  refine T_ld 2 (.int (i32 x)) rfl (fun _ => rfl) ?_
  refine T_ld 3 (.int (i32 0)) rfl (fun _ => rfl) ?_
  refine T_callx 6 58 [.ref 1000019, .int (i32 x), .int (i32 0)] [] rfl (fun _ => rfl) rfl rfl (c_indexOf2_9 w (mO m [] []) c N D (by omega) hT x 0 (r32 (by omega) (by omega)) ⟨by decide, by decide⟩ (show (0 : Int) = 0 by omega)) (fun rr1 k2 => ?_)
  obtain ⟨x3, g4, rfl⟩ := k2
  refine Or.inl ⟨_, _, _, _, rfl, ?_⟩
  refine T_ns (st' := [.int (i32 x3)]) rfl ?_
  obtain ⟨g4a, g4b⟩ := g4
  refine T_ret rfl (fun _ => rfl) ?_
  exact ⟨x3, ⟨by omega, by omega⟩, rfl⟩
def Q_Preconditions_checkIndex (m : mR) (c : Nat → Option am_C) (N : Nat) (i : Int) (n : Int) : ag_Re af_T → Prop := fun R => (∃ (r : Int), ((-2147483648) ≤ r ∧ r ≤ 2147483647) ∧ R = (.inl (some (.int (i32 r))), (khp m c, N), 0, 0))
set_option maxHeartbeats 3000000 in
theorem c_Preconditions_checkIndex (w : wX) (m : mR) (c : Nat → Option am_C) (N D : Nat) (hD : 1 ≤ D) (hT : KTy m) (i : Int) (n : Int) (qi : R32 i) (qn : R32 n) (hsio : (w.2.2.2).category = 1) (p1 : 0 ≤ i ∧ i < n) : TC w D 9 [.int (i32 i), .int (i32 n), w.2.2.2] (khp m c, N) (Q_Preconditions_checkIndex m c N i n) := by
  obtain ⟨D, rfl⟩ : ∃ k, D = k + 1 := ⟨D - 1, by omega⟩
  obtain ⟨qia, qib⟩ := id qi
  obtain ⟨qna, qnb⟩ := id qn
  refine Tc_of (decide_eq_true (show 1 + (1 + ((w.2.2.2).category + 0)) ≤ 3 by rw [hsio]; decide)) ?_
  rw [show (khp m c, N) = (khp (mO m [] []) c, N) from by rw [mO_nil m]]
  show TT w D pm_9 (0, [(0, .int (i32 i)), (1, .int (i32 n)), (2, w.2.2.2)], [], (khp (mO m [] []) c, N), 0, 0) (Q_Preconditions_checkIndex m c N i n)
  refine T_ld 1 (.int (i32 i)) rfl (fun _ => rfl) ?_
  refine T_if 9 4 rfl rfl rfl (r32 (by omega) (by omega)) (fun (h1 : i < 0) => ?_) (fun (h1 : ¬ (i < 0)) => ?_)
  · skip
    exfalso
    omega
  · skip
    refine T_ld 5 (.int (i32 i)) rfl (fun _ => rfl) ?_
    refine T_ld 6 (.int (i32 n)) rfl (fun _ => rfl) ?_
    refine T_icmp 16 9 rfl rfl rfl (r32 (by omega) (by omega)) (r32 (by omega) (by omega)) (fun (h2 : i < n) => ?_) (fun (h2 : ¬ (i < n)) => ?_)
    · skip
      refine T_ld 17 (.int (i32 i)) rfl (fun _ => rfl) ?_
      refine T_ret rfl (fun _ => rfl) ?_
      exact ⟨i, ⟨by omega, by omega⟩, rfl⟩
    · skip
      exfalso
      omega
def Q_String_checkIndex (m : mR) (c : Nat → Option am_C) (N : Nat) (i : Int) (n : Int) : ag_Re af_T → Prop := fun R => (R = (.inl (none), (khp m c, N), 0, 0))
set_option maxHeartbeats 3000000 in
theorem c_String_checkIndex (w : wX) (m : mR) (c : Nat → Option am_C) (N D : Nat) (hD : 2 ≤ D) (hT : KTy m) (i : Int) (n : Int) (qi : R32 i) (qn : R32 n) (hsio : (w.2.2.2).category = 1) (p1 : 0 ≤ i ∧ i < n) : TC w D 8 [.int (i32 i), .int (i32 n)] (khp m c, N) (Q_String_checkIndex m c N i n) := by
  obtain ⟨D, rfl⟩ : ∃ k, D = k + 1 := ⟨D - 1, by omega⟩
  obtain ⟨qia, qib⟩ := id qi
  obtain ⟨qna, qnb⟩ := id qn
  refine Tc_of rfl ?_
  rw [show (khp m c, N) = (khp (mO m [] []) c, N) from by rw [mO_nil m]]
  show TT w D pm_8 (0, [(0, .int (i32 i)), (1, .int (i32 n))], [], (khp (mO m [] []) c, N), 0, 0) (Q_String_checkIndex m c N i n)
  refine T_ld 1 (.int (i32 i)) rfl (fun _ => rfl) ?_
  refine T_ld 2 (.int (i32 n)) rfl (fun _ => rfl) ?_
  refine T_ld 5 (w.2.2.2) rfl (fun _ => rfl) ?_
  refine T_callx 8 9 [.int (i32 i), .int (i32 n), w.2.2.2] [] rfl (fun _ => rfl) rfl rfl (c_Preconditions_checkIndex w (mO m [] []) c N D (by omega) hT i n (r32 (by omega) (by omega)) (r32 (by omega) (by omega)) (show (w.2.2.2).category = 1 by exact hsio) (show 0 ≤ i ∧ i < n by omega)) (fun rr1 k2 => ?_)
  obtain ⟨x3, g4, rfl⟩ := k2
  refine Or.inl ⟨_, _, _, _, rfl, ?_⟩
  refine T_ns (st' := [.int (i32 x3)]) rfl ?_
  obtain ⟨g4a, g4b⟩ := g4
  refine T_pop 9 rfl (fun _ => rfl) ?_
  refine T_ret rfl (fun _ => rfl) ?_
  exact rfl
def Q_lcharAt_1 (m : mR) (c : Nat → Option am_C) (N : Nat) (i : Int) : ag_Re af_T → Prop := fun R => (∃ (r : Int), (0 ≤ r ∧ r ≤ 65535) ∧ R = (.inl (some (.int (i32 r))), (khp m c, N), 0, 0))
set_option maxHeartbeats 3000000 in
theorem c_lcharAt_1 (w : wX) (m : mR) (c : Nat → Option am_C) (N D : Nat) (hD : 3 ≤ D) (hT : KTy m) (i : Int) (qi : R32 i) (hsio : (w.2.2.2).category = 1) (p1 : 0 ≤ i ∧ i < 7) : TC w D 7 [.ref 1000004, .int (i32 i)] (khp m c, N) (Q_lcharAt_1 m c N i) := by
  obtain ⟨D, rfl⟩ : ∃ k, D = k + 1 := ⟨D - 1, by omega⟩
  obtain ⟨qia, qib⟩ := id qi
  refine Tc_of rfl ?_
  rw [show (khp m c, N) = (khp (mO m [] []) c, N) from by rw [mO_nil m]]
  show TT w D pm_7 (0, [(0, .ref 1000004), (1, .int (i32 i))], [], (khp (mO m [] []) c, N), 0, 0) (Q_lcharAt_1 m c N i)
  refine T_ld 1 (.int (i32 i)) rfl (fun _ => rfl) ?_
  refine T_ld 2 (.ref 1000004) rfl (fun _ => rfl) ?_
  refine T_ld1 3 (.int (i32 7)) rfl (fun _ => rfl) ?_
  refine T_callx 6 8 [.int (i32 i), .int (i32 7)] [] rfl (fun _ => rfl) rfl rfl (c_String_checkIndex w (mO m [] []) c N D (by omega) hT i 7 (r32 (by omega) (by omega)) ⟨by decide, by decide⟩ (show (w.2.2.2).category = 1 by exact hsio) (show 0 ≤ i ∧ i < (7 : Int) by omega)) (fun rr1 k2 => ?_)
  subst k2
  refine Or.inl ⟨_, _, _, _, rfl, ?_⟩
  refine T_ns (st' := []) rfl ?_
  refine T_ld 7 (.ref 1000004) rfl (fun _ => rfl) ?_
  refine T_ld 8 (.int (i32 i)) rfl (fun _ => rfl) ?_
  refine T_xbald 9 1 7 rfl rfl rfl (by omega) (show i < ((7 : Nat) : Int) by omega) (fun z3 h4 => ?_)
  obtain ⟨h4a, h4b⟩ := h4
  refine T_ld 12 (.int (i32 255)) rfl (fun _ => rfl) ?_
  refine T_iand 13 rfl rfl (by decide) (by decide) (fun z5 h6 => ?_)
  refine T_i2c 14 rfl rfl (fun z7 h8 => ?_)
  refine T_retc rfl rfl (by omega) ?_
  exact ⟨z7, ⟨by omega, by omega⟩, rfl⟩
def Q_charAt_1 (m : mR) (c : Nat → Option am_C) (N : Nat) (i : Int) : ag_Re af_T → Prop := fun R => (∃ (r : Int), (0 ≤ r ∧ r ≤ 65535) ∧ R = (.inl (some (.int (i32 r))), (khp m c, N), 0, 0))
set_option maxHeartbeats 3000000 in
theorem c_charAt_1 (w : wX) (m : mR) (c : Nat → Option am_C) (N D : Nat) (hD : 4 ≤ D) (hT : KTy m) (i : Int) (qi : R32 i) (hsio : (w.2.2.2).category = 1) (p1 : 0 ≤ i ∧ i < 7) : TC w D 5 [.ref 1000003, .int (i32 i)] (khp m c, N) (Q_charAt_1 m c N i) := by
  obtain ⟨D, rfl⟩ : ∃ k, D = k + 1 := ⟨D - 1, by omega⟩
  obtain ⟨qia, qib⟩ := id qi
  refine Tc_of rfl ?_
  rw [show (khp m c, N) = (khp (mO m [] []) c, N) from by rw [mO_nil m]]
  show TT w D pm_5 (0, [(0, .ref 1000003), (1, .int (i32 i))], [], (khp (mO m [] []) c, N), 0, 0) (Q_charAt_1 m c N i)
  refine T_ld 1 (.ref 1000003) rfl (fun _ => rfl) ?_
  refine T_callx 4 6 [.ref 1000003] [] rfl (fun _ => rfl) rfl rfl (c_isLatin1_1 w (mO m [] []) c N D (by omega) hT ) (fun rr1 k2 => ?_)
  obtain ⟨x3, g4, h5, rfl⟩ := k2
  refine Or.inl ⟨_, _, _, _, rfl, ?_⟩
  refine T_ns (st' := [.int (i32 x3)]) rfl ?_
  obtain ⟨g4a, g4b⟩ := g4
  refine T_cast 1 (by omega) ?_
  replace h5 : x3 = 1 := h5
  clear g4a g4b h5
  refine T_if 16 7 rfl rfl rfl ⟨by decide, by decide⟩ (fun h6 => absurd (show (1 : Int) = 0 from h6) (by decide)) (fun _ => ?_)
  refine T_ld 8 (.ref 1000003) rfl (fun _ => rfl) ?_
  refine T_ld1 11 (.ref 1000004) rfl (fun _ => rfl) ?_
  refine T_ld 12 (.int (i32 i)) rfl (fun _ => rfl) ?_
  refine T_callx 15 7 [.ref 1000004, .int (i32 i)] [] rfl (fun _ => rfl) rfl rfl (c_lcharAt_1 w (mO m [] []) c N D (by omega) hT i (r32 (by omega) (by omega)) (show (w.2.2.2).category = 1 by exact hsio) (show 0 ≤ i ∧ i < 7 by omega)) (fun rr7 k8 => ?_)
  obtain ⟨x9, g10, rfl⟩ := k8
  refine Or.inl ⟨_, _, _, _, rfl, ?_⟩
  refine T_ns (st' := [.int (i32 x9)]) rfl ?_
  obtain ⟨g10a, g10b⟩ := g10
  refine T_retc rfl rfl (by omega) ?_
  exact ⟨x9, ⟨by omega, by omega⟩, rfl⟩
def fF_makeGiven_1 : List Nat := [203, 209, 210]
def fA_makeGiven_1 : List Nat := [6, 7, 8, 9]
def Q_makeGiven_1 (m : mR) (c : Nat → Option am_C) (N : Nat) (s : Int) (i : Int) : ag_Re af_T → Prop := fun R => (∃ (M : mR), KTy M ∧ fr fF_makeGiven_1 fA_makeGiven_1 m M ∧ (KMk (m.1 203) (M.1 203) (m.2 8) (M.2 8) (m.2 9) (M.2 9) s i) ∧ R = (.inl (none), (khp M c, N), 0, 0))
set_option maxHeartbeats 3000000 in
theorem c_makeGiven_1 (w : wX) (m : mR) (c : Nat → Option am_C) (N D : Nat) (hD : 5 ≤ D) (hT : KTy m) (s : Int) (i : Int) (qs : R32 s) (qi : R32 i) (hsio : (w.2.2.2).category = 1) (p1 : 0 ≤ s ∧ s ≤ 310) (p2 : 0 ≤ i ∧ i ≤ 17) : TC w D 48 [.ref 6, .ref 1000003, .int (i32 s), .int (i32 i)] (khp m c, N) (Q_makeGiven_1 m c N s i) := by
  obtain ⟨D, rfl⟩ : ∃ k, D = k + 1 := ⟨D - 1, by omega⟩
  obtain ⟨qsa, qsb⟩ := id qs
  obtain ⟨qia, qib⟩ := id qi
  have f203 : 0 ≤ m.1 203 ∧ m.1 203 ≤ 90 := hT.1 203
  have f209 : (-9223372036854775808) ≤ m.1 209 ∧ m.1 209 ≤ 9223372036854775807 := hT.1 209
  refine Tc_of rfl ?_
  rw [show (khp m c, N) = (khp (mO m [] []) c, N) from by rw [mO_nil m]]
  show TT w D pm_48 (0, [(0, .ref 6), (1, .ref 1000003), (2, .int (i32 s)), (3, .int (i32 i))], [], (khp (mO m [] []) c, N), 0, 0) (Q_makeGiven_1 m c N s i)
  refine T_ld 1 (.ref 6) rfl (fun _ => rfl) ?_
  refine T_ld 2 (.long (i64 0)) rfl (fun _ => rfl) ?_
  refine K_pf (l' := [(209, 0)]) 5 0 rfl rfl kd_6 rfl rfl rfl rfl rfl rfl rfl ?_
  refine T_ld 6 (.ref 6) rfl (fun _ => rfl) ?_
  refine T_ld 7 (.long (i64 0)) rfl (fun _ => rfl) ?_
  refine K_pf (l' := [(209, 0), (210, 0)]) 10 0 rfl rfl kd_6 rfl rfl rfl rfl rfl rfl rfl ?_
  refine T_ld 11 (.int (i32 0)) rfl (fun _ => rfl) ?_
  refine T_sto 13 [(4, .int (i32 0)), (0, .ref 6), (1, .ref 1000003), (2, .int (i32 s)), (3, .int (i32 i))] rfl (fun _ => rfl) ?_
  refine K_fl (KTy_mO hT rfl rfl ⟨⟨(by omega : ((-9223372036854775808) : Int) ≤ 0), (by omega : (0 : Int) ≤ 9223372036854775807)⟩, ⟨(by omega : ((-9223372036854775808) : Int) ≤ 0), (by omega : (0 : Int) ≤ 9223372036854775807)⟩, trivial⟩ trivial) (fun m1 Tm1 Fm1 => ?_)
  have L13_4 : ∀ (n10 : Nat) (v2 : Int) (m3 : mR), (R32 v2) → KTy m3 → fr [209] [] (mO m1 [] []) m3 → (0 ≤ v2) → (0 ≤ v2 ∧ v2 ≤ 8) → 20 - v2 < (n10 : Int) → TT w D pm_48 (13, [(0, .ref 6), (1, .ref 1000003), (2, .int (i32 s)), (3, .int (i32 i)), (4, .int (i32 v2))], [], (khp (mO m3 [] []) c, N), 0, 0) (Q_makeGiven_1 m c N s i) := by
    intro n10
    induction n10 with
    | zero =>
      intro v2 m3 q7 Tm3 Fm3 ic5 ic6 hmu
      obtain ⟨q7a, q7b⟩ := id q7
      have q8_209 : (-9223372036854775808) ≤ m3.1 209 ∧ m3.1 209 ≤ 9223372036854775807 := Tm3.1 209
      exfalso
      omega
    | succ n10 ih =>
      intro v2 m3 q7 Tm3 Fm3 ic5 ic6 hmu
      obtain ⟨q7a, q7b⟩ := id q7
      have q8_209 : (-9223372036854775808) ≤ m3.1 209 ∧ m3.1 209 ≤ 9223372036854775807 := Tm3.1 209
      have ih11 := ih
      refine T_ld 15 (.int (i32 v2)) rfl (fun _ => rfl) ?_
      refine T_ld 16 (.ref 1000003) rfl (fun _ => rfl) ?_
      refine T_callx 19 3 [.ref 1000003] [.int (i32 v2)] rfl (fun _ => rfl) rfl rfl (c_length_1 w (mO m3 [] []) c N D (by omega) Tm3 ) (fun rr12 k13 => ?_)
      obtain ⟨x14, g15, h16, rfl⟩ := k13
      refine Or.inl ⟨_, _, _, _, rfl, ?_⟩
      refine T_ns (st' := [.int (i32 x14), .int (i32 v2)]) rfl ?_
      obtain ⟨g15a, g15b⟩ := g15
      refine T_cast 7 (by omega) ?_
      replace h16 : x14 = 7 := h16
      clear g15a g15b h16
      refine T_icmp 60 22 rfl rfl rfl (r32 (by omega) (by omega)) ⟨by decide, by decide⟩ (fun (h17 : (7 : Int) ≤ v2) => ?_) (fun (h17 : ¬ ((7 : Int) ≤ v2)) => ?_)
      · skip
        refine T_ld 61 (.ref 6) rfl (fun _ => rfl) ?_
        refine T_ld 62 (.int (i32 s)) rfl (fun _ => rfl) ?_
        refine T_ld 63 (.int (i32 i)) rfl (fun _ => rfl) ?_
        refine T_callx 66 49 [.ref 6, .int (i32 s), .int (i32 i)] [] rfl (fun _ => rfl) rfl rfl (c_tx_makeName w (mO m3 [] []) c N D (by omega) Tm3 s i (r32 (by omega) (by omega)) (r32 (by omega) (by omega)) (show 0 ≤ s ∧ s ≤ 310 by omega) (show 0 ≤ i ∧ i ≤ 17 by omega)) (fun rr18 k19 => ?_)
        obtain ⟨m20, Tm20, Fm20, h21, rfl⟩ := k19
        refine Or.inl ⟨_, _, _, _, rfl, ?_⟩
        refine K_nb (st' := []) rfl ?_
        have g22 : 0 ≤ m20.1 203 ∧ m20.1 203 ≤ 90 := Tm20.1 203
        replace h21 : KMk (m3.1 203) (m20.1 203) (m3.2 8) (m20.2 8) (m3.2 9) (m20.2 9) s i := h21
        rewrite [(show (m3.1 203) = (m.1 203) from ((fr1 Fm3 203 rfl).trans (fr1 Fm1 203 rfl))), (show (m3.2 8) = (m.2 8) from ((fr2 Fm3 8 rfl).trans (fr2 Fm1 8 rfl))), (show (m3.2 9) = (m.2 9) from ((fr2 Fm3 9 rfl).trans (fr2 Fm1 9 rfl)))] at h21
        have hMk := h21
        refine T_ret rfl (fun _ => rfl) ?_
        exact ⟨(mO m20 [] []), Tm20, (fr_m (fr_s Fm20 (fr_m (fr_s Fm3 (fr_m (fr_s Fm1 (fr_m fr_0 rfl rfl) rfl rfl) rfl rfl) rfl rfl) rfl rfl) rfl rfl) rfl rfl), (show KMk (m.1 203) (m20.1 203) (m.2 8) (m20.2 8) (m.2 9) (m20.2 9) s i by first | (exact hMk) | (exfalso; omega)), rfl⟩
      · skip
        refine T_ld 24 (.int (i32 v2)) rfl (fun _ => rfl) ?_
        refine T_ld 26 (.int (i32 8)) rfl (fun _ => rfl) ?_
        refine T_icmp 60 29 rfl rfl rfl (r32 (by omega) (by omega)) ⟨by decide, by decide⟩ (fun (h23 : (8 : Int) ≤ v2) => by exfalso; omega) (fun (h23 : ¬ ((8 : Int) ≤ v2)) => ?_)
        refine T_ld 30 (.ref 6) rfl (fun _ => rfl) ?_
        refine T_ld 31 (.ref 6) rfl (fun _ => rfl) ?_
        refine K_gf 34 (.long (i64 (m3.1 209))) rfl rfl kd_6 rfl rfl rfl ?_
        refine T_ld 35 (.ref 1000003) rfl (fun _ => rfl) ?_
        refine T_ld 37 (.int (i32 v2)) rfl (fun _ => rfl) ?_
        refine T_callx 40 5 [.ref 1000003, .int (i32 v2)] [.long (i64 (m3.1 209)), .ref 6] rfl (fun _ => rfl) rfl rfl (c_charAt_1 w (mO m3 [] []) c N D (by omega) Tm3 v2 (r32 (by omega) (by omega)) (show (w.2.2.2).category = 1 by exact hsio) (show 0 ≤ v2 ∧ v2 < 7 by omega)) (fun rr24 k25 => ?_)
        obtain ⟨x26, g27, rfl⟩ := k25
        refine Or.inl ⟨_, _, _, _, rfl, ?_⟩
        refine T_ns (st' := [.int (i32 x26), .long (i64 (m3.1 209)), .ref 6]) rfl ?_
        obtain ⟨g27a, g27b⟩ := g27
        refine T_i2l 41 rfl rfl (r32 (by omega) (by omega)) ?_
        refine T_ld 43 (.int (i32 56)) rfl (fun _ => rfl) ?_
        refine T_ld 45 (.int (i32 8)) rfl (fun _ => rfl) ?_
        refine T_ld 47 (.int (i32 v2)) rfl (fun _ => rfl) ?_
        refine T_imul 48 rfl rfl ?_
        refine T_isub 49 rfl rfl ?_
        refine T_lhv 50 _ rfl (fun _ => rfl) (fun z28 h29 => ?_)
        obtain ⟨h29a, h29b⟩ := h29
        refine T_lhv 51 _ rfl (fun _ => rfl) (fun z30 h31 => ?_)
        obtain ⟨h31a, h31b⟩ := h31
        refine K_pf (l' := [(209, z30)]) 54 z30 rfl rfl kd_6 rfl rfl rfl rfl rfl rfl rfl ?_
        have g32 : (-9223372036854775808) ≤ z30 ∧ z30 ≤ 9223372036854775807 := ⟨by omega, by omega⟩
        refine T_iinc 57 [(4, .int (i32 (v2 + 1))), (0, .ref 6), (1, .ref 1000003), (2, .int (i32 s)), (3, .int (i32 i))] rfl rfl (by decide) rfl rfl ?_
        refine T_goto 13 rfl (fun _ => rfl) ?_
        refine Tm_lv (a := [(0, .ref 6), (1, .ref 1000003), (2, .int (i32 s)), (3, .int (i32 i)), (4, .int (i32 (v2 + 1)))]) rfl rfl ⟨rfl, rfl, rfl, rfl, rfl, trivial⟩ ?_
        exact ih11 (v2 + 1) (mO m3 [(209, z30)] []) (r32 (by omega) (by omega)) (KTy_mO Tm3 rfl rfl ⟨g32, trivial⟩ trivial) (fr_m (fr_s Fm3 (fr_m fr_0 rfl rfl) rfl rfl) rfl rfl) (show 0 ≤ (v2 + 1) by omega) (show 0 ≤ (v2 + 1) ∧ (v2 + 1) ≤ 8 by omega) (show 20 - (v2 + 1) < (n10 : Int) by omega)
  refine Tm_lv (a := [(0, .ref 6), (1, .ref 1000003), (2, .int (i32 s)), (3, .int (i32 i)), (4, .int (i32 0))]) rfl rfl ⟨rfl, rfl, rfl, rfl, rfl, trivial⟩ ?_
  exact L13_4 ((20 - (0 : Int) : Int) + 1).toNat 0 (mO m1 [] []) ⟨by decide, by decide⟩ Tm1 (fr_m fr_0 rfl rfl) (show 0 ≤ (0 : Int) by omega) (show 0 ≤ (0 : Int) ∧ (0 : Int) ≤ 8 by omega) (show 20 - (0 : Int) < ((((20 - (0 : Int) : Int) + 1).toNat : Nat) : Int) by omega)
def Q_lcharAt_2 (m : mR) (c : Nat → Option am_C) (N : Nat) (i : Int) : ag_Re af_T → Prop := fun R => (∃ (r : Int), (0 ≤ r ∧ r ≤ 65535) ∧ R = (.inl (some (.int (i32 r))), (khp m c, N), 0, 0))
set_option maxHeartbeats 3000000 in
theorem c_lcharAt_2 (w : wX) (m : mR) (c : Nat → Option am_C) (N D : Nat) (hD : 3 ≤ D) (hT : KTy m) (i : Int) (qi : R32 i) (hsio : (w.2.2.2).category = 1) (p1 : 0 ≤ i ∧ i < 6) : TC w D 7 [.ref 1000006, .int (i32 i)] (khp m c, N) (Q_lcharAt_2 m c N i) := by
  obtain ⟨D, rfl⟩ : ∃ k, D = k + 1 := ⟨D - 1, by omega⟩
  obtain ⟨qia, qib⟩ := id qi
  refine Tc_of rfl ?_
  rw [show (khp m c, N) = (khp (mO m [] []) c, N) from by rw [mO_nil m]]
  show TT w D pm_7 (0, [(0, .ref 1000006), (1, .int (i32 i))], [], (khp (mO m [] []) c, N), 0, 0) (Q_lcharAt_2 m c N i)
  refine T_ld 1 (.int (i32 i)) rfl (fun _ => rfl) ?_
  refine T_ld 2 (.ref 1000006) rfl (fun _ => rfl) ?_
  refine T_ld1 3 (.int (i32 6)) rfl (fun _ => rfl) ?_
  refine T_callx 6 8 [.int (i32 i), .int (i32 6)] [] rfl (fun _ => rfl) rfl rfl (c_String_checkIndex w (mO m [] []) c N D (by omega) hT i 6 (r32 (by omega) (by omega)) ⟨by decide, by decide⟩ (show (w.2.2.2).category = 1 by exact hsio) (show 0 ≤ i ∧ i < (6 : Int) by omega)) (fun rr1 k2 => ?_)
  subst k2
  refine Or.inl ⟨_, _, _, _, rfl, ?_⟩
  refine T_ns (st' := []) rfl ?_
  refine T_ld 7 (.ref 1000006) rfl (fun _ => rfl) ?_
  refine T_ld 8 (.int (i32 i)) rfl (fun _ => rfl) ?_
  refine T_xbald 9 2 6 rfl rfl rfl (by omega) (show i < ((6 : Nat) : Int) by omega) (fun z3 h4 => ?_)
  obtain ⟨h4a, h4b⟩ := h4
  refine T_ld 12 (.int (i32 255)) rfl (fun _ => rfl) ?_
  refine T_iand 13 rfl rfl (by decide) (by decide) (fun z5 h6 => ?_)
  refine T_i2c 14 rfl rfl (fun z7 h8 => ?_)
  refine T_retc rfl rfl (by omega) ?_
  exact ⟨z7, ⟨by omega, by omega⟩, rfl⟩
def Q_charAt_2 (m : mR) (c : Nat → Option am_C) (N : Nat) (i : Int) : ag_Re af_T → Prop := fun R => (∃ (r : Int), (0 ≤ r ∧ r ≤ 65535) ∧ R = (.inl (some (.int (i32 r))), (khp m c, N), 0, 0))
set_option maxHeartbeats 3000000 in
theorem c_charAt_2 (w : wX) (m : mR) (c : Nat → Option am_C) (N D : Nat) (hD : 4 ≤ D) (hT : KTy m) (i : Int) (qi : R32 i) (hsio : (w.2.2.2).category = 1) (p1 : 0 ≤ i ∧ i < 6) : TC w D 5 [.ref 1000005, .int (i32 i)] (khp m c, N) (Q_charAt_2 m c N i) := by
  obtain ⟨D, rfl⟩ : ∃ k, D = k + 1 := ⟨D - 1, by omega⟩
  obtain ⟨qia, qib⟩ := id qi
  refine Tc_of rfl ?_
  rw [show (khp m c, N) = (khp (mO m [] []) c, N) from by rw [mO_nil m]]
  show TT w D pm_5 (0, [(0, .ref 1000005), (1, .int (i32 i))], [], (khp (mO m [] []) c, N), 0, 0) (Q_charAt_2 m c N i)
  refine T_ld 1 (.ref 1000005) rfl (fun _ => rfl) ?_
  refine T_callx 4 6 [.ref 1000005] [] rfl (fun _ => rfl) rfl rfl (c_isLatin1_2 w (mO m [] []) c N D (by omega) hT ) (fun rr1 k2 => ?_)
  obtain ⟨x3, g4, h5, rfl⟩ := k2
  refine Or.inl ⟨_, _, _, _, rfl, ?_⟩
  refine T_ns (st' := [.int (i32 x3)]) rfl ?_
  obtain ⟨g4a, g4b⟩ := g4
  refine T_cast 1 (by omega) ?_
  replace h5 : x3 = 1 := h5
  clear g4a g4b h5
  refine T_if 16 7 rfl rfl rfl ⟨by decide, by decide⟩ (fun h6 => absurd (show (1 : Int) = 0 from h6) (by decide)) (fun _ => ?_)
  refine T_ld 8 (.ref 1000005) rfl (fun _ => rfl) ?_
  refine T_ld1 11 (.ref 1000006) rfl (fun _ => rfl) ?_
  refine T_ld 12 (.int (i32 i)) rfl (fun _ => rfl) ?_
  refine T_callx 15 7 [.ref 1000006, .int (i32 i)] [] rfl (fun _ => rfl) rfl rfl (c_lcharAt_2 w (mO m [] []) c N D (by omega) hT i (r32 (by omega) (by omega)) (show (w.2.2.2).category = 1 by exact hsio) (show 0 ≤ i ∧ i < 6 by omega)) (fun rr7 k8 => ?_)
  obtain ⟨x9, g10, rfl⟩ := k8
  refine Or.inl ⟨_, _, _, _, rfl, ?_⟩
  refine T_ns (st' := [.int (i32 x9)]) rfl ?_
  obtain ⟨g10a, g10b⟩ := g10
  refine T_retc rfl rfl (by omega) ?_
  exact ⟨x9, ⟨by omega, by omega⟩, rfl⟩
def fF_makeGiven_2 : List Nat := [203, 209, 210]
def fA_makeGiven_2 : List Nat := [6, 7, 8, 9]
def Q_makeGiven_2 (m : mR) (c : Nat → Option am_C) (N : Nat) (s : Int) (i : Int) : ag_Re af_T → Prop := fun R => (∃ (M : mR), KTy M ∧ fr fF_makeGiven_2 fA_makeGiven_2 m M ∧ (KMk (m.1 203) (M.1 203) (m.2 8) (M.2 8) (m.2 9) (M.2 9) s i) ∧ R = (.inl (none), (khp M c, N), 0, 0))
set_option maxHeartbeats 3000000 in
theorem c_makeGiven_2 (w : wX) (m : mR) (c : Nat → Option am_C) (N D : Nat) (hD : 5 ≤ D) (hT : KTy m) (s : Int) (i : Int) (qs : R32 s) (qi : R32 i) (hsio : (w.2.2.2).category = 1) (p1 : 0 ≤ s ∧ s ≤ 310) (p2 : 0 ≤ i ∧ i ≤ 17) : TC w D 48 [.ref 6, .ref 1000005, .int (i32 s), .int (i32 i)] (khp m c, N) (Q_makeGiven_2 m c N s i) := by
  obtain ⟨D, rfl⟩ : ∃ k, D = k + 1 := ⟨D - 1, by omega⟩
  obtain ⟨qsa, qsb⟩ := id qs
  obtain ⟨qia, qib⟩ := id qi
  have f203 : 0 ≤ m.1 203 ∧ m.1 203 ≤ 90 := hT.1 203
  have f209 : (-9223372036854775808) ≤ m.1 209 ∧ m.1 209 ≤ 9223372036854775807 := hT.1 209
  refine Tc_of rfl ?_
  rw [show (khp m c, N) = (khp (mO m [] []) c, N) from by rw [mO_nil m]]
  show TT w D pm_48 (0, [(0, .ref 6), (1, .ref 1000005), (2, .int (i32 s)), (3, .int (i32 i))], [], (khp (mO m [] []) c, N), 0, 0) (Q_makeGiven_2 m c N s i)
  refine T_ld 1 (.ref 6) rfl (fun _ => rfl) ?_
  refine T_ld 2 (.long (i64 0)) rfl (fun _ => rfl) ?_
  refine K_pf (l' := [(209, 0)]) 5 0 rfl rfl kd_6 rfl rfl rfl rfl rfl rfl rfl ?_
  refine T_ld 6 (.ref 6) rfl (fun _ => rfl) ?_
  refine T_ld 7 (.long (i64 0)) rfl (fun _ => rfl) ?_
  refine K_pf (l' := [(209, 0), (210, 0)]) 10 0 rfl rfl kd_6 rfl rfl rfl rfl rfl rfl rfl ?_
  refine T_ld 11 (.int (i32 0)) rfl (fun _ => rfl) ?_
  refine T_sto 13 [(4, .int (i32 0)), (0, .ref 6), (1, .ref 1000005), (2, .int (i32 s)), (3, .int (i32 i))] rfl (fun _ => rfl) ?_
  refine K_fl (KTy_mO hT rfl rfl ⟨⟨(by omega : ((-9223372036854775808) : Int) ≤ 0), (by omega : (0 : Int) ≤ 9223372036854775807)⟩, ⟨(by omega : ((-9223372036854775808) : Int) ≤ 0), (by omega : (0 : Int) ≤ 9223372036854775807)⟩, trivial⟩ trivial) (fun m1 Tm1 Fm1 => ?_)
  have L13_4 : ∀ (n10 : Nat) (v2 : Int) (m3 : mR), (R32 v2) → KTy m3 → fr [209] [] (mO m1 [] []) m3 → (0 ≤ v2) → (0 ≤ v2 ∧ v2 ≤ 8) → 20 - v2 < (n10 : Int) → TT w D pm_48 (13, [(0, .ref 6), (1, .ref 1000005), (2, .int (i32 s)), (3, .int (i32 i)), (4, .int (i32 v2))], [], (khp (mO m3 [] []) c, N), 0, 0) (Q_makeGiven_2 m c N s i) := by
    intro n10
    induction n10 with
    | zero =>
      intro v2 m3 q7 Tm3 Fm3 ic5 ic6 hmu
      obtain ⟨q7a, q7b⟩ := id q7
      have q8_209 : (-9223372036854775808) ≤ m3.1 209 ∧ m3.1 209 ≤ 9223372036854775807 := Tm3.1 209
      exfalso
      omega
    | succ n10 ih =>
      intro v2 m3 q7 Tm3 Fm3 ic5 ic6 hmu
      obtain ⟨q7a, q7b⟩ := id q7
      have q8_209 : (-9223372036854775808) ≤ m3.1 209 ∧ m3.1 209 ≤ 9223372036854775807 := Tm3.1 209
      have ih11 := ih
      refine T_ld 15 (.int (i32 v2)) rfl (fun _ => rfl) ?_
      refine T_ld 16 (.ref 1000005) rfl (fun _ => rfl) ?_
      refine T_callx 19 3 [.ref 1000005] [.int (i32 v2)] rfl (fun _ => rfl) rfl rfl (c_length_2 w (mO m3 [] []) c N D (by omega) Tm3 ) (fun rr12 k13 => ?_)
      obtain ⟨x14, g15, h16, rfl⟩ := k13
      refine Or.inl ⟨_, _, _, _, rfl, ?_⟩
      refine T_ns (st' := [.int (i32 x14), .int (i32 v2)]) rfl ?_
      obtain ⟨g15a, g15b⟩ := g15
      refine T_cast 6 (by omega) ?_
      replace h16 : x14 = 6 := h16
      clear g15a g15b h16
      refine T_icmp 60 22 rfl rfl rfl (r32 (by omega) (by omega)) ⟨by decide, by decide⟩ (fun (h17 : (6 : Int) ≤ v2) => ?_) (fun (h17 : ¬ ((6 : Int) ≤ v2)) => ?_)
      · skip
        refine T_ld 61 (.ref 6) rfl (fun _ => rfl) ?_
        refine T_ld 62 (.int (i32 s)) rfl (fun _ => rfl) ?_
        refine T_ld 63 (.int (i32 i)) rfl (fun _ => rfl) ?_
        refine T_callx 66 49 [.ref 6, .int (i32 s), .int (i32 i)] [] rfl (fun _ => rfl) rfl rfl (c_tx_makeName w (mO m3 [] []) c N D (by omega) Tm3 s i (r32 (by omega) (by omega)) (r32 (by omega) (by omega)) (show 0 ≤ s ∧ s ≤ 310 by omega) (show 0 ≤ i ∧ i ≤ 17 by omega)) (fun rr18 k19 => ?_)
        obtain ⟨m20, Tm20, Fm20, h21, rfl⟩ := k19
        refine Or.inl ⟨_, _, _, _, rfl, ?_⟩
        refine K_nb (st' := []) rfl ?_
        have g22 : 0 ≤ m20.1 203 ∧ m20.1 203 ≤ 90 := Tm20.1 203
        replace h21 : KMk (m3.1 203) (m20.1 203) (m3.2 8) (m20.2 8) (m3.2 9) (m20.2 9) s i := h21
        rewrite [(show (m3.1 203) = (m.1 203) from ((fr1 Fm3 203 rfl).trans (fr1 Fm1 203 rfl))), (show (m3.2 8) = (m.2 8) from ((fr2 Fm3 8 rfl).trans (fr2 Fm1 8 rfl))), (show (m3.2 9) = (m.2 9) from ((fr2 Fm3 9 rfl).trans (fr2 Fm1 9 rfl)))] at h21
        have hMk := h21
        refine T_ret rfl (fun _ => rfl) ?_
        exact ⟨(mO m20 [] []), Tm20, (fr_m (fr_s Fm20 (fr_m (fr_s Fm3 (fr_m (fr_s Fm1 (fr_m fr_0 rfl rfl) rfl rfl) rfl rfl) rfl rfl) rfl rfl) rfl rfl) rfl rfl), (show KMk (m.1 203) (m20.1 203) (m.2 8) (m20.2 8) (m.2 9) (m20.2 9) s i by first | (exact hMk) | (exfalso; omega)), rfl⟩
      · skip
        refine T_ld 24 (.int (i32 v2)) rfl (fun _ => rfl) ?_
        refine T_ld 26 (.int (i32 8)) rfl (fun _ => rfl) ?_
        refine T_icmp 60 29 rfl rfl rfl (r32 (by omega) (by omega)) ⟨by decide, by decide⟩ (fun (h23 : (8 : Int) ≤ v2) => by exfalso; omega) (fun (h23 : ¬ ((8 : Int) ≤ v2)) => ?_)
        refine T_ld 30 (.ref 6) rfl (fun _ => rfl) ?_
        refine T_ld 31 (.ref 6) rfl (fun _ => rfl) ?_
        refine K_gf 34 (.long (i64 (m3.1 209))) rfl rfl kd_6 rfl rfl rfl ?_
        refine T_ld 35 (.ref 1000005) rfl (fun _ => rfl) ?_
        refine T_ld 37 (.int (i32 v2)) rfl (fun _ => rfl) ?_
        refine T_callx 40 5 [.ref 1000005, .int (i32 v2)] [.long (i64 (m3.1 209)), .ref 6] rfl (fun _ => rfl) rfl rfl (c_charAt_2 w (mO m3 [] []) c N D (by omega) Tm3 v2 (r32 (by omega) (by omega)) (show (w.2.2.2).category = 1 by exact hsio) (show 0 ≤ v2 ∧ v2 < 6 by omega)) (fun rr24 k25 => ?_)
        obtain ⟨x26, g27, rfl⟩ := k25
        refine Or.inl ⟨_, _, _, _, rfl, ?_⟩
        refine T_ns (st' := [.int (i32 x26), .long (i64 (m3.1 209)), .ref 6]) rfl ?_
        obtain ⟨g27a, g27b⟩ := g27
        refine T_i2l 41 rfl rfl (r32 (by omega) (by omega)) ?_
        refine T_ld 43 (.int (i32 56)) rfl (fun _ => rfl) ?_
        refine T_ld 45 (.int (i32 8)) rfl (fun _ => rfl) ?_
        refine T_ld 47 (.int (i32 v2)) rfl (fun _ => rfl) ?_
        refine T_imul 48 rfl rfl ?_
        refine T_isub 49 rfl rfl ?_
        refine T_lhv 50 _ rfl (fun _ => rfl) (fun z28 h29 => ?_)
        obtain ⟨h29a, h29b⟩ := h29
        refine T_lhv 51 _ rfl (fun _ => rfl) (fun z30 h31 => ?_)
        obtain ⟨h31a, h31b⟩ := h31
        refine K_pf (l' := [(209, z30)]) 54 z30 rfl rfl kd_6 rfl rfl rfl rfl rfl rfl rfl ?_
        have g32 : (-9223372036854775808) ≤ z30 ∧ z30 ≤ 9223372036854775807 := ⟨by omega, by omega⟩
        refine T_iinc 57 [(4, .int (i32 (v2 + 1))), (0, .ref 6), (1, .ref 1000005), (2, .int (i32 s)), (3, .int (i32 i))] rfl rfl (by decide) rfl rfl ?_
        refine T_goto 13 rfl (fun _ => rfl) ?_
        refine Tm_lv (a := [(0, .ref 6), (1, .ref 1000005), (2, .int (i32 s)), (3, .int (i32 i)), (4, .int (i32 (v2 + 1)))]) rfl rfl ⟨rfl, rfl, rfl, rfl, rfl, trivial⟩ ?_
        exact ih11 (v2 + 1) (mO m3 [(209, z30)] []) (r32 (by omega) (by omega)) (KTy_mO Tm3 rfl rfl ⟨g32, trivial⟩ trivial) (fr_m (fr_s Fm3 (fr_m fr_0 rfl rfl) rfl rfl) rfl rfl) (show 0 ≤ (v2 + 1) by omega) (show 0 ≤ (v2 + 1) ∧ (v2 + 1) ≤ 8 by omega) (show 20 - (v2 + 1) < (n10 : Int) by omega)
  refine Tm_lv (a := [(0, .ref 6), (1, .ref 1000005), (2, .int (i32 s)), (3, .int (i32 i)), (4, .int (i32 0))]) rfl rfl ⟨rfl, rfl, rfl, rfl, rfl, trivial⟩ ?_
  exact L13_4 ((20 - (0 : Int) : Int) + 1).toNat 0 (mO m1 [] []) ⟨by decide, by decide⟩ Tm1 (fr_m fr_0 rfl rfl) (show 0 ≤ (0 : Int) by omega) (show 0 ≤ (0 : Int) ∧ (0 : Int) ≤ 8 by omega) (show 20 - (0 : Int) < ((((20 - (0 : Int) : Int) + 1).toNat : Nat) : Int) by omega)
def Q_lcharAt_3 (m : mR) (c : Nat → Option am_C) (N : Nat) (i : Int) : ag_Re af_T → Prop := fun R => (∃ (r : Int), (0 ≤ r ∧ r ≤ 65535) ∧ R = (.inl (some (.int (i32 r))), (khp m c, N), 0, 0))
set_option maxHeartbeats 3000000 in
theorem c_lcharAt_3 (w : wX) (m : mR) (c : Nat → Option am_C) (N D : Nat) (hD : 3 ≤ D) (hT : KTy m) (i : Int) (qi : R32 i) (hsio : (w.2.2.2).category = 1) (p1 : 0 ≤ i ∧ i < 8) : TC w D 7 [.ref 1000008, .int (i32 i)] (khp m c, N) (Q_lcharAt_3 m c N i) := by
  obtain ⟨D, rfl⟩ : ∃ k, D = k + 1 := ⟨D - 1, by omega⟩
  obtain ⟨qia, qib⟩ := id qi
  refine Tc_of rfl ?_
  rw [show (khp m c, N) = (khp (mO m [] []) c, N) from by rw [mO_nil m]]
  show TT w D pm_7 (0, [(0, .ref 1000008), (1, .int (i32 i))], [], (khp (mO m [] []) c, N), 0, 0) (Q_lcharAt_3 m c N i)
  refine T_ld 1 (.int (i32 i)) rfl (fun _ => rfl) ?_
  refine T_ld 2 (.ref 1000008) rfl (fun _ => rfl) ?_
  refine T_ld1 3 (.int (i32 8)) rfl (fun _ => rfl) ?_
  refine T_callx 6 8 [.int (i32 i), .int (i32 8)] [] rfl (fun _ => rfl) rfl rfl (c_String_checkIndex w (mO m [] []) c N D (by omega) hT i 8 (r32 (by omega) (by omega)) ⟨by decide, by decide⟩ (show (w.2.2.2).category = 1 by exact hsio) (show 0 ≤ i ∧ i < (8 : Int) by omega)) (fun rr1 k2 => ?_)
  subst k2
  refine Or.inl ⟨_, _, _, _, rfl, ?_⟩
  refine T_ns (st' := []) rfl ?_
  refine T_ld 7 (.ref 1000008) rfl (fun _ => rfl) ?_
  refine T_ld 8 (.int (i32 i)) rfl (fun _ => rfl) ?_
  refine T_xbald 9 3 8 rfl rfl rfl (by omega) (show i < ((8 : Nat) : Int) by omega) (fun z3 h4 => ?_)
  obtain ⟨h4a, h4b⟩ := h4
  refine T_ld 12 (.int (i32 255)) rfl (fun _ => rfl) ?_
  refine T_iand 13 rfl rfl (by decide) (by decide) (fun z5 h6 => ?_)
  refine T_i2c 14 rfl rfl (fun z7 h8 => ?_)
  refine T_retc rfl rfl (by omega) ?_
  exact ⟨z7, ⟨by omega, by omega⟩, rfl⟩
def Q_charAt_3 (m : mR) (c : Nat → Option am_C) (N : Nat) (i : Int) : ag_Re af_T → Prop := fun R => (∃ (r : Int), (0 ≤ r ∧ r ≤ 65535) ∧ R = (.inl (some (.int (i32 r))), (khp m c, N), 0, 0))
set_option maxHeartbeats 3000000 in
theorem c_charAt_3 (w : wX) (m : mR) (c : Nat → Option am_C) (N D : Nat) (hD : 4 ≤ D) (hT : KTy m) (i : Int) (qi : R32 i) (hsio : (w.2.2.2).category = 1) (p1 : 0 ≤ i ∧ i < 8) : TC w D 5 [.ref 1000007, .int (i32 i)] (khp m c, N) (Q_charAt_3 m c N i) := by
  obtain ⟨D, rfl⟩ : ∃ k, D = k + 1 := ⟨D - 1, by omega⟩
  obtain ⟨qia, qib⟩ := id qi
  refine Tc_of rfl ?_
  rw [show (khp m c, N) = (khp (mO m [] []) c, N) from by rw [mO_nil m]]
  show TT w D pm_5 (0, [(0, .ref 1000007), (1, .int (i32 i))], [], (khp (mO m [] []) c, N), 0, 0) (Q_charAt_3 m c N i)
  refine T_ld 1 (.ref 1000007) rfl (fun _ => rfl) ?_
  refine T_callx 4 6 [.ref 1000007] [] rfl (fun _ => rfl) rfl rfl (c_isLatin1_3 w (mO m [] []) c N D (by omega) hT ) (fun rr1 k2 => ?_)
  obtain ⟨x3, g4, h5, rfl⟩ := k2
  refine Or.inl ⟨_, _, _, _, rfl, ?_⟩
  refine T_ns (st' := [.int (i32 x3)]) rfl ?_
  obtain ⟨g4a, g4b⟩ := g4
  refine T_cast 1 (by omega) ?_
  replace h5 : x3 = 1 := h5
  clear g4a g4b h5
  refine T_if 16 7 rfl rfl rfl ⟨by decide, by decide⟩ (fun h6 => absurd (show (1 : Int) = 0 from h6) (by decide)) (fun _ => ?_)
  refine T_ld 8 (.ref 1000007) rfl (fun _ => rfl) ?_
  refine T_ld1 11 (.ref 1000008) rfl (fun _ => rfl) ?_
  refine T_ld 12 (.int (i32 i)) rfl (fun _ => rfl) ?_
  refine T_callx 15 7 [.ref 1000008, .int (i32 i)] [] rfl (fun _ => rfl) rfl rfl (c_lcharAt_3 w (mO m [] []) c N D (by omega) hT i (r32 (by omega) (by omega)) (show (w.2.2.2).category = 1 by exact hsio) (show 0 ≤ i ∧ i < 8 by omega)) (fun rr7 k8 => ?_)
  obtain ⟨x9, g10, rfl⟩ := k8
  refine Or.inl ⟨_, _, _, _, rfl, ?_⟩
  refine T_ns (st' := [.int (i32 x9)]) rfl ?_
  obtain ⟨g10a, g10b⟩ := g10
  refine T_retc rfl rfl (by omega) ?_
  exact ⟨x9, ⟨by omega, by omega⟩, rfl⟩
def fF_makeGiven_3 : List Nat := [203, 209, 210]
def fA_makeGiven_3 : List Nat := [6, 7, 8, 9]
def Q_makeGiven_3 (m : mR) (c : Nat → Option am_C) (N : Nat) (s : Int) (i : Int) : ag_Re af_T → Prop := fun R => (∃ (M : mR), KTy M ∧ fr fF_makeGiven_3 fA_makeGiven_3 m M ∧ (KMk (m.1 203) (M.1 203) (m.2 8) (M.2 8) (m.2 9) (M.2 9) s i) ∧ R = (.inl (none), (khp M c, N), 0, 0))
set_option maxHeartbeats 3000000 in
theorem c_makeGiven_3 (w : wX) (m : mR) (c : Nat → Option am_C) (N D : Nat) (hD : 5 ≤ D) (hT : KTy m) (s : Int) (i : Int) (qs : R32 s) (qi : R32 i) (hsio : (w.2.2.2).category = 1) (p1 : 0 ≤ s ∧ s ≤ 310) (p2 : 0 ≤ i ∧ i ≤ 17) : TC w D 48 [.ref 6, .ref 1000007, .int (i32 s), .int (i32 i)] (khp m c, N) (Q_makeGiven_3 m c N s i) := by
  obtain ⟨D, rfl⟩ : ∃ k, D = k + 1 := ⟨D - 1, by omega⟩
  obtain ⟨qsa, qsb⟩ := id qs
  obtain ⟨qia, qib⟩ := id qi
  have f203 : 0 ≤ m.1 203 ∧ m.1 203 ≤ 90 := hT.1 203
  have f209 : (-9223372036854775808) ≤ m.1 209 ∧ m.1 209 ≤ 9223372036854775807 := hT.1 209
  refine Tc_of rfl ?_
  rw [show (khp m c, N) = (khp (mO m [] []) c, N) from by rw [mO_nil m]]
  show TT w D pm_48 (0, [(0, .ref 6), (1, .ref 1000007), (2, .int (i32 s)), (3, .int (i32 i))], [], (khp (mO m [] []) c, N), 0, 0) (Q_makeGiven_3 m c N s i)
  refine T_ld 1 (.ref 6) rfl (fun _ => rfl) ?_
  refine T_ld 2 (.long (i64 0)) rfl (fun _ => rfl) ?_
  refine K_pf (l' := [(209, 0)]) 5 0 rfl rfl kd_6 rfl rfl rfl rfl rfl rfl rfl ?_
  refine T_ld 6 (.ref 6) rfl (fun _ => rfl) ?_
  refine T_ld 7 (.long (i64 0)) rfl (fun _ => rfl) ?_
  refine K_pf (l' := [(209, 0), (210, 0)]) 10 0 rfl rfl kd_6 rfl rfl rfl rfl rfl rfl rfl ?_
  refine T_ld 11 (.int (i32 0)) rfl (fun _ => rfl) ?_
  refine T_sto 13 [(4, .int (i32 0)), (0, .ref 6), (1, .ref 1000007), (2, .int (i32 s)), (3, .int (i32 i))] rfl (fun _ => rfl) ?_
  refine K_fl (KTy_mO hT rfl rfl ⟨⟨(by omega : ((-9223372036854775808) : Int) ≤ 0), (by omega : (0 : Int) ≤ 9223372036854775807)⟩, ⟨(by omega : ((-9223372036854775808) : Int) ≤ 0), (by omega : (0 : Int) ≤ 9223372036854775807)⟩, trivial⟩ trivial) (fun m1 Tm1 Fm1 => ?_)
  have L13_4 : ∀ (n10 : Nat) (v2 : Int) (m3 : mR), (R32 v2) → KTy m3 → fr [209] [] (mO m1 [] []) m3 → (0 ≤ v2) → (0 ≤ v2 ∧ v2 ≤ 8) → 20 - v2 < (n10 : Int) → TT w D pm_48 (13, [(0, .ref 6), (1, .ref 1000007), (2, .int (i32 s)), (3, .int (i32 i)), (4, .int (i32 v2))], [], (khp (mO m3 [] []) c, N), 0, 0) (Q_makeGiven_3 m c N s i) := by
    intro n10
    induction n10 with
    | zero =>
      intro v2 m3 q7 Tm3 Fm3 ic5 ic6 hmu
      obtain ⟨q7a, q7b⟩ := id q7
      have q8_209 : (-9223372036854775808) ≤ m3.1 209 ∧ m3.1 209 ≤ 9223372036854775807 := Tm3.1 209
      exfalso
      omega
    | succ n10 ih =>
      intro v2 m3 q7 Tm3 Fm3 ic5 ic6 hmu
      obtain ⟨q7a, q7b⟩ := id q7
      have q8_209 : (-9223372036854775808) ≤ m3.1 209 ∧ m3.1 209 ≤ 9223372036854775807 := Tm3.1 209
      have ih11 := ih
      refine T_ld 15 (.int (i32 v2)) rfl (fun _ => rfl) ?_
      refine T_ld 16 (.ref 1000007) rfl (fun _ => rfl) ?_
      refine T_callx 19 3 [.ref 1000007] [.int (i32 v2)] rfl (fun _ => rfl) rfl rfl (c_length_3 w (mO m3 [] []) c N D (by omega) Tm3 ) (fun rr12 k13 => ?_)
      obtain ⟨x14, g15, h16, rfl⟩ := k13
      refine Or.inl ⟨_, _, _, _, rfl, ?_⟩
      refine T_ns (st' := [.int (i32 x14), .int (i32 v2)]) rfl ?_
      obtain ⟨g15a, g15b⟩ := g15
      refine T_cast 8 (by omega) ?_
      replace h16 : x14 = 8 := h16
      clear g15a g15b h16
      refine T_icmp 60 22 rfl rfl rfl (r32 (by omega) (by omega)) ⟨by decide, by decide⟩ (fun (h17 : (8 : Int) ≤ v2) => ?_) (fun (h17 : ¬ ((8 : Int) ≤ v2)) => ?_)
      · skip
        refine T_ld 61 (.ref 6) rfl (fun _ => rfl) ?_
        refine T_ld 62 (.int (i32 s)) rfl (fun _ => rfl) ?_
        refine T_ld 63 (.int (i32 i)) rfl (fun _ => rfl) ?_
        refine T_callx 66 49 [.ref 6, .int (i32 s), .int (i32 i)] [] rfl (fun _ => rfl) rfl rfl (c_tx_makeName w (mO m3 [] []) c N D (by omega) Tm3 s i (r32 (by omega) (by omega)) (r32 (by omega) (by omega)) (show 0 ≤ s ∧ s ≤ 310 by omega) (show 0 ≤ i ∧ i ≤ 17 by omega)) (fun rr18 k19 => ?_)
        obtain ⟨m20, Tm20, Fm20, h21, rfl⟩ := k19
        refine Or.inl ⟨_, _, _, _, rfl, ?_⟩
        refine K_nb (st' := []) rfl ?_
        have g22 : 0 ≤ m20.1 203 ∧ m20.1 203 ≤ 90 := Tm20.1 203
        replace h21 : KMk (m3.1 203) (m20.1 203) (m3.2 8) (m20.2 8) (m3.2 9) (m20.2 9) s i := h21
        rewrite [(show (m3.1 203) = (m.1 203) from ((fr1 Fm3 203 rfl).trans (fr1 Fm1 203 rfl))), (show (m3.2 8) = (m.2 8) from ((fr2 Fm3 8 rfl).trans (fr2 Fm1 8 rfl))), (show (m3.2 9) = (m.2 9) from ((fr2 Fm3 9 rfl).trans (fr2 Fm1 9 rfl)))] at h21
        have hMk := h21
        refine T_ret rfl (fun _ => rfl) ?_
        exact ⟨(mO m20 [] []), Tm20, (fr_m (fr_s Fm20 (fr_m (fr_s Fm3 (fr_m (fr_s Fm1 (fr_m fr_0 rfl rfl) rfl rfl) rfl rfl) rfl rfl) rfl rfl) rfl rfl) rfl rfl), (show KMk (m.1 203) (m20.1 203) (m.2 8) (m20.2 8) (m.2 9) (m20.2 9) s i by first | (exact hMk) | (exfalso; omega)), rfl⟩
      · skip
        refine T_ld 24 (.int (i32 v2)) rfl (fun _ => rfl) ?_
        refine T_ld 26 (.int (i32 8)) rfl (fun _ => rfl) ?_
        refine T_icmp 60 29 rfl rfl rfl (r32 (by omega) (by omega)) ⟨by decide, by decide⟩ (fun (h23 : (8 : Int) ≤ v2) => by exfalso; omega) (fun (h23 : ¬ ((8 : Int) ≤ v2)) => ?_)
        refine T_ld 30 (.ref 6) rfl (fun _ => rfl) ?_
        refine T_ld 31 (.ref 6) rfl (fun _ => rfl) ?_
        refine K_gf 34 (.long (i64 (m3.1 209))) rfl rfl kd_6 rfl rfl rfl ?_
        refine T_ld 35 (.ref 1000007) rfl (fun _ => rfl) ?_
        refine T_ld 37 (.int (i32 v2)) rfl (fun _ => rfl) ?_
        refine T_callx 40 5 [.ref 1000007, .int (i32 v2)] [.long (i64 (m3.1 209)), .ref 6] rfl (fun _ => rfl) rfl rfl (c_charAt_3 w (mO m3 [] []) c N D (by omega) Tm3 v2 (r32 (by omega) (by omega)) (show (w.2.2.2).category = 1 by exact hsio) (show 0 ≤ v2 ∧ v2 < 8 by omega)) (fun rr24 k25 => ?_)
        obtain ⟨x26, g27, rfl⟩ := k25
        refine Or.inl ⟨_, _, _, _, rfl, ?_⟩
        refine T_ns (st' := [.int (i32 x26), .long (i64 (m3.1 209)), .ref 6]) rfl ?_
        obtain ⟨g27a, g27b⟩ := g27
        refine T_i2l 41 rfl rfl (r32 (by omega) (by omega)) ?_
        refine T_ld 43 (.int (i32 56)) rfl (fun _ => rfl) ?_
        refine T_ld 45 (.int (i32 8)) rfl (fun _ => rfl) ?_
        refine T_ld 47 (.int (i32 v2)) rfl (fun _ => rfl) ?_
        refine T_imul 48 rfl rfl ?_
        refine T_isub 49 rfl rfl ?_
        refine T_lhv 50 _ rfl (fun _ => rfl) (fun z28 h29 => ?_)
        obtain ⟨h29a, h29b⟩ := h29
        refine T_lhv 51 _ rfl (fun _ => rfl) (fun z30 h31 => ?_)
        obtain ⟨h31a, h31b⟩ := h31
        refine K_pf (l' := [(209, z30)]) 54 z30 rfl rfl kd_6 rfl rfl rfl rfl rfl rfl rfl ?_
        have g32 : (-9223372036854775808) ≤ z30 ∧ z30 ≤ 9223372036854775807 := ⟨by omega, by omega⟩
        refine T_iinc 57 [(4, .int (i32 (v2 + 1))), (0, .ref 6), (1, .ref 1000007), (2, .int (i32 s)), (3, .int (i32 i))] rfl rfl (by decide) rfl rfl ?_
        refine T_goto 13 rfl (fun _ => rfl) ?_
        refine Tm_lv (a := [(0, .ref 6), (1, .ref 1000007), (2, .int (i32 s)), (3, .int (i32 i)), (4, .int (i32 (v2 + 1)))]) rfl rfl ⟨rfl, rfl, rfl, rfl, rfl, trivial⟩ ?_
        exact ih11 (v2 + 1) (mO m3 [(209, z30)] []) (r32 (by omega) (by omega)) (KTy_mO Tm3 rfl rfl ⟨g32, trivial⟩ trivial) (fr_m (fr_s Fm3 (fr_m fr_0 rfl rfl) rfl rfl) rfl rfl) (show 0 ≤ (v2 + 1) by omega) (show 0 ≤ (v2 + 1) ∧ (v2 + 1) ≤ 8 by omega) (show 20 - (v2 + 1) < (n10 : Int) by omega)
  refine Tm_lv (a := [(0, .ref 6), (1, .ref 1000007), (2, .int (i32 s)), (3, .int (i32 i)), (4, .int (i32 0))]) rfl rfl ⟨rfl, rfl, rfl, rfl, rfl, trivial⟩ ?_
  exact L13_4 ((20 - (0 : Int) : Int) + 1).toNat 0 (mO m1 [] []) ⟨by decide, by decide⟩ Tm1 (fr_m fr_0 rfl rfl) (show 0 ≤ (0 : Int) by omega) (show 0 ≤ (0 : Int) ∧ (0 : Int) ≤ 8 by omega) (show 20 - (0 : Int) < ((((20 - (0 : Int) : Int) + 1).toNat : Nat) : Int) by omega)
def Q_lcharAt_4 (m : mR) (c : Nat → Option am_C) (N : Nat) (i : Int) : ag_Re af_T → Prop := fun R => (∃ (r : Int), (0 ≤ r ∧ r ≤ 65535) ∧ R = (.inl (some (.int (i32 r))), (khp m c, N), 0, 0))
set_option maxHeartbeats 3000000 in
theorem c_lcharAt_4 (w : wX) (m : mR) (c : Nat → Option am_C) (N D : Nat) (hD : 3 ≤ D) (hT : KTy m) (i : Int) (qi : R32 i) (hsio : (w.2.2.2).category = 1) (p1 : 0 ≤ i ∧ i < 6) : TC w D 7 [.ref 1000010, .int (i32 i)] (khp m c, N) (Q_lcharAt_4 m c N i) := by
  obtain ⟨D, rfl⟩ : ∃ k, D = k + 1 := ⟨D - 1, by omega⟩
  obtain ⟨qia, qib⟩ := id qi
  refine Tc_of rfl ?_
  rw [show (khp m c, N) = (khp (mO m [] []) c, N) from by rw [mO_nil m]]
  show TT w D pm_7 (0, [(0, .ref 1000010), (1, .int (i32 i))], [], (khp (mO m [] []) c, N), 0, 0) (Q_lcharAt_4 m c N i)
  refine T_ld 1 (.int (i32 i)) rfl (fun _ => rfl) ?_
  refine T_ld 2 (.ref 1000010) rfl (fun _ => rfl) ?_
  refine T_ld1 3 (.int (i32 6)) rfl (fun _ => rfl) ?_
  refine T_callx 6 8 [.int (i32 i), .int (i32 6)] [] rfl (fun _ => rfl) rfl rfl (c_String_checkIndex w (mO m [] []) c N D (by omega) hT i 6 (r32 (by omega) (by omega)) ⟨by decide, by decide⟩ (show (w.2.2.2).category = 1 by exact hsio) (show 0 ≤ i ∧ i < (6 : Int) by omega)) (fun rr1 k2 => ?_)
  subst k2
  refine Or.inl ⟨_, _, _, _, rfl, ?_⟩
  refine T_ns (st' := []) rfl ?_
  refine T_ld 7 (.ref 1000010) rfl (fun _ => rfl) ?_
  refine T_ld 8 (.int (i32 i)) rfl (fun _ => rfl) ?_
  refine T_xbald 9 4 6 rfl rfl rfl (by omega) (show i < ((6 : Nat) : Int) by omega) (fun z3 h4 => ?_)
  obtain ⟨h4a, h4b⟩ := h4
  refine T_ld 12 (.int (i32 255)) rfl (fun _ => rfl) ?_
  refine T_iand 13 rfl rfl (by decide) (by decide) (fun z5 h6 => ?_)
  refine T_i2c 14 rfl rfl (fun z7 h8 => ?_)
  refine T_retc rfl rfl (by omega) ?_
  exact ⟨z7, ⟨by omega, by omega⟩, rfl⟩
def Q_charAt_4 (m : mR) (c : Nat → Option am_C) (N : Nat) (i : Int) : ag_Re af_T → Prop := fun R => (∃ (r : Int), (0 ≤ r ∧ r ≤ 65535) ∧ R = (.inl (some (.int (i32 r))), (khp m c, N), 0, 0))
set_option maxHeartbeats 3000000 in
theorem c_charAt_4 (w : wX) (m : mR) (c : Nat → Option am_C) (N D : Nat) (hD : 4 ≤ D) (hT : KTy m) (i : Int) (qi : R32 i) (hsio : (w.2.2.2).category = 1) (p1 : 0 ≤ i ∧ i < 6) : TC w D 5 [.ref 1000009, .int (i32 i)] (khp m c, N) (Q_charAt_4 m c N i) := by
  obtain ⟨D, rfl⟩ : ∃ k, D = k + 1 := ⟨D - 1, by omega⟩
  obtain ⟨qia, qib⟩ := id qi
  refine Tc_of rfl ?_
  rw [show (khp m c, N) = (khp (mO m [] []) c, N) from by rw [mO_nil m]]
  show TT w D pm_5 (0, [(0, .ref 1000009), (1, .int (i32 i))], [], (khp (mO m [] []) c, N), 0, 0) (Q_charAt_4 m c N i)
  refine T_ld 1 (.ref 1000009) rfl (fun _ => rfl) ?_
  refine T_callx 4 6 [.ref 1000009] [] rfl (fun _ => rfl) rfl rfl (c_isLatin1_4 w (mO m [] []) c N D (by omega) hT ) (fun rr1 k2 => ?_)
  obtain ⟨x3, g4, h5, rfl⟩ := k2
  refine Or.inl ⟨_, _, _, _, rfl, ?_⟩
  refine T_ns (st' := [.int (i32 x3)]) rfl ?_
  obtain ⟨g4a, g4b⟩ := g4
  refine T_cast 1 (by omega) ?_
  replace h5 : x3 = 1 := h5
  clear g4a g4b h5
  refine T_if 16 7 rfl rfl rfl ⟨by decide, by decide⟩ (fun h6 => absurd (show (1 : Int) = 0 from h6) (by decide)) (fun _ => ?_)
  refine T_ld 8 (.ref 1000009) rfl (fun _ => rfl) ?_
  refine T_ld1 11 (.ref 1000010) rfl (fun _ => rfl) ?_
  refine T_ld 12 (.int (i32 i)) rfl (fun _ => rfl) ?_
  refine T_callx 15 7 [.ref 1000010, .int (i32 i)] [] rfl (fun _ => rfl) rfl rfl (c_lcharAt_4 w (mO m [] []) c N D (by omega) hT i (r32 (by omega) (by omega)) (show (w.2.2.2).category = 1 by exact hsio) (show 0 ≤ i ∧ i < 6 by omega)) (fun rr7 k8 => ?_)
  obtain ⟨x9, g10, rfl⟩ := k8
  refine Or.inl ⟨_, _, _, _, rfl, ?_⟩
  refine T_ns (st' := [.int (i32 x9)]) rfl ?_
  obtain ⟨g10a, g10b⟩ := g10
  refine T_retc rfl rfl (by omega) ?_
  exact ⟨x9, ⟨by omega, by omega⟩, rfl⟩
def fF_makeGiven_4 : List Nat := [203, 209, 210]
def fA_makeGiven_4 : List Nat := [6, 7, 8, 9]
def Q_makeGiven_4 (m : mR) (c : Nat → Option am_C) (N : Nat) (s : Int) (i : Int) : ag_Re af_T → Prop := fun R => (∃ (M : mR), KTy M ∧ fr fF_makeGiven_4 fA_makeGiven_4 m M ∧ (KMk (m.1 203) (M.1 203) (m.2 8) (M.2 8) (m.2 9) (M.2 9) s i) ∧ R = (.inl (none), (khp M c, N), 0, 0))
set_option maxHeartbeats 3000000 in
theorem c_makeGiven_4 (w : wX) (m : mR) (c : Nat → Option am_C) (N D : Nat) (hD : 5 ≤ D) (hT : KTy m) (s : Int) (i : Int) (qs : R32 s) (qi : R32 i) (hsio : (w.2.2.2).category = 1) (p1 : 0 ≤ s ∧ s ≤ 310) (p2 : 0 ≤ i ∧ i ≤ 17) : TC w D 48 [.ref 6, .ref 1000009, .int (i32 s), .int (i32 i)] (khp m c, N) (Q_makeGiven_4 m c N s i) := by
  obtain ⟨D, rfl⟩ : ∃ k, D = k + 1 := ⟨D - 1, by omega⟩
  obtain ⟨qsa, qsb⟩ := id qs
  obtain ⟨qia, qib⟩ := id qi
  have f203 : 0 ≤ m.1 203 ∧ m.1 203 ≤ 90 := hT.1 203
  have f209 : (-9223372036854775808) ≤ m.1 209 ∧ m.1 209 ≤ 9223372036854775807 := hT.1 209
  refine Tc_of rfl ?_
  rw [show (khp m c, N) = (khp (mO m [] []) c, N) from by rw [mO_nil m]]
  show TT w D pm_48 (0, [(0, .ref 6), (1, .ref 1000009), (2, .int (i32 s)), (3, .int (i32 i))], [], (khp (mO m [] []) c, N), 0, 0) (Q_makeGiven_4 m c N s i)
  refine T_ld 1 (.ref 6) rfl (fun _ => rfl) ?_
  refine T_ld 2 (.long (i64 0)) rfl (fun _ => rfl) ?_
  refine K_pf (l' := [(209, 0)]) 5 0 rfl rfl kd_6 rfl rfl rfl rfl rfl rfl rfl ?_
  refine T_ld 6 (.ref 6) rfl (fun _ => rfl) ?_
  refine T_ld 7 (.long (i64 0)) rfl (fun _ => rfl) ?_
  refine K_pf (l' := [(209, 0), (210, 0)]) 10 0 rfl rfl kd_6 rfl rfl rfl rfl rfl rfl rfl ?_
  refine T_ld 11 (.int (i32 0)) rfl (fun _ => rfl) ?_
  refine T_sto 13 [(4, .int (i32 0)), (0, .ref 6), (1, .ref 1000009), (2, .int (i32 s)), (3, .int (i32 i))] rfl (fun _ => rfl) ?_
  refine K_fl (KTy_mO hT rfl rfl ⟨⟨(by omega : ((-9223372036854775808) : Int) ≤ 0), (by omega : (0 : Int) ≤ 9223372036854775807)⟩, ⟨(by omega : ((-9223372036854775808) : Int) ≤ 0), (by omega : (0 : Int) ≤ 9223372036854775807)⟩, trivial⟩ trivial) (fun m1 Tm1 Fm1 => ?_)
  have L13_4 : ∀ (n10 : Nat) (v2 : Int) (m3 : mR), (R32 v2) → KTy m3 → fr [209] [] (mO m1 [] []) m3 → (0 ≤ v2) → (0 ≤ v2 ∧ v2 ≤ 8) → 20 - v2 < (n10 : Int) → TT w D pm_48 (13, [(0, .ref 6), (1, .ref 1000009), (2, .int (i32 s)), (3, .int (i32 i)), (4, .int (i32 v2))], [], (khp (mO m3 [] []) c, N), 0, 0) (Q_makeGiven_4 m c N s i) := by
    intro n10
    induction n10 with
    | zero =>
      intro v2 m3 q7 Tm3 Fm3 ic5 ic6 hmu
      obtain ⟨q7a, q7b⟩ := id q7
      have q8_209 : (-9223372036854775808) ≤ m3.1 209 ∧ m3.1 209 ≤ 9223372036854775807 := Tm3.1 209
      exfalso
      omega
    | succ n10 ih =>
      intro v2 m3 q7 Tm3 Fm3 ic5 ic6 hmu
      obtain ⟨q7a, q7b⟩ := id q7
      have q8_209 : (-9223372036854775808) ≤ m3.1 209 ∧ m3.1 209 ≤ 9223372036854775807 := Tm3.1 209
      have ih11 := ih
      refine T_ld 15 (.int (i32 v2)) rfl (fun _ => rfl) ?_
      refine T_ld 16 (.ref 1000009) rfl (fun _ => rfl) ?_
      refine T_callx 19 3 [.ref 1000009] [.int (i32 v2)] rfl (fun _ => rfl) rfl rfl (c_length_4 w (mO m3 [] []) c N D (by omega) Tm3 ) (fun rr12 k13 => ?_)
      obtain ⟨x14, g15, h16, rfl⟩ := k13
      refine Or.inl ⟨_, _, _, _, rfl, ?_⟩
      refine T_ns (st' := [.int (i32 x14), .int (i32 v2)]) rfl ?_
      obtain ⟨g15a, g15b⟩ := g15
      refine T_cast 6 (by omega) ?_
      replace h16 : x14 = 6 := h16
      clear g15a g15b h16
      refine T_icmp 60 22 rfl rfl rfl (r32 (by omega) (by omega)) ⟨by decide, by decide⟩ (fun (h17 : (6 : Int) ≤ v2) => ?_) (fun (h17 : ¬ ((6 : Int) ≤ v2)) => ?_)
      · skip
        refine T_ld 61 (.ref 6) rfl (fun _ => rfl) ?_
        refine T_ld 62 (.int (i32 s)) rfl (fun _ => rfl) ?_
        refine T_ld 63 (.int (i32 i)) rfl (fun _ => rfl) ?_
        refine T_callx 66 49 [.ref 6, .int (i32 s), .int (i32 i)] [] rfl (fun _ => rfl) rfl rfl (c_tx_makeName w (mO m3 [] []) c N D (by omega) Tm3 s i (r32 (by omega) (by omega)) (r32 (by omega) (by omega)) (show 0 ≤ s ∧ s ≤ 310 by omega) (show 0 ≤ i ∧ i ≤ 17 by omega)) (fun rr18 k19 => ?_)
        obtain ⟨m20, Tm20, Fm20, h21, rfl⟩ := k19
        refine Or.inl ⟨_, _, _, _, rfl, ?_⟩
        refine K_nb (st' := []) rfl ?_
        have g22 : 0 ≤ m20.1 203 ∧ m20.1 203 ≤ 90 := Tm20.1 203
        replace h21 : KMk (m3.1 203) (m20.1 203) (m3.2 8) (m20.2 8) (m3.2 9) (m20.2 9) s i := h21
        rewrite [(show (m3.1 203) = (m.1 203) from ((fr1 Fm3 203 rfl).trans (fr1 Fm1 203 rfl))), (show (m3.2 8) = (m.2 8) from ((fr2 Fm3 8 rfl).trans (fr2 Fm1 8 rfl))), (show (m3.2 9) = (m.2 9) from ((fr2 Fm3 9 rfl).trans (fr2 Fm1 9 rfl)))] at h21
        have hMk := h21
        refine T_ret rfl (fun _ => rfl) ?_
        exact ⟨(mO m20 [] []), Tm20, (fr_m (fr_s Fm20 (fr_m (fr_s Fm3 (fr_m (fr_s Fm1 (fr_m fr_0 rfl rfl) rfl rfl) rfl rfl) rfl rfl) rfl rfl) rfl rfl) rfl rfl), (show KMk (m.1 203) (m20.1 203) (m.2 8) (m20.2 8) (m.2 9) (m20.2 9) s i by first | (exact hMk) | (exfalso; omega)), rfl⟩
      · skip
        refine T_ld 24 (.int (i32 v2)) rfl (fun _ => rfl) ?_
        refine T_ld 26 (.int (i32 8)) rfl (fun _ => rfl) ?_
        refine T_icmp 60 29 rfl rfl rfl (r32 (by omega) (by omega)) ⟨by decide, by decide⟩ (fun (h23 : (8 : Int) ≤ v2) => by exfalso; omega) (fun (h23 : ¬ ((8 : Int) ≤ v2)) => ?_)
        refine T_ld 30 (.ref 6) rfl (fun _ => rfl) ?_
        refine T_ld 31 (.ref 6) rfl (fun _ => rfl) ?_
        refine K_gf 34 (.long (i64 (m3.1 209))) rfl rfl kd_6 rfl rfl rfl ?_
        refine T_ld 35 (.ref 1000009) rfl (fun _ => rfl) ?_
        refine T_ld 37 (.int (i32 v2)) rfl (fun _ => rfl) ?_
        refine T_callx 40 5 [.ref 1000009, .int (i32 v2)] [.long (i64 (m3.1 209)), .ref 6] rfl (fun _ => rfl) rfl rfl (c_charAt_4 w (mO m3 [] []) c N D (by omega) Tm3 v2 (r32 (by omega) (by omega)) (show (w.2.2.2).category = 1 by exact hsio) (show 0 ≤ v2 ∧ v2 < 6 by omega)) (fun rr24 k25 => ?_)
        obtain ⟨x26, g27, rfl⟩ := k25
        refine Or.inl ⟨_, _, _, _, rfl, ?_⟩
        refine T_ns (st' := [.int (i32 x26), .long (i64 (m3.1 209)), .ref 6]) rfl ?_
        obtain ⟨g27a, g27b⟩ := g27
        refine T_i2l 41 rfl rfl (r32 (by omega) (by omega)) ?_
        refine T_ld 43 (.int (i32 56)) rfl (fun _ => rfl) ?_
        refine T_ld 45 (.int (i32 8)) rfl (fun _ => rfl) ?_
        refine T_ld 47 (.int (i32 v2)) rfl (fun _ => rfl) ?_
        refine T_imul 48 rfl rfl ?_
        refine T_isub 49 rfl rfl ?_
        refine T_lhv 50 _ rfl (fun _ => rfl) (fun z28 h29 => ?_)
        obtain ⟨h29a, h29b⟩ := h29
        refine T_lhv 51 _ rfl (fun _ => rfl) (fun z30 h31 => ?_)
        obtain ⟨h31a, h31b⟩ := h31
        refine K_pf (l' := [(209, z30)]) 54 z30 rfl rfl kd_6 rfl rfl rfl rfl rfl rfl rfl ?_
        have g32 : (-9223372036854775808) ≤ z30 ∧ z30 ≤ 9223372036854775807 := ⟨by omega, by omega⟩
        refine T_iinc 57 [(4, .int (i32 (v2 + 1))), (0, .ref 6), (1, .ref 1000009), (2, .int (i32 s)), (3, .int (i32 i))] rfl rfl (by decide) rfl rfl ?_
        refine T_goto 13 rfl (fun _ => rfl) ?_
        refine Tm_lv (a := [(0, .ref 6), (1, .ref 1000009), (2, .int (i32 s)), (3, .int (i32 i)), (4, .int (i32 (v2 + 1)))]) rfl rfl ⟨rfl, rfl, rfl, rfl, rfl, trivial⟩ ?_
        exact ih11 (v2 + 1) (mO m3 [(209, z30)] []) (r32 (by omega) (by omega)) (KTy_mO Tm3 rfl rfl ⟨g32, trivial⟩ trivial) (fr_m (fr_s Fm3 (fr_m fr_0 rfl rfl) rfl rfl) rfl rfl) (show 0 ≤ (v2 + 1) by omega) (show 0 ≤ (v2 + 1) ∧ (v2 + 1) ≤ 8 by omega) (show 20 - (v2 + 1) < (n10 : Int) by omega)
  refine Tm_lv (a := [(0, .ref 6), (1, .ref 1000009), (2, .int (i32 s)), (3, .int (i32 i)), (4, .int (i32 0))]) rfl rfl ⟨rfl, rfl, rfl, rfl, rfl, trivial⟩ ?_
  exact L13_4 ((20 - (0 : Int) : Int) + 1).toNat 0 (mO m1 [] []) ⟨by decide, by decide⟩ Tm1 (fr_m fr_0 rfl rfl) (show 0 ≤ (0 : Int) by omega) (show 0 ≤ (0 : Int) ∧ (0 : Int) ≤ 8 by omega) (show 20 - (0 : Int) < ((((20 - (0 : Int) : Int) + 1).toNat : Nat) : Int) by omega)
def Q_lcharAt_5 (m : mR) (c : Nat → Option am_C) (N : Nat) (i : Int) : ag_Re af_T → Prop := fun R => (∃ (r : Int), (0 ≤ r ∧ r ≤ 65535) ∧ R = (.inl (some (.int (i32 r))), (khp m c, N), 0, 0))
set_option maxHeartbeats 3000000 in
theorem c_lcharAt_5 (w : wX) (m : mR) (c : Nat → Option am_C) (N D : Nat) (hD : 3 ≤ D) (hT : KTy m) (i : Int) (qi : R32 i) (hsio : (w.2.2.2).category = 1) (p1 : 0 ≤ i ∧ i < 6) : TC w D 7 [.ref 1000012, .int (i32 i)] (khp m c, N) (Q_lcharAt_5 m c N i) := by
  obtain ⟨D, rfl⟩ : ∃ k, D = k + 1 := ⟨D - 1, by omega⟩
  obtain ⟨qia, qib⟩ := id qi
  refine Tc_of rfl ?_
  rw [show (khp m c, N) = (khp (mO m [] []) c, N) from by rw [mO_nil m]]
  show TT w D pm_7 (0, [(0, .ref 1000012), (1, .int (i32 i))], [], (khp (mO m [] []) c, N), 0, 0) (Q_lcharAt_5 m c N i)
  refine T_ld 1 (.int (i32 i)) rfl (fun _ => rfl) ?_
  refine T_ld 2 (.ref 1000012) rfl (fun _ => rfl) ?_
  refine T_ld1 3 (.int (i32 6)) rfl (fun _ => rfl) ?_
  refine T_callx 6 8 [.int (i32 i), .int (i32 6)] [] rfl (fun _ => rfl) rfl rfl (c_String_checkIndex w (mO m [] []) c N D (by omega) hT i 6 (r32 (by omega) (by omega)) ⟨by decide, by decide⟩ (show (w.2.2.2).category = 1 by exact hsio) (show 0 ≤ i ∧ i < (6 : Int) by omega)) (fun rr1 k2 => ?_)
  subst k2
  refine Or.inl ⟨_, _, _, _, rfl, ?_⟩
  refine T_ns (st' := []) rfl ?_
  refine T_ld 7 (.ref 1000012) rfl (fun _ => rfl) ?_
  refine T_ld 8 (.int (i32 i)) rfl (fun _ => rfl) ?_
  refine T_xbald 9 5 6 rfl rfl rfl (by omega) (show i < ((6 : Nat) : Int) by omega) (fun z3 h4 => ?_)
  obtain ⟨h4a, h4b⟩ := h4
  refine T_ld 12 (.int (i32 255)) rfl (fun _ => rfl) ?_
  refine T_iand 13 rfl rfl (by decide) (by decide) (fun z5 h6 => ?_)
  refine T_i2c 14 rfl rfl (fun z7 h8 => ?_)
  refine T_retc rfl rfl (by omega) ?_
  exact ⟨z7, ⟨by omega, by omega⟩, rfl⟩
def Q_charAt_5 (m : mR) (c : Nat → Option am_C) (N : Nat) (i : Int) : ag_Re af_T → Prop := fun R => (∃ (r : Int), (0 ≤ r ∧ r ≤ 65535) ∧ R = (.inl (some (.int (i32 r))), (khp m c, N), 0, 0))
set_option maxHeartbeats 3000000 in
theorem c_charAt_5 (w : wX) (m : mR) (c : Nat → Option am_C) (N D : Nat) (hD : 4 ≤ D) (hT : KTy m) (i : Int) (qi : R32 i) (hsio : (w.2.2.2).category = 1) (p1 : 0 ≤ i ∧ i < 6) : TC w D 5 [.ref 1000011, .int (i32 i)] (khp m c, N) (Q_charAt_5 m c N i) := by
  obtain ⟨D, rfl⟩ : ∃ k, D = k + 1 := ⟨D - 1, by omega⟩
  obtain ⟨qia, qib⟩ := id qi
  refine Tc_of rfl ?_
  rw [show (khp m c, N) = (khp (mO m [] []) c, N) from by rw [mO_nil m]]
  show TT w D pm_5 (0, [(0, .ref 1000011), (1, .int (i32 i))], [], (khp (mO m [] []) c, N), 0, 0) (Q_charAt_5 m c N i)
  refine T_ld 1 (.ref 1000011) rfl (fun _ => rfl) ?_
  refine T_callx 4 6 [.ref 1000011] [] rfl (fun _ => rfl) rfl rfl (c_isLatin1_5 w (mO m [] []) c N D (by omega) hT ) (fun rr1 k2 => ?_)
  obtain ⟨x3, g4, h5, rfl⟩ := k2
  refine Or.inl ⟨_, _, _, _, rfl, ?_⟩
  refine T_ns (st' := [.int (i32 x3)]) rfl ?_
  obtain ⟨g4a, g4b⟩ := g4
  refine T_cast 1 (by omega) ?_
  replace h5 : x3 = 1 := h5
  clear g4a g4b h5
  refine T_if 16 7 rfl rfl rfl ⟨by decide, by decide⟩ (fun h6 => absurd (show (1 : Int) = 0 from h6) (by decide)) (fun _ => ?_)
  refine T_ld 8 (.ref 1000011) rfl (fun _ => rfl) ?_
  refine T_ld1 11 (.ref 1000012) rfl (fun _ => rfl) ?_
  refine T_ld 12 (.int (i32 i)) rfl (fun _ => rfl) ?_
  refine T_callx 15 7 [.ref 1000012, .int (i32 i)] [] rfl (fun _ => rfl) rfl rfl (c_lcharAt_5 w (mO m [] []) c N D (by omega) hT i (r32 (by omega) (by omega)) (show (w.2.2.2).category = 1 by exact hsio) (show 0 ≤ i ∧ i < 6 by omega)) (fun rr7 k8 => ?_)
  obtain ⟨x9, g10, rfl⟩ := k8
  refine Or.inl ⟨_, _, _, _, rfl, ?_⟩
  refine T_ns (st' := [.int (i32 x9)]) rfl ?_
  obtain ⟨g10a, g10b⟩ := g10
  refine T_retc rfl rfl (by omega) ?_
  exact ⟨x9, ⟨by omega, by omega⟩, rfl⟩
def fF_makeGiven_5 : List Nat := [203, 209, 210]
def fA_makeGiven_5 : List Nat := [6, 7, 8, 9]
def Q_makeGiven_5 (m : mR) (c : Nat → Option am_C) (N : Nat) (s : Int) (i : Int) : ag_Re af_T → Prop := fun R => (∃ (M : mR), KTy M ∧ fr fF_makeGiven_5 fA_makeGiven_5 m M ∧ (KMk (m.1 203) (M.1 203) (m.2 8) (M.2 8) (m.2 9) (M.2 9) s i) ∧ R = (.inl (none), (khp M c, N), 0, 0))
set_option maxHeartbeats 3000000 in
theorem c_makeGiven_5 (w : wX) (m : mR) (c : Nat → Option am_C) (N D : Nat) (hD : 5 ≤ D) (hT : KTy m) (s : Int) (i : Int) (qs : R32 s) (qi : R32 i) (hsio : (w.2.2.2).category = 1) (p1 : 0 ≤ s ∧ s ≤ 310) (p2 : 0 ≤ i ∧ i ≤ 17) : TC w D 48 [.ref 6, .ref 1000011, .int (i32 s), .int (i32 i)] (khp m c, N) (Q_makeGiven_5 m c N s i) := by
  obtain ⟨D, rfl⟩ : ∃ k, D = k + 1 := ⟨D - 1, by omega⟩
  obtain ⟨qsa, qsb⟩ := id qs
  obtain ⟨qia, qib⟩ := id qi
  have f203 : 0 ≤ m.1 203 ∧ m.1 203 ≤ 90 := hT.1 203
  have f209 : (-9223372036854775808) ≤ m.1 209 ∧ m.1 209 ≤ 9223372036854775807 := hT.1 209
  refine Tc_of rfl ?_
  rw [show (khp m c, N) = (khp (mO m [] []) c, N) from by rw [mO_nil m]]
  show TT w D pm_48 (0, [(0, .ref 6), (1, .ref 1000011), (2, .int (i32 s)), (3, .int (i32 i))], [], (khp (mO m [] []) c, N), 0, 0) (Q_makeGiven_5 m c N s i)
  refine T_ld 1 (.ref 6) rfl (fun _ => rfl) ?_
  refine T_ld 2 (.long (i64 0)) rfl (fun _ => rfl) ?_
  refine K_pf (l' := [(209, 0)]) 5 0 rfl rfl kd_6 rfl rfl rfl rfl rfl rfl rfl ?_
  refine T_ld 6 (.ref 6) rfl (fun _ => rfl) ?_
  refine T_ld 7 (.long (i64 0)) rfl (fun _ => rfl) ?_
  refine K_pf (l' := [(209, 0), (210, 0)]) 10 0 rfl rfl kd_6 rfl rfl rfl rfl rfl rfl rfl ?_
  refine T_ld 11 (.int (i32 0)) rfl (fun _ => rfl) ?_
  refine T_sto 13 [(4, .int (i32 0)), (0, .ref 6), (1, .ref 1000011), (2, .int (i32 s)), (3, .int (i32 i))] rfl (fun _ => rfl) ?_
  refine K_fl (KTy_mO hT rfl rfl ⟨⟨(by omega : ((-9223372036854775808) : Int) ≤ 0), (by omega : (0 : Int) ≤ 9223372036854775807)⟩, ⟨(by omega : ((-9223372036854775808) : Int) ≤ 0), (by omega : (0 : Int) ≤ 9223372036854775807)⟩, trivial⟩ trivial) (fun m1 Tm1 Fm1 => ?_)
  have L13_4 : ∀ (n10 : Nat) (v2 : Int) (m3 : mR), (R32 v2) → KTy m3 → fr [209] [] (mO m1 [] []) m3 → (0 ≤ v2) → (0 ≤ v2 ∧ v2 ≤ 8) → 20 - v2 < (n10 : Int) → TT w D pm_48 (13, [(0, .ref 6), (1, .ref 1000011), (2, .int (i32 s)), (3, .int (i32 i)), (4, .int (i32 v2))], [], (khp (mO m3 [] []) c, N), 0, 0) (Q_makeGiven_5 m c N s i) := by
    intro n10
    induction n10 with
    | zero =>
      intro v2 m3 q7 Tm3 Fm3 ic5 ic6 hmu
      obtain ⟨q7a, q7b⟩ := id q7
      have q8_209 : (-9223372036854775808) ≤ m3.1 209 ∧ m3.1 209 ≤ 9223372036854775807 := Tm3.1 209
      exfalso
      omega
    | succ n10 ih =>
      intro v2 m3 q7 Tm3 Fm3 ic5 ic6 hmu
      obtain ⟨q7a, q7b⟩ := id q7
      have q8_209 : (-9223372036854775808) ≤ m3.1 209 ∧ m3.1 209 ≤ 9223372036854775807 := Tm3.1 209
      have ih11 := ih
      refine T_ld 15 (.int (i32 v2)) rfl (fun _ => rfl) ?_
      refine T_ld 16 (.ref 1000011) rfl (fun _ => rfl) ?_
      refine T_callx 19 3 [.ref 1000011] [.int (i32 v2)] rfl (fun _ => rfl) rfl rfl (c_length_5 w (mO m3 [] []) c N D (by omega) Tm3 ) (fun rr12 k13 => ?_)
      obtain ⟨x14, g15, h16, rfl⟩ := k13
      refine Or.inl ⟨_, _, _, _, rfl, ?_⟩
      refine T_ns (st' := [.int (i32 x14), .int (i32 v2)]) rfl ?_
      obtain ⟨g15a, g15b⟩ := g15
      refine T_cast 6 (by omega) ?_
      replace h16 : x14 = 6 := h16
      clear g15a g15b h16
      refine T_icmp 60 22 rfl rfl rfl (r32 (by omega) (by omega)) ⟨by decide, by decide⟩ (fun (h17 : (6 : Int) ≤ v2) => ?_) (fun (h17 : ¬ ((6 : Int) ≤ v2)) => ?_)
      · skip
        refine T_ld 61 (.ref 6) rfl (fun _ => rfl) ?_
        refine T_ld 62 (.int (i32 s)) rfl (fun _ => rfl) ?_
        refine T_ld 63 (.int (i32 i)) rfl (fun _ => rfl) ?_
        refine T_callx 66 49 [.ref 6, .int (i32 s), .int (i32 i)] [] rfl (fun _ => rfl) rfl rfl (c_tx_makeName w (mO m3 [] []) c N D (by omega) Tm3 s i (r32 (by omega) (by omega)) (r32 (by omega) (by omega)) (show 0 ≤ s ∧ s ≤ 310 by omega) (show 0 ≤ i ∧ i ≤ 17 by omega)) (fun rr18 k19 => ?_)
        obtain ⟨m20, Tm20, Fm20, h21, rfl⟩ := k19
        refine Or.inl ⟨_, _, _, _, rfl, ?_⟩
        refine K_nb (st' := []) rfl ?_
        have g22 : 0 ≤ m20.1 203 ∧ m20.1 203 ≤ 90 := Tm20.1 203
        replace h21 : KMk (m3.1 203) (m20.1 203) (m3.2 8) (m20.2 8) (m3.2 9) (m20.2 9) s i := h21
        rewrite [(show (m3.1 203) = (m.1 203) from ((fr1 Fm3 203 rfl).trans (fr1 Fm1 203 rfl))), (show (m3.2 8) = (m.2 8) from ((fr2 Fm3 8 rfl).trans (fr2 Fm1 8 rfl))), (show (m3.2 9) = (m.2 9) from ((fr2 Fm3 9 rfl).trans (fr2 Fm1 9 rfl)))] at h21
        have hMk := h21
        refine T_ret rfl (fun _ => rfl) ?_
        exact ⟨(mO m20 [] []), Tm20, (fr_m (fr_s Fm20 (fr_m (fr_s Fm3 (fr_m (fr_s Fm1 (fr_m fr_0 rfl rfl) rfl rfl) rfl rfl) rfl rfl) rfl rfl) rfl rfl) rfl rfl), (show KMk (m.1 203) (m20.1 203) (m.2 8) (m20.2 8) (m.2 9) (m20.2 9) s i by first | (exact hMk) | (exfalso; omega)), rfl⟩
      · skip
        refine T_ld 24 (.int (i32 v2)) rfl (fun _ => rfl) ?_
        refine T_ld 26 (.int (i32 8)) rfl (fun _ => rfl) ?_
        refine T_icmp 60 29 rfl rfl rfl (r32 (by omega) (by omega)) ⟨by decide, by decide⟩ (fun (h23 : (8 : Int) ≤ v2) => by exfalso; omega) (fun (h23 : ¬ ((8 : Int) ≤ v2)) => ?_)
        refine T_ld 30 (.ref 6) rfl (fun _ => rfl) ?_
        refine T_ld 31 (.ref 6) rfl (fun _ => rfl) ?_
        refine K_gf 34 (.long (i64 (m3.1 209))) rfl rfl kd_6 rfl rfl rfl ?_
        refine T_ld 35 (.ref 1000011) rfl (fun _ => rfl) ?_
        refine T_ld 37 (.int (i32 v2)) rfl (fun _ => rfl) ?_
        refine T_callx 40 5 [.ref 1000011, .int (i32 v2)] [.long (i64 (m3.1 209)), .ref 6] rfl (fun _ => rfl) rfl rfl (c_charAt_5 w (mO m3 [] []) c N D (by omega) Tm3 v2 (r32 (by omega) (by omega)) (show (w.2.2.2).category = 1 by exact hsio) (show 0 ≤ v2 ∧ v2 < 6 by omega)) (fun rr24 k25 => ?_)
        obtain ⟨x26, g27, rfl⟩ := k25
        refine Or.inl ⟨_, _, _, _, rfl, ?_⟩
        refine T_ns (st' := [.int (i32 x26), .long (i64 (m3.1 209)), .ref 6]) rfl ?_
        obtain ⟨g27a, g27b⟩ := g27
        refine T_i2l 41 rfl rfl (r32 (by omega) (by omega)) ?_
        refine T_ld 43 (.int (i32 56)) rfl (fun _ => rfl) ?_
        refine T_ld 45 (.int (i32 8)) rfl (fun _ => rfl) ?_
        refine T_ld 47 (.int (i32 v2)) rfl (fun _ => rfl) ?_
        refine T_imul 48 rfl rfl ?_
        refine T_isub 49 rfl rfl ?_
        refine T_lhv 50 _ rfl (fun _ => rfl) (fun z28 h29 => ?_)
        obtain ⟨h29a, h29b⟩ := h29
        refine T_lhv 51 _ rfl (fun _ => rfl) (fun z30 h31 => ?_)
        obtain ⟨h31a, h31b⟩ := h31
        refine K_pf (l' := [(209, z30)]) 54 z30 rfl rfl kd_6 rfl rfl rfl rfl rfl rfl rfl ?_
        have g32 : (-9223372036854775808) ≤ z30 ∧ z30 ≤ 9223372036854775807 := ⟨by omega, by omega⟩
        refine T_iinc 57 [(4, .int (i32 (v2 + 1))), (0, .ref 6), (1, .ref 1000011), (2, .int (i32 s)), (3, .int (i32 i))] rfl rfl (by decide) rfl rfl ?_
        refine T_goto 13 rfl (fun _ => rfl) ?_
        refine Tm_lv (a := [(0, .ref 6), (1, .ref 1000011), (2, .int (i32 s)), (3, .int (i32 i)), (4, .int (i32 (v2 + 1)))]) rfl rfl ⟨rfl, rfl, rfl, rfl, rfl, trivial⟩ ?_
        exact ih11 (v2 + 1) (mO m3 [(209, z30)] []) (r32 (by omega) (by omega)) (KTy_mO Tm3 rfl rfl ⟨g32, trivial⟩ trivial) (fr_m (fr_s Fm3 (fr_m fr_0 rfl rfl) rfl rfl) rfl rfl) (show 0 ≤ (v2 + 1) by omega) (show 0 ≤ (v2 + 1) ∧ (v2 + 1) ≤ 8 by omega) (show 20 - (v2 + 1) < (n10 : Int) by omega)
  refine Tm_lv (a := [(0, .ref 6), (1, .ref 1000011), (2, .int (i32 s)), (3, .int (i32 i)), (4, .int (i32 0))]) rfl rfl ⟨rfl, rfl, rfl, rfl, rfl, trivial⟩ ?_
  exact L13_4 ((20 - (0 : Int) : Int) + 1).toNat 0 (mO m1 [] []) ⟨by decide, by decide⟩ Tm1 (fr_m fr_0 rfl rfl) (show 0 ≤ (0 : Int) by omega) (show 0 ≤ (0 : Int) ∧ (0 : Int) ≤ 8 by omega) (show 20 - (0 : Int) < ((((20 - (0 : Int) : Int) + 1).toNat : Nat) : Int) by omega)
def fF_tx_scanDecimal : List Nat := [205, 208]
def fA_tx_scanDecimal : List Nat := []
def Q_tx_scanDecimal (m : mR) (c : Nat → Option am_C) (N : Nat) : ag_Re af_T → Prop := fun R => (∃ (M : mR) (r : Int), KTy M ∧ fr fF_tx_scanDecimal fA_tx_scanDecimal m M ∧ ((-1) ≤ r ∧ r ≤ 257) ∧ R = (.inl (some (.int (i32 r))), (khp M c, N), 0, 0))
set_option maxHeartbeats 3000000 in
theorem c_tx_scanDecimal (w : wX) (m : mR) (c : Nat → Option am_C) (N D : Nat) (hD : 1 ≤ D) (hT : KTy m) : TC w D 55 [.ref 6] (khp m c, N) (Q_tx_scanDecimal m c N) := by
  obtain ⟨D, rfl⟩ : ∃ k, D = k + 1 := ⟨D - 1, by omega⟩
  have f205 : 0 ≤ m.1 205 ∧ m.1 205 ≤ 4001 := hT.1 205
  have f208 : (-9223372036854775808) ≤ m.1 208 ∧ m.1 208 ≤ 9223372036854775807 := hT.1 208
  have f204 : 0 ≤ m.1 204 ∧ m.1 204 ≤ 4000 := hT.1 204
  have f207 : 0 ≤ m.1 207 ∧ m.1 207 ≤ 4001 := hT.1 207
  refine Tc_of rfl ?_
  rw [show (khp m c, N) = (khp (mO m [] []) c, N) from by rw [mO_nil m]]
  show TT w D pm_55 (0, [(0, .ref 6)], [], (khp (mO m [] []) c, N), 0, 0) (Q_tx_scanDecimal m c N)
  refine T_ld 1 (.ref 6) rfl (fun _ => rfl) ?_
  refine T_ld 2 (.long (i64 0)) rfl (fun _ => rfl) ?_
  refine K_pf (l' := [(208, 0)]) 5 0 rfl rfl kd_6 rfl rfl rfl rfl rfl rfl rfl ?_
  refine K_fl (KTy_mO hT rfl rfl ⟨⟨(by omega : ((-9223372036854775808) : Int) ≤ 0), (by omega : (0 : Int) ≤ 9223372036854775807)⟩, trivial⟩ trivial) (fun m1 Tm1 Fm1 => ?_)
  have L5_3 : ∀ (n7 : Nat) (m2 : mR), KTy m2 → fr [205, 208] [] (mO m1 [] []) m2 → (0 ≤ (m2.1 205)) → 4001 - (m2.1 205) < (n7 : Int) → TT w D pm_55 (5, [(0, .ref 6)], [], (khp (mO m2 [] []) c, N), 0, 0) (Q_tx_scanDecimal m c N) := by
    intro n7
    induction n7 with
    | zero =>
      intro m2 Tm2 Fm2 ic4 hmu
      have q5_205 : 0 ≤ m2.1 205 ∧ m2.1 205 ≤ 4001 := Tm2.1 205
      have q5_208 : (-9223372036854775808) ≤ m2.1 208 ∧ m2.1 208 ≤ 9223372036854775807 := Tm2.1 208
      exfalso
      omega
    | succ n7 ih =>
      intro m2 Tm2 Fm2 ic4 hmu
      have q5_205 : 0 ≤ m2.1 205 ∧ m2.1 205 ≤ 4001 := Tm2.1 205
      have q5_208 : (-9223372036854775808) ≤ m2.1 208 ∧ m2.1 208 ≤ 9223372036854775807 := Tm2.1 208
      have ih8 := ih
      refine T_ld 6 (.ref 6) rfl (fun _ => rfl) ?_
      refine K_gf 9 (.int (i32 (m2.1 205))) rfl rfl kd_6 rfl rfl rfl ?_
      refine T_ld 10 (.ref 6) rfl (fun _ => rfl) ?_
      refine K_gf 13 (.int (i32 (m.1 204))) rfl rfl kd_6 rfl (kval_c2 (k := 204) (F := fun x => .int (i32 x)) rfl (show (m2.1 204) = (m.1 204) from ((fr1 Fm2 204 rfl).trans (fr1 Fm1 204 rfl)))) rfl ?_
      refine T_icmp 83 16 rfl rfl rfl (r32 (by omega) (by omega)) (r32 (by omega) (by omega)) (fun (h9 : (m.1 204) ≤ (m2.1 205)) => ?_) (fun (h9 : ¬ ((m.1 204) ≤ (m2.1 205))) => ?_)
      · skip
        refine T_ld 84 (.ref 6) rfl (fun _ => rfl) ?_
        refine K_gf 87 (.int (i32 (m2.1 205))) rfl rfl kd_6 rfl rfl rfl ?_
        refine T_ld 88 (.ref 6) rfl (fun _ => rfl) ?_
        refine K_gf 91 (.int (i32 (m.1 207))) rfl rfl kd_6 rfl (kval_c2 (k := 207) (F := fun x => .int (i32 x)) rfl (show (m2.1 207) = (m.1 207) from ((fr1 Fm2 207 rfl).trans (fr1 Fm1 207 rfl)))) rfl ?_
        refine T_isub 92 rfl rfl ?_
        refine T_ld 94 (.int (i32 18)) rfl (fun _ => rfl) ?_
        refine T_icmp 101 97 rfl rfl rfl (r32 (by omega) (by omega)) ⟨by decide, by decide⟩ (fun (h10 : (m2.1 205) - (m.1 207) ≤ 18) => ?_) (fun (h10 : ¬ ((m2.1 205) - (m.1 207) ≤ 18)) => ?_)
        · skip
          refine T_ld 104 (.int (i32 257)) rfl (fun _ => rfl) ?_
          refine T_ret rfl (fun _ => rfl) ?_
          exact ⟨(mO m2 [] []), 257, Tm2, (fr_m (fr_s Fm2 (fr_m (fr_s Fm1 (fr_m fr_0 rfl rfl) rfl rfl) rfl rfl) rfl rfl) rfl rfl), ⟨by omega, by omega⟩, rfl⟩
        · skip
          refine T_ld 98 (.int (i32 (-1))) rfl (fun _ => rfl) ?_
          refine T_goto 104 rfl (fun _ => rfl) ?_
          refine T_ret rfl (fun _ => rfl) ?_
          exact ⟨(mO m2 [] []), (-1), Tm2, (fr_m (fr_s Fm2 (fr_m (fr_s Fm1 (fr_m fr_0 rfl rfl) rfl rfl) rfl rfl) rfl rfl) rfl rfl), ⟨by omega, by omega⟩, rfl⟩
      · skip
        refine T_ld 17 (.ref 6) rfl (fun _ => rfl) ?_
        refine K_gf 20 (.ref 2) rfl rfl kd_6 rfl rfl rfl ?_
        refine T_ld 21 (.ref 6) rfl (fun _ => rfl) ?_
        refine K_gf 24 (.int (i32 (m2.1 205))) rfl rfl kd_6 rfl rfl rfl ?_
        refine K_bald 25 1 (m.2 1) rfl rfl rfl (by omega) (show (m2.1 205) < (4000 : Int) by omega) (show (m2.2 1) = (m.2 1) from ((fr2 Fm2 1 rfl).trans (fr2 Fm1 1 rfl))) ?_
        have e11 : (-128) ≤ m.2 1 (m2.1 205) ∧ m.2 1 (m2.1 205) ≤ 127 := hT.2.1 1 (m2.1 205)
        refine T_ld 27 (.int (i32 48)) rfl (fun _ => rfl) ?_
        refine T_icmp 83 30 rfl rfl rfl (r32 (by omega) (by omega)) ⟨by decide, by decide⟩ (fun (h12 : (m.2 1) (m2.1 205) < 48) => ?_) (fun (h12 : ¬ ((m.2 1) (m2.1 205) < 48)) => ?_)
        · skip
          refine T_ld 84 (.ref 6) rfl (fun _ => rfl) ?_
          refine K_gf 87 (.int (i32 (m2.1 205))) rfl rfl kd_6 rfl rfl rfl ?_
          refine T_ld 88 (.ref 6) rfl (fun _ => rfl) ?_
          refine K_gf 91 (.int (i32 (m.1 207))) rfl rfl kd_6 rfl (kval_c2 (k := 207) (F := fun x => .int (i32 x)) rfl (show (m2.1 207) = (m.1 207) from ((fr1 Fm2 207 rfl).trans (fr1 Fm1 207 rfl)))) rfl ?_
          refine T_isub 92 rfl rfl ?_
          refine T_ld 94 (.int (i32 18)) rfl (fun _ => rfl) ?_
          refine T_icmp 101 97 rfl rfl rfl (r32 (by omega) (by omega)) ⟨by decide, by decide⟩ (fun (h13 : (m2.1 205) - (m.1 207) ≤ 18) => ?_) (fun (h13 : ¬ ((m2.1 205) - (m.1 207) ≤ 18)) => ?_)
          · skip
            refine T_ld 104 (.int (i32 257)) rfl (fun _ => rfl) ?_
            refine T_ret rfl (fun _ => rfl) ?_
            exact ⟨(mO m2 [] []), 257, Tm2, (fr_m (fr_s Fm2 (fr_m (fr_s Fm1 (fr_m fr_0 rfl rfl) rfl rfl) rfl rfl) rfl rfl) rfl rfl), ⟨by omega, by omega⟩, rfl⟩
          · skip
            refine T_ld 98 (.int (i32 (-1))) rfl (fun _ => rfl) ?_
            refine T_goto 104 rfl (fun _ => rfl) ?_
            refine T_ret rfl (fun _ => rfl) ?_
            exact ⟨(mO m2 [] []), (-1), Tm2, (fr_m (fr_s Fm2 (fr_m (fr_s Fm1 (fr_m fr_0 rfl rfl) rfl rfl) rfl rfl) rfl rfl) rfl rfl), ⟨by omega, by omega⟩, rfl⟩
        · skip
          refine T_ld 31 (.ref 6) rfl (fun _ => rfl) ?_
          refine K_gf 34 (.ref 2) rfl rfl kd_6 rfl rfl rfl ?_
          refine T_ld 35 (.ref 6) rfl (fun _ => rfl) ?_
          refine K_gf 38 (.int (i32 (m2.1 205))) rfl rfl kd_6 rfl rfl rfl ?_
          refine K_bald 39 1 (m.2 1) rfl rfl rfl (by omega) (show (m2.1 205) < (4000 : Int) by omega) (show (m2.2 1) = (m.2 1) from ((fr2 Fm2 1 rfl).trans (fr2 Fm1 1 rfl))) ?_
          have e14 : (-128) ≤ m.2 1 (m2.1 205) ∧ m.2 1 (m2.1 205) ≤ 127 := hT.2.1 1 (m2.1 205)
          refine T_ld 41 (.int (i32 57)) rfl (fun _ => rfl) ?_
          refine T_icmp 83 44 rfl rfl rfl (r32 (by omega) (by omega)) ⟨by decide, by decide⟩ (fun (h15 : (57 : Int) < (m.2 1) (m2.1 205)) => ?_) (fun (h15 : ¬ ((57 : Int) < (m.2 1) (m2.1 205))) => ?_)
          · skip
            refine T_ld 84 (.ref 6) rfl (fun _ => rfl) ?_
            refine K_gf 87 (.int (i32 (m2.1 205))) rfl rfl kd_6 rfl rfl rfl ?_
            refine T_ld 88 (.ref 6) rfl (fun _ => rfl) ?_
            refine K_gf 91 (.int (i32 (m.1 207))) rfl rfl kd_6 rfl (kval_c2 (k := 207) (F := fun x => .int (i32 x)) rfl (show (m2.1 207) = (m.1 207) from ((fr1 Fm2 207 rfl).trans (fr1 Fm1 207 rfl)))) rfl ?_
            refine T_isub 92 rfl rfl ?_
            refine T_ld 94 (.int (i32 18)) rfl (fun _ => rfl) ?_
            refine T_icmp 101 97 rfl rfl rfl (r32 (by omega) (by omega)) ⟨by decide, by decide⟩ (fun (h16 : (m2.1 205) - (m.1 207) ≤ 18) => ?_) (fun (h16 : ¬ ((m2.1 205) - (m.1 207) ≤ 18)) => ?_)
            · skip
              refine T_ld 104 (.int (i32 257)) rfl (fun _ => rfl) ?_
              refine T_ret rfl (fun _ => rfl) ?_
              exact ⟨(mO m2 [] []), 257, Tm2, (fr_m (fr_s Fm2 (fr_m (fr_s Fm1 (fr_m fr_0 rfl rfl) rfl rfl) rfl rfl) rfl rfl) rfl rfl), ⟨by omega, by omega⟩, rfl⟩
            · skip
              refine T_ld 98 (.int (i32 (-1))) rfl (fun _ => rfl) ?_
              refine T_goto 104 rfl (fun _ => rfl) ?_
              refine T_ret rfl (fun _ => rfl) ?_
              exact ⟨(mO m2 [] []), (-1), Tm2, (fr_m (fr_s Fm2 (fr_m (fr_s Fm1 (fr_m fr_0 rfl rfl) rfl rfl) rfl rfl) rfl rfl) rfl rfl), ⟨by omega, by omega⟩, rfl⟩
          · skip
            refine T_ld 45 (.ref 6) rfl (fun _ => rfl) ?_
            refine T_ld 46 (.ref 6) rfl (fun _ => rfl) ?_
            refine K_gf 49 (.long (i64 (m2.1 208))) rfl rfl kd_6 rfl rfl rfl ?_
            refine T_ld 52 (.long (i64 10)) rfl (fun _ => rfl) ?_
            refine T_lmul 53 rfl rfl ?_
            refine T_lnm (fun z17 h18 => ?_)
            obtain ⟨h18a, h18b⟩ := h18
            refine T_ld 54 (.ref 6) rfl (fun _ => rfl) ?_
            refine K_gf 57 (.ref 2) rfl rfl kd_6 rfl rfl rfl ?_
            refine T_ld 58 (.ref 6) rfl (fun _ => rfl) ?_
            refine K_gf 61 (.int (i32 (m2.1 205))) rfl rfl kd_6 rfl rfl rfl ?_
            refine K_bald 62 1 (m.2 1) rfl rfl rfl (by omega) (show (m2.1 205) < (4000 : Int) by omega) (show (m2.2 1) = (m.2 1) from ((fr2 Fm2 1 rfl).trans (fr2 Fm1 1 rfl))) ?_
            have e19 : (-128) ≤ m.2 1 (m2.1 205) ∧ m.2 1 (m2.1 205) ≤ 127 := hT.2.1 1 (m2.1 205)
            refine T_ld 64 (.int (i32 48)) rfl (fun _ => rfl) ?_
            refine T_isub 65 rfl rfl ?_
            refine T_i2l 66 rfl rfl (r32 (by omega) (by omega)) ?_
            refine T_ladd 67 rfl rfl ?_
            refine T_lnm (fun z20 h21 => ?_)
            obtain ⟨h21a, h21b⟩ := h21
            refine K_pf (l' := [(208, z20)]) 70 z20 rfl rfl kd_6 rfl rfl rfl rfl rfl rfl rfl ?_
            have g22 : (-9223372036854775808) ≤ z20 ∧ z20 ≤ 9223372036854775807 := ⟨by omega, by omega⟩
            refine T_ld 71 (.ref 6) rfl (fun _ => rfl) ?_
            refine T_ld 72 (.ref 6) rfl (fun _ => rfl) ?_
            refine K_gf 75 (.int (i32 (m2.1 205))) rfl rfl kd_6 rfl rfl rfl ?_
            refine T_ld 76 (.int (i32 1)) rfl (fun _ => rfl) ?_
            refine T_iadd 77 rfl rfl ?_
            refine K_pf (l' := [(205, (m2.1 205) + 1), (208, z20)]) 80 ((m2.1 205) + 1) rfl rfl kd_6 rfl rfl rfl rfl rfl rfl rfl ?_
            have g23 : 0 ≤ (m2.1 205) + 1 ∧ (m2.1 205) + 1 ≤ 4001 := ⟨by omega, by omega⟩
            refine T_goto 5 rfl (fun _ => rfl) ?_
            exact ih8 (mO m2 [(205, (m2.1 205) + 1), (208, z20)] []) (KTy_mO Tm2 rfl rfl ⟨g23, g22, trivial⟩ trivial) (fr_m (fr_s Fm2 (fr_m fr_0 rfl rfl) rfl rfl) rfl rfl) (show 0 ≤ ((m2.1 205) + 1) by omega) (show 4001 - ((m2.1 205) + 1) < (n7 : Int) by omega)
  exact L5_3 ((4001 - (m.1 205) : Int) + 1).toNat (mO m1 [] []) Tm1 (fr_m fr_0 rfl rfl) (show 0 ≤ (m1.1 205) by rewrite [(show (m1.1 205) = (m.1 205) from (fr1 Fm1 205 rfl))]; omega) (show 4001 - (m1.1 205) < ((((4001 - (m.1 205) : Int) + 1).toNat : Nat) : Int) by rewrite [(show (m1.1 205) = (m.1 205) from (fr1 Fm1 205 rfl))]; omega)
def fF_tx_scanHex : List Nat := [205, 208]
def fA_tx_scanHex : List Nat := []
def Q_tx_scanHex (m : mR) (c : Nat → Option am_C) (N : Nat) : ag_Re af_T → Prop := fun R => (∃ (M : mR) (r : Int), KTy M ∧ fr fF_tx_scanHex fA_tx_scanHex m M ∧ ((-1) ≤ r ∧ r ≤ 257) ∧ R = (.inl (some (.int (i32 r))), (khp M c, N), 0, 0))
set_option maxHeartbeats 3000000 in
theorem c_tx_scanHex (w : wX) (m : mR) (c : Nat → Option am_C) (N D : Nat) (hD : 1 ≤ D) (hT : KTy m) (p0 : (m.1 205) + 2 ≤ (m.1 204)) : TC w D 54 [.ref 6] (khp m c, N) (Q_tx_scanHex m c N) := by
  obtain ⟨D, rfl⟩ : ∃ k, D = k + 1 := ⟨D - 1, by omega⟩
  have f205 : 0 ≤ m.1 205 ∧ m.1 205 ≤ 4001 := hT.1 205
  have f208 : (-9223372036854775808) ≤ m.1 208 ∧ m.1 208 ≤ 9223372036854775807 := hT.1 208
  have f204 : 0 ≤ m.1 204 ∧ m.1 204 ≤ 4000 := hT.1 204
  have f207 : 0 ≤ m.1 207 ∧ m.1 207 ≤ 4001 := hT.1 207
  refine Tc_of rfl ?_
  rw [show (khp m c, N) = (khp (mO m [] []) c, N) from by rw [mO_nil m]]
  show TT w D pm_54 (0, [(0, .ref 6)], [], (khp (mO m [] []) c, N), 0, 0) (Q_tx_scanHex m c N)
  refine T_ld 1 (.ref 6) rfl (fun _ => rfl) ?_
  refine T_ld 2 (.long (i64 0)) rfl (fun _ => rfl) ?_
  refine K_pf (l' := [(208, 0)]) 5 0 rfl rfl kd_6 rfl rfl rfl rfl rfl rfl rfl ?_
  refine T_ld 6 (.ref 6) rfl (fun _ => rfl) ?_
  refine T_ld 7 (.ref 6) rfl (fun _ => rfl) ?_
  refine K_gf 10 (.int (i32 (m.1 205))) rfl rfl kd_6 rfl rfl rfl ?_
  refine T_ld 11 (.int (i32 2)) rfl (fun _ => rfl) ?_
  refine T_iadd 12 rfl rfl ?_
  refine K_pf (l' := [(205, (m.1 205) + 2), (208, 0)]) 15 ((m.1 205) + 2) rfl rfl kd_6 rfl rfl rfl rfl rfl rfl rfl ?_
  have g1 : 0 ≤ (m.1 205) + 2 ∧ (m.1 205) + 2 ≤ 4001 := ⟨by omega, by omega⟩
  refine T_ld 16 (.int (i32 1)) rfl (fun _ => rfl) ?_
  refine T_sto 17 [(1, .int (i32 1)), (0, .ref 6)] rfl (fun _ => rfl) ?_
  refine K_fl (KTy_mO hT rfl rfl ⟨g1, ⟨(by omega : ((-9223372036854775808) : Int) ≤ 0), (by omega : (0 : Int) ≤ 9223372036854775807)⟩, trivial⟩ trivial) (fun m2 Tm2 Fm2 => ?_)
  have L17_5 : ∀ (n13 : Nat) (v3 : Int) (m4 : mR), (R32 v3) → KTy m4 → fr [205, 208] [] (mO m2 [] []) m4 → (0 ≤ v3) → (v3 ≤ 1) → (v3 = 0 ∨ v3 = 1) → (0 ≤ (m4.1 205)) → 2 * (4001 - (m4.1 205)) + v3 < (n13 : Int) → TT w D pm_54 (17, [(0, .ref 6), (1, .int (i32 v3))], [], (khp (mO m4 [] []) c, N), 0, 0) (Q_tx_scanHex m c N) := by
    intro n13
    induction n13 with
    | zero =>
      intro v3 m4 q10 Tm4 Fm4 ic6 ic7 ic8 ic9 hmu
      obtain ⟨q10a, q10b⟩ := id q10
      have q11_205 : 0 ≤ m4.1 205 ∧ m4.1 205 ≤ 4001 := Tm4.1 205
      have q11_208 : (-9223372036854775808) ≤ m4.1 208 ∧ m4.1 208 ≤ 9223372036854775807 := Tm4.1 208
      exfalso
      omega
    | succ n13 ih =>
      intro v3 m4 q10 Tm4 Fm4 ic6 ic7 ic8 ic9 hmu
      obtain ⟨q10a, q10b⟩ := id q10
      have q11_205 : 0 ≤ m4.1 205 ∧ m4.1 205 ≤ 4001 := Tm4.1 205
      have q11_208 : (-9223372036854775808) ≤ m4.1 208 ∧ m4.1 208 ≤ 9223372036854775807 := Tm4.1 208
      have ih14 := ih
      refine T_ld 18 (.int (i32 v3)) rfl (fun _ => rfl) ?_
      refine T_if 129 21 rfl rfl rfl (r32 (by omega) (by omega)) (fun (h15 : v3 = 0) => ?_) (fun (h15 : ¬ (v3 = 0)) => ?_)
      · skip
        refine T_ld 130 (.ref 6) rfl (fun _ => rfl) ?_
        refine K_gf 133 (.int (i32 (m4.1 205))) rfl rfl kd_6 rfl rfl rfl ?_
        refine T_ld 134 (.ref 6) rfl (fun _ => rfl) ?_
        refine K_gf 137 (.int (i32 (m.1 207))) rfl rfl kd_6 rfl (kval_c2 (k := 207) (F := fun x => .int (i32 x)) rfl (show (m4.1 207) = (m.1 207) from ((fr1 Fm4 207 rfl).trans (fr1 Fm2 207 rfl)))) rfl ?_
        refine T_isub 138 rfl rfl ?_
        refine T_ld 139 (.int (i32 2)) rfl (fun _ => rfl) ?_
        refine T_isub 140 rfl rfl ?_
        refine T_sto 141 [(2, .int (i32 (((m4.1 205) - (m.1 207)) - 2))), (0, .ref 6), (1, .int (i32 v3))] rfl (fun _ => rfl) ?_
        refine T_ld 142 (.int (i32 (((m4.1 205) - (m.1 207)) - 2))) rfl (fun _ => rfl) ?_
        refine T_ld 143 (.int (i32 1)) rfl (fun _ => rfl) ?_
        refine T_icmp 152 146 rfl rfl rfl (r32 (by omega) (by omega)) ⟨by decide, by decide⟩ (fun (h16 : ((m4.1 205) - (m.1 207)) - 2 < 1) => ?_) (fun (h16 : ¬ (((m4.1 205) - (m.1 207)) - 2 < 1)) => ?_)
        · skip
          refine T_ld 153 (.int (i32 (-1))) rfl (fun _ => rfl) ?_
          refine T_goto 159 rfl (fun _ => rfl) ?_
          refine T_ret rfl (fun _ => rfl) ?_
          exact ⟨(mO m4 [] []), (-1), Tm4, (fr_m (fr_s Fm4 (fr_m (fr_s Fm2 (fr_m fr_0 rfl rfl) rfl rfl) rfl rfl) rfl rfl) rfl rfl), ⟨by omega, by omega⟩, rfl⟩
        · skip
          refine T_ld 147 (.int (i32 (((m4.1 205) - (m.1 207)) - 2))) rfl (fun _ => rfl) ?_
          refine T_ld 149 (.int (i32 16)) rfl (fun _ => rfl) ?_
          refine T_icmp 156 152 rfl rfl rfl (r32 (by omega) (by omega)) ⟨by decide, by decide⟩ (fun (h17 : ((m4.1 205) - (m.1 207)) - 2 ≤ 16) => ?_) (fun (h17 : ¬ (((m4.1 205) - (m.1 207)) - 2 ≤ 16)) => ?_)
          · skip
            refine T_ld 159 (.int (i32 257)) rfl (fun _ => rfl) ?_
            refine T_ret rfl (fun _ => rfl) ?_
            exact ⟨(mO m4 [] []), 257, Tm4, (fr_m (fr_s Fm4 (fr_m (fr_s Fm2 (fr_m fr_0 rfl rfl) rfl rfl) rfl rfl) rfl rfl) rfl rfl), ⟨by omega, by omega⟩, rfl⟩
          · skip
            refine T_ld 153 (.int (i32 (-1))) rfl (fun _ => rfl) ?_
            refine T_goto 159 rfl (fun _ => rfl) ?_
            refine T_ret rfl (fun _ => rfl) ?_
            exact ⟨(mO m4 [] []), (-1), Tm4, (fr_m (fr_s Fm4 (fr_m (fr_s Fm2 (fr_m fr_0 rfl rfl) rfl rfl) rfl rfl) rfl rfl) rfl rfl), ⟨by omega, by omega⟩, rfl⟩
      · skip
        refine T_ld 22 (.ref 6) rfl (fun _ => rfl) ?_
        refine K_gf 25 (.int (i32 (m4.1 205))) rfl rfl kd_6 rfl rfl rfl ?_
        refine T_ld 26 (.ref 6) rfl (fun _ => rfl) ?_
        refine K_gf 29 (.int (i32 (m.1 204))) rfl rfl kd_6 rfl (kval_c2 (k := 204) (F := fun x => .int (i32 x)) rfl (show (m4.1 204) = (m.1 204) from ((fr1 Fm4 204 rfl).trans (fr1 Fm2 204 rfl)))) rfl ?_
        refine T_icmp 129 32 rfl rfl rfl (r32 (by omega) (by omega)) (r32 (by omega) (by omega)) (fun (h18 : (m.1 204) ≤ (m4.1 205)) => ?_) (fun (h18 : ¬ ((m.1 204) ≤ (m4.1 205))) => ?_)
        · skip
          refine T_ld 130 (.ref 6) rfl (fun _ => rfl) ?_
          refine K_gf 133 (.int (i32 (m4.1 205))) rfl rfl kd_6 rfl rfl rfl ?_
          refine T_ld 134 (.ref 6) rfl (fun _ => rfl) ?_
          refine K_gf 137 (.int (i32 (m.1 207))) rfl rfl kd_6 rfl (kval_c2 (k := 207) (F := fun x => .int (i32 x)) rfl (show (m4.1 207) = (m.1 207) from ((fr1 Fm4 207 rfl).trans (fr1 Fm2 207 rfl)))) rfl ?_
          refine T_isub 138 rfl rfl ?_
          refine T_ld 139 (.int (i32 2)) rfl (fun _ => rfl) ?_
          refine T_isub 140 rfl rfl ?_
          refine T_sto 141 [(2, .int (i32 (((m4.1 205) - (m.1 207)) - 2))), (0, .ref 6), (1, .int (i32 v3))] rfl (fun _ => rfl) ?_
          refine T_ld 142 (.int (i32 (((m4.1 205) - (m.1 207)) - 2))) rfl (fun _ => rfl) ?_
          refine T_ld 143 (.int (i32 1)) rfl (fun _ => rfl) ?_
          refine T_icmp 152 146 rfl rfl rfl (r32 (by omega) (by omega)) ⟨by decide, by decide⟩ (fun (h19 : ((m4.1 205) - (m.1 207)) - 2 < 1) => ?_) (fun (h19 : ¬ (((m4.1 205) - (m.1 207)) - 2 < 1)) => ?_)
          · skip
            refine T_ld 153 (.int (i32 (-1))) rfl (fun _ => rfl) ?_
            refine T_goto 159 rfl (fun _ => rfl) ?_
            refine T_ret rfl (fun _ => rfl) ?_
            exact ⟨(mO m4 [] []), (-1), Tm4, (fr_m (fr_s Fm4 (fr_m (fr_s Fm2 (fr_m fr_0 rfl rfl) rfl rfl) rfl rfl) rfl rfl) rfl rfl), ⟨by omega, by omega⟩, rfl⟩
          · skip
            refine T_ld 147 (.int (i32 (((m4.1 205) - (m.1 207)) - 2))) rfl (fun _ => rfl) ?_
            refine T_ld 149 (.int (i32 16)) rfl (fun _ => rfl) ?_
            refine T_icmp 156 152 rfl rfl rfl (r32 (by omega) (by omega)) ⟨by decide, by decide⟩ (fun (h20 : ((m4.1 205) - (m.1 207)) - 2 ≤ 16) => ?_) (fun (h20 : ¬ (((m4.1 205) - (m.1 207)) - 2 ≤ 16)) => ?_)
            · skip
              refine T_ld 159 (.int (i32 257)) rfl (fun _ => rfl) ?_
              refine T_ret rfl (fun _ => rfl) ?_
              exact ⟨(mO m4 [] []), 257, Tm4, (fr_m (fr_s Fm4 (fr_m (fr_s Fm2 (fr_m fr_0 rfl rfl) rfl rfl) rfl rfl) rfl rfl) rfl rfl), ⟨by omega, by omega⟩, rfl⟩
            · skip
              refine T_ld 153 (.int (i32 (-1))) rfl (fun _ => rfl) ?_
              refine T_goto 159 rfl (fun _ => rfl) ?_
              refine T_ret rfl (fun _ => rfl) ?_
              exact ⟨(mO m4 [] []), (-1), Tm4, (fr_m (fr_s Fm4 (fr_m (fr_s Fm2 (fr_m fr_0 rfl rfl) rfl rfl) rfl rfl) rfl rfl) rfl rfl), ⟨by omega, by omega⟩, rfl⟩
        · skip
          refine T_ld 33 (.ref 6) rfl (fun _ => rfl) ?_
          refine K_gf 36 (.ref 2) rfl rfl kd_6 rfl rfl rfl ?_
          refine T_ld 37 (.ref 6) rfl (fun _ => rfl) ?_
          refine K_gf 40 (.int (i32 (m4.1 205))) rfl rfl kd_6 rfl rfl rfl ?_
          refine K_bald 41 1 (m.2 1) rfl rfl rfl (by omega) (show (m4.1 205) < (4000 : Int) by omega) (show (m4.2 1) = (m.2 1) from ((fr2 Fm4 1 rfl).trans (fr2 Fm2 1 rfl))) ?_
          have e21 : (-128) ≤ m.2 1 (m4.1 205) ∧ m.2 1 (m4.1 205) ≤ 127 := hT.2.1 1 (m4.1 205)
          refine T_sto 42 [(2, .int (i32 ((m.2 1) (m4.1 205)))), (0, .ref 6), (1, .int (i32 v3))] rfl (fun _ => rfl) ?_
          refine T_ld 43 (.int (i32 ((m.2 1) (m4.1 205)))) rfl (fun _ => rfl) ?_
          refine T_ld 45 (.int (i32 48)) rfl (fun _ => rfl) ?_
          refine T_icmp 58 48 rfl rfl rfl (r32 (by omega) (by omega)) ⟨by decide, by decide⟩ (fun (h22 : (m.2 1) (m4.1 205) < 48) => ?_) (fun (h22 : ¬ ((m.2 1) (m4.1 205) < 48)) => ?_)
          · skip
            refine T_ld 59 (.int (i32 0)) rfl (fun _ => rfl) ?_
            refine T_sto 60 [(3, .int (i32 0)), (2, .int (i32 ((m.2 1) (m4.1 205)))), (0, .ref 6), (1, .int (i32 v3))] rfl (fun _ => rfl) ?_
            refine T_ld 61 (.int (i32 0)) rfl (fun _ => rfl) ?_
            refine T_if 76 64 rfl rfl rfl ⟨by decide, by decide⟩ (fun h23 => absurd (show (0 : Int) ≠ 0 from h23) (by decide)) (fun _ => ?_)
            refine T_ld 65 (.int (i32 ((m.2 1) (m4.1 205)))) rfl (fun _ => rfl) ?_
            refine T_ld 67 (.int (i32 97)) rfl (fun _ => rfl) ?_
            refine T_icmp 80 70 rfl rfl rfl (r32 (by omega) (by omega)) ⟨by decide, by decide⟩ (fun (h24 : (m.2 1) (m4.1 205) < 97) => ?_) (fun (h24 : ¬ ((m.2 1) (m4.1 205) < 97)) => by exfalso; omega)
            refine T_ld 81 (.int (i32 0)) rfl (fun _ => rfl) ?_
            refine T_sto 82 [(1, .int (i32 0)), (3, .int (i32 0)), (2, .int (i32 ((m.2 1) (m4.1 205)))), (0, .ref 6)] rfl (fun _ => rfl) ?_
            refine T_ld 83 (.int (i32 0)) rfl (fun _ => rfl) ?_
            refine T_if 126 86 rfl rfl rfl ⟨by decide, by decide⟩ (fun _ => ?_) (fun h25 => absurd (show (0 : Int) = 0 by decide) h25)
            refine T_goto 17 rfl (fun _ => rfl) ?_
            refine Tm_lv (a := [(0, .ref 6), (1, .int (i32 0))]) rfl rfl ⟨rfl, rfl, trivial⟩ ?_
            exact ih14 0 (mO m4 [] []) ⟨by decide, by decide⟩ Tm4 (fr_m (fr_s Fm4 (fr_m fr_0 rfl rfl) rfl rfl) rfl rfl) (show 0 ≤ (0 : Int) by omega) (show (0 : Int) ≤ 1 by omega) (show (0 : Int) = 0 ∨ (0 : Int) = 1 by omega) (show 0 ≤ (m4.1 205) by omega) (show 2 * (4001 - (m4.1 205)) + (0 : Int) < (n13 : Int) by omega)
          · skip
            refine T_ld 49 (.int (i32 ((m.2 1) (m4.1 205)))) rfl (fun _ => rfl) ?_
            refine T_ld 51 (.int (i32 57)) rfl (fun _ => rfl) ?_
            refine T_icmp 58 54 rfl rfl rfl (r32 (by omega) (by omega)) ⟨by decide, by decide⟩ (fun (h26 : (57 : Int) < (m.2 1) (m4.1 205)) => ?_) (fun (h26 : ¬ ((57 : Int) < (m.2 1) (m4.1 205))) => ?_)
            · skip
              refine T_ld 59 (.int (i32 0)) rfl (fun _ => rfl) ?_
              refine T_sto 60 [(3, .int (i32 0)), (2, .int (i32 ((m.2 1) (m4.1 205)))), (0, .ref 6), (1, .int (i32 v3))] rfl (fun _ => rfl) ?_
              refine T_ld 61 (.int (i32 0)) rfl (fun _ => rfl) ?_
              refine T_if 76 64 rfl rfl rfl ⟨by decide, by decide⟩ (fun h27 => absurd (show (0 : Int) ≠ 0 from h27) (by decide)) (fun _ => ?_)
              refine T_ld 65 (.int (i32 ((m.2 1) (m4.1 205)))) rfl (fun _ => rfl) ?_
              refine T_ld 67 (.int (i32 97)) rfl (fun _ => rfl) ?_
              refine T_icmp 80 70 rfl rfl rfl (r32 (by omega) (by omega)) ⟨by decide, by decide⟩ (fun (h28 : (m.2 1) (m4.1 205) < 97) => ?_) (fun (h28 : ¬ ((m.2 1) (m4.1 205) < 97)) => ?_)
              · skip
                refine T_ld 81 (.int (i32 0)) rfl (fun _ => rfl) ?_
                refine T_sto 82 [(1, .int (i32 0)), (3, .int (i32 0)), (2, .int (i32 ((m.2 1) (m4.1 205)))), (0, .ref 6)] rfl (fun _ => rfl) ?_
                refine T_ld 83 (.int (i32 0)) rfl (fun _ => rfl) ?_
                refine T_if 126 86 rfl rfl rfl ⟨by decide, by decide⟩ (fun _ => ?_) (fun h29 => absurd (show (0 : Int) = 0 by decide) h29)
                refine T_goto 17 rfl (fun _ => rfl) ?_
                refine Tm_lv (a := [(0, .ref 6), (1, .int (i32 0))]) rfl rfl ⟨rfl, rfl, trivial⟩ ?_
                exact ih14 0 (mO m4 [] []) ⟨by decide, by decide⟩ Tm4 (fr_m (fr_s Fm4 (fr_m fr_0 rfl rfl) rfl rfl) rfl rfl) (show 0 ≤ (0 : Int) by omega) (show (0 : Int) ≤ 1 by omega) (show (0 : Int) = 0 ∨ (0 : Int) = 1 by omega) (show 0 ≤ (m4.1 205) by omega) (show 2 * (4001 - (m4.1 205)) + (0 : Int) < (n13 : Int) by omega)
              · skip
                refine T_ld 71 (.int (i32 ((m.2 1) (m4.1 205)))) rfl (fun _ => rfl) ?_
                refine T_ld 73 (.int (i32 102)) rfl (fun _ => rfl) ?_
                refine T_icmp 80 76 rfl rfl rfl (r32 (by omega) (by omega)) ⟨by decide, by decide⟩ (fun (h30 : (102 : Int) < (m.2 1) (m4.1 205)) => ?_) (fun (h30 : ¬ ((102 : Int) < (m.2 1) (m4.1 205))) => ?_)
                · skip
                  refine T_ld 81 (.int (i32 0)) rfl (fun _ => rfl) ?_
                  refine T_sto 82 [(1, .int (i32 0)), (3, .int (i32 0)), (2, .int (i32 ((m.2 1) (m4.1 205)))), (0, .ref 6)] rfl (fun _ => rfl) ?_
                  refine T_ld 83 (.int (i32 0)) rfl (fun _ => rfl) ?_
                  refine T_if 126 86 rfl rfl rfl ⟨by decide, by decide⟩ (fun _ => ?_) (fun h31 => absurd (show (0 : Int) = 0 by decide) h31)
                  refine T_goto 17 rfl (fun _ => rfl) ?_
                  refine Tm_lv (a := [(0, .ref 6), (1, .int (i32 0))]) rfl rfl ⟨rfl, rfl, trivial⟩ ?_
                  exact ih14 0 (mO m4 [] []) ⟨by decide, by decide⟩ Tm4 (fr_m (fr_s Fm4 (fr_m fr_0 rfl rfl) rfl rfl) rfl rfl) (show 0 ≤ (0 : Int) by omega) (show (0 : Int) ≤ 1 by omega) (show (0 : Int) = 0 ∨ (0 : Int) = 1 by omega) (show 0 ≤ (m4.1 205) by omega) (show 2 * (4001 - (m4.1 205)) + (0 : Int) < (n13 : Int) by omega)
                · skip
                  refine T_ld 77 (.int (i32 1)) rfl (fun _ => rfl) ?_
                  refine T_goto 81 rfl (fun _ => rfl) ?_
                  refine T_sto 82 [(1, .int (i32 1)), (3, .int (i32 0)), (2, .int (i32 ((m.2 1) (m4.1 205)))), (0, .ref 6)] rfl (fun _ => rfl) ?_
                  refine T_ld 83 (.int (i32 1)) rfl (fun _ => rfl) ?_
                  refine T_if 126 86 rfl rfl rfl ⟨by decide, by decide⟩ (fun h32 => absurd (show (1 : Int) = 0 from h32) (by decide)) (fun _ => ?_)
                  refine T_ld 87 (.ref 6) rfl (fun _ => rfl) ?_
                  refine T_ld 88 (.ref 6) rfl (fun _ => rfl) ?_
                  refine K_gf 91 (.long (i64 (m4.1 208))) rfl rfl kd_6 rfl rfl rfl ?_
                  refine T_ld 92 (.int (i32 4)) rfl (fun _ => rfl) ?_
                  refine T_lhv 93 _ rfl (fun _ => rfl) (fun z33 h34 => ?_)
                  obtain ⟨h34a, h34b⟩ := h34
                  refine T_ld 94 (.int (i32 0)) rfl (fun _ => rfl) ?_
                  refine T_if 104 97 rfl rfl rfl ⟨by decide, by decide⟩ (fun _ => ?_) (fun h35 => absurd (show (0 : Int) = 0 by decide) h35)
                  refine T_ld 105 (.int (i32 ((m.2 1) (m4.1 205)))) rfl (fun _ => rfl) ?_
                  refine T_ld 107 (.int (i32 97)) rfl (fun _ => rfl) ?_
                  refine T_isub 108 rfl rfl ?_
                  refine T_ld 110 (.int (i32 10)) rfl (fun _ => rfl) ?_
                  refine T_iadd 111 rfl rfl ?_
                  refine T_i2l 112 rfl rfl (r32 (by omega) (by omega)) ?_
                  refine T_lhv 113 _ rfl (fun _ => rfl) (fun z36 h37 => ?_)
                  obtain ⟨h37a, h37b⟩ := h37
                  refine K_pf (l' := [(208, z36)]) 116 z36 rfl rfl kd_6 rfl rfl rfl rfl rfl rfl rfl ?_
                  have g38 : (-9223372036854775808) ≤ z36 ∧ z36 ≤ 9223372036854775807 := ⟨by omega, by omega⟩
                  refine T_ld 117 (.ref 6) rfl (fun _ => rfl) ?_
                  refine T_ld 118 (.ref 6) rfl (fun _ => rfl) ?_
                  refine K_gf 121 (.int (i32 (m4.1 205))) rfl rfl kd_6 rfl rfl rfl ?_
                  refine T_ld 122 (.int (i32 1)) rfl (fun _ => rfl) ?_
                  refine T_iadd 123 rfl rfl ?_
                  refine K_pf (l' := [(205, (m4.1 205) + 1), (208, z36)]) 126 ((m4.1 205) + 1) rfl rfl kd_6 rfl rfl rfl rfl rfl rfl rfl ?_
                  have g39 : 0 ≤ (m4.1 205) + 1 ∧ (m4.1 205) + 1 ≤ 4001 := ⟨by omega, by omega⟩
                  refine T_goto 17 rfl (fun _ => rfl) ?_
                  refine Tm_lv (a := [(0, .ref 6), (1, .int (i32 1))]) rfl rfl ⟨rfl, rfl, trivial⟩ ?_
                  exact ih14 1 (mO m4 [(205, (m4.1 205) + 1), (208, z36)] []) ⟨by decide, by decide⟩ (KTy_mO Tm4 rfl rfl ⟨g39, g38, trivial⟩ trivial) (fr_m (fr_s Fm4 (fr_m fr_0 rfl rfl) rfl rfl) rfl rfl) (show 0 ≤ (1 : Int) by omega) (show (1 : Int) ≤ 1 by omega) (show (1 : Int) = 0 ∨ (1 : Int) = 1 by omega) (show 0 ≤ ((m4.1 205) + 1) by omega) (show 2 * (4001 - ((m4.1 205) + 1)) + (1 : Int) < (n13 : Int) by omega)
            · skip
              refine T_ld 55 (.int (i32 1)) rfl (fun _ => rfl) ?_
              refine T_goto 59 rfl (fun _ => rfl) ?_
              refine T_sto 60 [(3, .int (i32 1)), (2, .int (i32 ((m.2 1) (m4.1 205)))), (0, .ref 6), (1, .int (i32 v3))] rfl (fun _ => rfl) ?_
              refine T_ld 61 (.int (i32 1)) rfl (fun _ => rfl) ?_
              refine T_if 76 64 rfl rfl rfl ⟨by decide, by decide⟩ (fun _ => ?_) (fun h40 => absurd (show (1 : Int) ≠ 0 by decide) h40)
              refine T_ld 77 (.int (i32 1)) rfl (fun _ => rfl) ?_
              refine T_goto 81 rfl (fun _ => rfl) ?_
              refine T_sto 82 [(1, .int (i32 1)), (3, .int (i32 1)), (2, .int (i32 ((m.2 1) (m4.1 205)))), (0, .ref 6)] rfl (fun _ => rfl) ?_
              refine T_ld 83 (.int (i32 1)) rfl (fun _ => rfl) ?_
              refine T_if 126 86 rfl rfl rfl ⟨by decide, by decide⟩ (fun h41 => absurd (show (1 : Int) = 0 from h41) (by decide)) (fun _ => ?_)
              refine T_ld 87 (.ref 6) rfl (fun _ => rfl) ?_
              refine T_ld 88 (.ref 6) rfl (fun _ => rfl) ?_
              refine K_gf 91 (.long (i64 (m4.1 208))) rfl rfl kd_6 rfl rfl rfl ?_
              refine T_ld 92 (.int (i32 4)) rfl (fun _ => rfl) ?_
              refine T_lhv 93 _ rfl (fun _ => rfl) (fun z42 h43 => ?_)
              obtain ⟨h43a, h43b⟩ := h43
              refine T_ld 94 (.int (i32 1)) rfl (fun _ => rfl) ?_
              refine T_if 104 97 rfl rfl rfl ⟨by decide, by decide⟩ (fun h44 => absurd (show (1 : Int) = 0 from h44) (by decide)) (fun _ => ?_)
              refine T_ld 98 (.int (i32 ((m.2 1) (m4.1 205)))) rfl (fun _ => rfl) ?_
              refine T_ld 100 (.int (i32 48)) rfl (fun _ => rfl) ?_
              refine T_isub 101 rfl rfl ?_
              refine T_goto 111 rfl (fun _ => rfl) ?_
              refine T_i2l 112 rfl rfl (r32 (by omega) (by omega)) ?_
              refine T_lhv 113 _ rfl (fun _ => rfl) (fun z45 h46 => ?_)
              obtain ⟨h46a, h46b⟩ := h46
              refine K_pf (l' := [(208, z45)]) 116 z45 rfl rfl kd_6 rfl rfl rfl rfl rfl rfl rfl ?_
              have g47 : (-9223372036854775808) ≤ z45 ∧ z45 ≤ 9223372036854775807 := ⟨by omega, by omega⟩
              refine T_ld 117 (.ref 6) rfl (fun _ => rfl) ?_
              refine T_ld 118 (.ref 6) rfl (fun _ => rfl) ?_
              refine K_gf 121 (.int (i32 (m4.1 205))) rfl rfl kd_6 rfl rfl rfl ?_
              refine T_ld 122 (.int (i32 1)) rfl (fun _ => rfl) ?_
              refine T_iadd 123 rfl rfl ?_
              refine K_pf (l' := [(205, (m4.1 205) + 1), (208, z45)]) 126 ((m4.1 205) + 1) rfl rfl kd_6 rfl rfl rfl rfl rfl rfl rfl ?_
              have g48 : 0 ≤ (m4.1 205) + 1 ∧ (m4.1 205) + 1 ≤ 4001 := ⟨by omega, by omega⟩
              refine T_goto 17 rfl (fun _ => rfl) ?_
              refine Tm_lv (a := [(0, .ref 6), (1, .int (i32 1))]) rfl rfl ⟨rfl, rfl, trivial⟩ ?_
              exact ih14 1 (mO m4 [(205, (m4.1 205) + 1), (208, z45)] []) ⟨by decide, by decide⟩ (KTy_mO Tm4 rfl rfl ⟨g48, g47, trivial⟩ trivial) (fr_m (fr_s Fm4 (fr_m fr_0 rfl rfl) rfl rfl) rfl rfl) (show 0 ≤ (1 : Int) by omega) (show (1 : Int) ≤ 1 by omega) (show (1 : Int) = 0 ∨ (1 : Int) = 1 by omega) (show 0 ≤ ((m4.1 205) + 1) by omega) (show 2 * (4001 - ((m4.1 205) + 1)) + (1 : Int) < (n13 : Int) by omega)
  refine Tm_lv (a := [(0, .ref 6), (1, .int (i32 1))]) rfl rfl ⟨rfl, rfl, trivial⟩ ?_
  exact L17_5 ((2 * (4001 - ((m.1 205) + 2)) + (1 : Int) : Int) + 1).toNat 1 (mO m2 [] []) ⟨by decide, by decide⟩ Tm2 (fr_m fr_0 rfl rfl) (show 0 ≤ (1 : Int) by omega) (show (1 : Int) ≤ 1 by omega) (show (1 : Int) = 0 ∨ (1 : Int) = 1 by omega) (show 0 ≤ (m2.1 205) by rewrite [(show (m2.1 205) = ((m.1 205) + 2) from (fr1 Fm2 205 rfl))]; omega) (show 2 * (4001 - (m2.1 205)) + (1 : Int) < ((((2 * (4001 - ((m.1 205) + 2)) + (1 : Int) : Int) + 1).toNat : Nat) : Int) by rewrite [(show (m2.1 205) = ((m.1 205) + 2) from (fr1 Fm2 205 rfl))]; omega)
def fF_tx_scanSign : List Nat := [205]
def fA_tx_scanSign : List Nat := []
def Q_tx_scanSign (m : mR) (c : Nat → Option am_C) (N : Nat) (f : Int) : ag_Re af_T → Prop := fun R => (∃ (M : mR) (r : Int), KTy M ∧ fr fF_tx_scanSign fA_tx_scanSign m M ∧ ((-1) ≤ r ∧ r ≤ 65535) ∧ R = (.inl (some (.int (i32 r))), (khp M c, N), 0, 0))
set_option maxHeartbeats 3000000 in
theorem c_tx_scanSign (w : wX) (m : mR) (c : Nat → Option am_C) (N D : Nat) (hD : 5 ≤ D) (hT : KTy m) (f : Int) (qf : R32 f) (p0 : 0 ≤ f ∧ f ≤ 255) (p1 : (m.1 205) < (m.1 204)) : TC w D 56 [.ref 6, .int (i32 f)] (khp m c, N) (Q_tx_scanSign m c N f) := by
  obtain ⟨D, rfl⟩ : ∃ k, D = k + 1 := ⟨D - 1, by omega⟩
  obtain ⟨qfa, qfb⟩ := id qf
  have f205 : 0 ≤ m.1 205 ∧ m.1 205 ≤ 4001 := hT.1 205
  have f204 : 0 ≤ m.1 204 ∧ m.1 204 ≤ 4000 := hT.1 204
  refine Tc_of rfl ?_
  rw [show (khp m c, N) = (khp (mO m [] []) c, N) from by rw [mO_nil m]]
  show TT w D pm_56 (0, [(0, .ref 6), (1, .int (i32 f))], [], (khp (mO m [] []) c, N), 0, 0) (Q_tx_scanSign m c N f)
  refine T_ld 2 (.ref 1000015) rfl (fun _ => rfl) ?_
  refine T_ld 3 (.int (i32 f)) rfl (fun _ => rfl) ?_
  refine T_i2c 4 rfl rfl (fun z1 h2 => ?_)
  refine T_callx 7 57 [.ref 1000015, .int (i32 z1)] [] rfl (fun _ => rfl) rfl rfl (c_indexOf_7 w (mO m [] []) c N D (by omega) hT z1 (r32 (by omega) (by omega))) (fun rr3 k4 => ?_)
  obtain ⟨x5, g6, rfl⟩ := k4
  refine Or.inl ⟨_, _, _, _, rfl, ?_⟩
  refine T_ns (st' := [.int (i32 x5)]) rfl ?_
  obtain ⟨g6a, g6b⟩ := g6
  clear h2
  refine T_if 12 10 rfl rfl rfl (r32 (by omega) (by omega)) (fun (h7 : (0 : Int) ≤ x5) => ?_) (fun (h7 : ¬ ((0 : Int) ≤ x5)) => ?_)
  · skip
    refine T_ld 13 (.ref 6) rfl (fun _ => rfl) ?_
    refine K_gf 16 (.int (i32 (m.1 205))) rfl rfl kd_6 rfl rfl rfl ?_
    refine T_ld 17 (.int (i32 1)) rfl (fun _ => rfl) ?_
    refine T_iadd 18 rfl rfl ?_
    refine T_ld 19 (.ref 6) rfl (fun _ => rfl) ?_
    refine K_gf 22 (.int (i32 (m.1 204))) rfl rfl kd_6 rfl rfl rfl ?_
    refine T_icmp 43 25 rfl rfl rfl (r32 (by omega) (by omega)) (r32 (by omega) (by omega)) (fun (h8 : (m.1 204) ≤ (m.1 205) + 1) => ?_) (fun (h8 : ¬ ((m.1 204) ≤ (m.1 205) + 1)) => ?_)
    · skip
      refine T_ld 44 (.int (i32 0)) rfl (fun _ => rfl) ?_
      refine T_sto 45 [(2, .int (i32 0)), (0, .ref 6), (1, .int (i32 f))] rfl (fun _ => rfl) ?_
      refine T_ld 46 (.int (i32 0)) rfl (fun _ => rfl) ?_
      refine T_ld 47 (.int (i32 f)) rfl (fun _ => rfl) ?_
      refine T_icmp 64 50 rfl rfl rfl ⟨by decide, by decide⟩ (r32 (by omega) (by omega)) (fun (h9 : (0 : Int) ≠ f) => ?_) (fun (h9 : ¬ ((0 : Int) ≠ f)) => ?_)
      · skip
        refine T_ld 65 (.int (i32 0)) rfl (fun _ => rfl) ?_
        refine T_sto 66 [(3, .int (i32 0)), (2, .int (i32 0)), (0, .ref 6), (1, .int (i32 f))] rfl (fun _ => rfl) ?_
        refine T_ld 67 (.int (i32 0)) rfl (fun _ => rfl) ?_
        refine T_if 86 70 rfl rfl rfl ⟨by decide, by decide⟩ (fun h10 => absurd (show (0 : Int) ≠ 0 from h10) (by decide)) (fun _ => ?_)
        refine T_ld 71 (.int (i32 0)) rfl (fun _ => rfl) ?_
        refine T_ld 73 (.int (i32 61)) rfl (fun _ => rfl) ?_
        refine T_icmp 90 76 rfl rfl rfl ⟨by decide, by decide⟩ ⟨by decide, by decide⟩ (fun _ => ?_) (fun h11 => absurd (show (0 : Int) ≠ 61 by decide) h11)
        refine T_ld 91 (.int (i32 0)) rfl (fun _ => rfl) ?_
        refine T_sto 93 [(4, .int (i32 0)), (3, .int (i32 0)), (2, .int (i32 0)), (0, .ref 6), (1, .int (i32 f))] rfl (fun _ => rfl) ?_
        refine T_ld 94 (.ref 6) rfl (fun _ => rfl) ?_
        refine T_ld 95 (.ref 6) rfl (fun _ => rfl) ?_
        refine K_gf 98 (.int (i32 (m.1 205))) rfl rfl kd_6 rfl rfl rfl ?_
        refine T_ld 100 (.int (i32 0)) rfl (fun _ => rfl) ?_
        refine T_if 107 103 rfl rfl rfl ⟨by decide, by decide⟩ (fun _ => ?_) (fun h12 => absurd (show (0 : Int) = 0 by decide) h12)
        refine T_ld 108 (.int (i32 1)) rfl (fun _ => rfl) ?_
        refine T_iadd 109 rfl rfl ?_
        refine K_pf (l' := [(205, (m.1 205) + 1)]) 112 ((m.1 205) + 1) rfl rfl kd_6 rfl rfl rfl rfl rfl rfl rfl ?_
        have g13 : 0 ≤ (m.1 205) + 1 ∧ (m.1 205) + 1 ≤ 4001 := ⟨by omega, by omega⟩
        refine T_ld 114 (.int (i32 0)) rfl (fun _ => rfl) ?_
        refine T_if 127 117 rfl rfl rfl ⟨by decide, by decide⟩ (fun _ => ?_) (fun h14 => absurd (show (0 : Int) = 0 by decide) h14)
        refine T_ld 128 (.int (i32 f)) rfl (fun _ => rfl) ?_
        refine T_ret rfl (fun _ => rfl) ?_
        exact ⟨(mO m [(205, (m.1 205) + 1)] []), f, (KTy_mO hT rfl rfl ⟨g13, trivial⟩ trivial), (fr_m fr_0 rfl rfl), ⟨by omega, by omega⟩, rfl⟩
      · skip
        refine T_ld 52 (.ref 1000017) rfl (fun _ => rfl) ?_
        refine T_ld 53 (.int (i32 f)) rfl (fun _ => rfl) ?_
        refine T_i2c 54 rfl rfl (fun z15 h16 => ?_)
        refine T_callx 57 57 [.ref 1000017, .int (i32 z15)] [] rfl (fun _ => rfl) rfl rfl (c_indexOf_8 w (mO m [] []) c N D (by omega) hT z15 (r32 (by omega) (by omega))) (fun rr17 k18 => ?_)
        obtain ⟨x19, g20, rfl⟩ := k18
        refine Or.inl ⟨_, _, _, _, rfl, ?_⟩
        refine T_ns (st' := [.int (i32 x19)]) rfl ?_
        obtain ⟨g20a, g20b⟩ := g20
        clear g6a g6b h7 h16
        refine T_if 64 60 rfl rfl rfl (r32 (by omega) (by omega)) (fun (h21 : x19 < 0) => ?_) (fun (h21 : ¬ (x19 < 0)) => ?_)
        · skip
          refine T_ld 65 (.int (i32 0)) rfl (fun _ => rfl) ?_
          refine T_sto 66 [(3, .int (i32 0)), (2, .int (i32 0)), (0, .ref 6), (1, .int (i32 f))] rfl (fun _ => rfl) ?_
          refine T_ld 67 (.int (i32 0)) rfl (fun _ => rfl) ?_
          refine T_if 86 70 rfl rfl rfl ⟨by decide, by decide⟩ (fun h22 => absurd (show (0 : Int) ≠ 0 from h22) (by decide)) (fun _ => ?_)
          refine T_ld 71 (.int (i32 0)) rfl (fun _ => rfl) ?_
          refine T_ld 73 (.int (i32 61)) rfl (fun _ => rfl) ?_
          refine T_icmp 90 76 rfl rfl rfl ⟨by decide, by decide⟩ ⟨by decide, by decide⟩ (fun _ => ?_) (fun h23 => absurd (show (0 : Int) ≠ 61 by decide) h23)
          refine T_ld 91 (.int (i32 0)) rfl (fun _ => rfl) ?_
          refine T_sto 93 [(4, .int (i32 0)), (3, .int (i32 0)), (2, .int (i32 0)), (0, .ref 6), (1, .int (i32 f))] rfl (fun _ => rfl) ?_
          refine T_ld 94 (.ref 6) rfl (fun _ => rfl) ?_
          refine T_ld 95 (.ref 6) rfl (fun _ => rfl) ?_
          refine K_gf 98 (.int (i32 (m.1 205))) rfl rfl kd_6 rfl rfl rfl ?_
          refine T_ld 100 (.int (i32 0)) rfl (fun _ => rfl) ?_
          refine T_if 107 103 rfl rfl rfl ⟨by decide, by decide⟩ (fun _ => ?_) (fun h24 => absurd (show (0 : Int) = 0 by decide) h24)
          refine T_ld 108 (.int (i32 1)) rfl (fun _ => rfl) ?_
          refine T_iadd 109 rfl rfl ?_
          refine K_pf (l' := [(205, (m.1 205) + 1)]) 112 ((m.1 205) + 1) rfl rfl kd_6 rfl rfl rfl rfl rfl rfl rfl ?_
          have g25 : 0 ≤ (m.1 205) + 1 ∧ (m.1 205) + 1 ≤ 4001 := ⟨by omega, by omega⟩
          refine T_ld 114 (.int (i32 0)) rfl (fun _ => rfl) ?_
          refine T_if 127 117 rfl rfl rfl ⟨by decide, by decide⟩ (fun _ => ?_) (fun h26 => absurd (show (0 : Int) = 0 by decide) h26)
          refine T_ld 128 (.int (i32 f)) rfl (fun _ => rfl) ?_
          refine T_ret rfl (fun _ => rfl) ?_
          exact ⟨(mO m [(205, (m.1 205) + 1)] []), f, (KTy_mO hT rfl rfl ⟨g25, trivial⟩ trivial), (fr_m fr_0 rfl rfl), ⟨by omega, by omega⟩, rfl⟩
        · skip
          refine T_ld 61 (.int (i32 1)) rfl (fun _ => rfl) ?_
          refine T_goto 65 rfl (fun _ => rfl) ?_
          refine T_sto 66 [(3, .int (i32 1)), (2, .int (i32 0)), (0, .ref 6), (1, .int (i32 f))] rfl (fun _ => rfl) ?_
          refine T_ld 67 (.int (i32 1)) rfl (fun _ => rfl) ?_
          refine T_if 86 70 rfl rfl rfl ⟨by decide, by decide⟩ (fun _ => ?_) (fun h27 => absurd (show (1 : Int) ≠ 0 by decide) h27)
          refine T_ld 87 (.int (i32 1)) rfl (fun _ => rfl) ?_
          refine T_goto 91 rfl (fun _ => rfl) ?_
          refine T_sto 93 [(4, .int (i32 1)), (3, .int (i32 1)), (2, .int (i32 0)), (0, .ref 6), (1, .int (i32 f))] rfl (fun _ => rfl) ?_
          refine T_ld 94 (.ref 6) rfl (fun _ => rfl) ?_
          refine T_ld 95 (.ref 6) rfl (fun _ => rfl) ?_
          refine K_gf 98 (.int (i32 (m.1 205))) rfl rfl kd_6 rfl rfl rfl ?_
          refine T_ld 100 (.int (i32 1)) rfl (fun _ => rfl) ?_
          refine T_if 107 103 rfl rfl rfl ⟨by decide, by decide⟩ (fun h28 => absurd (show (1 : Int) = 0 from h28) (by decide)) (fun _ => ?_)
          refine T_ld 104 (.int (i32 2)) rfl (fun _ => rfl) ?_
          refine T_goto 108 rfl (fun _ => rfl) ?_
          refine T_iadd 109 rfl rfl ?_
          refine K_pf (l' := [(205, (m.1 205) + 2)]) 112 ((m.1 205) + 2) rfl rfl kd_6 rfl rfl rfl rfl rfl rfl rfl ?_
          have g29 : 0 ≤ (m.1 205) + 2 ∧ (m.1 205) + 2 ≤ 4001 := ⟨by omega, by omega⟩
          refine T_ld 114 (.int (i32 1)) rfl (fun _ => rfl) ?_
          refine T_if 127 117 rfl rfl rfl ⟨by decide, by decide⟩ (fun h30 => absurd (show (1 : Int) = 0 from h30) (by decide)) (fun _ => ?_)
          refine T_ld 118 (.int (i32 f)) rfl (fun _ => rfl) ?_
          refine T_ld 121 (.int (i32 256)) rfl (fun _ => rfl) ?_
          refine T_imul 122 rfl rfl ?_
          refine T_ld 123 (.int (i32 0)) rfl (fun _ => rfl) ?_
          refine T_iadd 124 rfl rfl ?_
          refine T_goto 128 rfl (fun _ => rfl) ?_
          refine T_ret rfl (fun _ => rfl) ?_
          exact ⟨(mO m [(205, (m.1 205) + 2)] []), (f * 256) + 0, (KTy_mO hT rfl rfl ⟨g29, trivial⟩ trivial), (fr_m fr_0 rfl rfl), ⟨by omega, by omega⟩, rfl⟩
    · skip
      refine T_ld 26 (.ref 6) rfl (fun _ => rfl) ?_
      refine K_gf 29 (.ref 2) rfl rfl kd_6 rfl rfl rfl ?_
      refine T_ld 30 (.ref 6) rfl (fun _ => rfl) ?_
      refine K_gf 33 (.int (i32 (m.1 205))) rfl rfl kd_6 rfl rfl rfl ?_
      refine T_ld 34 (.int (i32 1)) rfl (fun _ => rfl) ?_
      refine T_iadd 35 rfl rfl ?_
      refine K_bald 36 1 (m.2 1) rfl rfl rfl (by omega) (show ((m.1 205) + 1) < (4000 : Int) by omega) rfl ?_
      have e31 : (-128) ≤ m.2 1 ((m.1 205) + 1) ∧ m.2 1 ((m.1 205) + 1) ≤ 127 := hT.2.1 1 ((m.1 205) + 1)
      refine T_ld 39 (.int (i32 255)) rfl (fun _ => rfl) ?_
      refine T_iand 40 rfl rfl (by decide) (by decide) (fun z32 h33 => ?_)
      refine T_goto 44 rfl (fun _ => rfl) ?_
      refine T_sto 45 [(2, .int (i32 z32)), (0, .ref 6), (1, .int (i32 f))] rfl (fun _ => rfl) ?_
      refine T_ld 46 (.int (i32 z32)) rfl (fun _ => rfl) ?_
      refine T_ld 47 (.int (i32 f)) rfl (fun _ => rfl) ?_
      refine T_icmp 64 50 rfl rfl rfl (r32 (by omega) (by omega)) (r32 (by omega) (by omega)) (fun (h34 : z32 ≠ f) => ?_) (fun (h34 : ¬ (z32 ≠ f)) => ?_)
      · skip
        refine T_ld 65 (.int (i32 0)) rfl (fun _ => rfl) ?_
        refine T_sto 66 [(3, .int (i32 0)), (2, .int (i32 z32)), (0, .ref 6), (1, .int (i32 f))] rfl (fun _ => rfl) ?_
        refine T_ld 67 (.int (i32 0)) rfl (fun _ => rfl) ?_
        refine T_if 86 70 rfl rfl rfl ⟨by decide, by decide⟩ (fun h35 => absurd (show (0 : Int) ≠ 0 from h35) (by decide)) (fun _ => ?_)
        refine T_ld 71 (.int (i32 z32)) rfl (fun _ => rfl) ?_
        refine T_ld 73 (.int (i32 61)) rfl (fun _ => rfl) ?_
        refine T_icmp 90 76 rfl rfl rfl (r32 (by omega) (by omega)) ⟨by decide, by decide⟩ (fun (h36 : z32 ≠ 61) => ?_) (fun (h36 : ¬ (z32 ≠ 61)) => ?_)
        · skip
          refine T_ld 91 (.int (i32 0)) rfl (fun _ => rfl) ?_
          refine T_sto 93 [(4, .int (i32 0)), (3, .int (i32 0)), (2, .int (i32 z32)), (0, .ref 6), (1, .int (i32 f))] rfl (fun _ => rfl) ?_
          refine T_ld 94 (.ref 6) rfl (fun _ => rfl) ?_
          refine T_ld 95 (.ref 6) rfl (fun _ => rfl) ?_
          refine K_gf 98 (.int (i32 (m.1 205))) rfl rfl kd_6 rfl rfl rfl ?_
          refine T_ld 100 (.int (i32 0)) rfl (fun _ => rfl) ?_
          refine T_if 107 103 rfl rfl rfl ⟨by decide, by decide⟩ (fun _ => ?_) (fun h37 => absurd (show (0 : Int) = 0 by decide) h37)
          refine T_ld 108 (.int (i32 1)) rfl (fun _ => rfl) ?_
          refine T_iadd 109 rfl rfl ?_
          refine K_pf (l' := [(205, (m.1 205) + 1)]) 112 ((m.1 205) + 1) rfl rfl kd_6 rfl rfl rfl rfl rfl rfl rfl ?_
          have g38 : 0 ≤ (m.1 205) + 1 ∧ (m.1 205) + 1 ≤ 4001 := ⟨by omega, by omega⟩
          refine T_ld 114 (.int (i32 0)) rfl (fun _ => rfl) ?_
          refine T_if 127 117 rfl rfl rfl ⟨by decide, by decide⟩ (fun _ => ?_) (fun h39 => absurd (show (0 : Int) = 0 by decide) h39)
          refine T_ld 128 (.int (i32 f)) rfl (fun _ => rfl) ?_
          refine T_ret rfl (fun _ => rfl) ?_
          exact ⟨(mO m [(205, (m.1 205) + 1)] []), f, (KTy_mO hT rfl rfl ⟨g38, trivial⟩ trivial), (fr_m fr_0 rfl rfl), ⟨by omega, by omega⟩, rfl⟩
        · skip
          refine T_ld 78 (.ref 1000019) rfl (fun _ => rfl) ?_
          refine T_ld 79 (.int (i32 f)) rfl (fun _ => rfl) ?_
          refine T_i2c 80 rfl rfl (fun z40 h41 => ?_)
          refine T_callx 83 57 [.ref 1000019, .int (i32 z40)] [] rfl (fun _ => rfl) rfl rfl (c_indexOf_9 w (mO m [] []) c N D (by omega) hT z40 (r32 (by omega) (by omega))) (fun rr42 k43 => ?_)
          obtain ⟨x44, g45, rfl⟩ := k43
          refine Or.inl ⟨_, _, _, _, rfl, ?_⟩
          refine T_ns (st' := [.int (i32 x44)]) rfl ?_
          obtain ⟨g45a, g45b⟩ := g45
          clear g6a g6b h7 h41
          refine T_if 90 86 rfl rfl rfl (r32 (by omega) (by omega)) (fun (h46 : x44 < 0) => ?_) (fun (h46 : ¬ (x44 < 0)) => ?_)
          · skip
            refine T_ld 91 (.int (i32 0)) rfl (fun _ => rfl) ?_
            refine T_sto 93 [(4, .int (i32 0)), (3, .int (i32 0)), (2, .int (i32 z32)), (0, .ref 6), (1, .int (i32 f))] rfl (fun _ => rfl) ?_
            refine T_ld 94 (.ref 6) rfl (fun _ => rfl) ?_
            refine T_ld 95 (.ref 6) rfl (fun _ => rfl) ?_
            refine K_gf 98 (.int (i32 (m.1 205))) rfl rfl kd_6 rfl rfl rfl ?_
            refine T_ld 100 (.int (i32 0)) rfl (fun _ => rfl) ?_
            refine T_if 107 103 rfl rfl rfl ⟨by decide, by decide⟩ (fun _ => ?_) (fun h47 => absurd (show (0 : Int) = 0 by decide) h47)
            refine T_ld 108 (.int (i32 1)) rfl (fun _ => rfl) ?_
            refine T_iadd 109 rfl rfl ?_
            refine K_pf (l' := [(205, (m.1 205) + 1)]) 112 ((m.1 205) + 1) rfl rfl kd_6 rfl rfl rfl rfl rfl rfl rfl ?_
            have g48 : 0 ≤ (m.1 205) + 1 ∧ (m.1 205) + 1 ≤ 4001 := ⟨by omega, by omega⟩
            refine T_ld 114 (.int (i32 0)) rfl (fun _ => rfl) ?_
            refine T_if 127 117 rfl rfl rfl ⟨by decide, by decide⟩ (fun _ => ?_) (fun h49 => absurd (show (0 : Int) = 0 by decide) h49)
            refine T_ld 128 (.int (i32 f)) rfl (fun _ => rfl) ?_
            refine T_ret rfl (fun _ => rfl) ?_
            exact ⟨(mO m [(205, (m.1 205) + 1)] []), f, (KTy_mO hT rfl rfl ⟨g48, trivial⟩ trivial), (fr_m fr_0 rfl rfl), ⟨by omega, by omega⟩, rfl⟩
          · skip
            refine T_ld 87 (.int (i32 1)) rfl (fun _ => rfl) ?_
            refine T_goto 91 rfl (fun _ => rfl) ?_
            refine T_sto 93 [(4, .int (i32 1)), (3, .int (i32 0)), (2, .int (i32 z32)), (0, .ref 6), (1, .int (i32 f))] rfl (fun _ => rfl) ?_
            refine T_ld 94 (.ref 6) rfl (fun _ => rfl) ?_
            refine T_ld 95 (.ref 6) rfl (fun _ => rfl) ?_
            refine K_gf 98 (.int (i32 (m.1 205))) rfl rfl kd_6 rfl rfl rfl ?_
            refine T_ld 100 (.int (i32 1)) rfl (fun _ => rfl) ?_
            refine T_if 107 103 rfl rfl rfl ⟨by decide, by decide⟩ (fun h50 => absurd (show (1 : Int) = 0 from h50) (by decide)) (fun _ => ?_)
            refine T_ld 104 (.int (i32 2)) rfl (fun _ => rfl) ?_
            refine T_goto 108 rfl (fun _ => rfl) ?_
            refine T_iadd 109 rfl rfl ?_
            refine K_pf (l' := [(205, (m.1 205) + 2)]) 112 ((m.1 205) + 2) rfl rfl kd_6 rfl rfl rfl rfl rfl rfl rfl ?_
            have g51 : 0 ≤ (m.1 205) + 2 ∧ (m.1 205) + 2 ≤ 4001 := ⟨by omega, by omega⟩
            refine T_ld 114 (.int (i32 1)) rfl (fun _ => rfl) ?_
            refine T_if 127 117 rfl rfl rfl ⟨by decide, by decide⟩ (fun h52 => absurd (show (1 : Int) = 0 from h52) (by decide)) (fun _ => ?_)
            refine T_ld 118 (.int (i32 f)) rfl (fun _ => rfl) ?_
            refine T_ld 121 (.int (i32 256)) rfl (fun _ => rfl) ?_
            refine T_imul 122 rfl rfl ?_
            refine T_ld 123 (.int (i32 z32)) rfl (fun _ => rfl) ?_
            refine T_iadd 124 rfl rfl ?_
            refine T_goto 128 rfl (fun _ => rfl) ?_
            refine T_ret rfl (fun _ => rfl) ?_
            exact ⟨(mO m [(205, (m.1 205) + 2)] []), (f * 256) + z32, (KTy_mO hT rfl rfl ⟨g51, trivial⟩ trivial), (fr_m fr_0 rfl rfl), ⟨by omega, by omega⟩, rfl⟩
      · skip
        refine T_ld 52 (.ref 1000017) rfl (fun _ => rfl) ?_
        refine T_ld 53 (.int (i32 f)) rfl (fun _ => rfl) ?_
        refine T_i2c 54 rfl rfl (fun z53 h54 => ?_)
        refine T_callx 57 57 [.ref 1000017, .int (i32 z53)] [] rfl (fun _ => rfl) rfl rfl (c_indexOf_8 w (mO m [] []) c N D (by omega) hT z53 (r32 (by omega) (by omega))) (fun rr55 k56 => ?_)
        obtain ⟨x57, g58, rfl⟩ := k56
        refine Or.inl ⟨_, _, _, _, rfl, ?_⟩
        refine T_ns (st' := [.int (i32 x57)]) rfl ?_
        obtain ⟨g58a, g58b⟩ := g58
        clear g6a g6b h7 h54
        refine T_if 64 60 rfl rfl rfl (r32 (by omega) (by omega)) (fun (h59 : x57 < 0) => ?_) (fun (h59 : ¬ (x57 < 0)) => ?_)
        · skip
          refine T_ld 65 (.int (i32 0)) rfl (fun _ => rfl) ?_
          refine T_sto 66 [(3, .int (i32 0)), (2, .int (i32 z32)), (0, .ref 6), (1, .int (i32 f))] rfl (fun _ => rfl) ?_
          refine T_ld 67 (.int (i32 0)) rfl (fun _ => rfl) ?_
          refine T_if 86 70 rfl rfl rfl ⟨by decide, by decide⟩ (fun h60 => absurd (show (0 : Int) ≠ 0 from h60) (by decide)) (fun _ => ?_)
          refine T_ld 71 (.int (i32 z32)) rfl (fun _ => rfl) ?_
          refine T_ld 73 (.int (i32 61)) rfl (fun _ => rfl) ?_
          refine T_icmp 90 76 rfl rfl rfl (r32 (by omega) (by omega)) ⟨by decide, by decide⟩ (fun (h61 : z32 ≠ 61) => ?_) (fun (h61 : ¬ (z32 ≠ 61)) => ?_)
          · skip
            refine T_ld 91 (.int (i32 0)) rfl (fun _ => rfl) ?_
            refine T_sto 93 [(4, .int (i32 0)), (3, .int (i32 0)), (2, .int (i32 z32)), (0, .ref 6), (1, .int (i32 f))] rfl (fun _ => rfl) ?_
            refine T_ld 94 (.ref 6) rfl (fun _ => rfl) ?_
            refine T_ld 95 (.ref 6) rfl (fun _ => rfl) ?_
            refine K_gf 98 (.int (i32 (m.1 205))) rfl rfl kd_6 rfl rfl rfl ?_
            refine T_ld 100 (.int (i32 0)) rfl (fun _ => rfl) ?_
            refine T_if 107 103 rfl rfl rfl ⟨by decide, by decide⟩ (fun _ => ?_) (fun h62 => absurd (show (0 : Int) = 0 by decide) h62)
            refine T_ld 108 (.int (i32 1)) rfl (fun _ => rfl) ?_
            refine T_iadd 109 rfl rfl ?_
            refine K_pf (l' := [(205, (m.1 205) + 1)]) 112 ((m.1 205) + 1) rfl rfl kd_6 rfl rfl rfl rfl rfl rfl rfl ?_
            have g63 : 0 ≤ (m.1 205) + 1 ∧ (m.1 205) + 1 ≤ 4001 := ⟨by omega, by omega⟩
            refine T_ld 114 (.int (i32 0)) rfl (fun _ => rfl) ?_
            refine T_if 127 117 rfl rfl rfl ⟨by decide, by decide⟩ (fun _ => ?_) (fun h64 => absurd (show (0 : Int) = 0 by decide) h64)
            refine T_ld 128 (.int (i32 f)) rfl (fun _ => rfl) ?_
            refine T_ret rfl (fun _ => rfl) ?_
            exact ⟨(mO m [(205, (m.1 205) + 1)] []), f, (KTy_mO hT rfl rfl ⟨g63, trivial⟩ trivial), (fr_m fr_0 rfl rfl), ⟨by omega, by omega⟩, rfl⟩
          · skip
            refine T_ld 78 (.ref 1000019) rfl (fun _ => rfl) ?_
            refine T_ld 79 (.int (i32 f)) rfl (fun _ => rfl) ?_
            refine T_i2c 80 rfl rfl (fun z65 h66 => ?_)
            refine T_callx 83 57 [.ref 1000019, .int (i32 z65)] [] rfl (fun _ => rfl) rfl rfl (c_indexOf_9 w (mO m [] []) c N D (by omega) hT z65 (r32 (by omega) (by omega))) (fun rr67 k68 => ?_)
            obtain ⟨x69, g70, rfl⟩ := k68
            refine Or.inl ⟨_, _, _, _, rfl, ?_⟩
            refine T_ns (st' := [.int (i32 x69)]) rfl ?_
            obtain ⟨g70a, g70b⟩ := g70
            clear g58a g58b h59 h66
            refine T_if 90 86 rfl rfl rfl (r32 (by omega) (by omega)) (fun (h71 : x69 < 0) => ?_) (fun (h71 : ¬ (x69 < 0)) => ?_)
            · skip
              refine T_ld 91 (.int (i32 0)) rfl (fun _ => rfl) ?_
              refine T_sto 93 [(4, .int (i32 0)), (3, .int (i32 0)), (2, .int (i32 z32)), (0, .ref 6), (1, .int (i32 f))] rfl (fun _ => rfl) ?_
              refine T_ld 94 (.ref 6) rfl (fun _ => rfl) ?_
              refine T_ld 95 (.ref 6) rfl (fun _ => rfl) ?_
              refine K_gf 98 (.int (i32 (m.1 205))) rfl rfl kd_6 rfl rfl rfl ?_
              refine T_ld 100 (.int (i32 0)) rfl (fun _ => rfl) ?_
              refine T_if 107 103 rfl rfl rfl ⟨by decide, by decide⟩ (fun _ => ?_) (fun h72 => absurd (show (0 : Int) = 0 by decide) h72)
              refine T_ld 108 (.int (i32 1)) rfl (fun _ => rfl) ?_
              refine T_iadd 109 rfl rfl ?_
              refine K_pf (l' := [(205, (m.1 205) + 1)]) 112 ((m.1 205) + 1) rfl rfl kd_6 rfl rfl rfl rfl rfl rfl rfl ?_
              have g73 : 0 ≤ (m.1 205) + 1 ∧ (m.1 205) + 1 ≤ 4001 := ⟨by omega, by omega⟩
              refine T_ld 114 (.int (i32 0)) rfl (fun _ => rfl) ?_
              refine T_if 127 117 rfl rfl rfl ⟨by decide, by decide⟩ (fun _ => ?_) (fun h74 => absurd (show (0 : Int) = 0 by decide) h74)
              refine T_ld 128 (.int (i32 f)) rfl (fun _ => rfl) ?_
              refine T_ret rfl (fun _ => rfl) ?_
              exact ⟨(mO m [(205, (m.1 205) + 1)] []), f, (KTy_mO hT rfl rfl ⟨g73, trivial⟩ trivial), (fr_m fr_0 rfl rfl), ⟨by omega, by omega⟩, rfl⟩
            · skip
              refine T_ld 87 (.int (i32 1)) rfl (fun _ => rfl) ?_
              refine T_goto 91 rfl (fun _ => rfl) ?_
              refine T_sto 93 [(4, .int (i32 1)), (3, .int (i32 0)), (2, .int (i32 z32)), (0, .ref 6), (1, .int (i32 f))] rfl (fun _ => rfl) ?_
              refine T_ld 94 (.ref 6) rfl (fun _ => rfl) ?_
              refine T_ld 95 (.ref 6) rfl (fun _ => rfl) ?_
              refine K_gf 98 (.int (i32 (m.1 205))) rfl rfl kd_6 rfl rfl rfl ?_
              refine T_ld 100 (.int (i32 1)) rfl (fun _ => rfl) ?_
              refine T_if 107 103 rfl rfl rfl ⟨by decide, by decide⟩ (fun h75 => absurd (show (1 : Int) = 0 from h75) (by decide)) (fun _ => ?_)
              refine T_ld 104 (.int (i32 2)) rfl (fun _ => rfl) ?_
              refine T_goto 108 rfl (fun _ => rfl) ?_
              refine T_iadd 109 rfl rfl ?_
              refine K_pf (l' := [(205, (m.1 205) + 2)]) 112 ((m.1 205) + 2) rfl rfl kd_6 rfl rfl rfl rfl rfl rfl rfl ?_
              have g76 : 0 ≤ (m.1 205) + 2 ∧ (m.1 205) + 2 ≤ 4001 := ⟨by omega, by omega⟩
              refine T_ld 114 (.int (i32 1)) rfl (fun _ => rfl) ?_
              refine T_if 127 117 rfl rfl rfl ⟨by decide, by decide⟩ (fun h77 => absurd (show (1 : Int) = 0 from h77) (by decide)) (fun _ => ?_)
              refine T_ld 118 (.int (i32 f)) rfl (fun _ => rfl) ?_
              refine T_ld 121 (.int (i32 256)) rfl (fun _ => rfl) ?_
              refine T_imul 122 rfl rfl ?_
              refine T_ld 123 (.int (i32 z32)) rfl (fun _ => rfl) ?_
              refine T_iadd 124 rfl rfl ?_
              refine T_goto 128 rfl (fun _ => rfl) ?_
              refine T_ret rfl (fun _ => rfl) ?_
              exact ⟨(mO m [(205, (m.1 205) + 2)] []), (f * 256) + z32, (KTy_mO hT rfl rfl ⟨g76, trivial⟩ trivial), (fr_m fr_0 rfl rfl), ⟨by omega, by omega⟩, rfl⟩
        · skip
          refine T_ld 61 (.int (i32 1)) rfl (fun _ => rfl) ?_
          refine T_goto 65 rfl (fun _ => rfl) ?_
          refine T_sto 66 [(3, .int (i32 1)), (2, .int (i32 z32)), (0, .ref 6), (1, .int (i32 f))] rfl (fun _ => rfl) ?_
          refine T_ld 67 (.int (i32 1)) rfl (fun _ => rfl) ?_
          refine T_if 86 70 rfl rfl rfl ⟨by decide, by decide⟩ (fun _ => ?_) (fun h78 => absurd (show (1 : Int) ≠ 0 by decide) h78)
          refine T_ld 87 (.int (i32 1)) rfl (fun _ => rfl) ?_
          refine T_goto 91 rfl (fun _ => rfl) ?_
          refine T_sto 93 [(4, .int (i32 1)), (3, .int (i32 1)), (2, .int (i32 z32)), (0, .ref 6), (1, .int (i32 f))] rfl (fun _ => rfl) ?_
          refine T_ld 94 (.ref 6) rfl (fun _ => rfl) ?_
          refine T_ld 95 (.ref 6) rfl (fun _ => rfl) ?_
          refine K_gf 98 (.int (i32 (m.1 205))) rfl rfl kd_6 rfl rfl rfl ?_
          refine T_ld 100 (.int (i32 1)) rfl (fun _ => rfl) ?_
          refine T_if 107 103 rfl rfl rfl ⟨by decide, by decide⟩ (fun h79 => absurd (show (1 : Int) = 0 from h79) (by decide)) (fun _ => ?_)
          refine T_ld 104 (.int (i32 2)) rfl (fun _ => rfl) ?_
          refine T_goto 108 rfl (fun _ => rfl) ?_
          refine T_iadd 109 rfl rfl ?_
          refine K_pf (l' := [(205, (m.1 205) + 2)]) 112 ((m.1 205) + 2) rfl rfl kd_6 rfl rfl rfl rfl rfl rfl rfl ?_
          have g80 : 0 ≤ (m.1 205) + 2 ∧ (m.1 205) + 2 ≤ 4001 := ⟨by omega, by omega⟩
          refine T_ld 114 (.int (i32 1)) rfl (fun _ => rfl) ?_
          refine T_if 127 117 rfl rfl rfl ⟨by decide, by decide⟩ (fun h81 => absurd (show (1 : Int) = 0 from h81) (by decide)) (fun _ => ?_)
          refine T_ld 118 (.int (i32 f)) rfl (fun _ => rfl) ?_
          refine T_ld 121 (.int (i32 256)) rfl (fun _ => rfl) ?_
          refine T_imul 122 rfl rfl ?_
          refine T_ld 123 (.int (i32 z32)) rfl (fun _ => rfl) ?_
          refine T_iadd 124 rfl rfl ?_
          refine T_goto 128 rfl (fun _ => rfl) ?_
          refine T_ret rfl (fun _ => rfl) ?_
          exact ⟨(mO m [(205, (m.1 205) + 2)] []), (f * 256) + z32, (KTy_mO hT rfl rfl ⟨g80, trivial⟩ trivial), (fr_m fr_0 rfl rfl), ⟨by omega, by omega⟩, rfl⟩
  · skip
    refine T_ld 11 (.int (i32 (-1))) rfl (fun _ => rfl) ?_
    refine T_ret rfl (fun _ => rfl) ?_
    exact ⟨(mO m [] []), (-1), hT, (fr_m fr_0 rfl rfl), ⟨by omega, by omega⟩, rfl⟩
def fF_tx_advance : List Nat := [205, 206, 207, 208, 209, 210, 211, 212]
def fA_tx_advance : List Nat := []
def Q_tx_advance (m : mR) (c : Nat → Option am_C) (N : Nat) : ag_Re af_T → Prop := fun R => (∃ (M : mR), KTy M ∧ fr fF_tx_advance fA_tx_advance m M ∧ ((m.1 213) = 0) ∧ R = (.inl (none), (khp M c, N), 0, 0)) ∨ (∃ (x : Nat) (M : mR), (x = 0) ∧ (KTy M) ∧ (fr fF_tx_advance fA_tx_advance m M) ∧ R = (.inr x, (khp M c, N), 1, 6))
set_option maxHeartbeats 3000000 in
theorem c_tx_advance (w : wX) (m : mR) (c : Nat → Option am_C) (N D : Nat) (hD : 7 ≤ D) (hT : KTy m) : TC w D 50 [.ref 6] (khp m c, N) (Q_tx_advance m c N) := by
  obtain ⟨D, rfl⟩ : ∃ k, D = k + 1 := ⟨D - 1, by omega⟩
  have f205 : 0 ≤ m.1 205 ∧ m.1 205 ≤ 4001 := hT.1 205
  have f206 : (-1) ≤ m.1 206 ∧ m.1 206 ≤ 65535 := hT.1 206
  have f207 : 0 ≤ m.1 207 ∧ m.1 207 ≤ 4001 := hT.1 207
  have f204 : 0 ≤ m.1 204 ∧ m.1 204 ≤ 4000 := hT.1 204
  have f213 : 0 ≤ m.1 213 ∧ m.1 213 ≤ 1 := hT.1 213
  refine Tc_of rfl ?_
  rw [show (khp m c, N) = (khp (mO m [] []) c, N) from by rw [mO_nil m]]
  show TT w D pm_50 (0, [(0, .ref 6)], [], (khp (mO m [] []) c, N), 0, 0) (Q_tx_advance m c N)
  refine T_ld 1 (.ref 6) rfl (fun _ => rfl) ?_
  refine K_gf 4 (.int (i32 (m.1 213))) rfl rfl kd_6 rfl rfl rfl ?_
  refine T_if 16 7 rfl rfl rfl (r32 (by omega) (by omega)) (fun (h1 : (m.1 213) = 0) => ?_) (fun (h1 : ¬ ((m.1 213) = 0)) => ?_)
  · skip
    have L16_3 : ∀ (n7 : Nat) (m2 : mR), KTy m2 → fr [205] [] (mO m [] []) m2 → (0 ≤ (m2.1 205)) → 4001 - (m2.1 205) < (n7 : Int) → TT w D pm_50 (16, [(0, .ref 6)], [], (khp (mO m2 [] []) c, N), 0, 0) (Q_tx_advance m c N) := by
      intro n7
      induction n7 with
      | zero =>
        intro m2 Tm2 Fm2 ic4 hmu
        have q5_205 : 0 ≤ m2.1 205 ∧ m2.1 205 ≤ 4001 := Tm2.1 205
        exfalso
        omega
      | succ n7 ih =>
        intro m2 Tm2 Fm2 ic4 hmu
        have q5_205 : 0 ≤ m2.1 205 ∧ m2.1 205 ≤ 4001 := Tm2.1 205
        have ih8 := ih
        refine T_ld 17 (.ref 6) rfl (fun _ => rfl) ?_
        refine K_gf 20 (.int (i32 (m2.1 205))) rfl rfl kd_6 rfl rfl rfl ?_
        refine T_ld 21 (.ref 6) rfl (fun _ => rfl) ?_
        refine K_gf 24 (.int (i32 (m.1 204))) rfl rfl kd_6 rfl (kval_c2 (k := 204) (F := fun x => .int (i32 x)) rfl (show (m2.1 204) = (m.1 204) from (fr1 Fm2 204 rfl))) rfl ?_
        refine T_icmp 68 27 rfl rfl rfl (r32 (by omega) (by omega)) (r32 (by omega) (by omega)) (fun (h9 : (m.1 204) ≤ (m2.1 205)) => ?_) (fun (h9 : ¬ ((m.1 204) ≤ (m2.1 205))) => ?_)
        · skip
          refine T_ld 69 (.ref 6) rfl (fun _ => rfl) ?_
          refine T_ld 70 (.ref 6) rfl (fun _ => rfl) ?_
          refine K_gf 73 (.int (i32 (m2.1 205))) rfl rfl kd_6 rfl rfl rfl ?_
          refine K_pf (l' := [(207, (m2.1 205))]) 76 (m2.1 205) rfl rfl kd_6 rfl rfl rfl rfl rfl rfl rfl ?_
          have g10 : 0 ≤ (m2.1 205) ∧ (m2.1 205) ≤ 4001 := ⟨by omega, by omega⟩
          refine T_ld 77 (.ref 6) rfl (fun _ => rfl) ?_
          refine K_gf 80 (.int (i32 (m2.1 205))) rfl rfl kd_6 rfl rfl rfl ?_
          refine T_ld 81 (.ref 6) rfl (fun _ => rfl) ?_
          refine K_gf 84 (.int (i32 (m.1 204))) rfl rfl kd_6 rfl (kval_c2 (k := 204) (F := fun x => .int (i32 x)) rfl (show (m2.1 204) = (m.1 204) from (fr1 Fm2 204 rfl))) rfl ?_
          refine T_icmp 103 87 rfl rfl rfl (r32 (by omega) (by omega)) (r32 (by omega) (by omega)) (fun (h11 : (m.1 204) ≤ (m2.1 205)) => ?_) (fun (h11 : ¬ ((m.1 204) ≤ (m2.1 205))) => ?_)
          · skip
            refine T_ld 104 (.int (i32 0)) rfl (fun _ => rfl) ?_
            refine T_sto 105 [(1, .int (i32 0)), (0, .ref 6)] rfl (fun _ => rfl) ?_
            refine T_ld 106 (.ref 6) rfl (fun _ => rfl) ?_
            refine K_gf 109 (.int (i32 (m2.1 205))) rfl rfl kd_6 rfl rfl rfl ?_
            refine T_ld 110 (.ref 6) rfl (fun _ => rfl) ?_
            refine K_gf 113 (.int (i32 (m.1 204))) rfl rfl kd_6 rfl (kval_c2 (k := 204) (F := fun x => .int (i32 x)) rfl (show (m2.1 204) = (m.1 204) from (fr1 Fm2 204 rfl))) rfl ?_
            refine T_icmp 126 116 rfl rfl rfl (r32 (by omega) (by omega)) (r32 (by omega) (by omega)) (fun (h12 : (m2.1 205) < (m.1 204)) => ?_) (fun (h12 : ¬ ((m2.1 205) < (m.1 204))) => ?_)
            · skip
              refine T_ld 127 (.int (i32 0)) rfl (fun _ => rfl) ?_
              refine T_ld 129 (.int (i32 97)) rfl (fun _ => rfl) ?_
              refine T_icmp 171 132 rfl rfl rfl ⟨by decide, by decide⟩ ⟨by decide, by decide⟩ (fun _ => ?_) (fun h13 => absurd (show (0 : Int) < 97 by decide) h13)
              refine T_ld 172 (.int (i32 0)) rfl (fun _ => rfl) ?_
              refine T_ld 174 (.int (i32 48)) rfl (fun _ => rfl) ?_
              refine T_icmp 246 177 rfl rfl rfl ⟨by decide, by decide⟩ ⟨by decide, by decide⟩ (fun _ => ?_) (fun h14 => absurd (show (0 : Int) < 48 by decide) h14)
              refine T_ld 247 (.ref 6) rfl (fun _ => rfl) ?_
              refine T_ld 248 (.ref 6) rfl (fun _ => rfl) ?_
              refine T_ld 249 (.int (i32 0)) rfl (fun _ => rfl) ?_
              refine T_callx 252 56 [.ref 6, .int (i32 0)] [.ref 6] rfl (fun _ => rfl) rfl rfl (c_tx_scanSign w (mO m2 [(207, (m2.1 205))] []) c N D (by omega) (KTy_mO Tm2 rfl rfl ⟨g10, trivial⟩ trivial) 0 ⟨by decide, by decide⟩ (show 0 ≤ (0 : Int) ∧ (0 : Int) ≤ 255 by omega) (show (m2.1 205) < (m2.1 204) by rewrite [(show (m2.1 204) = (m.1 204) from (fr1 Fm2 204 rfl))]; omega)) (fun rr15 k16 => ?_)
              obtain ⟨m17, x18, Tm17, Fm17, g19, rfl⟩ := k16
              refine Or.inl ⟨_, _, _, _, rfl, ?_⟩
              refine K_nb (st' := [.int (i32 x18), .ref 6]) rfl ?_
              obtain ⟨g19a, g19b⟩ := g19
              have g20 : 0 ≤ m17.1 205 ∧ m17.1 205 ≤ 4001 := Tm17.1 205
              refine K_pf (l' := [(206, x18)]) 255 x18 rfl rfl kd_6 rfl rfl rfl rfl rfl rfl rfl ?_
              have g21 : (-1) ≤ x18 ∧ x18 ≤ 65535 := ⟨by omega, by omega⟩
              refine T_ld 256 (.ref 6) rfl (fun _ => rfl) ?_
              refine K_gf 259 (.int (i32 x18)) rfl rfl kd_6 rfl rfl rfl ?_
              refine T_ld 260 (.int (i32 (-1))) rfl (fun _ => rfl) ?_
              refine T_icmp 272 263 rfl rfl rfl (r32 (by omega) (by omega)) ⟨by decide, by decide⟩ (fun (h22 : x18 ≠ (-1)) => ?_) (fun (h22 : ¬ (x18 ≠ (-1))) => ?_)
              · skip
                refine T_ret rfl (fun _ => rfl) ?_
                exact Or.inl ⟨(mO m17 [(206, x18)] []), (KTy_mO Tm17 rfl rfl ⟨g21, trivial⟩ trivial), (fr_m (fr_s Fm17 (fr_m (fr_s Fm2 (fr_m fr_0 rfl rfl) rfl rfl) rfl rfl) rfl rfl) rfl rfl), (show (m.1 213) = 0 by omega), rfl⟩
              · skip
                refine T_ld 264 (.ref 6) rfl (fun _ => rfl) ?_
                refine T_ld 265 (.int (i32 2)) rfl (fun _ => rfl) ?_
                refine T_ld 266 (.ref 6) rfl (fun _ => rfl) ?_
                refine K_gf 269 (.int (i32 (m2.1 205))) rfl rfl kd_6 rfl (kval_c2 (k := 207) (F := fun x => .int (i32 x)) rfl (show (m17.1 207) = (m2.1 205) from (fr1 Fm17 207 rfl))) rfl ?_
                refine T_callx 272 51 [.ref 6, .int (i32 2), .int (i32 (m2.1 205))] [] rfl (fun _ => rfl) rfl rfl (c_tx_fail w (mO m17 [(206, x18)] []) c N D (by omega) (KTy_mO Tm17 rfl rfl ⟨g21, trivial⟩ trivial) 2 (m2.1 205) ⟨by decide, by decide⟩ (r32 (by omega) (by omega)) (show 1 ≤ (2 : Int) ∧ (2 : Int) ≤ 8 by omega) (show 0 ≤ (m2.1 205) ∧ (m2.1 205) ≤ 4001 by omega)) (fun rr23 k24 => ?_)
                rcases k24 with ⟨m25, Tm25, Fm25, h26, rfl⟩ | ⟨xx29, m27, hx28, Tm27, Fm27, rfl⟩
                rotate_left
                · skip
                  refine Or.inr ⟨_, _, _, _, rfl, ?_⟩
                  exact Or.inr ⟨xx29, (mO m27 [] []), (hx28), Tm27, (fr_m (fr_s Fm27 (fr_m (fr_s Fm17 (fr_m (fr_s Fm2 (fr_m fr_0 rfl rfl) rfl rfl) rfl rfl) rfl rfl) rfl rfl) rfl rfl) rfl rfl), rfl⟩
                exact h26.elim
            · skip
              refine T_ld 117 (.ref 6) rfl (fun _ => rfl) ?_
              refine T_ld 120 (.int (i32 258)) rfl (fun _ => rfl) ?_
              refine K_pf (l' := [(206, 258), (207, (m2.1 205))]) 123 258 rfl rfl kd_6 rfl rfl rfl rfl rfl rfl rfl ?_
              refine T_goto 255 rfl (fun _ => rfl) ?_
              refine T_ld 256 (.ref 6) rfl (fun _ => rfl) ?_
              refine K_gf 259 (.int (i32 258)) rfl rfl kd_6 rfl rfl rfl ?_
              refine T_ld 260 (.int (i32 (-1))) rfl (fun _ => rfl) ?_
              refine T_icmp 272 263 rfl rfl rfl ⟨by decide, by decide⟩ ⟨by decide, by decide⟩ (fun _ => ?_) (fun h30 => absurd (show (258 : Int) ≠ (-1) by decide) h30)
              refine T_ret rfl (fun _ => rfl) ?_
              exact Or.inl ⟨(mO m2 [(206, 258), (207, (m2.1 205))] []), (KTy_mO Tm2 rfl rfl ⟨⟨(by omega : ((-1) : Int) ≤ 258), (by omega : (258 : Int) ≤ 65535)⟩, g10, trivial⟩ trivial), (fr_m (fr_s Fm2 (fr_m fr_0 rfl rfl) rfl rfl) rfl rfl), (show (m.1 213) = 0 by omega), rfl⟩
          · skip
            refine T_ld 88 (.ref 6) rfl (fun _ => rfl) ?_
            refine K_gf 91 (.ref 2) rfl rfl kd_6 rfl rfl rfl ?_
            refine T_ld 92 (.ref 6) rfl (fun _ => rfl) ?_
            refine K_gf 95 (.int (i32 (m2.1 205))) rfl rfl kd_6 rfl rfl rfl ?_
            refine K_bald 96 1 (m.2 1) rfl rfl rfl (by omega) (show (m2.1 205) < (4000 : Int) by omega) (show (m2.2 1) = (m.2 1) from (fr2 Fm2 1 rfl)) ?_
            have e31 : (-128) ≤ m.2 1 (m2.1 205) ∧ m.2 1 (m2.1 205) ≤ 127 := hT.2.1 1 (m2.1 205)
            refine T_ld 99 (.int (i32 255)) rfl (fun _ => rfl) ?_
            refine T_iand 100 rfl rfl (by decide) (by decide) (fun z32 h33 => ?_)
            refine T_goto 104 rfl (fun _ => rfl) ?_
            refine T_sto 105 [(1, .int (i32 z32)), (0, .ref 6)] rfl (fun _ => rfl) ?_
            refine T_ld 106 (.ref 6) rfl (fun _ => rfl) ?_
            refine K_gf 109 (.int (i32 (m2.1 205))) rfl rfl kd_6 rfl rfl rfl ?_
            refine T_ld 110 (.ref 6) rfl (fun _ => rfl) ?_
            refine K_gf 113 (.int (i32 (m.1 204))) rfl rfl kd_6 rfl (kval_c2 (k := 204) (F := fun x => .int (i32 x)) rfl (show (m2.1 204) = (m.1 204) from (fr1 Fm2 204 rfl))) rfl ?_
            refine T_icmp 126 116 rfl rfl rfl (r32 (by omega) (by omega)) (r32 (by omega) (by omega)) (fun (h34 : (m2.1 205) < (m.1 204)) => ?_) (fun (h34 : ¬ ((m2.1 205) < (m.1 204))) => ?_)
            · skip
              refine T_ld 127 (.int (i32 z32)) rfl (fun _ => rfl) ?_
              refine T_ld 129 (.int (i32 97)) rfl (fun _ => rfl) ?_
              refine T_icmp 171 132 rfl rfl rfl (r32 (by omega) (by omega)) ⟨by decide, by decide⟩ (fun (h35 : z32 < 97) => ?_) (fun (h35 : ¬ (z32 < 97)) => ?_)
              · skip
                refine T_ld 172 (.int (i32 z32)) rfl (fun _ => rfl) ?_
                refine T_ld 174 (.int (i32 48)) rfl (fun _ => rfl) ?_
                refine T_icmp 246 177 rfl rfl rfl (r32 (by omega) (by omega)) ⟨by decide, by decide⟩ (fun (h36 : z32 < 48) => ?_) (fun (h36 : ¬ (z32 < 48)) => ?_)
                · skip
                  refine T_ld 247 (.ref 6) rfl (fun _ => rfl) ?_
                  refine T_ld 248 (.ref 6) rfl (fun _ => rfl) ?_
                  refine T_ld 249 (.int (i32 z32)) rfl (fun _ => rfl) ?_
                  refine T_callx 252 56 [.ref 6, .int (i32 z32)] [.ref 6] rfl (fun _ => rfl) rfl rfl (c_tx_scanSign w (mO m2 [(207, (m2.1 205))] []) c N D (by omega) (KTy_mO Tm2 rfl rfl ⟨g10, trivial⟩ trivial) z32 (r32 (by omega) (by omega)) (show 0 ≤ z32 ∧ z32 ≤ 255 by omega) (show (m2.1 205) < (m2.1 204) by rewrite [(show (m2.1 204) = (m.1 204) from (fr1 Fm2 204 rfl))]; omega)) (fun rr37 k38 => ?_)
                  obtain ⟨m39, x40, Tm39, Fm39, g41, rfl⟩ := k38
                  refine Or.inl ⟨_, _, _, _, rfl, ?_⟩
                  refine K_nb (st' := [.int (i32 x40), .ref 6]) rfl ?_
                  obtain ⟨g41a, g41b⟩ := g41
                  have g42 : 0 ≤ m39.1 205 ∧ m39.1 205 ≤ 4001 := Tm39.1 205
                  refine K_pf (l' := [(206, x40)]) 255 x40 rfl rfl kd_6 rfl rfl rfl rfl rfl rfl rfl ?_
                  have g43 : (-1) ≤ x40 ∧ x40 ≤ 65535 := ⟨by omega, by omega⟩
                  refine T_ld 256 (.ref 6) rfl (fun _ => rfl) ?_
                  refine K_gf 259 (.int (i32 x40)) rfl rfl kd_6 rfl rfl rfl ?_
                  refine T_ld 260 (.int (i32 (-1))) rfl (fun _ => rfl) ?_
                  refine T_icmp 272 263 rfl rfl rfl (r32 (by omega) (by omega)) ⟨by decide, by decide⟩ (fun (h44 : x40 ≠ (-1)) => ?_) (fun (h44 : ¬ (x40 ≠ (-1))) => ?_)
                  · skip
                    refine T_ret rfl (fun _ => rfl) ?_
                    exact Or.inl ⟨(mO m39 [(206, x40)] []), (KTy_mO Tm39 rfl rfl ⟨g43, trivial⟩ trivial), (fr_m (fr_s Fm39 (fr_m (fr_s Fm2 (fr_m fr_0 rfl rfl) rfl rfl) rfl rfl) rfl rfl) rfl rfl), (show (m.1 213) = 0 by omega), rfl⟩
                  · skip
                    refine T_ld 264 (.ref 6) rfl (fun _ => rfl) ?_
                    refine T_ld 265 (.int (i32 2)) rfl (fun _ => rfl) ?_
                    refine T_ld 266 (.ref 6) rfl (fun _ => rfl) ?_
                    refine K_gf 269 (.int (i32 (m2.1 205))) rfl rfl kd_6 rfl (kval_c2 (k := 207) (F := fun x => .int (i32 x)) rfl (show (m39.1 207) = (m2.1 205) from (fr1 Fm39 207 rfl))) rfl ?_
                    refine T_callx 272 51 [.ref 6, .int (i32 2), .int (i32 (m2.1 205))] [] rfl (fun _ => rfl) rfl rfl (c_tx_fail w (mO m39 [(206, x40)] []) c N D (by omega) (KTy_mO Tm39 rfl rfl ⟨g43, trivial⟩ trivial) 2 (m2.1 205) ⟨by decide, by decide⟩ (r32 (by omega) (by omega)) (show 1 ≤ (2 : Int) ∧ (2 : Int) ≤ 8 by omega) (show 0 ≤ (m2.1 205) ∧ (m2.1 205) ≤ 4001 by omega)) (fun rr45 k46 => ?_)
                    rcases k46 with ⟨m47, Tm47, Fm47, h48, rfl⟩ | ⟨xx51, m49, hx50, Tm49, Fm49, rfl⟩
                    rotate_left
                    · skip
                      refine Or.inr ⟨_, _, _, _, rfl, ?_⟩
                      exact Or.inr ⟨xx51, (mO m49 [] []), (hx50), Tm49, (fr_m (fr_s Fm49 (fr_m (fr_s Fm39 (fr_m (fr_s Fm2 (fr_m fr_0 rfl rfl) rfl rfl) rfl rfl) rfl rfl) rfl rfl) rfl rfl) rfl rfl), rfl⟩
                    exact h48.elim
                · skip
                  refine T_ld 178 (.int (i32 z32)) rfl (fun _ => rfl) ?_
                  refine T_ld 180 (.int (i32 57)) rfl (fun _ => rfl) ?_
                  refine T_icmp 246 183 rfl rfl rfl (r32 (by omega) (by omega)) ⟨by decide, by decide⟩ (fun (h52 : (57 : Int) < z32) => ?_) (fun (h52 : ¬ ((57 : Int) < z32)) => ?_)
                  · skip
                    refine T_ld 247 (.ref 6) rfl (fun _ => rfl) ?_
                    refine T_ld 248 (.ref 6) rfl (fun _ => rfl) ?_
                    refine T_ld 249 (.int (i32 z32)) rfl (fun _ => rfl) ?_
                    refine T_callx 252 56 [.ref 6, .int (i32 z32)] [.ref 6] rfl (fun _ => rfl) rfl rfl (c_tx_scanSign w (mO m2 [(207, (m2.1 205))] []) c N D (by omega) (KTy_mO Tm2 rfl rfl ⟨g10, trivial⟩ trivial) z32 (r32 (by omega) (by omega)) (show 0 ≤ z32 ∧ z32 ≤ 255 by omega) (show (m2.1 205) < (m2.1 204) by rewrite [(show (m2.1 204) = (m.1 204) from (fr1 Fm2 204 rfl))]; omega)) (fun rr53 k54 => ?_)
                    obtain ⟨m55, x56, Tm55, Fm55, g57, rfl⟩ := k54
                    refine Or.inl ⟨_, _, _, _, rfl, ?_⟩
                    refine K_nb (st' := [.int (i32 x56), .ref 6]) rfl ?_
                    obtain ⟨g57a, g57b⟩ := g57
                    have g58 : 0 ≤ m55.1 205 ∧ m55.1 205 ≤ 4001 := Tm55.1 205
                    refine K_pf (l' := [(206, x56)]) 255 x56 rfl rfl kd_6 rfl rfl rfl rfl rfl rfl rfl ?_
                    have g59 : (-1) ≤ x56 ∧ x56 ≤ 65535 := ⟨by omega, by omega⟩
                    refine T_ld 256 (.ref 6) rfl (fun _ => rfl) ?_
                    refine K_gf 259 (.int (i32 x56)) rfl rfl kd_6 rfl rfl rfl ?_
                    refine T_ld 260 (.int (i32 (-1))) rfl (fun _ => rfl) ?_
                    refine T_icmp 272 263 rfl rfl rfl (r32 (by omega) (by omega)) ⟨by decide, by decide⟩ (fun (h60 : x56 ≠ (-1)) => ?_) (fun (h60 : ¬ (x56 ≠ (-1))) => ?_)
                    · skip
                      refine T_ret rfl (fun _ => rfl) ?_
                      exact Or.inl ⟨(mO m55 [(206, x56)] []), (KTy_mO Tm55 rfl rfl ⟨g59, trivial⟩ trivial), (fr_m (fr_s Fm55 (fr_m (fr_s Fm2 (fr_m fr_0 rfl rfl) rfl rfl) rfl rfl) rfl rfl) rfl rfl), (show (m.1 213) = 0 by omega), rfl⟩
                    · skip
                      refine T_ld 264 (.ref 6) rfl (fun _ => rfl) ?_
                      refine T_ld 265 (.int (i32 2)) rfl (fun _ => rfl) ?_
                      refine T_ld 266 (.ref 6) rfl (fun _ => rfl) ?_
                      refine K_gf 269 (.int (i32 (m2.1 205))) rfl rfl kd_6 rfl (kval_c2 (k := 207) (F := fun x => .int (i32 x)) rfl (show (m55.1 207) = (m2.1 205) from (fr1 Fm55 207 rfl))) rfl ?_
                      refine T_callx 272 51 [.ref 6, .int (i32 2), .int (i32 (m2.1 205))] [] rfl (fun _ => rfl) rfl rfl (c_tx_fail w (mO m55 [(206, x56)] []) c N D (by omega) (KTy_mO Tm55 rfl rfl ⟨g59, trivial⟩ trivial) 2 (m2.1 205) ⟨by decide, by decide⟩ (r32 (by omega) (by omega)) (show 1 ≤ (2 : Int) ∧ (2 : Int) ≤ 8 by omega) (show 0 ≤ (m2.1 205) ∧ (m2.1 205) ≤ 4001 by omega)) (fun rr61 k62 => ?_)
                      rcases k62 with ⟨m63, Tm63, Fm63, h64, rfl⟩ | ⟨xx67, m65, hx66, Tm65, Fm65, rfl⟩
                      rotate_left
                      · skip
                        refine Or.inr ⟨_, _, _, _, rfl, ?_⟩
                        exact Or.inr ⟨xx67, (mO m65 [] []), (hx66), Tm65, (fr_m (fr_s Fm65 (fr_m (fr_s Fm55 (fr_m (fr_s Fm2 (fr_m fr_0 rfl rfl) rfl rfl) rfl rfl) rfl rfl) rfl rfl) rfl rfl) rfl rfl), rfl⟩
                      exact h64.elim
                  · skip
                    refine T_ld 184 (.int (i32 z32)) rfl (fun _ => rfl) ?_
                    refine T_ld 186 (.int (i32 48)) rfl (fun _ => rfl) ?_
                    refine T_icmp 222 189 rfl rfl rfl (r32 (by omega) (by omega)) ⟨by decide, by decide⟩ (fun (h68 : z32 ≠ 48) => ?_) (fun (h68 : ¬ (z32 ≠ 48)) => ?_)
                    · skip
                      refine T_ld 223 (.int (i32 0)) rfl (fun _ => rfl) ?_
                      refine T_sto 224 [(2, .int (i32 0)), (1, .int (i32 z32)), (0, .ref 6)] rfl (fun _ => rfl) ?_
                      refine T_ld 225 (.ref 6) rfl (fun _ => rfl) ?_
                      refine T_ld 226 (.int (i32 0)) rfl (fun _ => rfl) ?_
                      refine T_if 236 229 rfl rfl rfl ⟨by decide, by decide⟩ (fun _ => ?_) (fun h69 => absurd (show (0 : Int) = 0 by decide) h69)
                      refine T_ld 237 (.ref 6) rfl (fun _ => rfl) ?_
                      refine T_callx 240 55 [.ref 6] [.ref 6] rfl (fun _ => rfl) rfl rfl (c_tx_scanDecimal w (mO m2 [(207, (m2.1 205))] []) c N D (by omega) (KTy_mO Tm2 rfl rfl ⟨g10, trivial⟩ trivial) ) (fun rr70 k71 => ?_)
                      obtain ⟨m72, x73, Tm72, Fm72, g74, rfl⟩ := k71
                      refine Or.inl ⟨_, _, _, _, rfl, ?_⟩
                      refine K_nb (st' := [.int (i32 x73), .ref 6]) rfl ?_
                      obtain ⟨g74a, g74b⟩ := g74
                      have g75 : 0 ≤ m72.1 205 ∧ m72.1 205 ≤ 4001 := Tm72.1 205
                      refine K_pf (l' := [(206, x73)]) 243 x73 rfl rfl kd_6 rfl rfl rfl rfl rfl rfl rfl ?_
                      have g76 : (-1) ≤ x73 ∧ x73 ≤ 65535 := ⟨by omega, by omega⟩
                      refine T_goto 255 rfl (fun _ => rfl) ?_
                      refine T_ld 256 (.ref 6) rfl (fun _ => rfl) ?_
                      refine K_gf 259 (.int (i32 x73)) rfl rfl kd_6 rfl rfl rfl ?_
                      refine T_ld 260 (.int (i32 (-1))) rfl (fun _ => rfl) ?_
                      refine T_icmp 272 263 rfl rfl rfl (r32 (by omega) (by omega)) ⟨by decide, by decide⟩ (fun (h77 : x73 ≠ (-1)) => ?_) (fun (h77 : ¬ (x73 ≠ (-1))) => ?_)
                      · skip
                        refine T_ret rfl (fun _ => rfl) ?_
                        exact Or.inl ⟨(mO m72 [(206, x73)] []), (KTy_mO Tm72 rfl rfl ⟨g76, trivial⟩ trivial), (fr_m (fr_s Fm72 (fr_m (fr_s Fm2 (fr_m fr_0 rfl rfl) rfl rfl) rfl rfl) rfl rfl) rfl rfl), (show (m.1 213) = 0 by omega), rfl⟩
                      · skip
                        refine T_ld 264 (.ref 6) rfl (fun _ => rfl) ?_
                        refine T_ld 265 (.int (i32 2)) rfl (fun _ => rfl) ?_
                        refine T_ld 266 (.ref 6) rfl (fun _ => rfl) ?_
                        refine K_gf 269 (.int (i32 (m2.1 205))) rfl rfl kd_6 rfl (kval_c2 (k := 207) (F := fun x => .int (i32 x)) rfl (show (m72.1 207) = (m2.1 205) from (fr1 Fm72 207 rfl))) rfl ?_
                        refine T_callx 272 51 [.ref 6, .int (i32 2), .int (i32 (m2.1 205))] [] rfl (fun _ => rfl) rfl rfl (c_tx_fail w (mO m72 [(206, x73)] []) c N D (by omega) (KTy_mO Tm72 rfl rfl ⟨g76, trivial⟩ trivial) 2 (m2.1 205) ⟨by decide, by decide⟩ (r32 (by omega) (by omega)) (show 1 ≤ (2 : Int) ∧ (2 : Int) ≤ 8 by omega) (show 0 ≤ (m2.1 205) ∧ (m2.1 205) ≤ 4001 by omega)) (fun rr78 k79 => ?_)
                        rcases k79 with ⟨m80, Tm80, Fm80, h81, rfl⟩ | ⟨xx84, m82, hx83, Tm82, Fm82, rfl⟩
                        rotate_left
                        · skip
                          refine Or.inr ⟨_, _, _, _, rfl, ?_⟩
                          exact Or.inr ⟨xx84, (mO m82 [] []), (hx83), Tm82, (fr_m (fr_s Fm82 (fr_m (fr_s Fm72 (fr_m (fr_s Fm2 (fr_m fr_0 rfl rfl) rfl rfl) rfl rfl) rfl rfl) rfl rfl) rfl rfl) rfl rfl), rfl⟩
                        exact h81.elim
                    · skip
                      refine T_ld 190 (.ref 6) rfl (fun _ => rfl) ?_
                      refine K_gf 193 (.int (i32 (m2.1 205))) rfl rfl kd_6 rfl rfl rfl ?_
                      refine T_ld 194 (.int (i32 1)) rfl (fun _ => rfl) ?_
                      refine T_iadd 195 rfl rfl ?_
                      refine T_ld 196 (.ref 6) rfl (fun _ => rfl) ?_
                      refine K_gf 199 (.int (i32 (m.1 204))) rfl rfl kd_6 rfl (kval_c2 (k := 204) (F := fun x => .int (i32 x)) rfl (show (m2.1 204) = (m.1 204) from (fr1 Fm2 204 rfl))) rfl ?_
                      refine T_icmp 222 202 rfl rfl rfl (r32 (by omega) (by omega)) (r32 (by omega) (by omega)) (fun (h85 : (m.1 204) ≤ (m2.1 205) + 1) => ?_) (fun (h85 : ¬ ((m.1 204) ≤ (m2.1 205) + 1)) => ?_)
                      · skip
                        refine T_ld 223 (.int (i32 0)) rfl (fun _ => rfl) ?_
                        refine T_sto 224 [(2, .int (i32 0)), (1, .int (i32 z32)), (0, .ref 6)] rfl (fun _ => rfl) ?_
                        refine T_ld 225 (.ref 6) rfl (fun _ => rfl) ?_
                        refine T_ld 226 (.int (i32 0)) rfl (fun _ => rfl) ?_
                        refine T_if 236 229 rfl rfl rfl ⟨by decide, by decide⟩ (fun _ => ?_) (fun h86 => absurd (show (0 : Int) = 0 by decide) h86)
                        refine T_ld 237 (.ref 6) rfl (fun _ => rfl) ?_
                        refine T_callx 240 55 [.ref 6] [.ref 6] rfl (fun _ => rfl) rfl rfl (c_tx_scanDecimal w (mO m2 [(207, (m2.1 205))] []) c N D (by omega) (KTy_mO Tm2 rfl rfl ⟨g10, trivial⟩ trivial) ) (fun rr87 k88 => ?_)
                        obtain ⟨m89, x90, Tm89, Fm89, g91, rfl⟩ := k88
                        refine Or.inl ⟨_, _, _, _, rfl, ?_⟩
                        refine K_nb (st' := [.int (i32 x90), .ref 6]) rfl ?_
                        obtain ⟨g91a, g91b⟩ := g91
                        have g92 : 0 ≤ m89.1 205 ∧ m89.1 205 ≤ 4001 := Tm89.1 205
                        refine K_pf (l' := [(206, x90)]) 243 x90 rfl rfl kd_6 rfl rfl rfl rfl rfl rfl rfl ?_
                        have g93 : (-1) ≤ x90 ∧ x90 ≤ 65535 := ⟨by omega, by omega⟩
                        refine T_goto 255 rfl (fun _ => rfl) ?_
                        refine T_ld 256 (.ref 6) rfl (fun _ => rfl) ?_
                        refine K_gf 259 (.int (i32 x90)) rfl rfl kd_6 rfl rfl rfl ?_
                        refine T_ld 260 (.int (i32 (-1))) rfl (fun _ => rfl) ?_
                        refine T_icmp 272 263 rfl rfl rfl (r32 (by omega) (by omega)) ⟨by decide, by decide⟩ (fun (h94 : x90 ≠ (-1)) => ?_) (fun (h94 : ¬ (x90 ≠ (-1))) => ?_)
                        · skip
                          refine T_ret rfl (fun _ => rfl) ?_
                          exact Or.inl ⟨(mO m89 [(206, x90)] []), (KTy_mO Tm89 rfl rfl ⟨g93, trivial⟩ trivial), (fr_m (fr_s Fm89 (fr_m (fr_s Fm2 (fr_m fr_0 rfl rfl) rfl rfl) rfl rfl) rfl rfl) rfl rfl), (show (m.1 213) = 0 by omega), rfl⟩
                        · skip
                          refine T_ld 264 (.ref 6) rfl (fun _ => rfl) ?_
                          refine T_ld 265 (.int (i32 2)) rfl (fun _ => rfl) ?_
                          refine T_ld 266 (.ref 6) rfl (fun _ => rfl) ?_
                          refine K_gf 269 (.int (i32 (m2.1 205))) rfl rfl kd_6 rfl (kval_c2 (k := 207) (F := fun x => .int (i32 x)) rfl (show (m89.1 207) = (m2.1 205) from (fr1 Fm89 207 rfl))) rfl ?_
                          refine T_callx 272 51 [.ref 6, .int (i32 2), .int (i32 (m2.1 205))] [] rfl (fun _ => rfl) rfl rfl (c_tx_fail w (mO m89 [(206, x90)] []) c N D (by omega) (KTy_mO Tm89 rfl rfl ⟨g93, trivial⟩ trivial) 2 (m2.1 205) ⟨by decide, by decide⟩ (r32 (by omega) (by omega)) (show 1 ≤ (2 : Int) ∧ (2 : Int) ≤ 8 by omega) (show 0 ≤ (m2.1 205) ∧ (m2.1 205) ≤ 4001 by omega)) (fun rr95 k96 => ?_)
                          rcases k96 with ⟨m97, Tm97, Fm97, h98, rfl⟩ | ⟨xx101, m99, hx100, Tm99, Fm99, rfl⟩
                          rotate_left
                          · skip
                            refine Or.inr ⟨_, _, _, _, rfl, ?_⟩
                            exact Or.inr ⟨xx101, (mO m99 [] []), (hx100), Tm99, (fr_m (fr_s Fm99 (fr_m (fr_s Fm89 (fr_m (fr_s Fm2 (fr_m fr_0 rfl rfl) rfl rfl) rfl rfl) rfl rfl) rfl rfl) rfl rfl) rfl rfl), rfl⟩
                          exact h98.elim
                      · skip
                        refine T_ld 203 (.ref 6) rfl (fun _ => rfl) ?_
                        refine K_gf 206 (.ref 2) rfl rfl kd_6 rfl rfl rfl ?_
                        refine T_ld 207 (.ref 6) rfl (fun _ => rfl) ?_
                        refine K_gf 210 (.int (i32 (m2.1 205))) rfl rfl kd_6 rfl rfl rfl ?_
                        refine T_ld 211 (.int (i32 1)) rfl (fun _ => rfl) ?_
                        refine T_iadd 212 rfl rfl ?_
                        refine K_bald 213 1 (m.2 1) rfl rfl rfl (by omega) (show ((m2.1 205) + 1) < (4000 : Int) by omega) (show (m2.2 1) = (m.2 1) from (fr2 Fm2 1 rfl)) ?_
                        have e102 : (-128) ≤ m.2 1 ((m2.1 205) + 1) ∧ m.2 1 ((m2.1 205) + 1) ≤ 127 := hT.2.1 1 ((m2.1 205) + 1)
                        refine T_ld 215 (.int (i32 120)) rfl (fun _ => rfl) ?_
                        refine T_icmp 222 218 rfl rfl rfl (r32 (by omega) (by omega)) ⟨by decide, by decide⟩ (fun (h103 : (m.2 1) ((m2.1 205) + 1) ≠ 120) => ?_) (fun (h103 : ¬ ((m.2 1) ((m2.1 205) + 1) ≠ 120)) => ?_)
                        · skip
                          refine T_ld 223 (.int (i32 0)) rfl (fun _ => rfl) ?_
                          refine T_sto 224 [(2, .int (i32 0)), (1, .int (i32 z32)), (0, .ref 6)] rfl (fun _ => rfl) ?_
                          refine T_ld 225 (.ref 6) rfl (fun _ => rfl) ?_
                          refine T_ld 226 (.int (i32 0)) rfl (fun _ => rfl) ?_
                          refine T_if 236 229 rfl rfl rfl ⟨by decide, by decide⟩ (fun _ => ?_) (fun h104 => absurd (show (0 : Int) = 0 by decide) h104)
                          refine T_ld 237 (.ref 6) rfl (fun _ => rfl) ?_
                          refine T_callx 240 55 [.ref 6] [.ref 6] rfl (fun _ => rfl) rfl rfl (c_tx_scanDecimal w (mO m2 [(207, (m2.1 205))] []) c N D (by omega) (KTy_mO Tm2 rfl rfl ⟨g10, trivial⟩ trivial) ) (fun rr105 k106 => ?_)
                          obtain ⟨m107, x108, Tm107, Fm107, g109, rfl⟩ := k106
                          refine Or.inl ⟨_, _, _, _, rfl, ?_⟩
                          refine K_nb (st' := [.int (i32 x108), .ref 6]) rfl ?_
                          obtain ⟨g109a, g109b⟩ := g109
                          have g110 : 0 ≤ m107.1 205 ∧ m107.1 205 ≤ 4001 := Tm107.1 205
                          refine K_pf (l' := [(206, x108)]) 243 x108 rfl rfl kd_6 rfl rfl rfl rfl rfl rfl rfl ?_
                          have g111 : (-1) ≤ x108 ∧ x108 ≤ 65535 := ⟨by omega, by omega⟩
                          refine T_goto 255 rfl (fun _ => rfl) ?_
                          refine T_ld 256 (.ref 6) rfl (fun _ => rfl) ?_
                          refine K_gf 259 (.int (i32 x108)) rfl rfl kd_6 rfl rfl rfl ?_
                          refine T_ld 260 (.int (i32 (-1))) rfl (fun _ => rfl) ?_
                          refine T_icmp 272 263 rfl rfl rfl (r32 (by omega) (by omega)) ⟨by decide, by decide⟩ (fun (h112 : x108 ≠ (-1)) => ?_) (fun (h112 : ¬ (x108 ≠ (-1))) => ?_)
                          · skip
                            refine T_ret rfl (fun _ => rfl) ?_
                            exact Or.inl ⟨(mO m107 [(206, x108)] []), (KTy_mO Tm107 rfl rfl ⟨g111, trivial⟩ trivial), (fr_m (fr_s Fm107 (fr_m (fr_s Fm2 (fr_m fr_0 rfl rfl) rfl rfl) rfl rfl) rfl rfl) rfl rfl), (show (m.1 213) = 0 by omega), rfl⟩
                          · skip
                            refine T_ld 264 (.ref 6) rfl (fun _ => rfl) ?_
                            refine T_ld 265 (.int (i32 2)) rfl (fun _ => rfl) ?_
                            refine T_ld 266 (.ref 6) rfl (fun _ => rfl) ?_
                            refine K_gf 269 (.int (i32 (m2.1 205))) rfl rfl kd_6 rfl (kval_c2 (k := 207) (F := fun x => .int (i32 x)) rfl (show (m107.1 207) = (m2.1 205) from (fr1 Fm107 207 rfl))) rfl ?_
                            refine T_callx 272 51 [.ref 6, .int (i32 2), .int (i32 (m2.1 205))] [] rfl (fun _ => rfl) rfl rfl (c_tx_fail w (mO m107 [(206, x108)] []) c N D (by omega) (KTy_mO Tm107 rfl rfl ⟨g111, trivial⟩ trivial) 2 (m2.1 205) ⟨by decide, by decide⟩ (r32 (by omega) (by omega)) (show 1 ≤ (2 : Int) ∧ (2 : Int) ≤ 8 by omega) (show 0 ≤ (m2.1 205) ∧ (m2.1 205) ≤ 4001 by omega)) (fun rr113 k114 => ?_)
                            rcases k114 with ⟨m115, Tm115, Fm115, h116, rfl⟩ | ⟨xx119, m117, hx118, Tm117, Fm117, rfl⟩
                            rotate_left
                            · skip
                              refine Or.inr ⟨_, _, _, _, rfl, ?_⟩
                              exact Or.inr ⟨xx119, (mO m117 [] []), (hx118), Tm117, (fr_m (fr_s Fm117 (fr_m (fr_s Fm107 (fr_m (fr_s Fm2 (fr_m fr_0 rfl rfl) rfl rfl) rfl rfl) rfl rfl) rfl rfl) rfl rfl) rfl rfl), rfl⟩
                            exact h116.elim
                        · skip
                          refine T_ld 219 (.int (i32 1)) rfl (fun _ => rfl) ?_
                          refine T_goto 223 rfl (fun _ => rfl) ?_
                          refine T_sto 224 [(2, .int (i32 1)), (1, .int (i32 z32)), (0, .ref 6)] rfl (fun _ => rfl) ?_
                          refine T_ld 225 (.ref 6) rfl (fun _ => rfl) ?_
                          refine T_ld 226 (.int (i32 1)) rfl (fun _ => rfl) ?_
                          refine T_if 236 229 rfl rfl rfl ⟨by decide, by decide⟩ (fun h120 => absurd (show (1 : Int) = 0 from h120) (by decide)) (fun _ => ?_)
                          refine T_ld 230 (.ref 6) rfl (fun _ => rfl) ?_
                          refine T_callx 233 54 [.ref 6] [.ref 6] rfl (fun _ => rfl) rfl rfl (c_tx_scanHex w (mO m2 [(207, (m2.1 205))] []) c N D (by omega) (KTy_mO Tm2 rfl rfl ⟨g10, trivial⟩ trivial) (show (m2.1 205) + 2 ≤ (m2.1 204) by rewrite [(show (m2.1 204) = (m.1 204) from (fr1 Fm2 204 rfl))]; omega)) (fun rr121 k122 => ?_)
                          obtain ⟨m123, x124, Tm123, Fm123, g125, rfl⟩ := k122
                          refine Or.inl ⟨_, _, _, _, rfl, ?_⟩
                          refine K_nb (st' := [.int (i32 x124), .ref 6]) rfl ?_
                          obtain ⟨g125a, g125b⟩ := g125
                          have g126 : 0 ≤ m123.1 205 ∧ m123.1 205 ≤ 4001 := Tm123.1 205
                          refine T_goto 240 rfl (fun _ => rfl) ?_
                          refine K_pf (l' := [(206, x124)]) 243 x124 rfl rfl kd_6 rfl rfl rfl rfl rfl rfl rfl ?_
                          have g127 : (-1) ≤ x124 ∧ x124 ≤ 65535 := ⟨by omega, by omega⟩
                          refine T_goto 255 rfl (fun _ => rfl) ?_
                          refine T_ld 256 (.ref 6) rfl (fun _ => rfl) ?_
                          refine K_gf 259 (.int (i32 x124)) rfl rfl kd_6 rfl rfl rfl ?_
                          refine T_ld 260 (.int (i32 (-1))) rfl (fun _ => rfl) ?_
                          refine T_icmp 272 263 rfl rfl rfl (r32 (by omega) (by omega)) ⟨by decide, by decide⟩ (fun (h128 : x124 ≠ (-1)) => ?_) (fun (h128 : ¬ (x124 ≠ (-1))) => ?_)
                          · skip
                            refine T_ret rfl (fun _ => rfl) ?_
                            exact Or.inl ⟨(mO m123 [(206, x124)] []), (KTy_mO Tm123 rfl rfl ⟨g127, trivial⟩ trivial), (fr_m (fr_s Fm123 (fr_m (fr_s Fm2 (fr_m fr_0 rfl rfl) rfl rfl) rfl rfl) rfl rfl) rfl rfl), (show (m.1 213) = 0 by omega), rfl⟩
                          · skip
                            refine T_ld 264 (.ref 6) rfl (fun _ => rfl) ?_
                            refine T_ld 265 (.int (i32 2)) rfl (fun _ => rfl) ?_
                            refine T_ld 266 (.ref 6) rfl (fun _ => rfl) ?_
                            refine K_gf 269 (.int (i32 (m2.1 205))) rfl rfl kd_6 rfl (kval_c2 (k := 207) (F := fun x => .int (i32 x)) rfl (show (m123.1 207) = (m2.1 205) from (fr1 Fm123 207 rfl))) rfl ?_
                            refine T_callx 272 51 [.ref 6, .int (i32 2), .int (i32 (m2.1 205))] [] rfl (fun _ => rfl) rfl rfl (c_tx_fail w (mO m123 [(206, x124)] []) c N D (by omega) (KTy_mO Tm123 rfl rfl ⟨g127, trivial⟩ trivial) 2 (m2.1 205) ⟨by decide, by decide⟩ (r32 (by omega) (by omega)) (show 1 ≤ (2 : Int) ∧ (2 : Int) ≤ 8 by omega) (show 0 ≤ (m2.1 205) ∧ (m2.1 205) ≤ 4001 by omega)) (fun rr129 k130 => ?_)
                            rcases k130 with ⟨m131, Tm131, Fm131, h132, rfl⟩ | ⟨xx135, m133, hx134, Tm133, Fm133, rfl⟩
                            rotate_left
                            · skip
                              refine Or.inr ⟨_, _, _, _, rfl, ?_⟩
                              exact Or.inr ⟨xx135, (mO m133 [] []), (hx134), Tm133, (fr_m (fr_s Fm133 (fr_m (fr_s Fm123 (fr_m (fr_s Fm2 (fr_m fr_0 rfl rfl) rfl rfl) rfl rfl) rfl rfl) rfl rfl) rfl rfl) rfl rfl), rfl⟩
                            exact h132.elim
              · skip
                refine T_ld 133 (.int (i32 z32)) rfl (fun _ => rfl) ?_
                refine T_ld 135 (.int (i32 122)) rfl (fun _ => rfl) ?_
                refine T_icmp 171 138 rfl rfl rfl (r32 (by omega) (by omega)) ⟨by decide, by decide⟩ (fun (h136 : (122 : Int) < z32) => ?_) (fun (h136 : ¬ ((122 : Int) < z32)) => ?_)
                · skip
                  refine T_ld 172 (.int (i32 z32)) rfl (fun _ => rfl) ?_
                  refine T_ld 174 (.int (i32 48)) rfl (fun _ => rfl) ?_
                  refine T_icmp 246 177 rfl rfl rfl (r32 (by omega) (by omega)) ⟨by decide, by decide⟩ (fun (h137 : z32 < 48) => by exfalso; omega) (fun (h137 : ¬ (z32 < 48)) => ?_)
                  refine T_ld 178 (.int (i32 z32)) rfl (fun _ => rfl) ?_
                  refine T_ld 180 (.int (i32 57)) rfl (fun _ => rfl) ?_
                  refine T_icmp 246 183 rfl rfl rfl (r32 (by omega) (by omega)) ⟨by decide, by decide⟩ (fun (h138 : (57 : Int) < z32) => ?_) (fun (h138 : ¬ ((57 : Int) < z32)) => by exfalso; omega)
                  refine T_ld 247 (.ref 6) rfl (fun _ => rfl) ?_
                  refine T_ld 248 (.ref 6) rfl (fun _ => rfl) ?_
                  refine T_ld 249 (.int (i32 z32)) rfl (fun _ => rfl) ?_
                  refine T_callx 252 56 [.ref 6, .int (i32 z32)] [.ref 6] rfl (fun _ => rfl) rfl rfl (c_tx_scanSign w (mO m2 [(207, (m2.1 205))] []) c N D (by omega) (KTy_mO Tm2 rfl rfl ⟨g10, trivial⟩ trivial) z32 (r32 (by omega) (by omega)) (show 0 ≤ z32 ∧ z32 ≤ 255 by omega) (show (m2.1 205) < (m2.1 204) by rewrite [(show (m2.1 204) = (m.1 204) from (fr1 Fm2 204 rfl))]; omega)) (fun rr139 k140 => ?_)
                  obtain ⟨m141, x142, Tm141, Fm141, g143, rfl⟩ := k140
                  refine Or.inl ⟨_, _, _, _, rfl, ?_⟩
                  refine K_nb (st' := [.int (i32 x142), .ref 6]) rfl ?_
                  obtain ⟨g143a, g143b⟩ := g143
                  have g144 : 0 ≤ m141.1 205 ∧ m141.1 205 ≤ 4001 := Tm141.1 205
                  refine K_pf (l' := [(206, x142)]) 255 x142 rfl rfl kd_6 rfl rfl rfl rfl rfl rfl rfl ?_
                  have g145 : (-1) ≤ x142 ∧ x142 ≤ 65535 := ⟨by omega, by omega⟩
                  refine T_ld 256 (.ref 6) rfl (fun _ => rfl) ?_
                  refine K_gf 259 (.int (i32 x142)) rfl rfl kd_6 rfl rfl rfl ?_
                  refine T_ld 260 (.int (i32 (-1))) rfl (fun _ => rfl) ?_
                  refine T_icmp 272 263 rfl rfl rfl (r32 (by omega) (by omega)) ⟨by decide, by decide⟩ (fun (h146 : x142 ≠ (-1)) => ?_) (fun (h146 : ¬ (x142 ≠ (-1))) => ?_)
                  · skip
                    refine T_ret rfl (fun _ => rfl) ?_
                    exact Or.inl ⟨(mO m141 [(206, x142)] []), (KTy_mO Tm141 rfl rfl ⟨g145, trivial⟩ trivial), (fr_m (fr_s Fm141 (fr_m (fr_s Fm2 (fr_m fr_0 rfl rfl) rfl rfl) rfl rfl) rfl rfl) rfl rfl), (show (m.1 213) = 0 by omega), rfl⟩
                  · skip
                    refine T_ld 264 (.ref 6) rfl (fun _ => rfl) ?_
                    refine T_ld 265 (.int (i32 2)) rfl (fun _ => rfl) ?_
                    refine T_ld 266 (.ref 6) rfl (fun _ => rfl) ?_
                    refine K_gf 269 (.int (i32 (m2.1 205))) rfl rfl kd_6 rfl (kval_c2 (k := 207) (F := fun x => .int (i32 x)) rfl (show (m141.1 207) = (m2.1 205) from (fr1 Fm141 207 rfl))) rfl ?_
                    refine T_callx 272 51 [.ref 6, .int (i32 2), .int (i32 (m2.1 205))] [] rfl (fun _ => rfl) rfl rfl (c_tx_fail w (mO m141 [(206, x142)] []) c N D (by omega) (KTy_mO Tm141 rfl rfl ⟨g145, trivial⟩ trivial) 2 (m2.1 205) ⟨by decide, by decide⟩ (r32 (by omega) (by omega)) (show 1 ≤ (2 : Int) ∧ (2 : Int) ≤ 8 by omega) (show 0 ≤ (m2.1 205) ∧ (m2.1 205) ≤ 4001 by omega)) (fun rr147 k148 => ?_)
                    rcases k148 with ⟨m149, Tm149, Fm149, h150, rfl⟩ | ⟨xx153, m151, hx152, Tm151, Fm151, rfl⟩
                    rotate_left
                    · skip
                      refine Or.inr ⟨_, _, _, _, rfl, ?_⟩
                      exact Or.inr ⟨xx153, (mO m151 [] []), (hx152), Tm151, (fr_m (fr_s Fm151 (fr_m (fr_s Fm141 (fr_m (fr_s Fm2 (fr_m fr_0 rfl rfl) rfl rfl) rfl rfl) rfl rfl) rfl rfl) rfl rfl) rfl rfl), rfl⟩
                    exact h150.elim
                · skip
                  refine T_ld 139 (.ref 6) rfl (fun _ => rfl) ?_
                  refine T_callx 142 52 [.ref 6] [] rfl (fun _ => rfl) rfl rfl (c_tx_scanName w (mO m2 [(207, (m2.1 205))] []) c N D (by omega) (KTy_mO Tm2 rfl rfl ⟨g10, trivial⟩ trivial) (show (m2.1 205) ≤ (m2.1 205) by omega)) (fun rr154 k155 => ?_)
                  obtain ⟨m156, Tm156, Fm156, h157, rfl⟩ := k155
                  refine Or.inl ⟨_, _, _, _, rfl, ?_⟩
                  refine K_nb (st' := []) rfl ?_
                  have g158 : 0 ≤ m156.1 205 ∧ m156.1 205 ≤ 4001 := Tm156.1 205
                  replace h157 : (m2.1 205) ≤ (m156.1 205) := h157
                  refine T_ld 143 (.ref 6) rfl (fun _ => rfl) ?_
                  refine T_ld 144 (.ref 6) rfl (fun _ => rfl) ?_
                  refine K_gf 147 (.int (i32 (m156.1 205))) rfl rfl kd_6 rfl rfl rfl ?_
                  refine T_ld 148 (.ref 6) rfl (fun _ => rfl) ?_
                  refine K_gf 151 (.int (i32 (m2.1 205))) rfl rfl kd_6 rfl (kval_c2 (k := 207) (F := fun x => .int (i32 x)) rfl (show (m156.1 207) = (m2.1 205) from (fr1 Fm156 207 rfl))) rfl ?_
                  refine T_isub 152 rfl rfl ?_
                  refine T_ld 154 (.int (i32 16)) rfl (fun _ => rfl) ?_
                  refine T_icmp 161 157 rfl rfl rfl (r32 (by omega) (by omega)) ⟨by decide, by decide⟩ (fun (h159 : (m156.1 205) - (m2.1 205) ≤ 16) => ?_) (fun (h159 : ¬ ((m156.1 205) - (m2.1 205) ≤ 16)) => ?_)
                  · skip
                    refine T_ld 162 (.ref 6) rfl (fun _ => rfl) ?_
                    refine T_callx 165 53 [.ref 6] [.ref 6] rfl (fun _ => rfl) rfl rfl (c_tx_wordOfName w (mO m156 [] []) c N D (by omega) Tm156 ) (fun rr160 k161 => ?_)
                    obtain ⟨x162, g163, rfl⟩ := k161
                    refine Or.inl ⟨_, _, _, _, rfl, ?_⟩
                    refine T_ns (st' := [.int (i32 x162), .ref 6]) rfl ?_
                    obtain ⟨g163a, g163b⟩ := g163
                    refine K_pf (l' := [(206, x162)]) 168 x162 rfl rfl kd_6 rfl rfl rfl rfl rfl rfl rfl ?_
                    have g164 : (-1) ≤ x162 ∧ x162 ≤ 65535 := ⟨by omega, by omega⟩
                    refine T_goto 255 rfl (fun _ => rfl) ?_
                    refine T_ld 256 (.ref 6) rfl (fun _ => rfl) ?_
                    refine K_gf 259 (.int (i32 x162)) rfl rfl kd_6 rfl rfl rfl ?_
                    refine T_ld 260 (.int (i32 (-1))) rfl (fun _ => rfl) ?_
                    refine T_icmp 272 263 rfl rfl rfl (r32 (by omega) (by omega)) ⟨by decide, by decide⟩ (fun (h165 : x162 ≠ (-1)) => ?_) (fun (h165 : ¬ (x162 ≠ (-1))) => by exfalso; omega)
                    refine T_ret rfl (fun _ => rfl) ?_
                    exact Or.inl ⟨(mO m156 [(206, x162)] []), (KTy_mO Tm156 rfl rfl ⟨g164, trivial⟩ trivial), (fr_m (fr_s Fm156 (fr_m (fr_s Fm2 (fr_m fr_0 rfl rfl) rfl rfl) rfl rfl) rfl rfl) rfl rfl), (show (m.1 213) = 0 by omega), rfl⟩
                  · skip
                    refine T_ld 158 (.int (i32 (-1))) rfl (fun _ => rfl) ?_
                    refine T_goto 165 rfl (fun _ => rfl) ?_
                    refine K_pf (l' := [(206, (-1))]) 168 (-1) rfl rfl kd_6 rfl rfl rfl rfl rfl rfl rfl ?_
                    refine T_goto 255 rfl (fun _ => rfl) ?_
                    refine T_ld 256 (.ref 6) rfl (fun _ => rfl) ?_
                    refine K_gf 259 (.int (i32 (-1))) rfl rfl kd_6 rfl rfl rfl ?_
                    refine T_ld 260 (.int (i32 (-1))) rfl (fun _ => rfl) ?_
                    refine T_icmp 272 263 rfl rfl rfl ⟨by decide, by decide⟩ ⟨by decide, by decide⟩ (fun h166 => absurd (show ((-1) : Int) ≠ (-1) from h166) (by decide)) (fun _ => ?_)
                    refine T_ld 264 (.ref 6) rfl (fun _ => rfl) ?_
                    refine T_ld 265 (.int (i32 2)) rfl (fun _ => rfl) ?_
                    refine T_ld 266 (.ref 6) rfl (fun _ => rfl) ?_
                    refine K_gf 269 (.int (i32 (m2.1 205))) rfl rfl kd_6 rfl (kval_c2 (k := 207) (F := fun x => .int (i32 x)) rfl (show (m156.1 207) = (m2.1 205) from (fr1 Fm156 207 rfl))) rfl ?_
                    refine T_callx 272 51 [.ref 6, .int (i32 2), .int (i32 (m2.1 205))] [] rfl (fun _ => rfl) rfl rfl (c_tx_fail w (mO m156 [(206, (-1))] []) c N D (by omega) (KTy_mO Tm156 rfl rfl ⟨⟨(by omega : ((-1) : Int) ≤ (-1)), (by omega : ((-1) : Int) ≤ 65535)⟩, trivial⟩ trivial) 2 (m2.1 205) ⟨by decide, by decide⟩ (r32 (by omega) (by omega)) (show 1 ≤ (2 : Int) ∧ (2 : Int) ≤ 8 by omega) (show 0 ≤ (m2.1 205) ∧ (m2.1 205) ≤ 4001 by omega)) (fun rr167 k168 => ?_)
                    rcases k168 with ⟨m169, Tm169, Fm169, h170, rfl⟩ | ⟨xx173, m171, hx172, Tm171, Fm171, rfl⟩
                    rotate_left
                    · skip
                      refine Or.inr ⟨_, _, _, _, rfl, ?_⟩
                      exact Or.inr ⟨xx173, (mO m171 [] []), (hx172), Tm171, (fr_m (fr_s Fm171 (fr_m (fr_s Fm156 (fr_m (fr_s Fm2 (fr_m fr_0 rfl rfl) rfl rfl) rfl rfl) rfl rfl) rfl rfl) rfl rfl) rfl rfl), rfl⟩
                    exact h170.elim
            · skip
              refine T_ld 117 (.ref 6) rfl (fun _ => rfl) ?_
              refine T_ld 120 (.int (i32 258)) rfl (fun _ => rfl) ?_
              refine K_pf (l' := [(206, 258), (207, (m2.1 205))]) 123 258 rfl rfl kd_6 rfl rfl rfl rfl rfl rfl rfl ?_
              refine T_goto 255 rfl (fun _ => rfl) ?_
              refine T_ld 256 (.ref 6) rfl (fun _ => rfl) ?_
              refine K_gf 259 (.int (i32 258)) rfl rfl kd_6 rfl rfl rfl ?_
              refine T_ld 260 (.int (i32 (-1))) rfl (fun _ => rfl) ?_
              refine T_icmp 272 263 rfl rfl rfl ⟨by decide, by decide⟩ ⟨by decide, by decide⟩ (fun _ => ?_) (fun h174 => absurd (show (258 : Int) ≠ (-1) by decide) h174)
              refine T_ret rfl (fun _ => rfl) ?_
              exact Or.inl ⟨(mO m2 [(206, 258), (207, (m2.1 205))] []), (KTy_mO Tm2 rfl rfl ⟨⟨(by omega : ((-1) : Int) ≤ 258), (by omega : (258 : Int) ≤ 65535)⟩, g10, trivial⟩ trivial), (fr_m (fr_s Fm2 (fr_m fr_0 rfl rfl) rfl rfl) rfl rfl), (show (m.1 213) = 0 by omega), rfl⟩
        · skip
          refine T_ld 28 (.ref 6) rfl (fun _ => rfl) ?_
          refine K_gf 31 (.ref 2) rfl rfl kd_6 rfl rfl rfl ?_
          refine T_ld 32 (.ref 6) rfl (fun _ => rfl) ?_
          refine K_gf 35 (.int (i32 (m2.1 205))) rfl rfl kd_6 rfl rfl rfl ?_
          refine K_bald 36 1 (m.2 1) rfl rfl rfl (by omega) (show (m2.1 205) < (4000 : Int) by omega) (show (m2.2 1) = (m.2 1) from (fr2 Fm2 1 rfl)) ?_
          have e175 : (-128) ≤ m.2 1 (m2.1 205) ∧ m.2 1 (m2.1 205) ≤ 127 := hT.2.1 1 (m2.1 205)
          refine T_ld 38 (.int (i32 32)) rfl (fun _ => rfl) ?_
          refine T_icmp 55 41 rfl rfl rfl (r32 (by omega) (by omega)) ⟨by decide, by decide⟩ (fun (h176 : (m.2 1) (m2.1 205) = 32) => ?_) (fun (h176 : ¬ ((m.2 1) (m2.1 205) = 32)) => ?_)
          · skip
            refine T_ld 56 (.ref 6) rfl (fun _ => rfl) ?_
            refine T_ld 57 (.ref 6) rfl (fun _ => rfl) ?_
            refine K_gf 60 (.int (i32 (m2.1 205))) rfl rfl kd_6 rfl rfl rfl ?_
            refine T_ld 61 (.int (i32 1)) rfl (fun _ => rfl) ?_
            refine T_iadd 62 rfl rfl ?_
            refine K_pf (l' := [(205, (m2.1 205) + 1)]) 65 ((m2.1 205) + 1) rfl rfl kd_6 rfl rfl rfl rfl rfl rfl rfl ?_
            have g177 : 0 ≤ (m2.1 205) + 1 ∧ (m2.1 205) + 1 ≤ 4001 := ⟨by omega, by omega⟩
            refine T_goto 16 rfl (fun _ => rfl) ?_
            exact ih8 (mO m2 [(205, (m2.1 205) + 1)] []) (KTy_mO Tm2 rfl rfl ⟨g177, trivial⟩ trivial) (fr_m (fr_s Fm2 (fr_m fr_0 rfl rfl) rfl rfl) rfl rfl) (show 0 ≤ ((m2.1 205) + 1) by omega) (show 4001 - ((m2.1 205) + 1) < (n7 : Int) by omega)
          · skip
            refine T_ld 42 (.ref 6) rfl (fun _ => rfl) ?_
            refine K_gf 45 (.ref 2) rfl rfl kd_6 rfl rfl rfl ?_
            refine T_ld 46 (.ref 6) rfl (fun _ => rfl) ?_
            refine K_gf 49 (.int (i32 (m2.1 205))) rfl rfl kd_6 rfl rfl rfl ?_
            refine K_bald 50 1 (m.2 1) rfl rfl rfl (by omega) (show (m2.1 205) < (4000 : Int) by omega) (show (m2.2 1) = (m.2 1) from (fr2 Fm2 1 rfl)) ?_
            have e178 : (-128) ≤ m.2 1 (m2.1 205) ∧ m.2 1 (m2.1 205) ≤ 127 := hT.2.1 1 (m2.1 205)
            refine T_ld 52 (.int (i32 10)) rfl (fun _ => rfl) ?_
            refine T_icmp 68 55 rfl rfl rfl (r32 (by omega) (by omega)) ⟨by decide, by decide⟩ (fun (h179 : (m.2 1) (m2.1 205) ≠ 10) => ?_) (fun (h179 : ¬ ((m.2 1) (m2.1 205) ≠ 10)) => ?_)
            · skip
              refine T_ld 69 (.ref 6) rfl (fun _ => rfl) ?_
              refine T_ld 70 (.ref 6) rfl (fun _ => rfl) ?_
              refine K_gf 73 (.int (i32 (m2.1 205))) rfl rfl kd_6 rfl rfl rfl ?_
              refine K_pf (l' := [(207, (m2.1 205))]) 76 (m2.1 205) rfl rfl kd_6 rfl rfl rfl rfl rfl rfl rfl ?_
              have g180 : 0 ≤ (m2.1 205) ∧ (m2.1 205) ≤ 4001 := ⟨by omega, by omega⟩
              refine T_ld 77 (.ref 6) rfl (fun _ => rfl) ?_
              refine K_gf 80 (.int (i32 (m2.1 205))) rfl rfl kd_6 rfl rfl rfl ?_
              refine T_ld 81 (.ref 6) rfl (fun _ => rfl) ?_
              refine K_gf 84 (.int (i32 (m.1 204))) rfl rfl kd_6 rfl (kval_c2 (k := 204) (F := fun x => .int (i32 x)) rfl (show (m2.1 204) = (m.1 204) from (fr1 Fm2 204 rfl))) rfl ?_
              refine T_icmp 103 87 rfl rfl rfl (r32 (by omega) (by omega)) (r32 (by omega) (by omega)) (fun (h181 : (m.1 204) ≤ (m2.1 205)) => ?_) (fun (h181 : ¬ ((m.1 204) ≤ (m2.1 205))) => ?_)
              · skip
                refine T_ld 104 (.int (i32 0)) rfl (fun _ => rfl) ?_
                refine T_sto 105 [(1, .int (i32 0)), (0, .ref 6)] rfl (fun _ => rfl) ?_
                refine T_ld 106 (.ref 6) rfl (fun _ => rfl) ?_
                refine K_gf 109 (.int (i32 (m2.1 205))) rfl rfl kd_6 rfl rfl rfl ?_
                refine T_ld 110 (.ref 6) rfl (fun _ => rfl) ?_
                refine K_gf 113 (.int (i32 (m.1 204))) rfl rfl kd_6 rfl (kval_c2 (k := 204) (F := fun x => .int (i32 x)) rfl (show (m2.1 204) = (m.1 204) from (fr1 Fm2 204 rfl))) rfl ?_
                refine T_icmp 126 116 rfl rfl rfl (r32 (by omega) (by omega)) (r32 (by omega) (by omega)) (fun (h182 : (m2.1 205) < (m.1 204)) => ?_) (fun (h182 : ¬ ((m2.1 205) < (m.1 204))) => ?_)
                · skip
                  refine T_ld 127 (.int (i32 0)) rfl (fun _ => rfl) ?_
                  refine T_ld 129 (.int (i32 97)) rfl (fun _ => rfl) ?_
                  refine T_icmp 171 132 rfl rfl rfl ⟨by decide, by decide⟩ ⟨by decide, by decide⟩ (fun _ => ?_) (fun h183 => absurd (show (0 : Int) < 97 by decide) h183)
                  refine T_ld 172 (.int (i32 0)) rfl (fun _ => rfl) ?_
                  refine T_ld 174 (.int (i32 48)) rfl (fun _ => rfl) ?_
                  refine T_icmp 246 177 rfl rfl rfl ⟨by decide, by decide⟩ ⟨by decide, by decide⟩ (fun _ => ?_) (fun h184 => absurd (show (0 : Int) < 48 by decide) h184)
                  refine T_ld 247 (.ref 6) rfl (fun _ => rfl) ?_
                  refine T_ld 248 (.ref 6) rfl (fun _ => rfl) ?_
                  refine T_ld 249 (.int (i32 0)) rfl (fun _ => rfl) ?_
                  refine T_callx 252 56 [.ref 6, .int (i32 0)] [.ref 6] rfl (fun _ => rfl) rfl rfl (c_tx_scanSign w (mO m2 [(207, (m2.1 205))] []) c N D (by omega) (KTy_mO Tm2 rfl rfl ⟨g180, trivial⟩ trivial) 0 ⟨by decide, by decide⟩ (show 0 ≤ (0 : Int) ∧ (0 : Int) ≤ 255 by omega) (show (m2.1 205) < (m2.1 204) by rewrite [(show (m2.1 204) = (m.1 204) from (fr1 Fm2 204 rfl))]; omega)) (fun rr185 k186 => ?_)
                  obtain ⟨m187, x188, Tm187, Fm187, g189, rfl⟩ := k186
                  refine Or.inl ⟨_, _, _, _, rfl, ?_⟩
                  refine K_nb (st' := [.int (i32 x188), .ref 6]) rfl ?_
                  obtain ⟨g189a, g189b⟩ := g189
                  have g190 : 0 ≤ m187.1 205 ∧ m187.1 205 ≤ 4001 := Tm187.1 205
                  refine K_pf (l' := [(206, x188)]) 255 x188 rfl rfl kd_6 rfl rfl rfl rfl rfl rfl rfl ?_
                  have g191 : (-1) ≤ x188 ∧ x188 ≤ 65535 := ⟨by omega, by omega⟩
                  refine T_ld 256 (.ref 6) rfl (fun _ => rfl) ?_
                  refine K_gf 259 (.int (i32 x188)) rfl rfl kd_6 rfl rfl rfl ?_
                  refine T_ld 260 (.int (i32 (-1))) rfl (fun _ => rfl) ?_
                  refine T_icmp 272 263 rfl rfl rfl (r32 (by omega) (by omega)) ⟨by decide, by decide⟩ (fun (h192 : x188 ≠ (-1)) => ?_) (fun (h192 : ¬ (x188 ≠ (-1))) => ?_)
                  · skip
                    refine T_ret rfl (fun _ => rfl) ?_
                    exact Or.inl ⟨(mO m187 [(206, x188)] []), (KTy_mO Tm187 rfl rfl ⟨g191, trivial⟩ trivial), (fr_m (fr_s Fm187 (fr_m (fr_s Fm2 (fr_m fr_0 rfl rfl) rfl rfl) rfl rfl) rfl rfl) rfl rfl), (show (m.1 213) = 0 by omega), rfl⟩
                  · skip
                    refine T_ld 264 (.ref 6) rfl (fun _ => rfl) ?_
                    refine T_ld 265 (.int (i32 2)) rfl (fun _ => rfl) ?_
                    refine T_ld 266 (.ref 6) rfl (fun _ => rfl) ?_
                    refine K_gf 269 (.int (i32 (m2.1 205))) rfl rfl kd_6 rfl (kval_c2 (k := 207) (F := fun x => .int (i32 x)) rfl (show (m187.1 207) = (m2.1 205) from (fr1 Fm187 207 rfl))) rfl ?_
                    refine T_callx 272 51 [.ref 6, .int (i32 2), .int (i32 (m2.1 205))] [] rfl (fun _ => rfl) rfl rfl (c_tx_fail w (mO m187 [(206, x188)] []) c N D (by omega) (KTy_mO Tm187 rfl rfl ⟨g191, trivial⟩ trivial) 2 (m2.1 205) ⟨by decide, by decide⟩ (r32 (by omega) (by omega)) (show 1 ≤ (2 : Int) ∧ (2 : Int) ≤ 8 by omega) (show 0 ≤ (m2.1 205) ∧ (m2.1 205) ≤ 4001 by omega)) (fun rr193 k194 => ?_)
                    rcases k194 with ⟨m195, Tm195, Fm195, h196, rfl⟩ | ⟨xx199, m197, hx198, Tm197, Fm197, rfl⟩
                    rotate_left
                    · skip
                      refine Or.inr ⟨_, _, _, _, rfl, ?_⟩
                      exact Or.inr ⟨xx199, (mO m197 [] []), (hx198), Tm197, (fr_m (fr_s Fm197 (fr_m (fr_s Fm187 (fr_m (fr_s Fm2 (fr_m fr_0 rfl rfl) rfl rfl) rfl rfl) rfl rfl) rfl rfl) rfl rfl) rfl rfl), rfl⟩
                    exact h196.elim
                · skip
                  refine T_ld 117 (.ref 6) rfl (fun _ => rfl) ?_
                  refine T_ld 120 (.int (i32 258)) rfl (fun _ => rfl) ?_
                  refine K_pf (l' := [(206, 258), (207, (m2.1 205))]) 123 258 rfl rfl kd_6 rfl rfl rfl rfl rfl rfl rfl ?_
                  refine T_goto 255 rfl (fun _ => rfl) ?_
                  refine T_ld 256 (.ref 6) rfl (fun _ => rfl) ?_
                  refine K_gf 259 (.int (i32 258)) rfl rfl kd_6 rfl rfl rfl ?_
                  refine T_ld 260 (.int (i32 (-1))) rfl (fun _ => rfl) ?_
                  refine T_icmp 272 263 rfl rfl rfl ⟨by decide, by decide⟩ ⟨by decide, by decide⟩ (fun _ => ?_) (fun h200 => absurd (show (258 : Int) ≠ (-1) by decide) h200)
                  refine T_ret rfl (fun _ => rfl) ?_
                  exact Or.inl ⟨(mO m2 [(206, 258), (207, (m2.1 205))] []), (KTy_mO Tm2 rfl rfl ⟨⟨(by omega : ((-1) : Int) ≤ 258), (by omega : (258 : Int) ≤ 65535)⟩, g180, trivial⟩ trivial), (fr_m (fr_s Fm2 (fr_m fr_0 rfl rfl) rfl rfl) rfl rfl), (show (m.1 213) = 0 by omega), rfl⟩
              · skip
                refine T_ld 88 (.ref 6) rfl (fun _ => rfl) ?_
                refine K_gf 91 (.ref 2) rfl rfl kd_6 rfl rfl rfl ?_
                refine T_ld 92 (.ref 6) rfl (fun _ => rfl) ?_
                refine K_gf 95 (.int (i32 (m2.1 205))) rfl rfl kd_6 rfl rfl rfl ?_
                refine K_bald 96 1 (m.2 1) rfl rfl rfl (by omega) (show (m2.1 205) < (4000 : Int) by omega) (show (m2.2 1) = (m.2 1) from (fr2 Fm2 1 rfl)) ?_
                have e201 : (-128) ≤ m.2 1 (m2.1 205) ∧ m.2 1 (m2.1 205) ≤ 127 := hT.2.1 1 (m2.1 205)
                refine T_ld 99 (.int (i32 255)) rfl (fun _ => rfl) ?_
                refine T_iand 100 rfl rfl (by decide) (by decide) (fun z202 h203 => ?_)
                refine T_goto 104 rfl (fun _ => rfl) ?_
                refine T_sto 105 [(1, .int (i32 z202)), (0, .ref 6)] rfl (fun _ => rfl) ?_
                refine T_ld 106 (.ref 6) rfl (fun _ => rfl) ?_
                refine K_gf 109 (.int (i32 (m2.1 205))) rfl rfl kd_6 rfl rfl rfl ?_
                refine T_ld 110 (.ref 6) rfl (fun _ => rfl) ?_
                refine K_gf 113 (.int (i32 (m.1 204))) rfl rfl kd_6 rfl (kval_c2 (k := 204) (F := fun x => .int (i32 x)) rfl (show (m2.1 204) = (m.1 204) from (fr1 Fm2 204 rfl))) rfl ?_
                refine T_icmp 126 116 rfl rfl rfl (r32 (by omega) (by omega)) (r32 (by omega) (by omega)) (fun (h204 : (m2.1 205) < (m.1 204)) => ?_) (fun (h204 : ¬ ((m2.1 205) < (m.1 204))) => ?_)
                · skip
                  refine T_ld 127 (.int (i32 z202)) rfl (fun _ => rfl) ?_
                  refine T_ld 129 (.int (i32 97)) rfl (fun _ => rfl) ?_
                  refine T_icmp 171 132 rfl rfl rfl (r32 (by omega) (by omega)) ⟨by decide, by decide⟩ (fun (h205 : z202 < 97) => ?_) (fun (h205 : ¬ (z202 < 97)) => ?_)
                  · skip
                    refine T_ld 172 (.int (i32 z202)) rfl (fun _ => rfl) ?_
                    refine T_ld 174 (.int (i32 48)) rfl (fun _ => rfl) ?_
                    refine T_icmp 246 177 rfl rfl rfl (r32 (by omega) (by omega)) ⟨by decide, by decide⟩ (fun (h206 : z202 < 48) => ?_) (fun (h206 : ¬ (z202 < 48)) => ?_)
                    · skip
                      refine T_ld 247 (.ref 6) rfl (fun _ => rfl) ?_
                      refine T_ld 248 (.ref 6) rfl (fun _ => rfl) ?_
                      refine T_ld 249 (.int (i32 z202)) rfl (fun _ => rfl) ?_
                      refine T_callx 252 56 [.ref 6, .int (i32 z202)] [.ref 6] rfl (fun _ => rfl) rfl rfl (c_tx_scanSign w (mO m2 [(207, (m2.1 205))] []) c N D (by omega) (KTy_mO Tm2 rfl rfl ⟨g180, trivial⟩ trivial) z202 (r32 (by omega) (by omega)) (show 0 ≤ z202 ∧ z202 ≤ 255 by omega) (show (m2.1 205) < (m2.1 204) by rewrite [(show (m2.1 204) = (m.1 204) from (fr1 Fm2 204 rfl))]; omega)) (fun rr207 k208 => ?_)
                      obtain ⟨m209, x210, Tm209, Fm209, g211, rfl⟩ := k208
                      refine Or.inl ⟨_, _, _, _, rfl, ?_⟩
                      refine K_nb (st' := [.int (i32 x210), .ref 6]) rfl ?_
                      obtain ⟨g211a, g211b⟩ := g211
                      have g212 : 0 ≤ m209.1 205 ∧ m209.1 205 ≤ 4001 := Tm209.1 205
                      refine K_pf (l' := [(206, x210)]) 255 x210 rfl rfl kd_6 rfl rfl rfl rfl rfl rfl rfl ?_
                      have g213 : (-1) ≤ x210 ∧ x210 ≤ 65535 := ⟨by omega, by omega⟩
                      refine T_ld 256 (.ref 6) rfl (fun _ => rfl) ?_
                      refine K_gf 259 (.int (i32 x210)) rfl rfl kd_6 rfl rfl rfl ?_
                      refine T_ld 260 (.int (i32 (-1))) rfl (fun _ => rfl) ?_
                      refine T_icmp 272 263 rfl rfl rfl (r32 (by omega) (by omega)) ⟨by decide, by decide⟩ (fun (h214 : x210 ≠ (-1)) => ?_) (fun (h214 : ¬ (x210 ≠ (-1))) => ?_)
                      · skip
                        refine T_ret rfl (fun _ => rfl) ?_
                        exact Or.inl ⟨(mO m209 [(206, x210)] []), (KTy_mO Tm209 rfl rfl ⟨g213, trivial⟩ trivial), (fr_m (fr_s Fm209 (fr_m (fr_s Fm2 (fr_m fr_0 rfl rfl) rfl rfl) rfl rfl) rfl rfl) rfl rfl), (show (m.1 213) = 0 by omega), rfl⟩
                      · skip
                        refine T_ld 264 (.ref 6) rfl (fun _ => rfl) ?_
                        refine T_ld 265 (.int (i32 2)) rfl (fun _ => rfl) ?_
                        refine T_ld 266 (.ref 6) rfl (fun _ => rfl) ?_
                        refine K_gf 269 (.int (i32 (m2.1 205))) rfl rfl kd_6 rfl (kval_c2 (k := 207) (F := fun x => .int (i32 x)) rfl (show (m209.1 207) = (m2.1 205) from (fr1 Fm209 207 rfl))) rfl ?_
                        refine T_callx 272 51 [.ref 6, .int (i32 2), .int (i32 (m2.1 205))] [] rfl (fun _ => rfl) rfl rfl (c_tx_fail w (mO m209 [(206, x210)] []) c N D (by omega) (KTy_mO Tm209 rfl rfl ⟨g213, trivial⟩ trivial) 2 (m2.1 205) ⟨by decide, by decide⟩ (r32 (by omega) (by omega)) (show 1 ≤ (2 : Int) ∧ (2 : Int) ≤ 8 by omega) (show 0 ≤ (m2.1 205) ∧ (m2.1 205) ≤ 4001 by omega)) (fun rr215 k216 => ?_)
                        rcases k216 with ⟨m217, Tm217, Fm217, h218, rfl⟩ | ⟨xx221, m219, hx220, Tm219, Fm219, rfl⟩
                        rotate_left
                        · skip
                          refine Or.inr ⟨_, _, _, _, rfl, ?_⟩
                          exact Or.inr ⟨xx221, (mO m219 [] []), (hx220), Tm219, (fr_m (fr_s Fm219 (fr_m (fr_s Fm209 (fr_m (fr_s Fm2 (fr_m fr_0 rfl rfl) rfl rfl) rfl rfl) rfl rfl) rfl rfl) rfl rfl) rfl rfl), rfl⟩
                        exact h218.elim
                    · skip
                      refine T_ld 178 (.int (i32 z202)) rfl (fun _ => rfl) ?_
                      refine T_ld 180 (.int (i32 57)) rfl (fun _ => rfl) ?_
                      refine T_icmp 246 183 rfl rfl rfl (r32 (by omega) (by omega)) ⟨by decide, by decide⟩ (fun (h222 : (57 : Int) < z202) => ?_) (fun (h222 : ¬ ((57 : Int) < z202)) => ?_)
                      · skip
                        refine T_ld 247 (.ref 6) rfl (fun _ => rfl) ?_
                        refine T_ld 248 (.ref 6) rfl (fun _ => rfl) ?_
                        refine T_ld 249 (.int (i32 z202)) rfl (fun _ => rfl) ?_
                        refine T_callx 252 56 [.ref 6, .int (i32 z202)] [.ref 6] rfl (fun _ => rfl) rfl rfl (c_tx_scanSign w (mO m2 [(207, (m2.1 205))] []) c N D (by omega) (KTy_mO Tm2 rfl rfl ⟨g180, trivial⟩ trivial) z202 (r32 (by omega) (by omega)) (show 0 ≤ z202 ∧ z202 ≤ 255 by omega) (show (m2.1 205) < (m2.1 204) by rewrite [(show (m2.1 204) = (m.1 204) from (fr1 Fm2 204 rfl))]; omega)) (fun rr223 k224 => ?_)
                        obtain ⟨m225, x226, Tm225, Fm225, g227, rfl⟩ := k224
                        refine Or.inl ⟨_, _, _, _, rfl, ?_⟩
                        refine K_nb (st' := [.int (i32 x226), .ref 6]) rfl ?_
                        obtain ⟨g227a, g227b⟩ := g227
                        have g228 : 0 ≤ m225.1 205 ∧ m225.1 205 ≤ 4001 := Tm225.1 205
                        refine K_pf (l' := [(206, x226)]) 255 x226 rfl rfl kd_6 rfl rfl rfl rfl rfl rfl rfl ?_
                        have g229 : (-1) ≤ x226 ∧ x226 ≤ 65535 := ⟨by omega, by omega⟩
                        refine T_ld 256 (.ref 6) rfl (fun _ => rfl) ?_
                        refine K_gf 259 (.int (i32 x226)) rfl rfl kd_6 rfl rfl rfl ?_
                        refine T_ld 260 (.int (i32 (-1))) rfl (fun _ => rfl) ?_
                        refine T_icmp 272 263 rfl rfl rfl (r32 (by omega) (by omega)) ⟨by decide, by decide⟩ (fun (h230 : x226 ≠ (-1)) => ?_) (fun (h230 : ¬ (x226 ≠ (-1))) => ?_)
                        · skip
                          refine T_ret rfl (fun _ => rfl) ?_
                          exact Or.inl ⟨(mO m225 [(206, x226)] []), (KTy_mO Tm225 rfl rfl ⟨g229, trivial⟩ trivial), (fr_m (fr_s Fm225 (fr_m (fr_s Fm2 (fr_m fr_0 rfl rfl) rfl rfl) rfl rfl) rfl rfl) rfl rfl), (show (m.1 213) = 0 by omega), rfl⟩
                        · skip
                          refine T_ld 264 (.ref 6) rfl (fun _ => rfl) ?_
                          refine T_ld 265 (.int (i32 2)) rfl (fun _ => rfl) ?_
                          refine T_ld 266 (.ref 6) rfl (fun _ => rfl) ?_
                          refine K_gf 269 (.int (i32 (m2.1 205))) rfl rfl kd_6 rfl (kval_c2 (k := 207) (F := fun x => .int (i32 x)) rfl (show (m225.1 207) = (m2.1 205) from (fr1 Fm225 207 rfl))) rfl ?_
                          refine T_callx 272 51 [.ref 6, .int (i32 2), .int (i32 (m2.1 205))] [] rfl (fun _ => rfl) rfl rfl (c_tx_fail w (mO m225 [(206, x226)] []) c N D (by omega) (KTy_mO Tm225 rfl rfl ⟨g229, trivial⟩ trivial) 2 (m2.1 205) ⟨by decide, by decide⟩ (r32 (by omega) (by omega)) (show 1 ≤ (2 : Int) ∧ (2 : Int) ≤ 8 by omega) (show 0 ≤ (m2.1 205) ∧ (m2.1 205) ≤ 4001 by omega)) (fun rr231 k232 => ?_)
                          rcases k232 with ⟨m233, Tm233, Fm233, h234, rfl⟩ | ⟨xx237, m235, hx236, Tm235, Fm235, rfl⟩
                          rotate_left
                          · skip
                            refine Or.inr ⟨_, _, _, _, rfl, ?_⟩
                            exact Or.inr ⟨xx237, (mO m235 [] []), (hx236), Tm235, (fr_m (fr_s Fm235 (fr_m (fr_s Fm225 (fr_m (fr_s Fm2 (fr_m fr_0 rfl rfl) rfl rfl) rfl rfl) rfl rfl) rfl rfl) rfl rfl) rfl rfl), rfl⟩
                          exact h234.elim
                      · skip
                        refine T_ld 184 (.int (i32 z202)) rfl (fun _ => rfl) ?_
                        refine T_ld 186 (.int (i32 48)) rfl (fun _ => rfl) ?_
                        refine T_icmp 222 189 rfl rfl rfl (r32 (by omega) (by omega)) ⟨by decide, by decide⟩ (fun (h238 : z202 ≠ 48) => ?_) (fun (h238 : ¬ (z202 ≠ 48)) => ?_)
                        · skip
                          refine T_ld 223 (.int (i32 0)) rfl (fun _ => rfl) ?_
                          refine T_sto 224 [(2, .int (i32 0)), (1, .int (i32 z202)), (0, .ref 6)] rfl (fun _ => rfl) ?_
                          refine T_ld 225 (.ref 6) rfl (fun _ => rfl) ?_
                          refine T_ld 226 (.int (i32 0)) rfl (fun _ => rfl) ?_
                          refine T_if 236 229 rfl rfl rfl ⟨by decide, by decide⟩ (fun _ => ?_) (fun h239 => absurd (show (0 : Int) = 0 by decide) h239)
                          refine T_ld 237 (.ref 6) rfl (fun _ => rfl) ?_
                          refine T_callx 240 55 [.ref 6] [.ref 6] rfl (fun _ => rfl) rfl rfl (c_tx_scanDecimal w (mO m2 [(207, (m2.1 205))] []) c N D (by omega) (KTy_mO Tm2 rfl rfl ⟨g180, trivial⟩ trivial) ) (fun rr240 k241 => ?_)
                          obtain ⟨m242, x243, Tm242, Fm242, g244, rfl⟩ := k241
                          refine Or.inl ⟨_, _, _, _, rfl, ?_⟩
                          refine K_nb (st' := [.int (i32 x243), .ref 6]) rfl ?_
                          obtain ⟨g244a, g244b⟩ := g244
                          have g245 : 0 ≤ m242.1 205 ∧ m242.1 205 ≤ 4001 := Tm242.1 205
                          refine K_pf (l' := [(206, x243)]) 243 x243 rfl rfl kd_6 rfl rfl rfl rfl rfl rfl rfl ?_
                          have g246 : (-1) ≤ x243 ∧ x243 ≤ 65535 := ⟨by omega, by omega⟩
                          refine T_goto 255 rfl (fun _ => rfl) ?_
                          refine T_ld 256 (.ref 6) rfl (fun _ => rfl) ?_
                          refine K_gf 259 (.int (i32 x243)) rfl rfl kd_6 rfl rfl rfl ?_
                          refine T_ld 260 (.int (i32 (-1))) rfl (fun _ => rfl) ?_
                          refine T_icmp 272 263 rfl rfl rfl (r32 (by omega) (by omega)) ⟨by decide, by decide⟩ (fun (h247 : x243 ≠ (-1)) => ?_) (fun (h247 : ¬ (x243 ≠ (-1))) => ?_)
                          · skip
                            refine T_ret rfl (fun _ => rfl) ?_
                            exact Or.inl ⟨(mO m242 [(206, x243)] []), (KTy_mO Tm242 rfl rfl ⟨g246, trivial⟩ trivial), (fr_m (fr_s Fm242 (fr_m (fr_s Fm2 (fr_m fr_0 rfl rfl) rfl rfl) rfl rfl) rfl rfl) rfl rfl), (show (m.1 213) = 0 by omega), rfl⟩
                          · skip
                            refine T_ld 264 (.ref 6) rfl (fun _ => rfl) ?_
                            refine T_ld 265 (.int (i32 2)) rfl (fun _ => rfl) ?_
                            refine T_ld 266 (.ref 6) rfl (fun _ => rfl) ?_
                            refine K_gf 269 (.int (i32 (m2.1 205))) rfl rfl kd_6 rfl (kval_c2 (k := 207) (F := fun x => .int (i32 x)) rfl (show (m242.1 207) = (m2.1 205) from (fr1 Fm242 207 rfl))) rfl ?_
                            refine T_callx 272 51 [.ref 6, .int (i32 2), .int (i32 (m2.1 205))] [] rfl (fun _ => rfl) rfl rfl (c_tx_fail w (mO m242 [(206, x243)] []) c N D (by omega) (KTy_mO Tm242 rfl rfl ⟨g246, trivial⟩ trivial) 2 (m2.1 205) ⟨by decide, by decide⟩ (r32 (by omega) (by omega)) (show 1 ≤ (2 : Int) ∧ (2 : Int) ≤ 8 by omega) (show 0 ≤ (m2.1 205) ∧ (m2.1 205) ≤ 4001 by omega)) (fun rr248 k249 => ?_)
                            rcases k249 with ⟨m250, Tm250, Fm250, h251, rfl⟩ | ⟨xx254, m252, hx253, Tm252, Fm252, rfl⟩
                            rotate_left
                            · skip
                              refine Or.inr ⟨_, _, _, _, rfl, ?_⟩
                              exact Or.inr ⟨xx254, (mO m252 [] []), (hx253), Tm252, (fr_m (fr_s Fm252 (fr_m (fr_s Fm242 (fr_m (fr_s Fm2 (fr_m fr_0 rfl rfl) rfl rfl) rfl rfl) rfl rfl) rfl rfl) rfl rfl) rfl rfl), rfl⟩
                            exact h251.elim
                        · skip
                          refine T_ld 190 (.ref 6) rfl (fun _ => rfl) ?_
                          refine K_gf 193 (.int (i32 (m2.1 205))) rfl rfl kd_6 rfl rfl rfl ?_
                          refine T_ld 194 (.int (i32 1)) rfl (fun _ => rfl) ?_
                          refine T_iadd 195 rfl rfl ?_
                          refine T_ld 196 (.ref 6) rfl (fun _ => rfl) ?_
                          refine K_gf 199 (.int (i32 (m.1 204))) rfl rfl kd_6 rfl (kval_c2 (k := 204) (F := fun x => .int (i32 x)) rfl (show (m2.1 204) = (m.1 204) from (fr1 Fm2 204 rfl))) rfl ?_
                          refine T_icmp 222 202 rfl rfl rfl (r32 (by omega) (by omega)) (r32 (by omega) (by omega)) (fun (h255 : (m.1 204) ≤ (m2.1 205) + 1) => ?_) (fun (h255 : ¬ ((m.1 204) ≤ (m2.1 205) + 1)) => ?_)
                          · skip
                            refine T_ld 223 (.int (i32 0)) rfl (fun _ => rfl) ?_
                            refine T_sto 224 [(2, .int (i32 0)), (1, .int (i32 z202)), (0, .ref 6)] rfl (fun _ => rfl) ?_
                            refine T_ld 225 (.ref 6) rfl (fun _ => rfl) ?_
                            refine T_ld 226 (.int (i32 0)) rfl (fun _ => rfl) ?_
                            refine T_if 236 229 rfl rfl rfl ⟨by decide, by decide⟩ (fun _ => ?_) (fun h256 => absurd (show (0 : Int) = 0 by decide) h256)
                            refine T_ld 237 (.ref 6) rfl (fun _ => rfl) ?_
                            refine T_callx 240 55 [.ref 6] [.ref 6] rfl (fun _ => rfl) rfl rfl (c_tx_scanDecimal w (mO m2 [(207, (m2.1 205))] []) c N D (by omega) (KTy_mO Tm2 rfl rfl ⟨g180, trivial⟩ trivial) ) (fun rr257 k258 => ?_)
                            obtain ⟨m259, x260, Tm259, Fm259, g261, rfl⟩ := k258
                            refine Or.inl ⟨_, _, _, _, rfl, ?_⟩
                            refine K_nb (st' := [.int (i32 x260), .ref 6]) rfl ?_
                            obtain ⟨g261a, g261b⟩ := g261
                            have g262 : 0 ≤ m259.1 205 ∧ m259.1 205 ≤ 4001 := Tm259.1 205
                            refine K_pf (l' := [(206, x260)]) 243 x260 rfl rfl kd_6 rfl rfl rfl rfl rfl rfl rfl ?_
                            have g263 : (-1) ≤ x260 ∧ x260 ≤ 65535 := ⟨by omega, by omega⟩
                            refine T_goto 255 rfl (fun _ => rfl) ?_
                            refine T_ld 256 (.ref 6) rfl (fun _ => rfl) ?_
                            refine K_gf 259 (.int (i32 x260)) rfl rfl kd_6 rfl rfl rfl ?_
                            refine T_ld 260 (.int (i32 (-1))) rfl (fun _ => rfl) ?_
                            refine T_icmp 272 263 rfl rfl rfl (r32 (by omega) (by omega)) ⟨by decide, by decide⟩ (fun (h264 : x260 ≠ (-1)) => ?_) (fun (h264 : ¬ (x260 ≠ (-1))) => ?_)
                            · skip
                              refine T_ret rfl (fun _ => rfl) ?_
                              exact Or.inl ⟨(mO m259 [(206, x260)] []), (KTy_mO Tm259 rfl rfl ⟨g263, trivial⟩ trivial), (fr_m (fr_s Fm259 (fr_m (fr_s Fm2 (fr_m fr_0 rfl rfl) rfl rfl) rfl rfl) rfl rfl) rfl rfl), (show (m.1 213) = 0 by omega), rfl⟩
                            · skip
                              refine T_ld 264 (.ref 6) rfl (fun _ => rfl) ?_
                              refine T_ld 265 (.int (i32 2)) rfl (fun _ => rfl) ?_
                              refine T_ld 266 (.ref 6) rfl (fun _ => rfl) ?_
                              refine K_gf 269 (.int (i32 (m2.1 205))) rfl rfl kd_6 rfl (kval_c2 (k := 207) (F := fun x => .int (i32 x)) rfl (show (m259.1 207) = (m2.1 205) from (fr1 Fm259 207 rfl))) rfl ?_
                              refine T_callx 272 51 [.ref 6, .int (i32 2), .int (i32 (m2.1 205))] [] rfl (fun _ => rfl) rfl rfl (c_tx_fail w (mO m259 [(206, x260)] []) c N D (by omega) (KTy_mO Tm259 rfl rfl ⟨g263, trivial⟩ trivial) 2 (m2.1 205) ⟨by decide, by decide⟩ (r32 (by omega) (by omega)) (show 1 ≤ (2 : Int) ∧ (2 : Int) ≤ 8 by omega) (show 0 ≤ (m2.1 205) ∧ (m2.1 205) ≤ 4001 by omega)) (fun rr265 k266 => ?_)
                              rcases k266 with ⟨m267, Tm267, Fm267, h268, rfl⟩ | ⟨xx271, m269, hx270, Tm269, Fm269, rfl⟩
                              rotate_left
                              · skip
                                refine Or.inr ⟨_, _, _, _, rfl, ?_⟩
                                exact Or.inr ⟨xx271, (mO m269 [] []), (hx270), Tm269, (fr_m (fr_s Fm269 (fr_m (fr_s Fm259 (fr_m (fr_s Fm2 (fr_m fr_0 rfl rfl) rfl rfl) rfl rfl) rfl rfl) rfl rfl) rfl rfl) rfl rfl), rfl⟩
                              exact h268.elim
                          · skip
                            refine T_ld 203 (.ref 6) rfl (fun _ => rfl) ?_
                            refine K_gf 206 (.ref 2) rfl rfl kd_6 rfl rfl rfl ?_
                            refine T_ld 207 (.ref 6) rfl (fun _ => rfl) ?_
                            refine K_gf 210 (.int (i32 (m2.1 205))) rfl rfl kd_6 rfl rfl rfl ?_
                            refine T_ld 211 (.int (i32 1)) rfl (fun _ => rfl) ?_
                            refine T_iadd 212 rfl rfl ?_
                            refine K_bald 213 1 (m.2 1) rfl rfl rfl (by omega) (show ((m2.1 205) + 1) < (4000 : Int) by omega) (show (m2.2 1) = (m.2 1) from (fr2 Fm2 1 rfl)) ?_
                            have e272 : (-128) ≤ m.2 1 ((m2.1 205) + 1) ∧ m.2 1 ((m2.1 205) + 1) ≤ 127 := hT.2.1 1 ((m2.1 205) + 1)
                            refine T_ld 215 (.int (i32 120)) rfl (fun _ => rfl) ?_
                            refine T_icmp 222 218 rfl rfl rfl (r32 (by omega) (by omega)) ⟨by decide, by decide⟩ (fun (h273 : (m.2 1) ((m2.1 205) + 1) ≠ 120) => ?_) (fun (h273 : ¬ ((m.2 1) ((m2.1 205) + 1) ≠ 120)) => ?_)
                            · skip
                              refine T_ld 223 (.int (i32 0)) rfl (fun _ => rfl) ?_
                              refine T_sto 224 [(2, .int (i32 0)), (1, .int (i32 z202)), (0, .ref 6)] rfl (fun _ => rfl) ?_
                              refine T_ld 225 (.ref 6) rfl (fun _ => rfl) ?_
                              refine T_ld 226 (.int (i32 0)) rfl (fun _ => rfl) ?_
                              refine T_if 236 229 rfl rfl rfl ⟨by decide, by decide⟩ (fun _ => ?_) (fun h274 => absurd (show (0 : Int) = 0 by decide) h274)
                              refine T_ld 237 (.ref 6) rfl (fun _ => rfl) ?_
                              refine T_callx 240 55 [.ref 6] [.ref 6] rfl (fun _ => rfl) rfl rfl (c_tx_scanDecimal w (mO m2 [(207, (m2.1 205))] []) c N D (by omega) (KTy_mO Tm2 rfl rfl ⟨g180, trivial⟩ trivial) ) (fun rr275 k276 => ?_)
                              obtain ⟨m277, x278, Tm277, Fm277, g279, rfl⟩ := k276
                              refine Or.inl ⟨_, _, _, _, rfl, ?_⟩
                              refine K_nb (st' := [.int (i32 x278), .ref 6]) rfl ?_
                              obtain ⟨g279a, g279b⟩ := g279
                              have g280 : 0 ≤ m277.1 205 ∧ m277.1 205 ≤ 4001 := Tm277.1 205
                              refine K_pf (l' := [(206, x278)]) 243 x278 rfl rfl kd_6 rfl rfl rfl rfl rfl rfl rfl ?_
                              have g281 : (-1) ≤ x278 ∧ x278 ≤ 65535 := ⟨by omega, by omega⟩
                              refine T_goto 255 rfl (fun _ => rfl) ?_
                              refine T_ld 256 (.ref 6) rfl (fun _ => rfl) ?_
                              refine K_gf 259 (.int (i32 x278)) rfl rfl kd_6 rfl rfl rfl ?_
                              refine T_ld 260 (.int (i32 (-1))) rfl (fun _ => rfl) ?_
                              refine T_icmp 272 263 rfl rfl rfl (r32 (by omega) (by omega)) ⟨by decide, by decide⟩ (fun (h282 : x278 ≠ (-1)) => ?_) (fun (h282 : ¬ (x278 ≠ (-1))) => ?_)
                              · skip
                                refine T_ret rfl (fun _ => rfl) ?_
                                exact Or.inl ⟨(mO m277 [(206, x278)] []), (KTy_mO Tm277 rfl rfl ⟨g281, trivial⟩ trivial), (fr_m (fr_s Fm277 (fr_m (fr_s Fm2 (fr_m fr_0 rfl rfl) rfl rfl) rfl rfl) rfl rfl) rfl rfl), (show (m.1 213) = 0 by omega), rfl⟩
                              · skip
                                refine T_ld 264 (.ref 6) rfl (fun _ => rfl) ?_
                                refine T_ld 265 (.int (i32 2)) rfl (fun _ => rfl) ?_
                                refine T_ld 266 (.ref 6) rfl (fun _ => rfl) ?_
                                refine K_gf 269 (.int (i32 (m2.1 205))) rfl rfl kd_6 rfl (kval_c2 (k := 207) (F := fun x => .int (i32 x)) rfl (show (m277.1 207) = (m2.1 205) from (fr1 Fm277 207 rfl))) rfl ?_
                                refine T_callx 272 51 [.ref 6, .int (i32 2), .int (i32 (m2.1 205))] [] rfl (fun _ => rfl) rfl rfl (c_tx_fail w (mO m277 [(206, x278)] []) c N D (by omega) (KTy_mO Tm277 rfl rfl ⟨g281, trivial⟩ trivial) 2 (m2.1 205) ⟨by decide, by decide⟩ (r32 (by omega) (by omega)) (show 1 ≤ (2 : Int) ∧ (2 : Int) ≤ 8 by omega) (show 0 ≤ (m2.1 205) ∧ (m2.1 205) ≤ 4001 by omega)) (fun rr283 k284 => ?_)
                                rcases k284 with ⟨m285, Tm285, Fm285, h286, rfl⟩ | ⟨xx289, m287, hx288, Tm287, Fm287, rfl⟩
                                rotate_left
                                · skip
                                  refine Or.inr ⟨_, _, _, _, rfl, ?_⟩
                                  exact Or.inr ⟨xx289, (mO m287 [] []), (hx288), Tm287, (fr_m (fr_s Fm287 (fr_m (fr_s Fm277 (fr_m (fr_s Fm2 (fr_m fr_0 rfl rfl) rfl rfl) rfl rfl) rfl rfl) rfl rfl) rfl rfl) rfl rfl), rfl⟩
                                exact h286.elim
                            · skip
                              refine T_ld 219 (.int (i32 1)) rfl (fun _ => rfl) ?_
                              refine T_goto 223 rfl (fun _ => rfl) ?_
                              refine T_sto 224 [(2, .int (i32 1)), (1, .int (i32 z202)), (0, .ref 6)] rfl (fun _ => rfl) ?_
                              refine T_ld 225 (.ref 6) rfl (fun _ => rfl) ?_
                              refine T_ld 226 (.int (i32 1)) rfl (fun _ => rfl) ?_
                              refine T_if 236 229 rfl rfl rfl ⟨by decide, by decide⟩ (fun h290 => absurd (show (1 : Int) = 0 from h290) (by decide)) (fun _ => ?_)
                              refine T_ld 230 (.ref 6) rfl (fun _ => rfl) ?_
                              refine T_callx 233 54 [.ref 6] [.ref 6] rfl (fun _ => rfl) rfl rfl (c_tx_scanHex w (mO m2 [(207, (m2.1 205))] []) c N D (by omega) (KTy_mO Tm2 rfl rfl ⟨g180, trivial⟩ trivial) (show (m2.1 205) + 2 ≤ (m2.1 204) by rewrite [(show (m2.1 204) = (m.1 204) from (fr1 Fm2 204 rfl))]; omega)) (fun rr291 k292 => ?_)
                              obtain ⟨m293, x294, Tm293, Fm293, g295, rfl⟩ := k292
                              refine Or.inl ⟨_, _, _, _, rfl, ?_⟩
                              refine K_nb (st' := [.int (i32 x294), .ref 6]) rfl ?_
                              obtain ⟨g295a, g295b⟩ := g295
                              have g296 : 0 ≤ m293.1 205 ∧ m293.1 205 ≤ 4001 := Tm293.1 205
                              refine T_goto 240 rfl (fun _ => rfl) ?_
                              refine K_pf (l' := [(206, x294)]) 243 x294 rfl rfl kd_6 rfl rfl rfl rfl rfl rfl rfl ?_
                              have g297 : (-1) ≤ x294 ∧ x294 ≤ 65535 := ⟨by omega, by omega⟩
                              refine T_goto 255 rfl (fun _ => rfl) ?_
                              refine T_ld 256 (.ref 6) rfl (fun _ => rfl) ?_
                              refine K_gf 259 (.int (i32 x294)) rfl rfl kd_6 rfl rfl rfl ?_
                              refine T_ld 260 (.int (i32 (-1))) rfl (fun _ => rfl) ?_
                              refine T_icmp 272 263 rfl rfl rfl (r32 (by omega) (by omega)) ⟨by decide, by decide⟩ (fun (h298 : x294 ≠ (-1)) => ?_) (fun (h298 : ¬ (x294 ≠ (-1))) => ?_)
                              · skip
                                refine T_ret rfl (fun _ => rfl) ?_
                                exact Or.inl ⟨(mO m293 [(206, x294)] []), (KTy_mO Tm293 rfl rfl ⟨g297, trivial⟩ trivial), (fr_m (fr_s Fm293 (fr_m (fr_s Fm2 (fr_m fr_0 rfl rfl) rfl rfl) rfl rfl) rfl rfl) rfl rfl), (show (m.1 213) = 0 by omega), rfl⟩
                              · skip
                                refine T_ld 264 (.ref 6) rfl (fun _ => rfl) ?_
                                refine T_ld 265 (.int (i32 2)) rfl (fun _ => rfl) ?_
                                refine T_ld 266 (.ref 6) rfl (fun _ => rfl) ?_
                                refine K_gf 269 (.int (i32 (m2.1 205))) rfl rfl kd_6 rfl (kval_c2 (k := 207) (F := fun x => .int (i32 x)) rfl (show (m293.1 207) = (m2.1 205) from (fr1 Fm293 207 rfl))) rfl ?_
                                refine T_callx 272 51 [.ref 6, .int (i32 2), .int (i32 (m2.1 205))] [] rfl (fun _ => rfl) rfl rfl (c_tx_fail w (mO m293 [(206, x294)] []) c N D (by omega) (KTy_mO Tm293 rfl rfl ⟨g297, trivial⟩ trivial) 2 (m2.1 205) ⟨by decide, by decide⟩ (r32 (by omega) (by omega)) (show 1 ≤ (2 : Int) ∧ (2 : Int) ≤ 8 by omega) (show 0 ≤ (m2.1 205) ∧ (m2.1 205) ≤ 4001 by omega)) (fun rr299 k300 => ?_)
                                rcases k300 with ⟨m301, Tm301, Fm301, h302, rfl⟩ | ⟨xx305, m303, hx304, Tm303, Fm303, rfl⟩
                                rotate_left
                                · skip
                                  refine Or.inr ⟨_, _, _, _, rfl, ?_⟩
                                  exact Or.inr ⟨xx305, (mO m303 [] []), (hx304), Tm303, (fr_m (fr_s Fm303 (fr_m (fr_s Fm293 (fr_m (fr_s Fm2 (fr_m fr_0 rfl rfl) rfl rfl) rfl rfl) rfl rfl) rfl rfl) rfl rfl) rfl rfl), rfl⟩
                                exact h302.elim
                  · skip
                    refine T_ld 133 (.int (i32 z202)) rfl (fun _ => rfl) ?_
                    refine T_ld 135 (.int (i32 122)) rfl (fun _ => rfl) ?_
                    refine T_icmp 171 138 rfl rfl rfl (r32 (by omega) (by omega)) ⟨by decide, by decide⟩ (fun (h306 : (122 : Int) < z202) => ?_) (fun (h306 : ¬ ((122 : Int) < z202)) => ?_)
                    · skip
                      refine T_ld 172 (.int (i32 z202)) rfl (fun _ => rfl) ?_
                      refine T_ld 174 (.int (i32 48)) rfl (fun _ => rfl) ?_
                      refine T_icmp 246 177 rfl rfl rfl (r32 (by omega) (by omega)) ⟨by decide, by decide⟩ (fun (h307 : z202 < 48) => by exfalso; omega) (fun (h307 : ¬ (z202 < 48)) => ?_)
                      refine T_ld 178 (.int (i32 z202)) rfl (fun _ => rfl) ?_
                      refine T_ld 180 (.int (i32 57)) rfl (fun _ => rfl) ?_
                      refine T_icmp 246 183 rfl rfl rfl (r32 (by omega) (by omega)) ⟨by decide, by decide⟩ (fun (h308 : (57 : Int) < z202) => ?_) (fun (h308 : ¬ ((57 : Int) < z202)) => by exfalso; omega)
                      refine T_ld 247 (.ref 6) rfl (fun _ => rfl) ?_
                      refine T_ld 248 (.ref 6) rfl (fun _ => rfl) ?_
                      refine T_ld 249 (.int (i32 z202)) rfl (fun _ => rfl) ?_
                      refine T_callx 252 56 [.ref 6, .int (i32 z202)] [.ref 6] rfl (fun _ => rfl) rfl rfl (c_tx_scanSign w (mO m2 [(207, (m2.1 205))] []) c N D (by omega) (KTy_mO Tm2 rfl rfl ⟨g180, trivial⟩ trivial) z202 (r32 (by omega) (by omega)) (show 0 ≤ z202 ∧ z202 ≤ 255 by omega) (show (m2.1 205) < (m2.1 204) by rewrite [(show (m2.1 204) = (m.1 204) from (fr1 Fm2 204 rfl))]; omega)) (fun rr309 k310 => ?_)
                      obtain ⟨m311, x312, Tm311, Fm311, g313, rfl⟩ := k310
                      refine Or.inl ⟨_, _, _, _, rfl, ?_⟩
                      refine K_nb (st' := [.int (i32 x312), .ref 6]) rfl ?_
                      obtain ⟨g313a, g313b⟩ := g313
                      have g314 : 0 ≤ m311.1 205 ∧ m311.1 205 ≤ 4001 := Tm311.1 205
                      refine K_pf (l' := [(206, x312)]) 255 x312 rfl rfl kd_6 rfl rfl rfl rfl rfl rfl rfl ?_
                      have g315 : (-1) ≤ x312 ∧ x312 ≤ 65535 := ⟨by omega, by omega⟩
                      refine T_ld 256 (.ref 6) rfl (fun _ => rfl) ?_
                      refine K_gf 259 (.int (i32 x312)) rfl rfl kd_6 rfl rfl rfl ?_
                      refine T_ld 260 (.int (i32 (-1))) rfl (fun _ => rfl) ?_
                      refine T_icmp 272 263 rfl rfl rfl (r32 (by omega) (by omega)) ⟨by decide, by decide⟩ (fun (h316 : x312 ≠ (-1)) => ?_) (fun (h316 : ¬ (x312 ≠ (-1))) => ?_)
                      · skip
                        refine T_ret rfl (fun _ => rfl) ?_
                        exact Or.inl ⟨(mO m311 [(206, x312)] []), (KTy_mO Tm311 rfl rfl ⟨g315, trivial⟩ trivial), (fr_m (fr_s Fm311 (fr_m (fr_s Fm2 (fr_m fr_0 rfl rfl) rfl rfl) rfl rfl) rfl rfl) rfl rfl), (show (m.1 213) = 0 by omega), rfl⟩
                      · skip
                        refine T_ld 264 (.ref 6) rfl (fun _ => rfl) ?_
                        refine T_ld 265 (.int (i32 2)) rfl (fun _ => rfl) ?_
                        refine T_ld 266 (.ref 6) rfl (fun _ => rfl) ?_
                        refine K_gf 269 (.int (i32 (m2.1 205))) rfl rfl kd_6 rfl (kval_c2 (k := 207) (F := fun x => .int (i32 x)) rfl (show (m311.1 207) = (m2.1 205) from (fr1 Fm311 207 rfl))) rfl ?_
                        refine T_callx 272 51 [.ref 6, .int (i32 2), .int (i32 (m2.1 205))] [] rfl (fun _ => rfl) rfl rfl (c_tx_fail w (mO m311 [(206, x312)] []) c N D (by omega) (KTy_mO Tm311 rfl rfl ⟨g315, trivial⟩ trivial) 2 (m2.1 205) ⟨by decide, by decide⟩ (r32 (by omega) (by omega)) (show 1 ≤ (2 : Int) ∧ (2 : Int) ≤ 8 by omega) (show 0 ≤ (m2.1 205) ∧ (m2.1 205) ≤ 4001 by omega)) (fun rr317 k318 => ?_)
                        rcases k318 with ⟨m319, Tm319, Fm319, h320, rfl⟩ | ⟨xx323, m321, hx322, Tm321, Fm321, rfl⟩
                        rotate_left
                        · skip
                          refine Or.inr ⟨_, _, _, _, rfl, ?_⟩
                          exact Or.inr ⟨xx323, (mO m321 [] []), (hx322), Tm321, (fr_m (fr_s Fm321 (fr_m (fr_s Fm311 (fr_m (fr_s Fm2 (fr_m fr_0 rfl rfl) rfl rfl) rfl rfl) rfl rfl) rfl rfl) rfl rfl) rfl rfl), rfl⟩
                        exact h320.elim
                    · skip
                      refine T_ld 139 (.ref 6) rfl (fun _ => rfl) ?_
                      refine T_callx 142 52 [.ref 6] [] rfl (fun _ => rfl) rfl rfl (c_tx_scanName w (mO m2 [(207, (m2.1 205))] []) c N D (by omega) (KTy_mO Tm2 rfl rfl ⟨g180, trivial⟩ trivial) (show (m2.1 205) ≤ (m2.1 205) by omega)) (fun rr324 k325 => ?_)
                      obtain ⟨m326, Tm326, Fm326, h327, rfl⟩ := k325
                      refine Or.inl ⟨_, _, _, _, rfl, ?_⟩
                      refine K_nb (st' := []) rfl ?_
                      have g328 : 0 ≤ m326.1 205 ∧ m326.1 205 ≤ 4001 := Tm326.1 205
                      replace h327 : (m2.1 205) ≤ (m326.1 205) := h327
                      refine T_ld 143 (.ref 6) rfl (fun _ => rfl) ?_
                      refine T_ld 144 (.ref 6) rfl (fun _ => rfl) ?_
                      refine K_gf 147 (.int (i32 (m326.1 205))) rfl rfl kd_6 rfl rfl rfl ?_
                      refine T_ld 148 (.ref 6) rfl (fun _ => rfl) ?_
                      refine K_gf 151 (.int (i32 (m2.1 205))) rfl rfl kd_6 rfl (kval_c2 (k := 207) (F := fun x => .int (i32 x)) rfl (show (m326.1 207) = (m2.1 205) from (fr1 Fm326 207 rfl))) rfl ?_
                      refine T_isub 152 rfl rfl ?_
                      refine T_ld 154 (.int (i32 16)) rfl (fun _ => rfl) ?_
                      refine T_icmp 161 157 rfl rfl rfl (r32 (by omega) (by omega)) ⟨by decide, by decide⟩ (fun (h329 : (m326.1 205) - (m2.1 205) ≤ 16) => ?_) (fun (h329 : ¬ ((m326.1 205) - (m2.1 205) ≤ 16)) => ?_)
                      · skip
                        refine T_ld 162 (.ref 6) rfl (fun _ => rfl) ?_
                        refine T_callx 165 53 [.ref 6] [.ref 6] rfl (fun _ => rfl) rfl rfl (c_tx_wordOfName w (mO m326 [] []) c N D (by omega) Tm326 ) (fun rr330 k331 => ?_)
                        obtain ⟨x332, g333, rfl⟩ := k331
                        refine Or.inl ⟨_, _, _, _, rfl, ?_⟩
                        refine T_ns (st' := [.int (i32 x332), .ref 6]) rfl ?_
                        obtain ⟨g333a, g333b⟩ := g333
                        refine K_pf (l' := [(206, x332)]) 168 x332 rfl rfl kd_6 rfl rfl rfl rfl rfl rfl rfl ?_
                        have g334 : (-1) ≤ x332 ∧ x332 ≤ 65535 := ⟨by omega, by omega⟩
                        refine T_goto 255 rfl (fun _ => rfl) ?_
                        refine T_ld 256 (.ref 6) rfl (fun _ => rfl) ?_
                        refine K_gf 259 (.int (i32 x332)) rfl rfl kd_6 rfl rfl rfl ?_
                        refine T_ld 260 (.int (i32 (-1))) rfl (fun _ => rfl) ?_
                        refine T_icmp 272 263 rfl rfl rfl (r32 (by omega) (by omega)) ⟨by decide, by decide⟩ (fun (h335 : x332 ≠ (-1)) => ?_) (fun (h335 : ¬ (x332 ≠ (-1))) => by exfalso; omega)
                        refine T_ret rfl (fun _ => rfl) ?_
                        exact Or.inl ⟨(mO m326 [(206, x332)] []), (KTy_mO Tm326 rfl rfl ⟨g334, trivial⟩ trivial), (fr_m (fr_s Fm326 (fr_m (fr_s Fm2 (fr_m fr_0 rfl rfl) rfl rfl) rfl rfl) rfl rfl) rfl rfl), (show (m.1 213) = 0 by omega), rfl⟩
                      · skip
                        refine T_ld 158 (.int (i32 (-1))) rfl (fun _ => rfl) ?_
                        refine T_goto 165 rfl (fun _ => rfl) ?_
                        refine K_pf (l' := [(206, (-1))]) 168 (-1) rfl rfl kd_6 rfl rfl rfl rfl rfl rfl rfl ?_
                        refine T_goto 255 rfl (fun _ => rfl) ?_
                        refine T_ld 256 (.ref 6) rfl (fun _ => rfl) ?_
                        refine K_gf 259 (.int (i32 (-1))) rfl rfl kd_6 rfl rfl rfl ?_
                        refine T_ld 260 (.int (i32 (-1))) rfl (fun _ => rfl) ?_
                        refine T_icmp 272 263 rfl rfl rfl ⟨by decide, by decide⟩ ⟨by decide, by decide⟩ (fun h336 => absurd (show ((-1) : Int) ≠ (-1) from h336) (by decide)) (fun _ => ?_)
                        refine T_ld 264 (.ref 6) rfl (fun _ => rfl) ?_
                        refine T_ld 265 (.int (i32 2)) rfl (fun _ => rfl) ?_
                        refine T_ld 266 (.ref 6) rfl (fun _ => rfl) ?_
                        refine K_gf 269 (.int (i32 (m2.1 205))) rfl rfl kd_6 rfl (kval_c2 (k := 207) (F := fun x => .int (i32 x)) rfl (show (m326.1 207) = (m2.1 205) from (fr1 Fm326 207 rfl))) rfl ?_
                        refine T_callx 272 51 [.ref 6, .int (i32 2), .int (i32 (m2.1 205))] [] rfl (fun _ => rfl) rfl rfl (c_tx_fail w (mO m326 [(206, (-1))] []) c N D (by omega) (KTy_mO Tm326 rfl rfl ⟨⟨(by omega : ((-1) : Int) ≤ (-1)), (by omega : ((-1) : Int) ≤ 65535)⟩, trivial⟩ trivial) 2 (m2.1 205) ⟨by decide, by decide⟩ (r32 (by omega) (by omega)) (show 1 ≤ (2 : Int) ∧ (2 : Int) ≤ 8 by omega) (show 0 ≤ (m2.1 205) ∧ (m2.1 205) ≤ 4001 by omega)) (fun rr337 k338 => ?_)
                        rcases k338 with ⟨m339, Tm339, Fm339, h340, rfl⟩ | ⟨xx343, m341, hx342, Tm341, Fm341, rfl⟩
                        rotate_left
                        · skip
                          refine Or.inr ⟨_, _, _, _, rfl, ?_⟩
                          exact Or.inr ⟨xx343, (mO m341 [] []), (hx342), Tm341, (fr_m (fr_s Fm341 (fr_m (fr_s Fm326 (fr_m (fr_s Fm2 (fr_m fr_0 rfl rfl) rfl rfl) rfl rfl) rfl rfl) rfl rfl) rfl rfl) rfl rfl), rfl⟩
                        exact h340.elim
                · skip
                  refine T_ld 117 (.ref 6) rfl (fun _ => rfl) ?_
                  refine T_ld 120 (.int (i32 258)) rfl (fun _ => rfl) ?_
                  refine K_pf (l' := [(206, 258), (207, (m2.1 205))]) 123 258 rfl rfl kd_6 rfl rfl rfl rfl rfl rfl rfl ?_
                  refine T_goto 255 rfl (fun _ => rfl) ?_
                  refine T_ld 256 (.ref 6) rfl (fun _ => rfl) ?_
                  refine K_gf 259 (.int (i32 258)) rfl rfl kd_6 rfl rfl rfl ?_
                  refine T_ld 260 (.int (i32 (-1))) rfl (fun _ => rfl) ?_
                  refine T_icmp 272 263 rfl rfl rfl ⟨by decide, by decide⟩ ⟨by decide, by decide⟩ (fun _ => ?_) (fun h344 => absurd (show (258 : Int) ≠ (-1) by decide) h344)
                  refine T_ret rfl (fun _ => rfl) ?_
                  exact Or.inl ⟨(mO m2 [(206, 258), (207, (m2.1 205))] []), (KTy_mO Tm2 rfl rfl ⟨⟨(by omega : ((-1) : Int) ≤ 258), (by omega : (258 : Int) ≤ 65535)⟩, g180, trivial⟩ trivial), (fr_m (fr_s Fm2 (fr_m fr_0 rfl rfl) rfl rfl) rfl rfl), (show (m.1 213) = 0 by omega), rfl⟩
            · skip
              refine T_ld 56 (.ref 6) rfl (fun _ => rfl) ?_
              refine T_ld 57 (.ref 6) rfl (fun _ => rfl) ?_
              refine K_gf 60 (.int (i32 (m2.1 205))) rfl rfl kd_6 rfl rfl rfl ?_
              refine T_ld 61 (.int (i32 1)) rfl (fun _ => rfl) ?_
              refine T_iadd 62 rfl rfl ?_
              refine K_pf (l' := [(205, (m2.1 205) + 1)]) 65 ((m2.1 205) + 1) rfl rfl kd_6 rfl rfl rfl rfl rfl rfl rfl ?_
              have g345 : 0 ≤ (m2.1 205) + 1 ∧ (m2.1 205) + 1 ≤ 4001 := ⟨by omega, by omega⟩
              refine T_goto 16 rfl (fun _ => rfl) ?_
              exact ih8 (mO m2 [(205, (m2.1 205) + 1)] []) (KTy_mO Tm2 rfl rfl ⟨g345, trivial⟩ trivial) (fr_m (fr_s Fm2 (fr_m fr_0 rfl rfl) rfl rfl) rfl rfl) (show 0 ≤ ((m2.1 205) + 1) by omega) (show 4001 - ((m2.1 205) + 1) < (n7 : Int) by omega)
    exact L16_3 ((4001 - (m.1 205) : Int) + 1).toNat (mO m [] []) hT (fr_m fr_0 rfl rfl) (show 0 ≤ (m.1 205) by omega) (show 4001 - (m.1 205) < ((((4001 - (m.1 205) : Int) + 1).toNat : Nat) : Int) by omega)
  · skip
    refine T_ld 8 (.ref 6) rfl (fun _ => rfl) ?_
    refine T_ld 9 (.int (i32 4)) rfl (fun _ => rfl) ?_
    refine T_ld 10 (.ref 6) rfl (fun _ => rfl) ?_
    refine K_gf 13 (.int (i32 (m.1 207))) rfl rfl kd_6 rfl rfl rfl ?_
    refine T_callx 16 51 [.ref 6, .int (i32 4), .int (i32 (m.1 207))] [] rfl (fun _ => rfl) rfl rfl (c_tx_fail w (mO m [] []) c N D (by omega) hT 4 (m.1 207) ⟨by decide, by decide⟩ (r32 (by omega) (by omega)) (show 1 ≤ (4 : Int) ∧ (4 : Int) ≤ 8 by omega) (show 0 ≤ (m.1 207) ∧ (m.1 207) ≤ 4001 by omega)) (fun rr346 k347 => ?_)
    rcases k347 with ⟨m348, Tm348, Fm348, h349, rfl⟩ | ⟨xx352, m350, hx351, Tm350, Fm350, rfl⟩
    rotate_left
    · skip
      refine Or.inr ⟨_, _, _, _, rfl, ?_⟩
      exact Or.inr ⟨xx352, (mO m350 [] []), (hx351), Tm350, (fr_m (fr_s Fm350 (fr_m fr_0 rfl rfl) rfl rfl) rfl rfl), rfl⟩
    exact h349.elim
def fF_tx_expect : List Nat := [205, 206, 207, 208, 209, 210, 211, 212]
def fA_tx_expect : List Nat := []
def Q_tx_expect (m : mR) (c : Nat → Option am_C) (N : Nat) (x : Int) : ag_Re af_T → Prop := fun R => (∃ (M : mR), KTy M ∧ fr fF_tx_expect fA_tx_expect m M ∧ ((m.1 206) = x) ∧ ((m.1 213) = 0) ∧ R = (.inl (none), (khp M c, N), 0, 0)) ∨ (∃ (x : Nat) (M : mR), (x = 0) ∧ (KTy M) ∧ (fr fF_tx_expect fA_tx_expect m M) ∧ R = (.inr x, (khp M c, N), 1, 6))
set_option maxHeartbeats 3000000 in
theorem c_tx_expect (w : wX) (m : mR) (c : Nat → Option am_C) (N D : Nat) (hD : 8 ≤ D) (hT : KTy m) (x : Int) (qx : R32 x) : TC w D 78 [.ref 6, .int (i32 x)] (khp m c, N) (Q_tx_expect m c N x) := by
  obtain ⟨D, rfl⟩ : ∃ k, D = k + 1 := ⟨D - 1, by omega⟩
  obtain ⟨qxa, qxb⟩ := id qx
  have f206 : (-1) ≤ m.1 206 ∧ m.1 206 ≤ 65535 := hT.1 206
  have f213 : 0 ≤ m.1 213 ∧ m.1 213 ≤ 1 := hT.1 213
  refine Tc_of rfl ?_
  rw [show (khp m c, N) = (khp (mO m [] []) c, N) from by rw [mO_nil m]]
  show TT w D pm_78 (0, [(0, .ref 6), (1, .int (i32 x))], [], (khp (mO m [] []) c, N), 0, 0) (Q_tx_expect m c N x)
  refine T_ld 1 (.ref 6) rfl (fun _ => rfl) ?_
  refine K_gf 4 (.int (i32 (m.1 206))) rfl rfl kd_6 rfl rfl rfl ?_
  refine T_ld 5 (.int (i32 x)) rfl (fun _ => rfl) ?_
  refine T_icmp 12 8 rfl rfl rfl (r32 (by omega) (by omega)) (r32 (by omega) (by omega)) (fun (h1 : (m.1 206) = x) => ?_) (fun (h1 : ¬ ((m.1 206) = x)) => ?_)
  · skip
    refine T_ld 13 (.ref 6) rfl (fun _ => rfl) ?_
    refine T_callx 16 50 [.ref 6] [] rfl (fun _ => rfl) rfl rfl (c_tx_advance w (mO m [] []) c N D (by omega) hT ) (fun rr2 k3 => ?_)
    rcases k3 with ⟨m4, Tm4, Fm4, h5, rfl⟩ | ⟨xx8, m6, hx7, Tm6, Fm6, rfl⟩
    rotate_left
    · skip
      refine Or.inr ⟨_, _, _, _, rfl, ?_⟩
      exact Or.inr ⟨xx8, (mO m6 [] []), (hx7), Tm6, (fr_m (fr_s Fm6 (fr_m fr_0 rfl rfl) rfl rfl) rfl rfl), rfl⟩
    refine Or.inl ⟨_, _, _, _, rfl, ?_⟩
    refine K_nb (st' := []) rfl ?_
    have g9 : (-1) ≤ m4.1 206 ∧ m4.1 206 ≤ 65535 := Tm4.1 206
    replace h5 : (m.1 213) = 0 := h5
    refine T_ret rfl (fun _ => rfl) ?_
    exact Or.inl ⟨(mO m4 [] []), Tm4, (fr_m (fr_s Fm4 (fr_m fr_0 rfl rfl) rfl rfl) rfl rfl), (show (m.1 206) = x by omega), (show (m.1 213) = 0 by omega), rfl⟩
  · skip
    refine T_ld 9 (.ref 6) rfl (fun _ => rfl) ?_
    refine T_callx 12 76 [.ref 6] [] rfl (fun _ => rfl) rfl rfl (c_tx_refuse w (mO m [] []) c N D (by omega) hT ) (fun rr10 k11 => ?_)
    rcases k11 with ⟨m12, Tm12, Fm12, h13, rfl⟩ | ⟨xx16, m14, hx15, Tm14, Fm14, rfl⟩
    rotate_left
    · skip
      refine Or.inr ⟨_, _, _, _, rfl, ?_⟩
      exact Or.inr ⟨xx16, (mO m14 [] []), (hx15), Tm14, (fr_m (fr_s Fm14 (fr_m fr_0 rfl rfl) rfl rfl) rfl rfl), rfl⟩
    exact h13.elim
def fF_tx_within : List Nat := [205, 206, 207, 208, 209, 210, 211, 212]
def fA_tx_within : List Nat := []
def Q_tx_within (m : mR) (c : Nat → Option am_C) (N : Nat) (a : Int) (b : Int) : ag_Re af_T → Prop := fun R => (∃ (M : mR) (r : Int), KTy M ∧ fr fF_tx_within fA_tx_within m M ∧ (0 ≤ r ∧ r ≤ 64) ∧ (a ≤ r ∧ r ≤ b) ∧ ((m.1 213) = 0) ∧ R = (.inl (some (.int (i32 r))), (khp M c, N), 0, 0)) ∨ (∃ (x : Nat) (M : mR), (x = 0) ∧ (KTy M) ∧ (fr fF_tx_within fA_tx_within m M) ∧ R = (.inr x, (khp M c, N), 1, 6))
set_option maxHeartbeats 3000000 in
theorem c_tx_within (w : wX) (m : mR) (c : Nat → Option am_C) (N D : Nat) (hD : 8 ≤ D) (hT : KTy m) (a : Int) (b : Int) (qa : R32 a) (qb : R32 b) (p0 : 0 ≤ a ∧ a ≤ b ∧ b ≤ 64) : TC w D 81 [.ref 6, .int (i32 a), .int (i32 b)] (khp m c, N) (Q_tx_within m c N a b) := by
  obtain ⟨D, rfl⟩ : ∃ k, D = k + 1 := ⟨D - 1, by omega⟩
  obtain ⟨qaa, qab⟩ := id qa
  obtain ⟨qba, qbb⟩ := id qb
  have f206 : (-1) ≤ m.1 206 ∧ m.1 206 ≤ 65535 := hT.1 206
  have f207 : 0 ≤ m.1 207 ∧ m.1 207 ≤ 4001 := hT.1 207
  have f208 : (-9223372036854775808) ≤ m.1 208 ∧ m.1 208 ≤ 9223372036854775807 := hT.1 208
  have f213 : 0 ≤ m.1 213 ∧ m.1 213 ≤ 1 := hT.1 213
  refine Tc_of rfl ?_
  rw [show (khp m c, N) = (khp (mO m [] []) c, N) from by rw [mO_nil m]]
  show TT w D pm_81 (0, [(0, .ref 6), (1, .int (i32 a)), (2, .int (i32 b))], [], (khp (mO m [] []) c, N), 0, 0) (Q_tx_within m c N a b)
  refine T_ld 1 (.ref 6) rfl (fun _ => rfl) ?_
  refine K_gf 4 (.int (i32 (m.1 206))) rfl rfl kd_6 rfl rfl rfl ?_
  refine T_ld 7 (.int (i32 257)) rfl (fun _ => rfl) ?_
  refine T_icmp 14 10 rfl rfl rfl (r32 (by omega) (by omega)) ⟨by decide, by decide⟩ (fun (h1 : (m.1 206) = 257) => ?_) (fun (h1 : ¬ ((m.1 206) = 257)) => ?_)
  · skip
    refine T_ld 15 (.ref 6) rfl (fun _ => rfl) ?_
    refine K_gf 18 (.long (i64 (m.1 208))) rfl rfl kd_6 rfl rfl rfl ?_
    refine T_ld 19 (.int (i32 a)) rfl (fun _ => rfl) ?_
    refine T_i2l 20 rfl rfl (r32 (by omega) (by omega)) ?_
    refine T_lcmp 21 rfl rfl (r64 (by omega) (by omega)) (r64 (by omega) (by omega)) (fun z2 h3 => ?_)
    obtain ⟨h3a, h3b, h3c, h3d, h3e⟩ := h3
    refine T_if 34 24 rfl rfl rfl (r32 (by omega) (by omega)) (fun (h4 : z2 < 0) => ?_) (fun (h4 : ¬ (z2 < 0)) => ?_)
    · skip
      have hl5 : (m.1 208) < a := by omega
      refine T_ld 35 (.ref 6) rfl (fun _ => rfl) ?_
      refine T_ld 36 (.int (i32 5)) rfl (fun _ => rfl) ?_
      refine T_ld 37 (.ref 6) rfl (fun _ => rfl) ?_
      refine K_gf 40 (.int (i32 (m.1 207))) rfl rfl kd_6 rfl rfl rfl ?_
      refine T_callx 43 51 [.ref 6, .int (i32 5), .int (i32 (m.1 207))] [] rfl (fun _ => rfl) rfl rfl (c_tx_fail w (mO m [] []) c N D (by omega) hT 5 (m.1 207) ⟨by decide, by decide⟩ (r32 (by omega) (by omega)) (show 1 ≤ (5 : Int) ∧ (5 : Int) ≤ 8 by omega) (show 0 ≤ (m.1 207) ∧ (m.1 207) ≤ 4001 by omega)) (fun rr6 k7 => ?_)
      rcases k7 with ⟨m8, Tm8, Fm8, h9, rfl⟩ | ⟨xx12, m10, hx11, Tm10, Fm10, rfl⟩
      rotate_left
      · skip
        refine Or.inr ⟨_, _, _, _, rfl, ?_⟩
        exact Or.inr ⟨xx12, (mO m10 [] []), (hx11), Tm10, (fr_m (fr_s Fm10 (fr_m fr_0 rfl rfl) rfl rfl) rfl rfl), rfl⟩
      exact h9.elim
    · skip
      have hl13 : (m.1 208) ≥ a := by omega
      refine T_ld 25 (.ref 6) rfl (fun _ => rfl) ?_
      refine K_gf 28 (.long (i64 (m.1 208))) rfl rfl kd_6 rfl rfl rfl ?_
      refine T_ld 29 (.int (i32 b)) rfl (fun _ => rfl) ?_
      refine T_i2l 30 rfl rfl (r32 (by omega) (by omega)) ?_
      refine T_lcmp 31 rfl rfl (r64 (by omega) (by omega)) (r64 (by omega) (by omega)) (fun z14 h15 => ?_)
      obtain ⟨h15a, h15b, h15c, h15d, h15e⟩ := h15
      refine T_if 43 34 rfl rfl rfl (r32 (by omega) (by omega)) (fun (h16 : z14 ≤ 0) => ?_) (fun (h16 : ¬ (z14 ≤ 0)) => ?_)
      · skip
        have hl17 : (m.1 208) ≤ b := by omega
        refine T_ld 44 (.ref 6) rfl (fun _ => rfl) ?_
        refine K_gf 47 (.long (i64 (m.1 208))) rfl rfl kd_6 rfl rfl rfl ?_
        refine T_l2i 48 rfl rfl ?_
        refine T_sto 49 [(3, .int (i32 (m.1 208))), (0, .ref 6), (1, .int (i32 a)), (2, .int (i32 b))] rfl (fun _ => rfl) ?_
        refine T_ld 50 (.ref 6) rfl (fun _ => rfl) ?_
        refine T_callx 53 50 [.ref 6] [] rfl (fun _ => rfl) rfl rfl (c_tx_advance w (mO m [] []) c N D (by omega) hT ) (fun rr18 k19 => ?_)
        rcases k19 with ⟨m20, Tm20, Fm20, h21, rfl⟩ | ⟨xx24, m22, hx23, Tm22, Fm22, rfl⟩
        rotate_left
        · skip
          refine Or.inr ⟨_, _, _, _, rfl, ?_⟩
          exact Or.inr ⟨xx24, (mO m22 [] []), (hx23), Tm22, (fr_m (fr_s Fm22 (fr_m fr_0 rfl rfl) rfl rfl) rfl rfl), rfl⟩
        refine Or.inl ⟨_, _, _, _, rfl, ?_⟩
        refine K_nb (st' := []) rfl ?_
        have g25 : (-1) ≤ m20.1 206 ∧ m20.1 206 ≤ 65535 := Tm20.1 206
        have g26 : 0 ≤ m20.1 207 ∧ m20.1 207 ≤ 4001 := Tm20.1 207
        have g27 : (-9223372036854775808) ≤ m20.1 208 ∧ m20.1 208 ≤ 9223372036854775807 := Tm20.1 208
        replace h21 : (m.1 213) = 0 := h21
        refine T_ld 54 (.int (i32 (m.1 208))) rfl (fun _ => rfl) ?_
        refine T_ret rfl (fun _ => rfl) ?_
        exact Or.inl ⟨(mO m20 [] []), (m.1 208), Tm20, (fr_m (fr_s Fm20 (fr_m fr_0 rfl rfl) rfl rfl) rfl rfl), ⟨by omega, by omega⟩, (show a ≤ (m.1 208) ∧ (m.1 208) ≤ b by omega), (show (m.1 213) = 0 by omega), rfl⟩
      · skip
        have hl28 : (m.1 208) > b := by omega
        refine T_ld 35 (.ref 6) rfl (fun _ => rfl) ?_
        refine T_ld 36 (.int (i32 5)) rfl (fun _ => rfl) ?_
        refine T_ld 37 (.ref 6) rfl (fun _ => rfl) ?_
        refine K_gf 40 (.int (i32 (m.1 207))) rfl rfl kd_6 rfl rfl rfl ?_
        refine T_callx 43 51 [.ref 6, .int (i32 5), .int (i32 (m.1 207))] [] rfl (fun _ => rfl) rfl rfl (c_tx_fail w (mO m [] []) c N D (by omega) hT 5 (m.1 207) ⟨by decide, by decide⟩ (r32 (by omega) (by omega)) (show 1 ≤ (5 : Int) ∧ (5 : Int) ≤ 8 by omega) (show 0 ≤ (m.1 207) ∧ (m.1 207) ≤ 4001 by omega)) (fun rr29 k30 => ?_)
        rcases k30 with ⟨m31, Tm31, Fm31, h32, rfl⟩ | ⟨xx35, m33, hx34, Tm33, Fm33, rfl⟩
        rotate_left
        · skip
          refine Or.inr ⟨_, _, _, _, rfl, ?_⟩
          exact Or.inr ⟨xx35, (mO m33 [] []), (hx34), Tm33, (fr_m (fr_s Fm33 (fr_m fr_0 rfl rfl) rfl rfl) rfl rfl), rfl⟩
        exact h32.elim
  · skip
    refine T_ld 11 (.ref 6) rfl (fun _ => rfl) ?_
    refine T_callx 14 76 [.ref 6] [] rfl (fun _ => rfl) rfl rfl (c_tx_refuse w (mO m [] []) c N D (by omega) hT ) (fun rr36 k37 => ?_)
    rcases k37 with ⟨m38, Tm38, Fm38, h39, rfl⟩ | ⟨xx42, m40, hx41, Tm40, Fm40, rfl⟩
    rotate_left
    · skip
      refine Or.inr ⟨_, _, _, _, rfl, ?_⟩
      exact Or.inr ⟨xx42, (mO m40 [] []), (hx41), Tm40, (fr_m (fr_s Fm40 (fr_m fr_0 rfl rfl) rfl rfl) rfl rfl), rfl⟩
    exact h39.elim
def fF_tx_makeNew : List Nat := [203, 205, 206, 207, 208, 209, 210, 211, 212]
def fA_tx_makeNew : List Nat := [6, 7, 8, 9]
def Q_tx_makeNew (m : mR) (c : Nat → Option am_C) (N : Nat) (s : Int) (i : Int) (n : Int) : ag_Re af_T → Prop := fun R => (∃ (M : mR), KTy M ∧ fr fF_tx_makeNew fA_tx_makeNew m M ∧ (i < n) ∧ (KMk (m.1 203) (M.1 203) (m.2 8) (M.2 8) (m.2 9) (M.2 9) s i) ∧ ((m.1 213) = 0) ∧ R = (.inl (none), (khp M c, N), 0, 0)) ∨ (∃ (x : Nat) (M : mR), (x = 0) ∧ (KTy M) ∧ (fr fF_tx_makeNew fA_tx_makeNew m M) ∧ R = (.inr x, (khp M c, N), 1, 6))
set_option maxHeartbeats 3000000 in
theorem c_tx_makeNew (w : wX) (m : mR) (c : Nat → Option am_C) (N D : Nat) (hD : 8 ≤ D) (hT : KTy m) (s : Int) (i : Int) (n : Int) (qs : R32 s) (qi : R32 i) (qn : R32 n) (p0 : 0 ≤ s ∧ s ≤ 310) (p1 : 0 ≤ i ∧ n ≤ 16) : TC w D 75 [.ref 6, .int (i32 s), .int (i32 i), .int (i32 n)] (khp m c, N) (Q_tx_makeNew m c N s i n) := by
  obtain ⟨D, rfl⟩ : ∃ k, D = k + 1 := ⟨D - 1, by omega⟩
  obtain ⟨qsa, qsb⟩ := id qs
  obtain ⟨qia, qib⟩ := id qi
  obtain ⟨qna, qnb⟩ := id qn
  have f203 : 0 ≤ m.1 203 ∧ m.1 203 ≤ 90 := hT.1 203
  have f206 : (-1) ≤ m.1 206 ∧ m.1 206 ≤ 65535 := hT.1 206
  have f207 : 0 ≤ m.1 207 ∧ m.1 207 ≤ 4001 := hT.1 207
  have f213 : 0 ≤ m.1 213 ∧ m.1 213 ≤ 1 := hT.1 213
  refine Tc_of rfl ?_
  rw [show (khp m c, N) = (khp (mO m [] []) c, N) from by rw [mO_nil m]]
  show TT w D pm_75 (0, [(0, .ref 6), (1, .int (i32 s)), (2, .int (i32 i)), (3, .int (i32 n))], [], (khp (mO m [] []) c, N), 0, 0) (Q_tx_makeNew m c N s i n)
  refine T_ld 1 (.ref 6) rfl (fun _ => rfl) ?_
  refine K_gf 4 (.int (i32 (m.1 206))) rfl rfl kd_6 rfl rfl rfl ?_
  refine T_ld 7 (.int (i32 256)) rfl (fun _ => rfl) ?_
  refine T_icmp 14 10 rfl rfl rfl (r32 (by omega) (by omega)) ⟨by decide, by decide⟩ (fun (h1 : (m.1 206) = 256) => ?_) (fun (h1 : ¬ ((m.1 206) = 256)) => ?_)
  · skip
    refine T_ld 15 (.int (i32 i)) rfl (fun _ => rfl) ?_
    refine T_ld 16 (.int (i32 n)) rfl (fun _ => rfl) ?_
    refine T_icmp 28 19 rfl rfl rfl (r32 (by omega) (by omega)) (r32 (by omega) (by omega)) (fun (h2 : i < n) => ?_) (fun (h2 : ¬ (i < n)) => ?_)
    · skip
      refine T_ld 29 (.ref 6) rfl (fun _ => rfl) ?_
      refine T_callx 32 77 [.ref 6] [] rfl (fun _ => rfl) rfl rfl (c_tx_find w (mO m [] []) c N D (by omega) hT ) (fun rr3 k4 => ?_)
      obtain ⟨fi, g5, h6, rfl⟩ := k4
      refine Or.inl ⟨_, _, _, _, rfl, ?_⟩
      refine T_ns (st' := [.int (i32 fi)]) rfl ?_
      obtain ⟨g5a, g5b⟩ := g5
      replace h6 : fi < (m.1 203) := h6
      refine T_ld 33 (.int (i32 (-1))) rfl (fun _ => rfl) ?_
      refine T_icmp 45 36 rfl rfl rfl (r32 (by omega) (by omega)) ⟨by decide, by decide⟩ (fun (h7 : fi = (-1)) => ?_) (fun (h7 : ¬ (fi = (-1))) => ?_)
      · skip
        refine T_ld 46 (.ref 6) rfl (fun _ => rfl) ?_
        refine T_ld 47 (.int (i32 s)) rfl (fun _ => rfl) ?_
        refine T_ld 48 (.int (i32 i)) rfl (fun _ => rfl) ?_
        refine T_callx 51 49 [.ref 6, .int (i32 s), .int (i32 i)] [] rfl (fun _ => rfl) rfl rfl (c_tx_makeName w (mO m [] []) c N D (by omega) hT s i (r32 (by omega) (by omega)) (r32 (by omega) (by omega)) (show 0 ≤ s ∧ s ≤ 310 by omega) (show 0 ≤ i ∧ i ≤ 17 by omega)) (fun rr8 k9 => ?_)
        obtain ⟨m10, Tm10, Fm10, h11, rfl⟩ := k9
        refine Or.inl ⟨_, _, _, _, rfl, ?_⟩
        refine K_nb (st' := []) rfl ?_
        have g12 : 0 ≤ m10.1 203 ∧ m10.1 203 ≤ 90 := Tm10.1 203
        replace h11 : KMk (m.1 203) (m10.1 203) (m.2 8) (m10.2 8) (m.2 9) (m10.2 9) s i := h11
        have hMk := h11
        refine T_ld 52 (.ref 6) rfl (fun _ => rfl) ?_
        refine T_callx 55 50 [.ref 6] [] rfl (fun _ => rfl) rfl rfl (c_tx_advance w (mO m10 [] []) c N D (by omega) Tm10 ) (fun rr13 k14 => ?_)
        rcases k14 with ⟨m15, Tm15, Fm15, h16, rfl⟩ | ⟨xx19, m17, hx18, Tm17, Fm17, rfl⟩
        rotate_left
        · skip
          refine Or.inr ⟨_, _, _, _, rfl, ?_⟩
          exact Or.inr ⟨xx19, (mO m17 [] []), (hx18), Tm17, (fr_m (fr_s Fm17 (fr_m (fr_s Fm10 (fr_m fr_0 rfl rfl) rfl rfl) rfl rfl) rfl rfl) rfl rfl), rfl⟩
        refine Or.inl ⟨_, _, _, _, rfl, ?_⟩
        refine K_nb (st' := []) rfl ?_
        have g20 : (-1) ≤ m15.1 206 ∧ m15.1 206 ≤ 65535 := Tm15.1 206
        have g21 : 0 ≤ m15.1 207 ∧ m15.1 207 ≤ 4001 := Tm15.1 207
        replace h16 : (m10.1 213) = 0 := h16
        rewrite [(show (m10.1 213) = (m.1 213) from (fr1 Fm10 213 rfl))] at h16
        refine T_ret rfl (fun _ => rfl) ?_
        exact Or.inl ⟨(mO m15 [] []), Tm15, (fr_m (fr_s Fm15 (fr_m (fr_s Fm10 (fr_m fr_0 rfl rfl) rfl rfl) rfl rfl) rfl rfl) rfl rfl), (show i < n by omega), (show KMk (m.1 203) (m15.1 203) (m.2 8) (m15.2 8) (m.2 9) (m15.2 9) s i by rewrite [(show (m15.1 203) = (m10.1 203) from (fr1 Fm15 203 rfl)), (show (m15.2 8) = (m10.2 8) from (fr2 Fm15 8 rfl)), (show (m15.2 9) = (m10.2 9) from (fr2 Fm15 9 rfl))]; first | (exact hMk) | (exfalso; omega)), (show (m.1 213) = 0 by omega), rfl⟩
      · skip
        refine T_ld 37 (.ref 6) rfl (fun _ => rfl) ?_
        refine T_ld 38 (.int (i32 3)) rfl (fun _ => rfl) ?_
        refine T_ld 39 (.ref 6) rfl (fun _ => rfl) ?_
        refine K_gf 42 (.int (i32 (m.1 207))) rfl rfl kd_6 rfl rfl rfl ?_
        refine T_callx 45 51 [.ref 6, .int (i32 3), .int (i32 (m.1 207))] [] rfl (fun _ => rfl) rfl rfl (c_tx_fail w (mO m [] []) c N D (by omega) hT 3 (m.1 207) ⟨by decide, by decide⟩ (r32 (by omega) (by omega)) (show 1 ≤ (3 : Int) ∧ (3 : Int) ≤ 8 by omega) (show 0 ≤ (m.1 207) ∧ (m.1 207) ≤ 4001 by omega)) (fun rr22 k23 => ?_)
        rcases k23 with ⟨m24, Tm24, Fm24, h25, rfl⟩ | ⟨xx28, m26, hx27, Tm26, Fm26, rfl⟩
        rotate_left
        · skip
          refine Or.inr ⟨_, _, _, _, rfl, ?_⟩
          exact Or.inr ⟨xx28, (mO m26 [] []), (hx27), Tm26, (fr_m (fr_s Fm26 (fr_m fr_0 rfl rfl) rfl rfl) rfl rfl), rfl⟩
        exact h25.elim
    · skip
      refine T_ld 20 (.ref 6) rfl (fun _ => rfl) ?_
      refine T_ld 21 (.int (i32 4)) rfl (fun _ => rfl) ?_
      refine T_ld 22 (.ref 6) rfl (fun _ => rfl) ?_
      refine K_gf 25 (.int (i32 (m.1 207))) rfl rfl kd_6 rfl rfl rfl ?_
      refine T_callx 28 51 [.ref 6, .int (i32 4), .int (i32 (m.1 207))] [] rfl (fun _ => rfl) rfl rfl (c_tx_fail w (mO m [] []) c N D (by omega) hT 4 (m.1 207) ⟨by decide, by decide⟩ (r32 (by omega) (by omega)) (show 1 ≤ (4 : Int) ∧ (4 : Int) ≤ 8 by omega) (show 0 ≤ (m.1 207) ∧ (m.1 207) ≤ 4001 by omega)) (fun rr29 k30 => ?_)
      rcases k30 with ⟨m31, Tm31, Fm31, h32, rfl⟩ | ⟨xx35, m33, hx34, Tm33, Fm33, rfl⟩
      rotate_left
      · skip
        refine Or.inr ⟨_, _, _, _, rfl, ?_⟩
        exact Or.inr ⟨xx35, (mO m33 [] []), (hx34), Tm33, (fr_m (fr_s Fm33 (fr_m fr_0 rfl rfl) rfl rfl) rfl rfl), rfl⟩
      exact h32.elim
  · skip
    refine T_ld 11 (.ref 6) rfl (fun _ => rfl) ?_
    refine T_callx 14 76 [.ref 6] [] rfl (fun _ => rfl) rfl rfl (c_tx_refuse w (mO m [] []) c N D (by omega) hT ) (fun rr36 k37 => ?_)
    rcases k37 with ⟨m38, Tm38, Fm38, h39, rfl⟩ | ⟨xx42, m40, hx41, Tm40, Fm40, rfl⟩
    rotate_left
    · skip
      refine Or.inr ⟨_, _, _, _, rfl, ?_⟩
      exact Or.inr ⟨xx42, (mO m40 [] []), (hx41), Tm40, (fr_m (fr_s Fm40 (fr_m fr_0 rfl rfl) rfl rfl) rfl rfl), rfl⟩
    exact h39.elim
def fF_tx_known : List Nat := [205, 206, 207, 208, 209, 210, 211, 212]
def fA_tx_known : List Nat := []
def Q_tx_known (m : mR) (c : Nat → Option am_C) (N : Nat) (s : Int) : ag_Re af_T → Prop := fun R => (∃ (M : mR) (r : Int), KTy M ∧ fr fF_tx_known fA_tx_known m M ∧ (0 ≤ r ∧ r ≤ 17) ∧ (KNo (m.1 203) (m.2 8) (m.2 9) s r) ∧ ((m.1 213) = 0) ∧ ((m.1 206) = 256) ∧ R = (.inl (some (.int (i32 r))), (khp M c, N), 0, 0)) ∨ (∃ (x : Nat) (M : mR), (x = 0) ∧ (KTy M) ∧ (fr fF_tx_known fA_tx_known m M) ∧ R = (.inr x, (khp M c, N), 1, 6))
set_option maxHeartbeats 3000000 in
theorem c_tx_known (w : wX) (m : mR) (c : Nat → Option am_C) (N D : Nat) (hD : 8 ≤ D) (hT : KTy m) (s : Int) (qs : R32 s) : TC w D 83 [.ref 6, .int (i32 s)] (khp m c, N) (Q_tx_known m c N s) := by
  obtain ⟨D, rfl⟩ : ∃ k, D = k + 1 := ⟨D - 1, by omega⟩
  obtain ⟨qsa, qsb⟩ := id qs
  have f206 : (-1) ≤ m.1 206 ∧ m.1 206 ≤ 65535 := hT.1 206
  have f207 : 0 ≤ m.1 207 ∧ m.1 207 ≤ 4001 := hT.1 207
  have f203 : 0 ≤ m.1 203 ∧ m.1 203 ≤ 90 := hT.1 203
  have f213 : 0 ≤ m.1 213 ∧ m.1 213 ≤ 1 := hT.1 213
  refine Tc_of rfl ?_
  rw [show (khp m c, N) = (khp (mO m [] []) c, N) from by rw [mO_nil m]]
  show TT w D pm_83 (0, [(0, .ref 6), (1, .int (i32 s))], [], (khp (mO m [] []) c, N), 0, 0) (Q_tx_known m c N s)
  refine T_ld 1 (.ref 6) rfl (fun _ => rfl) ?_
  refine K_gf 4 (.int (i32 (m.1 206))) rfl rfl kd_6 rfl rfl rfl ?_
  refine T_ld 7 (.int (i32 256)) rfl (fun _ => rfl) ?_
  refine T_icmp 14 10 rfl rfl rfl (r32 (by omega) (by omega)) ⟨by decide, by decide⟩ (fun (h1 : (m.1 206) = 256) => ?_) (fun (h1 : ¬ ((m.1 206) = 256)) => ?_)
  · skip
    refine T_ld 15 (.ref 6) rfl (fun _ => rfl) ?_
    refine T_ld 16 (.int (i32 s)) rfl (fun _ => rfl) ?_
    refine T_callx 19 84 [.ref 6, .int (i32 s)] [] rfl (fun _ => rfl) rfl rfl (c_tx_indexOf w (mO m [] []) c N D (by omega) hT s (r32 (by omega) (by omega))) (fun rr2 k3 => ?_)
    obtain ⟨io, g4, h5, rfl⟩ := k3
    refine Or.inl ⟨_, _, _, _, rfl, ?_⟩
    refine T_ns (st' := [.int (i32 io)]) rfl ?_
    obtain ⟨g4a, g4b⟩ := g4
    replace h5 : io = -1 ∨ KNo (m.1 203) (m.2 8) (m.2 9) s io := h5
    have hIo := h5
    refine T_sto 20 [(2, .int (i32 io)), (0, .ref 6), (1, .int (i32 s))] rfl (fun _ => rfl) ?_
    refine T_ld 21 (.int (i32 io)) rfl (fun _ => rfl) ?_
    refine T_ld 22 (.int (i32 (-1))) rfl (fun _ => rfl) ?_
    refine T_icmp 35 25 rfl rfl rfl (r32 (by omega) (by omega)) ⟨by decide, by decide⟩ (fun (h6 : io ≠ (-1)) => ?_) (fun (h6 : ¬ (io ≠ (-1))) => ?_)
    · skip
      refine T_ld 36 (.ref 6) rfl (fun _ => rfl) ?_
      refine T_callx 39 50 [.ref 6] [] rfl (fun _ => rfl) rfl rfl (c_tx_advance w (mO m [] []) c N D (by omega) hT ) (fun rr7 k8 => ?_)
      rcases k8 with ⟨m9, Tm9, Fm9, h10, rfl⟩ | ⟨xx13, m11, hx12, Tm11, Fm11, rfl⟩
      rotate_left
      · skip
        refine Or.inr ⟨_, _, _, _, rfl, ?_⟩
        exact Or.inr ⟨xx13, (mO m11 [] []), (hx12), Tm11, (fr_m (fr_s Fm11 (fr_m fr_0 rfl rfl) rfl rfl) rfl rfl), rfl⟩
      refine Or.inl ⟨_, _, _, _, rfl, ?_⟩
      refine K_nb (st' := []) rfl ?_
      have g14 : (-1) ≤ m9.1 206 ∧ m9.1 206 ≤ 65535 := Tm9.1 206
      have g15 : 0 ≤ m9.1 207 ∧ m9.1 207 ≤ 4001 := Tm9.1 207
      replace h10 : (m.1 213) = 0 := h10
      refine T_ld 40 (.int (i32 io)) rfl (fun _ => rfl) ?_
      refine T_ret rfl (fun _ => rfl) ?_
      exact Or.inl ⟨(mO m9 [] []), io, Tm9, (fr_m (fr_s Fm9 (fr_m fr_0 rfl rfl) rfl rfl) rfl rfl), ⟨by omega, by omega⟩, (show KNo (m.1 203) (m.2 8) (m.2 9) s io by first | (exact hIo.elim (fun h => absurd h (by omega)) (fun h => h)) | (exfalso; omega)), (show (m.1 213) = 0 by omega), (show (m.1 206) = 256 by omega), rfl⟩
    · skip
      refine T_ld 26 (.ref 6) rfl (fun _ => rfl) ?_
      refine T_ld 28 (.int (i32 6)) rfl (fun _ => rfl) ?_
      refine T_ld 29 (.ref 6) rfl (fun _ => rfl) ?_
      refine K_gf 32 (.int (i32 (m.1 207))) rfl rfl kd_6 rfl rfl rfl ?_
      refine T_callx 35 51 [.ref 6, .int (i32 6), .int (i32 (m.1 207))] [] rfl (fun _ => rfl) rfl rfl (c_tx_fail w (mO m [] []) c N D (by omega) hT 6 (m.1 207) ⟨by decide, by decide⟩ (r32 (by omega) (by omega)) (show 1 ≤ (6 : Int) ∧ (6 : Int) ≤ 8 by omega) (show 0 ≤ (m.1 207) ∧ (m.1 207) ≤ 4001 by omega)) (fun rr16 k17 => ?_)
      rcases k17 with ⟨m18, Tm18, Fm18, h19, rfl⟩ | ⟨xx22, m20, hx21, Tm20, Fm20, rfl⟩
      rotate_left
      · skip
        refine Or.inr ⟨_, _, _, _, rfl, ?_⟩
        exact Or.inr ⟨xx22, (mO m20 [] []), (hx21), Tm20, (fr_m (fr_s Fm20 (fr_m fr_0 rfl rfl) rfl rfl) rfl rfl), rfl⟩
      exact h19.elim
  · skip
    refine T_ld 11 (.ref 6) rfl (fun _ => rfl) ?_
    refine T_callx 14 76 [.ref 6] [] rfl (fun _ => rfl) rfl rfl (c_tx_refuse w (mO m [] []) c N D (by omega) hT ) (fun rr23 k24 => ?_)
    rcases k24 with ⟨m25, Tm25, Fm25, h26, rfl⟩ | ⟨xx29, m27, hx28, Tm27, Fm27, rfl⟩
    rotate_left
    · skip
      refine Or.inr ⟨_, _, _, _, rfl, ?_⟩
      exact Or.inr ⟨xx29, (mO m27 [] []), (hx28), Tm27, (fr_m (fr_s Fm27 (fr_m fr_0 rfl rfl) rfl rfl) rfl rfl), rfl⟩
    exact h26.elim
def fF_tx_open : List Nat := [203, 204, 205, 206, 207, 208, 209, 210, 211, 212, 213]
def fA_tx_open : List Nat := [6, 7, 8, 9]
def Q_tx_open (m : mR) (c : Nat → Option am_C) (N : Nat) (n : Int) : ag_Re af_T → Prop := fun R => (∃ (M : mR), KTy M ∧ fr fF_tx_open fA_tx_open m M ∧ (KPp (M.1 203) (M.2 8) (M.2 9) (m.1 214) (m.1 215) (m.1 216) (m.1 217) (m.1 221) (m.1 223) (m.1 219)) ∧ R = (.inl (none), (khp M c, N), 0, 0)) ∨ (∃ (x : Nat) (M : mR), (x = 0) ∧ (KTy M) ∧ (fr fF_tx_open fA_tx_open m M) ∧ R = (.inr x, (khp M c, N), 1, 6))
set_option maxHeartbeats 3000000 in
theorem c_tx_open (w : wX) (m : mR) (c : Nat → Option am_C) (N D : Nat) (hD : 8 ≤ D) (hT : KTy m) (n : Int) (qn : R32 n) (hsio : (w.2.2.2).category = 1) (p1 : 0 ≤ n ∧ n ≤ 4000) (p2 : 3 ≤ (m.1 216)) : TC w D 47 [.ref 6, .int (i32 n)] (khp m c, N) (Q_tx_open m c N n) := by
  obtain ⟨D, rfl⟩ : ∃ k, D = k + 1 := ⟨D - 1, by omega⟩
  obtain ⟨qna, qnb⟩ := id qn
  have f203 : 0 ≤ m.1 203 ∧ m.1 203 ≤ 90 := hT.1 203
  have f213 : 0 ≤ m.1 213 ∧ m.1 213 ≤ 1 := hT.1 213
  have f214 : 0 ≤ m.1 214 ∧ m.1 214 ≤ 12 := hT.1 214
  have f215 : 0 ≤ m.1 215 ∧ m.1 215 ≤ 12 := hT.1 215
  have f216 : 0 ≤ m.1 216 ∧ m.1 216 ≤ 16 := hT.1 216
  have f217 : 0 ≤ m.1 217 ∧ m.1 217 ≤ 8 := hT.1 217
  have f219 : 0 ≤ m.1 219 ∧ m.1 219 ≤ 8 := hT.1 219
  have f221 : 0 ≤ m.1 221 ∧ m.1 221 ≤ 16 := hT.1 221
  have f223 : 0 ≤ m.1 223 ∧ m.1 223 ≤ 16 := hT.1 223
  refine Tc_of rfl ?_
  rw [show (khp m c, N) = (khp (mO m [] []) c, N) from by rw [mO_nil m]]
  show TT w D pm_47 (0, [(0, .ref 6), (1, .int (i32 n))], [], (khp (mO m [] []) c, N), 0, 0) (Q_tx_open m c N n)
  refine T_ld 1 (.ref 6) rfl (fun _ => rfl) ?_
  refine T_ld 2 (.int (i32 n)) rfl (fun _ => rfl) ?_
  refine K_pf (l' := [(204, n)]) 5 n rfl rfl kd_6 rfl rfl rfl rfl rfl rfl rfl ?_
  have g1 : 0 ≤ n ∧ n ≤ 4000 := ⟨by omega, by omega⟩
  refine T_ld 6 (.ref 6) rfl (fun _ => rfl) ?_
  refine T_ld 7 (.int (i32 0)) rfl (fun _ => rfl) ?_
  refine K_pf (l' := [(204, n), (205, 0)]) 10 0 rfl rfl kd_6 rfl rfl rfl rfl rfl rfl rfl ?_
  refine T_ld 11 (.ref 6) rfl (fun _ => rfl) ?_
  refine T_ld 12 (.int (i32 0)) rfl (fun _ => rfl) ?_
  refine K_pf (l' := [(203, 0), (204, n), (205, 0)]) 15 0 rfl rfl kd_6 rfl rfl rfl rfl rfl rfl rfl ?_
  refine T_ld 16 (.ref 6) rfl (fun _ => rfl) ?_
  refine T_ld 17 (.int (i32 0)) rfl (fun _ => rfl) ?_
  refine K_pf (l' := [(203, 0), (204, n), (205, 0), (211, 0)]) 20 0 rfl rfl kd_6 rfl rfl rfl rfl rfl rfl rfl ?_
  refine T_ld 21 (.ref 6) rfl (fun _ => rfl) ?_
  refine T_ld 22 (.int (i32 (-1))) rfl (fun _ => rfl) ?_
  refine K_pf (l' := [(203, 0), (204, n), (205, 0), (211, 0), (212, (-1))]) 25 (-1) rfl rfl kd_6 rfl rfl rfl rfl rfl rfl rfl ?_
  refine T_ld 26 (.ref 6) rfl (fun _ => rfl) ?_
  refine T_ld 27 (.int (i32 0)) rfl (fun _ => rfl) ?_
  refine K_pf (l' := [(203, 0), (204, n), (205, 0), (211, 0), (212, (-1)), (213, 0)]) 30 0 rfl rfl kd_6 rfl rfl rfl rfl rfl rfl rfl ?_
  refine T_ld 31 (.ref 6) rfl (fun _ => rfl) ?_
  refine T_ld 33 (.ref 1000003) rfl (fun _ => rfl) ?_
  refine T_ld 36 (.int (i32 302)) rfl (fun _ => rfl) ?_
  refine T_ld 37 (.int (i32 0)) rfl (fun _ => rfl) ?_
  refine T_callx 40 48 [.ref 6, .ref 1000003, .int (i32 302), .int (i32 0)] [] rfl (fun _ => rfl) rfl rfl (c_makeGiven_1 w (mO m [(203, 0), (204, n), (205, 0), (211, 0), (212, (-1)), (213, 0)] []) c N D (by omega) (KTy_mO hT rfl rfl ⟨⟨(by omega : (0 : Int) ≤ 0), (by omega : (0 : Int) ≤ 90)⟩, g1, ⟨(by omega : (0 : Int) ≤ 0), (by omega : (0 : Int) ≤ 4001)⟩, ⟨(by omega : (0 : Int) ≤ 0), (by omega : (0 : Int) ≤ 8)⟩, ⟨(by omega : ((-1) : Int) ≤ (-1)), (by omega : ((-1) : Int) ≤ 4001)⟩, ⟨(by omega : (0 : Int) ≤ 0), (by omega : (0 : Int) ≤ 1)⟩, trivial⟩ trivial) 302 0 ⟨by decide, by decide⟩ ⟨by decide, by decide⟩ (show (w.2.2.2).category = 1 by exact hsio) (show 0 ≤ (302 : Int) ∧ (302 : Int) ≤ 310 by omega) (show 0 ≤ (0 : Int) ∧ (0 : Int) ≤ 17 by omega)) (fun rr2 k3 => ?_)
  obtain ⟨m4, Tm4, Fm4, h5, rfl⟩ := k3
  refine Or.inl ⟨_, _, _, _, rfl, ?_⟩
  refine K_nb (st' := []) rfl ?_
  have g6 : 0 ≤ m4.1 203 ∧ m4.1 203 ≤ 90 := Tm4.1 203
  replace h5 : KMk (0 : Int) (m4.1 203) (m.2 8) (m4.2 8) (m.2 9) (m4.2 9) (302 : Int) (0 : Int) := h5
  have hMk := h5
  have hM1 := hMk
  refine T_ld 41 (.ref 6) rfl (fun _ => rfl) ?_
  refine T_ld 43 (.ref 1000005) rfl (fun _ => rfl) ?_
  refine T_ld 46 (.int (i32 302)) rfl (fun _ => rfl) ?_
  refine T_ld 47 (.int (i32 1)) rfl (fun _ => rfl) ?_
  refine T_callx 50 48 [.ref 6, .ref 1000005, .int (i32 302), .int (i32 1)] [] rfl (fun _ => rfl) rfl rfl (c_makeGiven_2 w (mO m4 [] []) c N D (by omega) Tm4 302 1 ⟨by decide, by decide⟩ ⟨by decide, by decide⟩ (show (w.2.2.2).category = 1 by exact hsio) (show 0 ≤ (302 : Int) ∧ (302 : Int) ≤ 310 by omega) (show 0 ≤ (1 : Int) ∧ (1 : Int) ≤ 17 by omega)) (fun rr7 k8 => ?_)
  obtain ⟨m9, Tm9, Fm9, h10, rfl⟩ := k8
  refine Or.inl ⟨_, _, _, _, rfl, ?_⟩
  refine K_nb (st' := []) rfl ?_
  have g11 : 0 ≤ m9.1 203 ∧ m9.1 203 ≤ 90 := Tm9.1 203
  replace h10 : KMk (m4.1 203) (m9.1 203) (m4.2 8) (m9.2 8) (m4.2 9) (m9.2 9) (302 : Int) (1 : Int) := h10
  have hMk := h10
  have hM2 := hMk
  refine T_ld 51 (.ref 6) rfl (fun _ => rfl) ?_
  refine T_ld 53 (.ref 1000007) rfl (fun _ => rfl) ?_
  refine T_ld 56 (.int (i32 302)) rfl (fun _ => rfl) ?_
  refine T_ld 57 (.int (i32 2)) rfl (fun _ => rfl) ?_
  refine T_callx 60 48 [.ref 6, .ref 1000007, .int (i32 302), .int (i32 2)] [] rfl (fun _ => rfl) rfl rfl (c_makeGiven_3 w (mO m9 [] []) c N D (by omega) Tm9 302 2 ⟨by decide, by decide⟩ ⟨by decide, by decide⟩ (show (w.2.2.2).category = 1 by exact hsio) (show 0 ≤ (302 : Int) ∧ (302 : Int) ≤ 310 by omega) (show 0 ≤ (2 : Int) ∧ (2 : Int) ≤ 17 by omega)) (fun rr12 k13 => ?_)
  obtain ⟨m14, Tm14, Fm14, h15, rfl⟩ := k13
  refine Or.inl ⟨_, _, _, _, rfl, ?_⟩
  refine K_nb (st' := []) rfl ?_
  have g16 : 0 ≤ m14.1 203 ∧ m14.1 203 ≤ 90 := Tm14.1 203
  replace h15 : KMk (m9.1 203) (m14.1 203) (m9.2 8) (m14.2 8) (m9.2 9) (m14.2 9) (302 : Int) (2 : Int) := h15
  have hMk := h15
  have hM3 := hMk
  refine T_ld 61 (.ref 6) rfl (fun _ => rfl) ?_
  refine T_ld 63 (.ref 1000009) rfl (fun _ => rfl) ?_
  refine T_ld 66 (.int (i32 304)) rfl (fun _ => rfl) ?_
  refine T_ld 68 (.int (i32 16)) rfl (fun _ => rfl) ?_
  refine T_callx 71 48 [.ref 6, .ref 1000009, .int (i32 304), .int (i32 16)] [] rfl (fun _ => rfl) rfl rfl (c_makeGiven_4 w (mO m14 [] []) c N D (by omega) Tm14 304 16 ⟨by decide, by decide⟩ ⟨by decide, by decide⟩ (show (w.2.2.2).category = 1 by exact hsio) (show 0 ≤ (304 : Int) ∧ (304 : Int) ≤ 310 by omega) (show 0 ≤ (16 : Int) ∧ (16 : Int) ≤ 17 by omega)) (fun rr17 k18 => ?_)
  obtain ⟨m19, Tm19, Fm19, h20, rfl⟩ := k18
  refine Or.inl ⟨_, _, _, _, rfl, ?_⟩
  refine K_nb (st' := []) rfl ?_
  have g21 : 0 ≤ m19.1 203 ∧ m19.1 203 ≤ 90 := Tm19.1 203
  replace h20 : KMk (m14.1 203) (m19.1 203) (m14.2 8) (m19.2 8) (m14.2 9) (m19.2 9) (304 : Int) (16 : Int) := h20
  have hMk := h20
  have hM4 := hMk
  refine T_ld 72 (.ref 6) rfl (fun _ => rfl) ?_
  refine T_ld 74 (.ref 1000011) rfl (fun _ => rfl) ?_
  refine T_ld 77 (.int (i32 304)) rfl (fun _ => rfl) ?_
  refine T_ld 79 (.int (i32 17)) rfl (fun _ => rfl) ?_
  refine T_callx 82 48 [.ref 6, .ref 1000011, .int (i32 304), .int (i32 17)] [] rfl (fun _ => rfl) rfl rfl (c_makeGiven_5 w (mO m19 [] []) c N D (by omega) Tm19 304 17 ⟨by decide, by decide⟩ ⟨by decide, by decide⟩ (show (w.2.2.2).category = 1 by exact hsio) (show 0 ≤ (304 : Int) ∧ (304 : Int) ≤ 310 by omega) (show 0 ≤ (17 : Int) ∧ (17 : Int) ≤ 17 by omega)) (fun rr22 k23 => ?_)
  obtain ⟨m24, Tm24, Fm24, h25, rfl⟩ := k23
  refine Or.inl ⟨_, _, _, _, rfl, ?_⟩
  refine K_nb (st' := []) rfl ?_
  have g26 : 0 ≤ m24.1 203 ∧ m24.1 203 ≤ 90 := Tm24.1 203
  replace h25 : KMk (m19.1 203) (m24.1 203) (m19.2 8) (m24.2 8) (m19.2 9) (m24.2 9) (304 : Int) (17 : Int) := h25
  have hMk := h25
  have pKP := KPp_mk (KPp_mk (KPp_mk (KPp_mk (KPp_mk (KPp_0 (hd := (m.1 214)) (ins := (m.1 215)) (mt := (m.1 216)) (ar := (m.1 217)) (st := (m.1 221)) (ac := (m.1 223)) (tb := (m.1 219))) hM1 (Int.le_refl _) (Int.le_refl _) (Int.le_refl _) (Int.le_refl _) (Int.le_refl _) (Int.le_refl _) (Int.le_refl _) (by omega)) hM2 (Int.le_refl _) (Int.le_refl _) (Int.le_refl _) (Int.le_refl _) (Int.le_refl _) (Int.le_refl _) (Int.le_refl _) (by omega)) hM3 (Int.le_refl _) (Int.le_refl _) (Int.le_refl _) (Int.le_refl _) (Int.le_refl _) (Int.le_refl _) (Int.le_refl _) (by omega)) hM4 (Int.le_refl _) (Int.le_refl _) (Int.le_refl _) (Int.le_refl _) (Int.le_refl _) (Int.le_refl _) (Int.le_refl _) (by omega)) hMk (Int.le_refl _) (Int.le_refl _) (Int.le_refl _) (Int.le_refl _) (Int.le_refl _) (Int.le_refl _) (Int.le_refl _) (by omega)
  refine T_ld 83 (.ref 6) rfl (fun _ => rfl) ?_
  refine T_callx 86 50 [.ref 6] [] rfl (fun _ => rfl) rfl rfl (c_tx_advance w (mO m24 [] []) c N D (by omega) Tm24 ) (fun rr27 k28 => ?_)
  rcases k28 with ⟨m29, Tm29, Fm29, h30, rfl⟩ | ⟨xx33, m31, hx32, Tm31, Fm31, rfl⟩
  rotate_left
  · skip
    refine Or.inr ⟨_, _, _, _, rfl, ?_⟩
    exact Or.inr ⟨xx33, (mO m31 [] []), (hx32), Tm31, (fr_m (fr_s Fm31 (fr_m (fr_s Fm24 (fr_m (fr_s Fm19 (fr_m (fr_s Fm14 (fr_m (fr_s Fm9 (fr_m (fr_s Fm4 (fr_m fr_0 rfl rfl) rfl rfl) rfl rfl) rfl rfl) rfl rfl) rfl rfl) rfl rfl) rfl rfl) rfl rfl) rfl rfl) rfl rfl) rfl rfl) rfl rfl), rfl⟩
  refine Or.inl ⟨_, _, _, _, rfl, ?_⟩
  refine K_nb (st' := []) rfl ?_
  replace h30 : (m24.1 213) = 0 := h30
  rewrite [(show (m24.1 213) = 0 from ((fr1 Fm24 213 rfl).trans ((fr1 Fm19 213 rfl).trans ((fr1 Fm14 213 rfl).trans ((fr1 Fm9 213 rfl).trans (fr1 Fm4 213 rfl))))))] at h30
  refine T_ret rfl (fun _ => rfl) ?_
  exact Or.inl ⟨(mO m29 [] []), Tm29, (fr_m (fr_s Fm29 (fr_m (fr_s Fm24 (fr_m (fr_s Fm19 (fr_m (fr_s Fm14 (fr_m (fr_s Fm9 (fr_m (fr_s Fm4 (fr_m fr_0 rfl rfl) rfl rfl) rfl rfl) rfl rfl) rfl rfl) rfl rfl) rfl rfl) rfl rfl) rfl rfl) rfl rfl) rfl rfl) rfl rfl) rfl rfl), (show KPp (m29.1 203) (m29.2 8) (m29.2 9) (m.1 214) (m.1 215) (m.1 216) (m.1 217) (m.1 221) (m.1 223) (m.1 219) by rewrite [(show (m29.1 203) = (m24.1 203) from (fr1 Fm29 203 rfl)), (show (m29.2 8) = (m24.2 8) from (fr2 Fm29 8 rfl)), (show (m29.2 9) = (m24.2 9) from (fr2 Fm29 9 rfl))]; first | (exact pKP) | (exfalso; omega)), rfl⟩
