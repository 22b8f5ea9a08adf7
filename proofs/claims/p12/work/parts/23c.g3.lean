def fF_node : List Nat := [10, 11, 28]
def fA_node : List Nat := [65, 66, 67, 68]
def Q_node (m : mR) (c : Nat → Option am_C) (N : Nat) (a : Int) (b : Int) (n : Int) (v : Int) (B : Int) (h : Int) : ag_Re af_T → Prop := fun R => ∃ (M : mR), Ty M ∧ fr fF_node fA_node m M ∧ ((M.1 10) = 0 → (m.1 10) = 0) ∧ (M.1 10 = 0 → ((M.1 28) = (m.1 28) + 1) ∧ (EX (M.2 65) (M.2 67) B (M.1 28) (h + 1 - ar a)) ∧ (agr (m.2 65) (M.2 65) (m.1 28))) ∧ R = (.inl (none), (mhp M c, N), 0, 0)
set_option maxHeartbeats 3000000 in
theorem c_node (w : wX) (m : mR) (c : Nat → Option am_C) (N D : Nat) (hD : 2 ≤ D) (hT : Ty m) (a : Int) (b : Int) (n : Int) (v : Int) (B : Int) (h : Int) (qa : R32 a) (qb : R32 b) (qn : R32 n) (qv : R64 v) (hC : m.1 10 = 0 → (0 ≤ a ∧ a ≤ 408) ∧ (0 ≤ b ∧ b ≤ 64) ∧ (0 ≤ n ∧ n ≤ 191) ∧ (CNk a n) ∧ (ar a ≤ h) ∧ (EX (m.2 65) (m.2 67) B (m.1 28) h)) : TC w D 248 [.ref 189, .int (i32 a), .int (i32 b), .int (i32 n), .long (i64 v)] (mhp m c, N) (Q_node m c N a b n v B h) := by
  obtain ⟨D, rfl⟩ : ∃ k, D = k + 1 := ⟨D - 1, by omega⟩
  obtain ⟨qaa, qab⟩ := id qa
  obtain ⟨qba, qbb⟩ := id qb
  obtain ⟨qna, qnb⟩ := id qn
  obtain ⟨qva, qvb⟩ := id qv
  have f10 : 0 ≤ m.1 10 ∧ m.1 10 ≤ 8 := hT.1 10
  have f11 : (-1) ≤ m.1 11 ∧ m.1 11 ≤ 4000 := hT.1 11
  have f28 : 0 ≤ m.1 28 ∧ m.1 28 ≤ 800 := hT.1 28
  refine Tc_of rfl ?_
  show TT w D pm_248 (0, [(0, .ref 189), (1, .int (i32 a)), (2, .int (i32 b)), (3, .int (i32 n)), (4, .long (i64 v))], [], (mhp (mO m [] []) c, N), 0, 0) (Q_node m c N a b n v B h)
  by_cases hf0 : m.1 10 = 0
  · skip
    obtain ⟨c1, c2, c3, hCk, hAr, hEX⟩ := hC hf0
    refine T_gf 4 (.int (i32 (m.1 10))) rfl rfl rfl rfl rfl rfl ?_
    refine T_if 26 7 rfl rfl rfl (r32 (by omega) (by omega)) (fun (h5 : (m.1 10) ≠ 0) => by exfalso; omega) (fun (h5 : ¬ ((m.1 10) ≠ 0)) => ?_)
    refine T_gf 11 (.int (i32 (m.1 28))) rfl rfl rfl rfl rfl rfl ?_
    refine T_ld 14 (.int (i32 800)) rfl (fun _ => rfl) ?_
    refine T_icmp 26 17 rfl rfl rfl (r32 (by omega) (by omega)) ⟨by decide, by decide⟩ (fun (h6 : (m.1 28) ≠ 800) => ?_) (fun (h6 : ¬ ((m.1 28) ≠ 800)) => ?_)
    · skip
      refine T_gf 30 (.int (i32 (m.1 10))) rfl rfl rfl rfl rfl rfl ?_
      refine T_if 34 33 rfl rfl rfl (r32 (by omega) (by omega)) (fun (h7 : (m.1 10) ≤ 0) => ?_) (fun (h7 : ¬ ((m.1 10) ≤ 0)) => by exfalso; omega)
      refine T_gf 38 (.ref 234) rfl rfl rfl rfl rfl rfl ?_
      refine T_gf 42 (.int (i32 (m.1 28))) rfl rfl rfl rfl rfl rfl ?_
      refine T_ld 43 (.int (i32 a)) rfl (fun _ => rfl) ?_
      have G8 : ∀ j, 0 ≤ (upI (m.2 65) (m.1 28) a) j ∧ (upI (m.2 65) (m.1 28) a) j ≤ 408 := upI_rg (hT.2.1 65) ⟨by omega, by omega⟩
      refine T_iast (a' := [(65, upI (m.2 65) (m.1 28) a)]) 44 65 (m.2 65) rfl rfl rfl (by omega) (show (m.1 28) < (800 : Int) by omega) rfl rfl ?_
      refine T_gf 48 (.ref 235) rfl rfl rfl rfl rfl rfl ?_
      refine T_gf 52 (.int (i32 (m.1 28))) rfl rfl rfl rfl rfl rfl ?_
      refine T_ld 53 (.int (i32 b)) rfl (fun _ => rfl) ?_
      have G9 : ∀ j, 0 ≤ (upI (m.2 66) (m.1 28) b) j ∧ (upI (m.2 66) (m.1 28) b) j ≤ 64 := upI_rg (hT.2.1 66) ⟨by omega, by omega⟩
      refine T_iast (a' := [(65, upI (m.2 65) (m.1 28) a), (66, upI (m.2 66) (m.1 28) b)]) 54 66 (m.2 66) rfl rfl rfl (by omega) (show (m.1 28) < (800 : Int) by omega) rfl rfl ?_
      refine T_gf 58 (.ref 236) rfl rfl rfl rfl rfl rfl ?_
      refine T_gf 62 (.int (i32 (m.1 28))) rfl rfl rfl rfl rfl rfl ?_
      refine T_ld 63 (.int (i32 n)) rfl (fun _ => rfl) ?_
      have G10 : ∀ j, 0 ≤ (upI (m.2 67) (m.1 28) n) j ∧ (upI (m.2 67) (m.1 28) n) j ≤ 191 := upI_rg (hT.2.1 67) ⟨by omega, by omega⟩
      refine T_iast (a' := [(65, upI (m.2 65) (m.1 28) a), (66, upI (m.2 66) (m.1 28) b), (67, upI (m.2 67) (m.1 28) n)]) 64 67 (m.2 67) rfl rfl rfl (by omega) (show (m.1 28) < (800 : Int) by omega) rfl rfl ?_
      refine T_gf 68 (.ref 237) rfl rfl rfl rfl rfl rfl ?_
      refine T_gf 72 (.int (i32 (m.1 28))) rfl rfl rfl rfl rfl rfl ?_
      refine T_ld 74 (.long (i64 v)) rfl (fun _ => rfl) ?_
      have G11 : ∀ j, (-9223372036854775808) ≤ (upI (m.2 68) (m.1 28) v) j ∧ (upI (m.2 68) (m.1 28) v) j ≤ 9223372036854775807 := upI_rg (hT.2.1 68) ⟨by omega, by omega⟩
      refine T_last (a' := [(65, upI (m.2 65) (m.1 28) a), (66, upI (m.2 66) (m.1 28) b), (67, upI (m.2 67) (m.1 28) n), (68, upI (m.2 68) (m.1 28) v)]) 75 68 (m.2 68) rfl rfl rfl (by omega) (show (m.1 28) < (800 : Int) by omega) rfl rfl ?_
      refine T_ld 76 (.ref 189) rfl (fun _ => rfl) ?_
      refine T_ld 77 (.ref 189) rfl (fun _ => rfl) ?_
      refine T_gf1 80 (.int (i32 (m.1 28))) rfl rfl rfl rfl ?_
      refine T_ld 81 (.int (i32 1)) rfl (fun _ => rfl) ?_
      refine T_iadd 82 rfl rfl ?_
      refine T_pf (l' := [(28, (m.1 28) + 1)]) 85 ((m.1 28) + 1) rfl rfl rfl rfl rfl rfl ?_
      have g12 : 0 ≤ (m.1 28) + 1 ∧ (m.1 28) + 1 ≤ 800 := ⟨by omega, by omega⟩
      refine T_ret rfl (fun _ => rfl) ?_
      exact ⟨(mO m [(28, (m.1 28) + 1)] [(65, upI (m.2 65) (m.1 28) a), (66, upI (m.2 66) (m.1 28) b), (67, upI (m.2 67) (m.1 28) n), (68, upI (m.2 68) (m.1 28) v)]), (Ty_mO hT rfl rfl ⟨g12, trivial⟩ ⟨G8, G9, G10, G11, trivial⟩), (fr_m fr_0 rfl rfl), (show (m.1 10) = 0 → (m.1 10) = 0 by omega), (fun _ => ⟨(show ((m.1 28) + 1) = (m.1 28) + 1 by omega), (show EX (upI (m.2 65) (m.1 28) a) (upI (m.2 67) (m.1 28) n) B ((m.1 28) + 1) (h + 1 - ar a) by first | (exact EX_put hEX hAr hCk) | (exfalso; omega)), (show agr (m.2 65) (upI (m.2 65) (m.1 28) a) (m.1 28) by first | (exact agr_u (Int.le_refl _)) | (exfalso; omega))⟩), rfl⟩
    · skip
      refine T_ld 18 (.ref 189) rfl (fun _ => rfl) ?_
      refine T_ld 19 (.int (i32 4)) rfl (fun _ => rfl) ?_
      have f8 : 0 ≤ m.1 8 ∧ m.1 8 ≤ 4000 := hT.1 8
      refine T_gf 23 (.int (i32 (m.1 8))) rfl rfl rfl rfl rfl rfl ?_
      refine T_call 26 222 [.ref 189, .int (i32 4), .int (i32 (m.1 8))] [] rfl (fun _ => rfl) rfl (d_wrong w (mO m [] []) c N D (by omega) hT 4 (m.1 8) ⟨by decide, by decide⟩ (r32 (by omega) (by omega)) (show 1 ≤ (4 : Int) ∧ (4 : Int) ≤ 8 by omega) (show 0 ≤ (m.1 8) ∧ (m.1 8) ≤ 4000 by omega)) (fun rr13 k14 => ?_)
      obtain ⟨m15, Tm15, Fm15, h16, rfl⟩ := k14
      refine ⟨_, _, rfl, ?_⟩
      refine T_nb (st' := []) rfl ?_
      have g17 : 0 ≤ m15.1 10 ∧ m15.1 10 ≤ 8 := Tm15.1 10
      have g18 : (-1) ≤ m15.1 11 ∧ m15.1 11 ≤ 4000 := Tm15.1 11
      replace h16 : (0 < (m.1 10) → (m15.1 10) = (m.1 10) ∧ (m15.1 11) = (m.1 11)) ∧ ((m.1 10) ≤ 0 → (m15.1 10) = (4 : Int) ∧ (m15.1 11) = (m.1 8)) := h16
      have hf19 : 1 ≤ (m15.1 10) := by omega
      refine T_gf 30 (.int (i32 (m15.1 10))) rfl rfl rfl rfl rfl rfl ?_
      refine T_if 34 33 rfl rfl rfl (r32 (by omega) (by omega)) (fun (h20 : (m15.1 10) ≤ 0) => by exfalso; omega) (fun (h20 : ¬ ((m15.1 10) ≤ 0)) => ?_)
      refine T_ret rfl (fun _ => rfl) ?_
      exact ⟨(mO m15 [] []), Tm15, (fr_m (fr_s Fm15 (fr_m fr_0 rfl rfl) rfl rfl) rfl rfl), (show (m15.1 10) = 0 → (m.1 10) = 0 by omega), (fun (h : (m15.1 10) = 0) => absurd h (by omega)), rfl⟩
  · skip
    clear hC
    refine T_gf 4 (.int (i32 (m.1 10))) rfl rfl rfl rfl rfl rfl ?_
    refine T_if 26 7 rfl rfl rfl (r32 (by omega) (by omega)) (fun (h21 : (m.1 10) ≠ 0) => ?_) (fun (h21 : ¬ ((m.1 10) ≠ 0)) => by exfalso; omega)
    refine T_gf 30 (.int (i32 (m.1 10))) rfl rfl rfl rfl rfl rfl ?_
    refine T_if 34 33 rfl rfl rfl (r32 (by omega) (by omega)) (fun (h22 : (m.1 10) ≤ 0) => by exfalso; omega) (fun (h22 : ¬ ((m.1 10) ≤ 0)) => ?_)
    refine T_ret rfl (fun _ => rfl) ?_
    exact ⟨(mO m [] []), hT, (fr_m fr_0 rfl rfl), (show (m.1 10) = 0 → (m.1 10) = 0 by omega), (fun (h : (m.1 10) = 0) => absurd h (by omega)), rfl⟩
def Q_fits (m : mR) (c : Nat → Option am_C) (N : Nat) (v : Int) (b : Int) : ag_Re af_T → Prop := fun R => ∃ (r : Int), (0 ≤ r ∧ r ≤ 1) ∧ R = (.inl (some (.int (i32 r))), (mhp m c, N), 0, 0)
set_option maxHeartbeats 3000000 in
theorem c_fits (w : wX) (m : mR) (c : Nat → Option am_C) (N D : Nat) (hD : 1 ≤ D) (hT : Ty m) (v : Int) (b : Int) (qv : R64 v) (qb : R32 b) : TC w D 262 [.long (i64 v), .int (i32 b)] (mhp m c, N) (Q_fits m c N v b) := by
  obtain ⟨D, rfl⟩ : ∃ k, D = k + 1 := ⟨D - 1, by omega⟩
  obtain ⟨qva, qvb⟩ := id qv
  obtain ⟨qba, qbb⟩ := id qb
  refine Tc_of rfl ?_
  show TT w D pm_262 (0, [(0, .long (i64 v)), (2, .int (i32 b))], [], (mhp (mO m [] []) c, N), 0, 0) (Q_fits m c N v b)
  refine T_ld 1 (.int (i32 b)) rfl (fun _ => rfl) ?_
  refine T_ld 3 (.int (i32 64)) rfl (fun _ => rfl) ?_
  refine T_icmp 14 6 rfl rfl rfl (r32 (by omega) (by omega)) ⟨by decide, by decide⟩ (fun (h1 : b = 64) => ?_) (fun (h1 : ¬ (b = 64)) => ?_)
  · skip
    refine T_ld 15 (.int (i32 1)) rfl (fun _ => rfl) ?_
    refine T_goto 19 rfl (fun _ => rfl) ?_
    refine T_ret rfl (fun _ => rfl) ?_
    exact ⟨1, ⟨by omega, by omega⟩, rfl⟩
  · skip
    refine T_ld 7 (.long (i64 v)) rfl (fun _ => rfl) ?_
    refine T_ld 8 (.int (i32 b)) rfl (fun _ => rfl) ?_
    refine T_lhv 9 _ rfl (fun _ => rfl) (fun z2 h3 => ?_)
    obtain ⟨h3a, h3b⟩ := h3
    refine T_ld 10 (.long (i64 0)) rfl (fun _ => rfl) ?_
    refine T_lcmp 11 rfl rfl (r64 (by omega) (by omega)) ⟨by decide, by decide⟩ (fun z4 h5 => ?_)
    obtain ⟨h5a, h5b, h5c, h5d, h5e⟩ := h5
    refine T_if 18 14 rfl rfl rfl (r32 (by omega) (by omega)) (fun (h6 : z4 ≠ 0) => ?_) (fun (h6 : ¬ (z4 ≠ 0)) => ?_)
    · skip
      have hl7 : z2 ≠ 0 := by omega
      refine T_ld 19 (.int (i32 0)) rfl (fun _ => rfl) ?_
      refine T_ret rfl (fun _ => rfl) ?_
      exact ⟨0, ⟨by omega, by omega⟩, rfl⟩
    · skip
      have hl8 : z2 = 0 := by omega
      refine T_ld 15 (.int (i32 1)) rfl (fun _ => rfl) ?_
      refine T_goto 19 rfl (fun _ => rfl) ?_
      refine T_ret rfl (fun _ => rfl) ?_
      exact ⟨1, ⟨by omega, by omega⟩, rfl⟩
def fF_want : List Nat := [10, 11]
def fA_want : List Nat := []
def Q_want (m : mR) (c : Nat → Option am_C) (N : Nat) (g : Int) (p : Int) : ag_Re af_T → Prop := fun R => ∃ (M : mR), Ty M ∧ fr fF_want fA_want m M ∧ ((M.1 10) = 0 → (m.1 10) = 0) ∧ (M.1 10 = 0 → (g ≠ 0)) ∧ R = (.inl (none), (mhp M c, N), 0, 0)
set_option maxHeartbeats 3000000 in
theorem c_want (w : wX) (m : mR) (c : Nat → Option am_C) (N D : Nat) (hD : 2 ≤ D) (hT : Ty m) (g : Int) (p : Int) (qg : R32 g) (qp : R32 p) (p0 : 0 ≤ p ∧ p ≤ 4000) (hC : m.1 10 = 0 → True) : TC w D 256 [.ref 189, .int (i32 g), .int (i32 p)] (mhp m c, N) (Q_want m c N g p) := by
  obtain ⟨D, rfl⟩ : ∃ k, D = k + 1 := ⟨D - 1, by omega⟩
  obtain ⟨qga, qgb⟩ := id qg
  obtain ⟨qpa, qpb⟩ := id qp
  have f10 : 0 ≤ m.1 10 ∧ m.1 10 ≤ 8 := hT.1 10
  have f11 : (-1) ≤ m.1 11 ∧ m.1 11 ≤ 4000 := hT.1 11
  refine Tc_of rfl ?_
  show TT w D pm_256 (0, [(0, .ref 189), (1, .int (i32 g)), (2, .int (i32 p))], [], (mhp (mO m [] []) c, N), 0, 0) (Q_want m c N g p)
  by_cases hf0 : m.1 10 = 0
  · skip
    refine T_ld 1 (.int (i32 g)) rfl (fun _ => rfl) ?_
    refine T_if 11 4 rfl rfl rfl (r32 (by omega) (by omega)) (fun (h2 : g ≠ 0) => ?_) (fun (h2 : ¬ (g ≠ 0)) => ?_)
    · skip
      refine T_ret rfl (fun _ => rfl) ?_
      exact ⟨(mO m [] []), hT, (fr_m fr_0 rfl rfl), (show (m.1 10) = 0 → (m.1 10) = 0 by omega), (fun _ => (show g ≠ 0 by omega)), rfl⟩
    · skip
      refine T_ld 5 (.ref 189) rfl (fun _ => rfl) ?_
      refine T_ld 7 (.int (i32 7)) rfl (fun _ => rfl) ?_
      refine T_ld 8 (.int (i32 p)) rfl (fun _ => rfl) ?_
      refine T_call 11 222 [.ref 189, .int (i32 7), .int (i32 p)] [] rfl (fun _ => rfl) rfl (d_wrong w (mO m [] []) c N D (by omega) hT 7 p ⟨by decide, by decide⟩ (r32 (by omega) (by omega)) (show 1 ≤ (7 : Int) ∧ (7 : Int) ≤ 8 by omega) (show 0 ≤ p ∧ p ≤ 4000 by omega)) (fun rr3 k4 => ?_)
      obtain ⟨m5, Tm5, Fm5, h6, rfl⟩ := k4
      refine ⟨_, _, rfl, ?_⟩
      refine T_nb (st' := []) rfl ?_
      have g7 : 0 ≤ m5.1 10 ∧ m5.1 10 ≤ 8 := Tm5.1 10
      have g8 : (-1) ≤ m5.1 11 ∧ m5.1 11 ≤ 4000 := Tm5.1 11
      replace h6 : (0 < (m.1 10) → (m5.1 10) = (m.1 10) ∧ (m5.1 11) = (m.1 11)) ∧ ((m.1 10) ≤ 0 → (m5.1 10) = (7 : Int) ∧ (m5.1 11) = p) := h6
      have hf9 : 1 ≤ (m5.1 10) := by omega
      refine T_ret rfl (fun _ => rfl) ?_
      exact ⟨(mO m5 [] []), Tm5, (fr_m (fr_s Fm5 (fr_m fr_0 rfl rfl) rfl rfl) rfl rfl), (show (m5.1 10) = 0 → (m.1 10) = 0 by omega), (fun (h : (m5.1 10) = 0) => absurd h (by omega)), rfl⟩
  · skip
    clear hC
    refine T_ld 1 (.int (i32 g)) rfl (fun _ => rfl) ?_
    refine T_if 11 4 rfl rfl rfl (r32 (by omega) (by omega)) (fun (h10 : g ≠ 0) => ?_) (fun (h10 : ¬ (g ≠ 0)) => ?_)
    · skip
      refine T_ret rfl (fun _ => rfl) ?_
      exact ⟨(mO m [] []), hT, (fr_m fr_0 rfl rfl), (show (m.1 10) = 0 → (m.1 10) = 0 by omega), (fun (h : (m.1 10) = 0) => absurd h (by omega)), rfl⟩
    · skip
      refine T_ld 5 (.ref 189) rfl (fun _ => rfl) ?_
      refine T_ld 7 (.int (i32 7)) rfl (fun _ => rfl) ?_
      refine T_ld 8 (.int (i32 p)) rfl (fun _ => rfl) ?_
      refine T_call 11 222 [.ref 189, .int (i32 7), .int (i32 p)] [] rfl (fun _ => rfl) rfl (d_wrong w (mO m [] []) c N D (by omega) hT 7 p ⟨by decide, by decide⟩ (r32 (by omega) (by omega)) (show 1 ≤ (7 : Int) ∧ (7 : Int) ≤ 8 by omega) (show 0 ≤ p ∧ p ≤ 4000 by omega)) (fun rr11 k12 => ?_)
      obtain ⟨m13, Tm13, Fm13, h14, rfl⟩ := k12
      refine ⟨_, _, rfl, ?_⟩
      refine T_nb (st' := []) rfl ?_
      have g15 : 0 ≤ m13.1 10 ∧ m13.1 10 ≤ 8 := Tm13.1 10
      have g16 : (-1) ≤ m13.1 11 ∧ m13.1 11 ≤ 4000 := Tm13.1 11
      replace h14 : (0 < (m.1 10) → (m13.1 10) = (m.1 10) ∧ (m13.1 11) = (m.1 11)) ∧ ((m.1 10) ≤ 0 → (m13.1 10) = (7 : Int) ∧ (m13.1 11) = p) := h14
      have hf17 : 1 ≤ (m13.1 10) := by omega
      refine T_ret rfl (fun _ => rfl) ?_
      exact ⟨(mO m13 [] []), Tm13, (fr_m (fr_s Fm13 (fr_m fr_0 rfl rfl) rfl rfl) rfl rfl), (show (m13.1 10) = 0 → (m.1 10) = 0 by omega), (fun (h : (m13.1 10) = 0) => absurd h (by omega)), rfl⟩
def fF_wantBit : List Nat := [10, 11]
def fA_wantBit : List Nat := []
def Q_wantBit (m : mR) (c : Nat → Option am_C) (N : Nat) (b : Int) (g : Int) (v : Int) (p : Int) : ag_Re af_T → Prop := fun R => ∃ (M : mR), Ty M ∧ fr fF_wantBit fA_wantBit m M ∧ ((M.1 10) = 0 → (m.1 10) = 0) ∧ (M.1 10 = 0 → True) ∧ R = (.inl (none), (mhp M c, N), 0, 0)
set_option maxHeartbeats 3000000 in
theorem c_wantBit (w : wX) (m : mR) (c : Nat → Option am_C) (N D : Nat) (hD : 3 ≤ D) (hT : Ty m) (b : Int) (g : Int) (v : Int) (p : Int) (qb : R32 b) (qg : R32 g) (qv : R64 v) (qp : R32 p) (p0 : 0 ≤ p ∧ p ≤ 4000) (hC : m.1 10 = 0 → True) : TC w D 258 [.ref 189, .int (i32 b), .int (i32 g), .long (i64 v), .int (i32 p)] (mhp m c, N) (Q_wantBit m c N b g v p) := by
  obtain ⟨D, rfl⟩ : ∃ k, D = k + 1 := ⟨D - 1, by omega⟩
  obtain ⟨qba, qbb⟩ := id qb
  obtain ⟨qga, qgb⟩ := id qg
  obtain ⟨qva, qvb⟩ := id qv
  obtain ⟨qpa, qpb⟩ := id qp
  have f10 : 0 ≤ m.1 10 ∧ m.1 10 ≤ 8 := hT.1 10
  refine Tc_of rfl ?_
  show TT w D pm_258 (0, [(0, .ref 189), (1, .int (i32 b)), (2, .int (i32 g)), (3, .long (i64 v)), (5, .int (i32 p))], [], (mhp (mO m [] []) c, N), 0, 0) (Q_wantBit m c N b g v p)
  by_cases hf0 : m.1 10 = 0
  · skip
    have J36_3 : ∀ (m2 : mR), Ty m2 → fr [10, 11] [] (mO m [] []) m2 → (1 ≤ (m2.1 10)) → TT w D pm_258 (36, [(0, .ref 189), (1, .int (i32 b)), (2, .int (i32 g)), (3, .long (i64 v)), (5, .int (i32 p))], [], (mhp (mO m2 [] []) c, N), 0, 0) (Q_wantBit m c N b g v p) := by
      intro m2 Tm2 Fm2 ic4
      have q5_10 : 0 ≤ m2.1 10 ∧ m2.1 10 ≤ 8 := Tm2.1 10
      refine T_ret rfl (fun _ => rfl) ?_
      exact ⟨(mO m2 [] []), Tm2, (fr_m (fr_s Fm2 (fr_m fr_0 rfl rfl) rfl rfl) rfl rfl), (show (m2.1 10) = 0 → (m.1 10) = 0 by omega), (fun (h : (m2.1 10) = 0) => absurd h (by omega)), rfl⟩
    refine T_ld 1 (.ref 189) rfl (fun _ => rfl) ?_
    refine T_ld 2 (.int (i32 g)) rfl (fun _ => rfl) ?_
    refine T_if 21 5 rfl rfl rfl (r32 (by omega) (by omega)) (fun (h7 : g = 0) => ?_) (fun (h7 : ¬ (g = 0)) => ?_)
    · skip
      refine T_ld 22 (.int (i32 b)) rfl (fun _ => rfl) ?_
      refine T_ld 23 (.int (i32 1)) rfl (fun _ => rfl) ?_
      refine T_icmp 30 26 rfl rfl rfl (r32 (by omega) (by omega)) ⟨by decide, by decide⟩ (fun (h8 : b ≠ 1) => ?_) (fun (h8 : ¬ (b ≠ 1)) => ?_)
      · skip
        refine T_ld 31 (.int (i32 0)) rfl (fun _ => rfl) ?_
        refine T_ld 33 (.int (i32 p)) rfl (fun _ => rfl) ?_
        refine T_call 36 256 [.ref 189, .int (i32 0), .int (i32 p)] [] rfl (fun _ => rfl) rfl (c_want w (mO m [] []) c N D (by omega) hT 0 p ⟨by decide, by decide⟩ (r32 (by omega) (by omega)) (show 0 ≤ p ∧ p ≤ 4000 by omega) (fun _ => trivial)) (fun rr9 k10 => ?_)
        obtain ⟨m11, Tm11, Fm11, h12, c13, rfl⟩ := k10
        refine ⟨_, _, rfl, ?_⟩
        refine T_nb (st' := []) rfl ?_
        have g14 : 0 ≤ m11.1 10 ∧ m11.1 10 ≤ 8 := Tm11.1 10
        by_cases hf15 : (m11.1 10) = 0
        · skip
          replace h12 : (m.1 10) = 0 := h12 hf15
          have c16 := c13 hf15
          replace c16 : (0 : Int) ≠ 0 := c16
          clear c13
          refine T_ret rfl (fun _ => rfl) ?_
          exact ⟨(mO m11 [] []), Tm11, (fr_m (fr_s Fm11 (fr_m fr_0 rfl rfl) rfl rfl) rfl rfl), (show (m11.1 10) = 0 → (m.1 10) = 0 by omega), (fun _ => trivial), rfl⟩
        · skip
          clear c13
          clear h12
          have hf17 : 1 ≤ (m11.1 10) := by omega
          exact J36_3 (mO m11 [] []) Tm11 (fr_m (fr_s Fm11 (fr_m fr_0 rfl rfl) rfl rfl) rfl rfl) (show 1 ≤ (m11.1 10) by omega)
      · skip
        refine T_ld 27 (.int (i32 1)) rfl (fun _ => rfl) ?_
        refine T_goto 31 rfl (fun _ => rfl) ?_
        refine T_ld 33 (.int (i32 p)) rfl (fun _ => rfl) ?_
        refine T_call 36 256 [.ref 189, .int (i32 1), .int (i32 p)] [] rfl (fun _ => rfl) rfl (c_want w (mO m [] []) c N D (by omega) hT 1 p ⟨by decide, by decide⟩ (r32 (by omega) (by omega)) (show 0 ≤ p ∧ p ≤ 4000 by omega) (fun _ => trivial)) (fun rr18 k19 => ?_)
        obtain ⟨m20, Tm20, Fm20, h21, c22, rfl⟩ := k19
        refine ⟨_, _, rfl, ?_⟩
        refine T_nb (st' := []) rfl ?_
        have g23 : 0 ≤ m20.1 10 ∧ m20.1 10 ≤ 8 := Tm20.1 10
        by_cases hf24 : (m20.1 10) = 0
        · skip
          replace h21 : (m.1 10) = 0 := h21 hf24
          have c25 := c22 hf24
          replace c25 : (1 : Int) ≠ 0 := c25
          clear c22
          refine T_ret rfl (fun _ => rfl) ?_
          exact ⟨(mO m20 [] []), Tm20, (fr_m (fr_s Fm20 (fr_m fr_0 rfl rfl) rfl rfl) rfl rfl), (show (m20.1 10) = 0 → (m.1 10) = 0 by omega), (fun _ => trivial), rfl⟩
        · skip
          clear c22
          clear h21
          have hf26 : 1 ≤ (m20.1 10) := by omega
          exact J36_3 (mO m20 [] []) Tm20 (fr_m (fr_s Fm20 (fr_m fr_0 rfl rfl) rfl rfl) rfl rfl) (show 1 ≤ (m20.1 10) by omega)
    · skip
      refine T_ld 6 (.long (i64 v)) rfl (fun _ => rfl) ?_
      refine T_ld 7 (.int (i32 1)) rfl (fun _ => rfl) ?_
      refine T_lhv 8 _ rfl (fun _ => rfl) (fun z27 h28 => ?_)
      obtain ⟨h28a, h28b⟩ := h28
      refine T_ld 9 (.long (i64 0)) rfl (fun _ => rfl) ?_
      refine T_lcmp 10 rfl rfl (r64 (by omega) (by omega)) ⟨by decide, by decide⟩ (fun z29 h30 => ?_)
      obtain ⟨h30a, h30b, h30c, h30d, h30e⟩ := h30
      refine T_if 17 13 rfl rfl rfl (r32 (by omega) (by omega)) (fun (h31 : z29 ≠ 0) => ?_) (fun (h31 : ¬ (z29 ≠ 0)) => ?_)
      · skip
        have hl32 : z27 ≠ 0 := by omega
        refine T_ld 18 (.int (i32 0)) rfl (fun _ => rfl) ?_
        refine T_goto 31 rfl (fun _ => rfl) ?_
        refine T_ld 33 (.int (i32 p)) rfl (fun _ => rfl) ?_
        refine T_call 36 256 [.ref 189, .int (i32 0), .int (i32 p)] [] rfl (fun _ => rfl) rfl (c_want w (mO m [] []) c N D (by omega) hT 0 p ⟨by decide, by decide⟩ (r32 (by omega) (by omega)) (show 0 ≤ p ∧ p ≤ 4000 by omega) (fun _ => trivial)) (fun rr33 k34 => ?_)
        obtain ⟨m35, Tm35, Fm35, h36, c37, rfl⟩ := k34
        refine ⟨_, _, rfl, ?_⟩
        refine T_nb (st' := []) rfl ?_
        have g38 : 0 ≤ m35.1 10 ∧ m35.1 10 ≤ 8 := Tm35.1 10
        by_cases hf39 : (m35.1 10) = 0
        · skip
          replace h36 : (m.1 10) = 0 := h36 hf39
          have c40 := c37 hf39
          replace c40 : (0 : Int) ≠ 0 := c40
          clear c37
          clear h28a h28b h30a h30b h30c h30d h30e h31 hl32
          refine T_ret rfl (fun _ => rfl) ?_
          exact ⟨(mO m35 [] []), Tm35, (fr_m (fr_s Fm35 (fr_m fr_0 rfl rfl) rfl rfl) rfl rfl), (show (m35.1 10) = 0 → (m.1 10) = 0 by omega), (fun _ => trivial), rfl⟩
        · skip
          clear c37
          clear h36
          have hf41 : 1 ≤ (m35.1 10) := by omega
          clear h28a h28b h30a h30b h30c h30d h30e h31 hl32
          exact J36_3 (mO m35 [] []) Tm35 (fr_m (fr_s Fm35 (fr_m fr_0 rfl rfl) rfl rfl) rfl rfl) (show 1 ≤ (m35.1 10) by omega)
      · skip
        have hl42 : z27 = 0 := by omega
        refine T_ld 14 (.int (i32 1)) rfl (fun _ => rfl) ?_
        refine T_goto 31 rfl (fun _ => rfl) ?_
        refine T_ld 33 (.int (i32 p)) rfl (fun _ => rfl) ?_
        refine T_call 36 256 [.ref 189, .int (i32 1), .int (i32 p)] [] rfl (fun _ => rfl) rfl (c_want w (mO m [] []) c N D (by omega) hT 1 p ⟨by decide, by decide⟩ (r32 (by omega) (by omega)) (show 0 ≤ p ∧ p ≤ 4000 by omega) (fun _ => trivial)) (fun rr43 k44 => ?_)
        obtain ⟨m45, Tm45, Fm45, h46, c47, rfl⟩ := k44
        refine ⟨_, _, rfl, ?_⟩
        refine T_nb (st' := []) rfl ?_
        have g48 : 0 ≤ m45.1 10 ∧ m45.1 10 ≤ 8 := Tm45.1 10
        by_cases hf49 : (m45.1 10) = 0
        · skip
          replace h46 : (m.1 10) = 0 := h46 hf49
          have c50 := c47 hf49
          replace c50 : (1 : Int) ≠ 0 := c50
          clear c47
          clear h28a h28b h30a h30b h30c h30d h30e h31 hl42
          refine T_ret rfl (fun _ => rfl) ?_
          exact ⟨(mO m45 [] []), Tm45, (fr_m (fr_s Fm45 (fr_m fr_0 rfl rfl) rfl rfl) rfl rfl), (show (m45.1 10) = 0 → (m.1 10) = 0 by omega), (fun _ => trivial), rfl⟩
        · skip
          clear c47
          clear h46
          have hf51 : 1 ≤ (m45.1 10) := by omega
          clear h28a h28b h30a h30b h30c h30d h30e h31 hl42
          exact J36_3 (mO m45 [] []) Tm45 (fr_m (fr_s Fm45 (fr_m fr_0 rfl rfl) rfl rfl) rfl rfl) (show 1 ≤ (m45.1 10) by omega)
  · skip
    clear hC
    refine T_ld 1 (.ref 189) rfl (fun _ => rfl) ?_
    refine T_ld 2 (.int (i32 g)) rfl (fun _ => rfl) ?_
    refine T_if 21 5 rfl rfl rfl (r32 (by omega) (by omega)) (fun (h52 : g = 0) => ?_) (fun (h52 : ¬ (g = 0)) => ?_)
    · skip
      refine T_ld 22 (.int (i32 b)) rfl (fun _ => rfl) ?_
      refine T_ld 23 (.int (i32 1)) rfl (fun _ => rfl) ?_
      refine T_icmp 30 26 rfl rfl rfl (r32 (by omega) (by omega)) ⟨by decide, by decide⟩ (fun (h53 : b ≠ 1) => ?_) (fun (h53 : ¬ (b ≠ 1)) => ?_)
      · skip
        refine T_ld 31 (.int (i32 0)) rfl (fun _ => rfl) ?_
        refine T_ld 33 (.int (i32 p)) rfl (fun _ => rfl) ?_
        refine T_call 36 256 [.ref 189, .int (i32 0), .int (i32 p)] [] rfl (fun _ => rfl) rfl (c_want w (mO m [] []) c N D (by omega) hT 0 p ⟨by decide, by decide⟩ (r32 (by omega) (by omega)) (show 0 ≤ p ∧ p ≤ 4000 by omega) (fun (h : (m.1 10) = 0) => absurd h (by omega))) (fun rr54 k55 => ?_)
        obtain ⟨m56, Tm56, Fm56, h57, c58, rfl⟩ := k55
        refine ⟨_, _, rfl, ?_⟩
        refine T_nb (st' := []) rfl ?_
        have g59 : 0 ≤ m56.1 10 ∧ m56.1 10 ≤ 8 := Tm56.1 10
        replace h57 : (m56.1 10) = 0 → (m.1 10) = 0 := h57
        have hf60 : 1 ≤ (m56.1 10) := by omega
        clear c58
        clear h57
        refine T_ret rfl (fun _ => rfl) ?_
        exact ⟨(mO m56 [] []), Tm56, (fr_m (fr_s Fm56 (fr_m fr_0 rfl rfl) rfl rfl) rfl rfl), (show (m56.1 10) = 0 → (m.1 10) = 0 by omega), (fun (h : (m56.1 10) = 0) => absurd h (by omega)), rfl⟩
      · skip
        refine T_ld 27 (.int (i32 1)) rfl (fun _ => rfl) ?_
        refine T_goto 31 rfl (fun _ => rfl) ?_
        refine T_ld 33 (.int (i32 p)) rfl (fun _ => rfl) ?_
        refine T_call 36 256 [.ref 189, .int (i32 1), .int (i32 p)] [] rfl (fun _ => rfl) rfl (c_want w (mO m [] []) c N D (by omega) hT 1 p ⟨by decide, by decide⟩ (r32 (by omega) (by omega)) (show 0 ≤ p ∧ p ≤ 4000 by omega) (fun (h : (m.1 10) = 0) => absurd h (by omega))) (fun rr61 k62 => ?_)
        obtain ⟨m63, Tm63, Fm63, h64, c65, rfl⟩ := k62
        refine ⟨_, _, rfl, ?_⟩
        refine T_nb (st' := []) rfl ?_
        have g66 : 0 ≤ m63.1 10 ∧ m63.1 10 ≤ 8 := Tm63.1 10
        replace h64 : (m63.1 10) = 0 → (m.1 10) = 0 := h64
        have hf67 : 1 ≤ (m63.1 10) := by omega
        clear c65
        clear h64
        refine T_ret rfl (fun _ => rfl) ?_
        exact ⟨(mO m63 [] []), Tm63, (fr_m (fr_s Fm63 (fr_m fr_0 rfl rfl) rfl rfl) rfl rfl), (show (m63.1 10) = 0 → (m.1 10) = 0 by omega), (fun (h : (m63.1 10) = 0) => absurd h (by omega)), rfl⟩
    · skip
      refine T_ld 6 (.long (i64 v)) rfl (fun _ => rfl) ?_
      refine T_ld 7 (.int (i32 1)) rfl (fun _ => rfl) ?_
      refine T_lhv 8 _ rfl (fun _ => rfl) (fun z68 h69 => ?_)
      obtain ⟨h69a, h69b⟩ := h69
      refine T_ld 9 (.long (i64 0)) rfl (fun _ => rfl) ?_
      refine T_lcmp 10 rfl rfl (r64 (by omega) (by omega)) ⟨by decide, by decide⟩ (fun z70 h71 => ?_)
      obtain ⟨h71a, h71b, h71c, h71d, h71e⟩ := h71
      refine T_if 17 13 rfl rfl rfl (r32 (by omega) (by omega)) (fun (h72 : z70 ≠ 0) => ?_) (fun (h72 : ¬ (z70 ≠ 0)) => ?_)
      · skip
        have hl73 : z68 ≠ 0 := by omega
        refine T_ld 18 (.int (i32 0)) rfl (fun _ => rfl) ?_
        refine T_goto 31 rfl (fun _ => rfl) ?_
        refine T_ld 33 (.int (i32 p)) rfl (fun _ => rfl) ?_
        refine T_call 36 256 [.ref 189, .int (i32 0), .int (i32 p)] [] rfl (fun _ => rfl) rfl (c_want w (mO m [] []) c N D (by omega) hT 0 p ⟨by decide, by decide⟩ (r32 (by omega) (by omega)) (show 0 ≤ p ∧ p ≤ 4000 by omega) (fun (h : (m.1 10) = 0) => absurd h (by omega))) (fun rr74 k75 => ?_)
        obtain ⟨m76, Tm76, Fm76, h77, c78, rfl⟩ := k75
        refine ⟨_, _, rfl, ?_⟩
        refine T_nb (st' := []) rfl ?_
        have g79 : 0 ≤ m76.1 10 ∧ m76.1 10 ≤ 8 := Tm76.1 10
        replace h77 : (m76.1 10) = 0 → (m.1 10) = 0 := h77
        have hf80 : 1 ≤ (m76.1 10) := by omega
        clear c78
        clear h77
        clear h69a h69b h71a h71b h71c h71d h71e h72 hl73
        refine T_ret rfl (fun _ => rfl) ?_
        exact ⟨(mO m76 [] []), Tm76, (fr_m (fr_s Fm76 (fr_m fr_0 rfl rfl) rfl rfl) rfl rfl), (show (m76.1 10) = 0 → (m.1 10) = 0 by omega), (fun (h : (m76.1 10) = 0) => absurd h (by omega)), rfl⟩
      · skip
        have hl81 : z68 = 0 := by omega
        refine T_ld 14 (.int (i32 1)) rfl (fun _ => rfl) ?_
        refine T_goto 31 rfl (fun _ => rfl) ?_
        refine T_ld 33 (.int (i32 p)) rfl (fun _ => rfl) ?_
        refine T_call 36 256 [.ref 189, .int (i32 1), .int (i32 p)] [] rfl (fun _ => rfl) rfl (c_want w (mO m [] []) c N D (by omega) hT 1 p ⟨by decide, by decide⟩ (r32 (by omega) (by omega)) (show 0 ≤ p ∧ p ≤ 4000 by omega) (fun (h : (m.1 10) = 0) => absurd h (by omega))) (fun rr82 k83 => ?_)
        obtain ⟨m84, Tm84, Fm84, h85, c86, rfl⟩ := k83
        refine ⟨_, _, rfl, ?_⟩
        refine T_nb (st' := []) rfl ?_
        have g87 : 0 ≤ m84.1 10 ∧ m84.1 10 ≤ 8 := Tm84.1 10
        replace h85 : (m84.1 10) = 0 → (m.1 10) = 0 := h85
        have hf88 : 1 ≤ (m84.1 10) := by omega
        clear c86
        clear h85
        clear h69a h69b h71a h71b h71c h71d h71e h72 hl81
        refine T_ret rfl (fun _ => rfl) ?_
        exact ⟨(mO m84 [] []), Tm84, (fr_m (fr_s Fm84 (fr_m fr_0 rfl rfl) rfl rfl) rfl rfl), (show (m84.1 10) = 0 → (m.1 10) = 0 by omega), (fun (h : (m84.1 10) = 0) => absurd h (by omega)), rfl⟩
def fF_common : List Nat := [10, 11]
def fA_common : List Nat := []
def Q_common (m : mR) (c : Nat → Option am_C) (N : Nat) (a : Int) (g : Int) (v : Int) (p : Int) (e : Int) (k : Int) (x : Int) (q : Int) : ag_Re af_T → Prop := fun R => ∃ (M : mR) (r : Int), Ty M ∧ fr fF_common fA_common m M ∧ ((-2147483648) ≤ r ∧ r ≤ 2147483647) ∧ ((M.1 10) = 0 → (m.1 10) = 0) ∧ (r = 64 ∨ r = a ∨ r = e) ∧ (M.1 10 = 0 → True) ∧ R = (.inl (some (.int (i32 r))), (mhp M c, N), 0, 0)
set_option maxHeartbeats 3000000 in
theorem c_common (w : wX) (m : mR) (c : Nat → Option am_C) (N D : Nat) (hD : 3 ≤ D) (hT : Ty m) (a : Int) (g : Int) (v : Int) (p : Int) (e : Int) (k : Int) (x : Int) (q : Int) (qa : R32 a) (qg : R32 g) (qv : R64 v) (qp : R32 p) (qe : R32 e) (qk : R32 k) (qx : R64 x) (qq : R32 q) (p0 : 0 ≤ p ∧ p ≤ 4000) (p1 : 0 ≤ q ∧ q ≤ 4000) (p2 : 0 ≤ a ∧ a ≤ 1024) (p3 : 0 ≤ e ∧ e ≤ 1024) (hC : m.1 10 = 0 → True) : TC w D 261 [.ref 189, .int (i32 a), .int (i32 g), .long (i64 v), .int (i32 p), .int (i32 e), .int (i32 k), .long (i64 x), .int (i32 q)] (mhp m c, N) (Q_common m c N a g v p e k x q) := by
  obtain ⟨D, rfl⟩ : ∃ k, D = k + 1 := ⟨D - 1, by omega⟩
  obtain ⟨qaa, qab⟩ := id qa
  obtain ⟨qga, qgb⟩ := id qg
  obtain ⟨qva, qvb⟩ := id qv
  obtain ⟨qpa, qpb⟩ := id qp
  obtain ⟨qea, qeb⟩ := id qe
  obtain ⟨qka, qkb⟩ := id qk
  obtain ⟨qxa, qxb⟩ := id qx
  obtain ⟨qqa, qqb⟩ := id qq
  have f10 : 0 ≤ m.1 10 ∧ m.1 10 ≤ 8 := hT.1 10
  refine Tc_of rfl ?_
  show TT w D pm_261 (0, [(0, .ref 189), (1, .int (i32 a)), (2, .int (i32 g)), (3, .long (i64 v)), (5, .int (i32 p)), (6, .int (i32 e)), (7, .int (i32 k)), (8, .long (i64 x)), (10, .int (i32 q))], [], (mhp (mO m [] []) c, N), 0, 0) (Q_common m c N a g v p e k x q)
  by_cases hf0 : m.1 10 = 0
  · skip
    have J68_5 : ∀ (m4 : mR), Ty m4 → fr [10, 11] [] (mO m [] []) m4 → (1 ≤ (m4.1 10)) → TT w D pm_261 (68, [(0, .ref 189), (1, .int (i32 a)), (2, .int (i32 g)), (3, .long (i64 v)), (5, .int (i32 p)), (6, .int (i32 e)), (7, .int (i32 k)), (8, .long (i64 x)), (10, .int (i32 q))], [], (mhp (mO m4 [] []) c, N), 0, 0) (Q_common m c N a g v p e k x q) := by
      intro m4 Tm4 Fm4 ic6
      have q7_10 : 0 ≤ m4.1 10 ∧ m4.1 10 ≤ 8 := Tm4.1 10
      refine T_ld 69 (.int (i32 a)) rfl (fun _ => rfl) ?_
      refine T_ret rfl (fun _ => rfl) ?_
      exact ⟨(mO m4 [] []), a, Tm4, (fr_m (fr_s Fm4 (fr_m fr_0 rfl rfl) rfl rfl) rfl rfl), ⟨by omega, by omega⟩, (show (m4.1 10) = 0 → (m.1 10) = 0 by omega), (show a = 64 ∨ a = a ∨ a = e by omega), (fun (h : (m4.1 10) = 0) => absurd h (by omega)), rfl⟩
    refine T_ld 1 (.int (i32 g)) rfl (fun _ => rfl) ?_
    refine T_if 12 4 rfl rfl rfl (r32 (by omega) (by omega)) (fun (h9 : g = 0) => ?_) (fun (h9 : ¬ (g = 0)) => ?_)
    · skip
      refine T_ld 13 (.int (i32 g)) rfl (fun _ => rfl) ?_
      refine T_if 31 16 rfl rfl rfl (r32 (by omega) (by omega)) (fun (h10 : g = 0) => ?_) (fun (h10 : ¬ (g = 0)) => by exfalso; omega)
      refine T_ld 33 (.int (i32 k)) rfl (fun _ => rfl) ?_
      refine T_if 51 36 rfl rfl rfl (r32 (by omega) (by omega)) (fun (h11 : k = 0) => ?_) (fun (h11 : ¬ (k = 0)) => ?_)
      · skip
        refine T_ld 52 (.ref 189) rfl (fun _ => rfl) ?_
        refine T_ld 53 (.int (i32 a)) rfl (fun _ => rfl) ?_
        refine T_ld 55 (.int (i32 e)) rfl (fun _ => rfl) ?_
        refine T_icmp 62 58 rfl rfl rfl (r32 (by omega) (by omega)) (r32 (by omega) (by omega)) (fun (h12 : a ≠ e) => ?_) (fun (h12 : ¬ (a ≠ e)) => ?_)
        · skip
          refine T_ld 63 (.int (i32 0)) rfl (fun _ => rfl) ?_
          refine T_ld 65 (.int (i32 q)) rfl (fun _ => rfl) ?_
          refine T_call 68 256 [.ref 189, .int (i32 0), .int (i32 q)] [] rfl (fun _ => rfl) rfl (c_want w (mO m [] []) c N D (by omega) hT 0 q ⟨by decide, by decide⟩ (r32 (by omega) (by omega)) (show 0 ≤ q ∧ q ≤ 4000 by omega) (fun _ => trivial)) (fun rr13 k14 => ?_)
          obtain ⟨m15, Tm15, Fm15, h16, c17, rfl⟩ := k14
          refine ⟨_, _, rfl, ?_⟩
          refine T_nb (st' := []) rfl ?_
          have g18 : 0 ≤ m15.1 10 ∧ m15.1 10 ≤ 8 := Tm15.1 10
          by_cases hf19 : (m15.1 10) = 0
          · skip
            replace h16 : (m.1 10) = 0 := h16 hf19
            have c20 := c17 hf19
            replace c20 : (0 : Int) ≠ 0 := c20
            clear c17
            refine T_ld 69 (.int (i32 a)) rfl (fun _ => rfl) ?_
            refine T_ret rfl (fun _ => rfl) ?_
            exact ⟨(mO m15 [] []), a, Tm15, (fr_m (fr_s Fm15 (fr_m fr_0 rfl rfl) rfl rfl) rfl rfl), ⟨by omega, by omega⟩, (show (m15.1 10) = 0 → (m.1 10) = 0 by omega), (show a = 64 ∨ a = a ∨ a = e by omega), (fun _ => trivial), rfl⟩
          · skip
            clear c17
            clear h16
            have hf21 : 1 ≤ (m15.1 10) := by omega
            exact J68_5 (mO m15 [] []) Tm15 (fr_m (fr_s Fm15 (fr_m fr_0 rfl rfl) rfl rfl) rfl rfl) (show 1 ≤ (m15.1 10) by omega)
        · skip
          refine T_ld 59 (.int (i32 1)) rfl (fun _ => rfl) ?_
          refine T_goto 63 rfl (fun _ => rfl) ?_
          refine T_ld 65 (.int (i32 q)) rfl (fun _ => rfl) ?_
          refine T_call 68 256 [.ref 189, .int (i32 1), .int (i32 q)] [] rfl (fun _ => rfl) rfl (c_want w (mO m [] []) c N D (by omega) hT 1 q ⟨by decide, by decide⟩ (r32 (by omega) (by omega)) (show 0 ≤ q ∧ q ≤ 4000 by omega) (fun _ => trivial)) (fun rr22 k23 => ?_)
          obtain ⟨m24, Tm24, Fm24, h25, c26, rfl⟩ := k23
          refine ⟨_, _, rfl, ?_⟩
          refine T_nb (st' := []) rfl ?_
          have g27 : 0 ≤ m24.1 10 ∧ m24.1 10 ≤ 8 := Tm24.1 10
          by_cases hf28 : (m24.1 10) = 0
          · skip
            replace h25 : (m.1 10) = 0 := h25 hf28
            have c29 := c26 hf28
            replace c29 : (1 : Int) ≠ 0 := c29
            clear c26
            refine T_ld 69 (.int (i32 a)) rfl (fun _ => rfl) ?_
            refine T_ret rfl (fun _ => rfl) ?_
            exact ⟨(mO m24 [] []), a, Tm24, (fr_m (fr_s Fm24 (fr_m fr_0 rfl rfl) rfl rfl) rfl rfl), ⟨by omega, by omega⟩, (show (m24.1 10) = 0 → (m.1 10) = 0 by omega), (show a = 64 ∨ a = a ∨ a = e by omega), (fun _ => trivial), rfl⟩
          · skip
            clear c26
            clear h25
            have hf30 : 1 ≤ (m24.1 10) := by omega
            exact J68_5 (mO m24 [] []) Tm24 (fr_m (fr_s Fm24 (fr_m fr_0 rfl rfl) rfl rfl) rfl rfl) (show 1 ≤ (m24.1 10) by omega)
      · skip
        refine T_ld 37 (.ref 189) rfl (fun _ => rfl) ?_
        refine T_ld 39 (.long (i64 x)) rfl (fun _ => rfl) ?_
        refine T_ld 40 (.int (i32 a)) rfl (fun _ => rfl) ?_
        refine T_call 43 262 [.long (i64 x), .int (i32 a)] [.ref 189] rfl (fun _ => rfl) rfl (c_fits w (mO m [] []) c N D (by omega) hT x a (r64 (by omega) (by omega)) (r32 (by omega) (by omega))) (fun rr31 k32 => ?_)
        obtain ⟨x33, g34, rfl⟩ := k32
        refine ⟨_, _, rfl, ?_⟩
        refine T_ns (st' := [.int (i32 x33), .ref 189]) rfl ?_
        obtain ⟨g34a, g34b⟩ := g34
        refine T_ld 45 (.int (i32 q)) rfl (fun _ => rfl) ?_
        refine T_call 48 256 [.ref 189, .int (i32 x33), .int (i32 q)] [] rfl (fun _ => rfl) rfl (c_want w (mO m [] []) c N D (by omega) hT x33 q (r32 (by omega) (by omega)) (r32 (by omega) (by omega)) (show 0 ≤ q ∧ q ≤ 4000 by omega) (fun _ => trivial)) (fun rr35 k36 => ?_)
        obtain ⟨m37, Tm37, Fm37, h38, c39, rfl⟩ := k36
        refine ⟨_, _, rfl, ?_⟩
        refine T_nb (st' := []) rfl ?_
        have g40 : 0 ≤ m37.1 10 ∧ m37.1 10 ≤ 8 := Tm37.1 10
        by_cases hf41 : (m37.1 10) = 0
        · skip
          replace h38 : (m.1 10) = 0 := h38 hf41
          have c42 := c39 hf41
          replace c42 : x33 ≠ 0 := c42
          clear c39
          clear g34a g34b c42
          refine T_goto 68 rfl (fun _ => rfl) ?_
          refine T_ld 69 (.int (i32 a)) rfl (fun _ => rfl) ?_
          refine T_ret rfl (fun _ => rfl) ?_
          exact ⟨(mO m37 [] []), a, Tm37, (fr_m (fr_s Fm37 (fr_m fr_0 rfl rfl) rfl rfl) rfl rfl), ⟨by omega, by omega⟩, (show (m37.1 10) = 0 → (m.1 10) = 0 by omega), (show a = 64 ∨ a = a ∨ a = e by omega), (fun _ => trivial), rfl⟩
        · skip
          clear c39
          clear h38
          have hf43 : 1 ≤ (m37.1 10) := by omega
          clear g34a g34b
          refine T_goto 68 rfl (fun _ => rfl) ?_
          refine T_ld 69 (.int (i32 a)) rfl (fun _ => rfl) ?_
          refine T_ret rfl (fun _ => rfl) ?_
          exact ⟨(mO m37 [] []), a, Tm37, (fr_m (fr_s Fm37 (fr_m fr_0 rfl rfl) rfl rfl) rfl rfl), ⟨by omega, by omega⟩, (show (m37.1 10) = 0 → (m.1 10) = 0 by omega), (show a = 64 ∨ a = a ∨ a = e by omega), (fun (h : (m37.1 10) = 0) => absurd h (by omega)), rfl⟩
    · skip
      refine T_ld 6 (.int (i32 k)) rfl (fun _ => rfl) ?_
      refine T_if 12 9 rfl rfl rfl (r32 (by omega) (by omega)) (fun (h44 : k = 0) => ?_) (fun (h44 : ¬ (k = 0)) => ?_)
      · skip
        refine T_ld 13 (.int (i32 g)) rfl (fun _ => rfl) ?_
        refine T_if 31 16 rfl rfl rfl (r32 (by omega) (by omega)) (fun (h45 : g = 0) => ?_) (fun (h45 : ¬ (g = 0)) => ?_)
        · skip
          refine T_ld 33 (.int (i32 k)) rfl (fun _ => rfl) ?_
          refine T_if 51 36 rfl rfl rfl (r32 (by omega) (by omega)) (fun (h46 : k = 0) => ?_) (fun (h46 : ¬ (k = 0)) => by exfalso; omega)
          refine T_ld 52 (.ref 189) rfl (fun _ => rfl) ?_
          refine T_ld 53 (.int (i32 a)) rfl (fun _ => rfl) ?_
          refine T_ld 55 (.int (i32 e)) rfl (fun _ => rfl) ?_
          refine T_icmp 62 58 rfl rfl rfl (r32 (by omega) (by omega)) (r32 (by omega) (by omega)) (fun (h47 : a ≠ e) => ?_) (fun (h47 : ¬ (a ≠ e)) => ?_)
          · skip
            refine T_ld 63 (.int (i32 0)) rfl (fun _ => rfl) ?_
            refine T_ld 65 (.int (i32 q)) rfl (fun _ => rfl) ?_
            refine T_call 68 256 [.ref 189, .int (i32 0), .int (i32 q)] [] rfl (fun _ => rfl) rfl (c_want w (mO m [] []) c N D (by omega) hT 0 q ⟨by decide, by decide⟩ (r32 (by omega) (by omega)) (show 0 ≤ q ∧ q ≤ 4000 by omega) (fun _ => trivial)) (fun rr48 k49 => ?_)
            obtain ⟨m50, Tm50, Fm50, h51, c52, rfl⟩ := k49
            refine ⟨_, _, rfl, ?_⟩
            refine T_nb (st' := []) rfl ?_
            have g53 : 0 ≤ m50.1 10 ∧ m50.1 10 ≤ 8 := Tm50.1 10
            by_cases hf54 : (m50.1 10) = 0
            · skip
              replace h51 : (m.1 10) = 0 := h51 hf54
              have c55 := c52 hf54
              replace c55 : (0 : Int) ≠ 0 := c55
              clear c52
              refine T_ld 69 (.int (i32 a)) rfl (fun _ => rfl) ?_
              refine T_ret rfl (fun _ => rfl) ?_
              exact ⟨(mO m50 [] []), a, Tm50, (fr_m (fr_s Fm50 (fr_m fr_0 rfl rfl) rfl rfl) rfl rfl), ⟨by omega, by omega⟩, (show (m50.1 10) = 0 → (m.1 10) = 0 by omega), (show a = 64 ∨ a = a ∨ a = e by omega), (fun _ => trivial), rfl⟩
            · skip
              clear c52
              clear h51
              have hf56 : 1 ≤ (m50.1 10) := by omega
              exact J68_5 (mO m50 [] []) Tm50 (fr_m (fr_s Fm50 (fr_m fr_0 rfl rfl) rfl rfl) rfl rfl) (show 1 ≤ (m50.1 10) by omega)
          · skip
            refine T_ld 59 (.int (i32 1)) rfl (fun _ => rfl) ?_
            refine T_goto 63 rfl (fun _ => rfl) ?_
            refine T_ld 65 (.int (i32 q)) rfl (fun _ => rfl) ?_
            refine T_call 68 256 [.ref 189, .int (i32 1), .int (i32 q)] [] rfl (fun _ => rfl) rfl (c_want w (mO m [] []) c N D (by omega) hT 1 q ⟨by decide, by decide⟩ (r32 (by omega) (by omega)) (show 0 ≤ q ∧ q ≤ 4000 by omega) (fun _ => trivial)) (fun rr57 k58 => ?_)
            obtain ⟨m59, Tm59, Fm59, h60, c61, rfl⟩ := k58
            refine ⟨_, _, rfl, ?_⟩
            refine T_nb (st' := []) rfl ?_
            have g62 : 0 ≤ m59.1 10 ∧ m59.1 10 ≤ 8 := Tm59.1 10
            by_cases hf63 : (m59.1 10) = 0
            · skip
              replace h60 : (m.1 10) = 0 := h60 hf63
              have c64 := c61 hf63
              replace c64 : (1 : Int) ≠ 0 := c64
              clear c61
              refine T_ld 69 (.int (i32 a)) rfl (fun _ => rfl) ?_
              refine T_ret rfl (fun _ => rfl) ?_
              exact ⟨(mO m59 [] []), a, Tm59, (fr_m (fr_s Fm59 (fr_m fr_0 rfl rfl) rfl rfl) rfl rfl), ⟨by omega, by omega⟩, (show (m59.1 10) = 0 → (m.1 10) = 0 by omega), (show a = 64 ∨ a = a ∨ a = e by omega), (fun _ => trivial), rfl⟩
            · skip
              clear c61
              clear h60
              have hf65 : 1 ≤ (m59.1 10) := by omega
              exact J68_5 (mO m59 [] []) Tm59 (fr_m (fr_s Fm59 (fr_m fr_0 rfl rfl) rfl rfl) rfl rfl) (show 1 ≤ (m59.1 10) by omega)
        · skip
          refine T_ld 17 (.ref 189) rfl (fun _ => rfl) ?_
          refine T_ld 18 (.long (i64 v)) rfl (fun _ => rfl) ?_
          refine T_ld 20 (.int (i32 e)) rfl (fun _ => rfl) ?_
          refine T_call 23 262 [.long (i64 v), .int (i32 e)] [.ref 189] rfl (fun _ => rfl) rfl (c_fits w (mO m [] []) c N D (by omega) hT v e (r64 (by omega) (by omega)) (r32 (by omega) (by omega))) (fun rr66 k67 => ?_)
          obtain ⟨x68, g69, rfl⟩ := k67
          refine ⟨_, _, rfl, ?_⟩
          refine T_ns (st' := [.int (i32 x68), .ref 189]) rfl ?_
          obtain ⟨g69a, g69b⟩ := g69
          refine T_ld 25 (.int (i32 p)) rfl (fun _ => rfl) ?_
          refine T_call 28 256 [.ref 189, .int (i32 x68), .int (i32 p)] [] rfl (fun _ => rfl) rfl (c_want w (mO m [] []) c N D (by omega) hT x68 p (r32 (by omega) (by omega)) (r32 (by omega) (by omega)) (show 0 ≤ p ∧ p ≤ 4000 by omega) (fun _ => trivial)) (fun rr70 k71 => ?_)
          obtain ⟨m72, Tm72, Fm72, h73, c74, rfl⟩ := k71
          refine ⟨_, _, rfl, ?_⟩
          refine T_nb (st' := []) rfl ?_
          have g75 : 0 ≤ m72.1 10 ∧ m72.1 10 ≤ 8 := Tm72.1 10
          by_cases hf76 : (m72.1 10) = 0
          · skip
            replace h73 : (m.1 10) = 0 := h73 hf76
            have c77 := c74 hf76
            replace c77 : x68 ≠ 0 := c77
            clear c74
            clear g69a g69b c77
            refine T_ld 30 (.int (i32 e)) rfl (fun _ => rfl) ?_
            refine T_ret rfl (fun _ => rfl) ?_
            exact ⟨(mO m72 [] []), e, Tm72, (fr_m (fr_s Fm72 (fr_m fr_0 rfl rfl) rfl rfl) rfl rfl), ⟨by omega, by omega⟩, (show (m72.1 10) = 0 → (m.1 10) = 0 by omega), (show e = 64 ∨ e = a ∨ e = e by omega), (fun _ => trivial), rfl⟩
          · skip
            clear c74
            clear h73
            have hf78 : 1 ≤ (m72.1 10) := by omega
            clear g69a g69b
            refine T_ld 30 (.int (i32 e)) rfl (fun _ => rfl) ?_
            refine T_ret rfl (fun _ => rfl) ?_
            exact ⟨(mO m72 [] []), e, Tm72, (fr_m (fr_s Fm72 (fr_m fr_0 rfl rfl) rfl rfl) rfl rfl), ⟨by omega, by omega⟩, (show (m72.1 10) = 0 → (m.1 10) = 0 by omega), (show e = 64 ∨ e = a ∨ e = e by omega), (fun (h : (m72.1 10) = 0) => absurd h (by omega)), rfl⟩
      · skip
        refine T_ld 11 (.int (i32 64)) rfl (fun _ => rfl) ?_
        refine T_ret rfl (fun _ => rfl) ?_
        exact ⟨(mO m [] []), 64, hT, (fr_m fr_0 rfl rfl), ⟨by omega, by omega⟩, (show (m.1 10) = 0 → (m.1 10) = 0 by omega), (show (64 : Int) = 64 ∨ (64 : Int) = a ∨ (64 : Int) = e by omega), (fun _ => trivial), rfl⟩
  · skip
    clear hC
    refine T_ld 1 (.int (i32 g)) rfl (fun _ => rfl) ?_
    refine T_if 12 4 rfl rfl rfl (r32 (by omega) (by omega)) (fun (h79 : g = 0) => ?_) (fun (h79 : ¬ (g = 0)) => ?_)
    · skip
      refine T_ld 13 (.int (i32 g)) rfl (fun _ => rfl) ?_
      refine T_if 31 16 rfl rfl rfl (r32 (by omega) (by omega)) (fun (h80 : g = 0) => ?_) (fun (h80 : ¬ (g = 0)) => by exfalso; omega)
      refine T_ld 33 (.int (i32 k)) rfl (fun _ => rfl) ?_
      refine T_if 51 36 rfl rfl rfl (r32 (by omega) (by omega)) (fun (h81 : k = 0) => ?_) (fun (h81 : ¬ (k = 0)) => ?_)
      · skip
        refine T_ld 52 (.ref 189) rfl (fun _ => rfl) ?_
        refine T_ld 53 (.int (i32 a)) rfl (fun _ => rfl) ?_
        refine T_ld 55 (.int (i32 e)) rfl (fun _ => rfl) ?_
        refine T_icmp 62 58 rfl rfl rfl (r32 (by omega) (by omega)) (r32 (by omega) (by omega)) (fun (h82 : a ≠ e) => ?_) (fun (h82 : ¬ (a ≠ e)) => ?_)
        · skip
          refine T_ld 63 (.int (i32 0)) rfl (fun _ => rfl) ?_
          refine T_ld 65 (.int (i32 q)) rfl (fun _ => rfl) ?_
          refine T_call 68 256 [.ref 189, .int (i32 0), .int (i32 q)] [] rfl (fun _ => rfl) rfl (c_want w (mO m [] []) c N D (by omega) hT 0 q ⟨by decide, by decide⟩ (r32 (by omega) (by omega)) (show 0 ≤ q ∧ q ≤ 4000 by omega) (fun (h : (m.1 10) = 0) => absurd h (by omega))) (fun rr83 k84 => ?_)
          obtain ⟨m85, Tm85, Fm85, h86, c87, rfl⟩ := k84
          refine ⟨_, _, rfl, ?_⟩
          refine T_nb (st' := []) rfl ?_
          have g88 : 0 ≤ m85.1 10 ∧ m85.1 10 ≤ 8 := Tm85.1 10
          replace h86 : (m85.1 10) = 0 → (m.1 10) = 0 := h86
          have hf89 : 1 ≤ (m85.1 10) := by omega
          clear c87
          clear h86
          refine T_ld 69 (.int (i32 a)) rfl (fun _ => rfl) ?_
          refine T_ret rfl (fun _ => rfl) ?_
          exact ⟨(mO m85 [] []), a, Tm85, (fr_m (fr_s Fm85 (fr_m fr_0 rfl rfl) rfl rfl) rfl rfl), ⟨by omega, by omega⟩, (show (m85.1 10) = 0 → (m.1 10) = 0 by omega), (show a = 64 ∨ a = a ∨ a = e by omega), (fun (h : (m85.1 10) = 0) => absurd h (by omega)), rfl⟩
        · skip
          refine T_ld 59 (.int (i32 1)) rfl (fun _ => rfl) ?_
          refine T_goto 63 rfl (fun _ => rfl) ?_
          refine T_ld 65 (.int (i32 q)) rfl (fun _ => rfl) ?_
          refine T_call 68 256 [.ref 189, .int (i32 1), .int (i32 q)] [] rfl (fun _ => rfl) rfl (c_want w (mO m [] []) c N D (by omega) hT 1 q ⟨by decide, by decide⟩ (r32 (by omega) (by omega)) (show 0 ≤ q ∧ q ≤ 4000 by omega) (fun (h : (m.1 10) = 0) => absurd h (by omega))) (fun rr90 k91 => ?_)
          obtain ⟨m92, Tm92, Fm92, h93, c94, rfl⟩ := k91
          refine ⟨_, _, rfl, ?_⟩
          refine T_nb (st' := []) rfl ?_
          have g95 : 0 ≤ m92.1 10 ∧ m92.1 10 ≤ 8 := Tm92.1 10
          replace h93 : (m92.1 10) = 0 → (m.1 10) = 0 := h93
          have hf96 : 1 ≤ (m92.1 10) := by omega
          clear c94
          clear h93
          refine T_ld 69 (.int (i32 a)) rfl (fun _ => rfl) ?_
          refine T_ret rfl (fun _ => rfl) ?_
          exact ⟨(mO m92 [] []), a, Tm92, (fr_m (fr_s Fm92 (fr_m fr_0 rfl rfl) rfl rfl) rfl rfl), ⟨by omega, by omega⟩, (show (m92.1 10) = 0 → (m.1 10) = 0 by omega), (show a = 64 ∨ a = a ∨ a = e by omega), (fun (h : (m92.1 10) = 0) => absurd h (by omega)), rfl⟩
      · skip
        refine T_ld 37 (.ref 189) rfl (fun _ => rfl) ?_
        refine T_ld 39 (.long (i64 x)) rfl (fun _ => rfl) ?_
        refine T_ld 40 (.int (i32 a)) rfl (fun _ => rfl) ?_
        refine T_call 43 262 [.long (i64 x), .int (i32 a)] [.ref 189] rfl (fun _ => rfl) rfl (c_fits w (mO m [] []) c N D (by omega) hT x a (r64 (by omega) (by omega)) (r32 (by omega) (by omega))) (fun rr97 k98 => ?_)
        obtain ⟨x99, g100, rfl⟩ := k98
        refine ⟨_, _, rfl, ?_⟩
        refine T_ns (st' := [.int (i32 x99), .ref 189]) rfl ?_
        obtain ⟨g100a, g100b⟩ := g100
        refine T_ld 45 (.int (i32 q)) rfl (fun _ => rfl) ?_
        refine T_call 48 256 [.ref 189, .int (i32 x99), .int (i32 q)] [] rfl (fun _ => rfl) rfl (c_want w (mO m [] []) c N D (by omega) hT x99 q (r32 (by omega) (by omega)) (r32 (by omega) (by omega)) (show 0 ≤ q ∧ q ≤ 4000 by omega) (fun (h : (m.1 10) = 0) => absurd h (by omega))) (fun rr101 k102 => ?_)
        obtain ⟨m103, Tm103, Fm103, h104, c105, rfl⟩ := k102
        refine ⟨_, _, rfl, ?_⟩
        refine T_nb (st' := []) rfl ?_
        have g106 : 0 ≤ m103.1 10 ∧ m103.1 10 ≤ 8 := Tm103.1 10
        replace h104 : (m103.1 10) = 0 → (m.1 10) = 0 := h104
        have hf107 : 1 ≤ (m103.1 10) := by omega
        clear c105
        clear h104
        clear g100a g100b
        refine T_goto 68 rfl (fun _ => rfl) ?_
        refine T_ld 69 (.int (i32 a)) rfl (fun _ => rfl) ?_
        refine T_ret rfl (fun _ => rfl) ?_
        exact ⟨(mO m103 [] []), a, Tm103, (fr_m (fr_s Fm103 (fr_m fr_0 rfl rfl) rfl rfl) rfl rfl), ⟨by omega, by omega⟩, (show (m103.1 10) = 0 → (m.1 10) = 0 by omega), (show a = 64 ∨ a = a ∨ a = e by omega), (fun (h : (m103.1 10) = 0) => absurd h (by omega)), rfl⟩
    · skip
      refine T_ld 6 (.int (i32 k)) rfl (fun _ => rfl) ?_
      refine T_if 12 9 rfl rfl rfl (r32 (by omega) (by omega)) (fun (h108 : k = 0) => ?_) (fun (h108 : ¬ (k = 0)) => ?_)
      · skip
        refine T_ld 13 (.int (i32 g)) rfl (fun _ => rfl) ?_
        refine T_if 31 16 rfl rfl rfl (r32 (by omega) (by omega)) (fun (h109 : g = 0) => ?_) (fun (h109 : ¬ (g = 0)) => ?_)
        · skip
          refine T_ld 33 (.int (i32 k)) rfl (fun _ => rfl) ?_
          refine T_if 51 36 rfl rfl rfl (r32 (by omega) (by omega)) (fun (h110 : k = 0) => ?_) (fun (h110 : ¬ (k = 0)) => by exfalso; omega)
          refine T_ld 52 (.ref 189) rfl (fun _ => rfl) ?_
          refine T_ld 53 (.int (i32 a)) rfl (fun _ => rfl) ?_
          refine T_ld 55 (.int (i32 e)) rfl (fun _ => rfl) ?_
          refine T_icmp 62 58 rfl rfl rfl (r32 (by omega) (by omega)) (r32 (by omega) (by omega)) (fun (h111 : a ≠ e) => ?_) (fun (h111 : ¬ (a ≠ e)) => ?_)
          · skip
            refine T_ld 63 (.int (i32 0)) rfl (fun _ => rfl) ?_
            refine T_ld 65 (.int (i32 q)) rfl (fun _ => rfl) ?_
            refine T_call 68 256 [.ref 189, .int (i32 0), .int (i32 q)] [] rfl (fun _ => rfl) rfl (c_want w (mO m [] []) c N D (by omega) hT 0 q ⟨by decide, by decide⟩ (r32 (by omega) (by omega)) (show 0 ≤ q ∧ q ≤ 4000 by omega) (fun (h : (m.1 10) = 0) => absurd h (by omega))) (fun rr112 k113 => ?_)
            obtain ⟨m114, Tm114, Fm114, h115, c116, rfl⟩ := k113
            refine ⟨_, _, rfl, ?_⟩
            refine T_nb (st' := []) rfl ?_
            have g117 : 0 ≤ m114.1 10 ∧ m114.1 10 ≤ 8 := Tm114.1 10
            replace h115 : (m114.1 10) = 0 → (m.1 10) = 0 := h115
            have hf118 : 1 ≤ (m114.1 10) := by omega
            clear c116
            clear h115
            refine T_ld 69 (.int (i32 a)) rfl (fun _ => rfl) ?_
            refine T_ret rfl (fun _ => rfl) ?_
            exact ⟨(mO m114 [] []), a, Tm114, (fr_m (fr_s Fm114 (fr_m fr_0 rfl rfl) rfl rfl) rfl rfl), ⟨by omega, by omega⟩, (show (m114.1 10) = 0 → (m.1 10) = 0 by omega), (show a = 64 ∨ a = a ∨ a = e by omega), (fun (h : (m114.1 10) = 0) => absurd h (by omega)), rfl⟩
          · skip
            refine T_ld 59 (.int (i32 1)) rfl (fun _ => rfl) ?_
            refine T_goto 63 rfl (fun _ => rfl) ?_
            refine T_ld 65 (.int (i32 q)) rfl (fun _ => rfl) ?_
            refine T_call 68 256 [.ref 189, .int (i32 1), .int (i32 q)] [] rfl (fun _ => rfl) rfl (c_want w (mO m [] []) c N D (by omega) hT 1 q ⟨by decide, by decide⟩ (r32 (by omega) (by omega)) (show 0 ≤ q ∧ q ≤ 4000 by omega) (fun (h : (m.1 10) = 0) => absurd h (by omega))) (fun rr119 k120 => ?_)
            obtain ⟨m121, Tm121, Fm121, h122, c123, rfl⟩ := k120
            refine ⟨_, _, rfl, ?_⟩
            refine T_nb (st' := []) rfl ?_
            have g124 : 0 ≤ m121.1 10 ∧ m121.1 10 ≤ 8 := Tm121.1 10
            replace h122 : (m121.1 10) = 0 → (m.1 10) = 0 := h122
            have hf125 : 1 ≤ (m121.1 10) := by omega
            clear c123
            clear h122
            refine T_ld 69 (.int (i32 a)) rfl (fun _ => rfl) ?_
            refine T_ret rfl (fun _ => rfl) ?_
            exact ⟨(mO m121 [] []), a, Tm121, (fr_m (fr_s Fm121 (fr_m fr_0 rfl rfl) rfl rfl) rfl rfl), ⟨by omega, by omega⟩, (show (m121.1 10) = 0 → (m.1 10) = 0 by omega), (show a = 64 ∨ a = a ∨ a = e by omega), (fun (h : (m121.1 10) = 0) => absurd h (by omega)), rfl⟩
        · skip
          refine T_ld 17 (.ref 189) rfl (fun _ => rfl) ?_
          refine T_ld 18 (.long (i64 v)) rfl (fun _ => rfl) ?_
          refine T_ld 20 (.int (i32 e)) rfl (fun _ => rfl) ?_
          refine T_call 23 262 [.long (i64 v), .int (i32 e)] [.ref 189] rfl (fun _ => rfl) rfl (c_fits w (mO m [] []) c N D (by omega) hT v e (r64 (by omega) (by omega)) (r32 (by omega) (by omega))) (fun rr126 k127 => ?_)
          obtain ⟨x128, g129, rfl⟩ := k127
          refine ⟨_, _, rfl, ?_⟩
          refine T_ns (st' := [.int (i32 x128), .ref 189]) rfl ?_
          obtain ⟨g129a, g129b⟩ := g129
          refine T_ld 25 (.int (i32 p)) rfl (fun _ => rfl) ?_
          refine T_call 28 256 [.ref 189, .int (i32 x128), .int (i32 p)] [] rfl (fun _ => rfl) rfl (c_want w (mO m [] []) c N D (by omega) hT x128 p (r32 (by omega) (by omega)) (r32 (by omega) (by omega)) (show 0 ≤ p ∧ p ≤ 4000 by omega) (fun (h : (m.1 10) = 0) => absurd h (by omega))) (fun rr130 k131 => ?_)
          obtain ⟨m132, Tm132, Fm132, h133, c134, rfl⟩ := k131
          refine ⟨_, _, rfl, ?_⟩
          refine T_nb (st' := []) rfl ?_
          have g135 : 0 ≤ m132.1 10 ∧ m132.1 10 ≤ 8 := Tm132.1 10
          replace h133 : (m132.1 10) = 0 → (m.1 10) = 0 := h133
          have hf136 : 1 ≤ (m132.1 10) := by omega
          clear c134
          clear h133
          clear g129a g129b
          refine T_ld 30 (.int (i32 e)) rfl (fun _ => rfl) ?_
          refine T_ret rfl (fun _ => rfl) ?_
          exact ⟨(mO m132 [] []), e, Tm132, (fr_m (fr_s Fm132 (fr_m fr_0 rfl rfl) rfl rfl) rfl rfl), ⟨by omega, by omega⟩, (show (m132.1 10) = 0 → (m.1 10) = 0 by omega), (show e = 64 ∨ e = a ∨ e = e by omega), (fun (h : (m132.1 10) = 0) => absurd h (by omega)), rfl⟩
      · skip
        refine T_ld 11 (.int (i32 64)) rfl (fun _ => rfl) ?_
        refine T_ret rfl (fun _ => rfl) ?_
        exact ⟨(mO m [] []), 64, hT, (fr_m fr_0 rfl rfl), ⟨by omega, by omega⟩, (show (m.1 10) = 0 → (m.1 10) = 0 by omega), (show (64 : Int) = 64 ∨ (64 : Int) = a ∨ (64 : Int) = e by omega), (fun (h : (m.1 10) = 0) => absurd h (by omega)), rfl⟩
def fF_unit : List Nat := [69, 70, 71, 72]
def fA_unit : List Nat := []
def Q_unit (m : mR) (c : Nat → Option am_C) (N : Nat) (b : Int) (p : Int) : ag_Re af_T → Prop := fun R => ∃ (M : mR), Ty M ∧ fr fF_unit fA_unit m M ∧ ((M.1 69) = b) ∧ R = (.inl (none), (mhp M c, N), 0, 0)
set_option maxHeartbeats 3000000 in
theorem c_unit (w : wX) (m : mR) (c : Nat → Option am_C) (N D : Nat) (hD : 1 ≤ D) (hT : Ty m) (b : Int) (p : Int) (qb : R32 b) (qp : R32 p) (p0 : 0 ≤ b ∧ b ≤ 1024) (p1 : 0 ≤ p ∧ p ≤ 4000) : TC w D 250 [.ref 189, .int (i32 b), .int (i32 p)] (mhp m c, N) (Q_unit m c N b p) := by
  obtain ⟨D, rfl⟩ : ∃ k, D = k + 1 := ⟨D - 1, by omega⟩
  obtain ⟨qba, qbb⟩ := id qb
  obtain ⟨qpa, qpb⟩ := id qp
  have f69 : 0 ≤ m.1 69 ∧ m.1 69 ≤ 1024 := hT.1 69
  refine Tc_of rfl ?_
  show TT w D pm_250 (0, [(0, .ref 189), (1, .int (i32 b)), (2, .int (i32 p))], [], (mhp (mO m [] []) c, N), 0, 0) (Q_unit m c N b p)
  refine T_ld 1 (.ref 189) rfl (fun _ => rfl) ?_
  refine T_ld 2 (.int (i32 b)) rfl (fun _ => rfl) ?_
  refine T_pf (l' := [(69, b)]) 5 b rfl rfl rfl rfl rfl rfl ?_
  have g1 : 0 ≤ b ∧ b ≤ 1024 := ⟨by omega, by omega⟩
  refine T_ld 6 (.ref 189) rfl (fun _ => rfl) ?_
  refine T_ld 7 (.int (i32 p)) rfl (fun _ => rfl) ?_
  refine T_pf (l' := [(69, b), (70, p)]) 10 p rfl rfl rfl rfl rfl rfl ?_
  have g2 : 0 ≤ p ∧ p ≤ 4000 := ⟨by omega, by omega⟩
  refine T_ld 11 (.ref 189) rfl (fun _ => rfl) ?_
  refine T_ld 12 (.int (i32 0)) rfl (fun _ => rfl) ?_
  refine T_pf (l' := [(69, b), (70, p), (71, 0)]) 15 0 rfl rfl rfl rfl rfl rfl ?_
  refine T_ld 16 (.ref 189) rfl (fun _ => rfl) ?_
  refine T_ld 17 (.long (i64 0)) rfl (fun _ => rfl) ?_
  refine T_pf (l' := [(69, b), (70, p), (71, 0), (72, 0)]) 20 0 rfl rfl rfl rfl rfl rfl ?_
  refine T_ret rfl (fun _ => rfl) ?_
  exact ⟨(mO m [(69, b), (70, p), (71, 0), (72, 0)] []), (Ty_mO hT rfl rfl ⟨g1, g2, ⟨(by omega : (0 : Int) ≤ 0), (by omega : (0 : Int) ≤ 1)⟩, ⟨(by omega : ((-9223372036854775808) : Int) ≤ 0), (by omega : (0 : Int) ≤ 9223372036854775807)⟩, trivial⟩ trivial), (fr_m fr_0 rfl rfl), (show b = b by omega), rfl⟩
def fF_open : List Nat := [73]
def fA_open : List Nat := [76, 77, 78, 79, 80]
def Q_open (m : mR) (c : Nat → Option am_C) (N : Nat) (k : Int) (p : Int) (s : Int) : ag_Re af_T → Prop := fun R => ∃ (M : mR), Ty M ∧ fr fF_open fA_open m M ∧ ((M.1 73) = (m.1 73) + 1) ∧ ((M.2 76) = upI (m.2 76) (m.1 73) k) ∧ ((M.2 78) = upI (m.2 78) (m.1 73) s) ∧ ((M.2 79) = upI (m.2 79) (m.1 73) 0) ∧ (∀ j, j < 9 * (m.1 73) → (M.2 80) j = (m.2 80) j) ∧ (∀ j, 9 * (m.1 73) ≤ j → j < 9 * (m.1 73) + 9 → (M.2 80) j = -1) ∧ R = (.inl (none), (mhp M c, N), 0, 0)
set_option maxHeartbeats 3000000 in
theorem c_open (w : wX) (m : mR) (c : Nat → Option am_C) (N D : Nat) (hD : 1 ≤ D) (hT : Ty m) (k : Int) (p : Int) (s : Int) (qk : R32 k) (qp : R32 p) (qs : R32 s) (p0 : (m.1 73) ≤ 59) (p1 : 0 ≤ k ∧ k ≤ 2) (p2 : 0 ≤ p ∧ p ≤ 4000) (p3 : 0 ≤ s ∧ s ≤ 330) : TC w D 246 [.ref 189, .int (i32 k), .int (i32 p), .int (i32 s)] (mhp m c, N) (Q_open m c N k p s) := by
  obtain ⟨D, rfl⟩ : ∃ k, D = k + 1 := ⟨D - 1, by omega⟩
  obtain ⟨qka, qkb⟩ := id qk
  obtain ⟨qpa, qpb⟩ := id qp
  obtain ⟨qsa, qsb⟩ := id qs
  have f73 : 0 ≤ m.1 73 ∧ m.1 73 ≤ 60 := hT.1 73
  refine Tc_of rfl ?_
  show TT w D pm_246 (0, [(0, .ref 189), (1, .int (i32 k)), (2, .int (i32 p)), (3, .int (i32 s))], [], (mhp (mO m [] []) c, N), 0, 0) (Q_open m c N k p s)
  refine T_gf 4 (.ref 238) rfl rfl rfl rfl rfl rfl ?_
  refine T_gf 8 (.int (i32 (m.1 73))) rfl rfl rfl rfl rfl rfl ?_
  refine T_ld 9 (.int (i32 k)) rfl (fun _ => rfl) ?_
  have G1 : ∀ j, 0 ≤ (upI (m.2 76) (m.1 73) k) j ∧ (upI (m.2 76) (m.1 73) k) j ≤ 2 := upI_rg (hT.2.1 76) ⟨by omega, by omega⟩
  refine T_iast (a' := [(76, upI (m.2 76) (m.1 73) k)]) 10 76 (m.2 76) rfl rfl rfl (by omega) (show (m.1 73) < (60 : Int) by omega) rfl rfl ?_
  refine T_gf 14 (.ref 239) rfl rfl rfl rfl rfl rfl ?_
  refine T_gf 18 (.int (i32 (m.1 73))) rfl rfl rfl rfl rfl rfl ?_
  refine T_ld 19 (.int (i32 p)) rfl (fun _ => rfl) ?_
  have G2 : ∀ j, 0 ≤ (upI (m.2 77) (m.1 73) p) j ∧ (upI (m.2 77) (m.1 73) p) j ≤ 4000 := upI_rg (hT.2.1 77) ⟨by omega, by omega⟩
  refine T_iast (a' := [(76, upI (m.2 76) (m.1 73) k), (77, upI (m.2 77) (m.1 73) p)]) 20 77 (m.2 77) rfl rfl rfl (by omega) (show (m.1 73) < (60 : Int) by omega) rfl rfl ?_
  refine T_gf 24 (.ref 240) rfl rfl rfl rfl rfl rfl ?_
  refine T_gf 28 (.int (i32 (m.1 73))) rfl rfl rfl rfl rfl rfl ?_
  refine T_ld 29 (.int (i32 s)) rfl (fun _ => rfl) ?_
  have G3 : ∀ j, 0 ≤ (upI (m.2 78) (m.1 73) s) j ∧ (upI (m.2 78) (m.1 73) s) j ≤ 330 := upI_rg (hT.2.1 78) ⟨by omega, by omega⟩
  refine T_iast (a' := [(76, upI (m.2 76) (m.1 73) k), (77, upI (m.2 77) (m.1 73) p), (78, upI (m.2 78) (m.1 73) s)]) 30 78 (m.2 78) rfl rfl rfl (by omega) (show (m.1 73) < (60 : Int) by omega) rfl rfl ?_
  refine T_gf 34 (.ref 241) rfl rfl rfl rfl rfl rfl ?_
  refine T_gf 38 (.int (i32 (m.1 73))) rfl rfl rfl rfl rfl rfl ?_
  refine T_ld 39 (.int (i32 0)) rfl (fun _ => rfl) ?_
  have G4 : ∀ j, 0 ≤ (upI (m.2 79) (m.1 73) 0) j ∧ (upI (m.2 79) (m.1 73) 0) j ≤ 2 := upI_rg (hT.2.1 79) ⟨by omega, by omega⟩
  refine T_iast (a' := [(76, upI (m.2 76) (m.1 73) k), (77, upI (m.2 77) (m.1 73) p), (78, upI (m.2 78) (m.1 73) s), (79, upI (m.2 79) (m.1 73) 0)]) 40 79 (m.2 79) rfl rfl rfl (by omega) (show (m.1 73) < (60 : Int) by omega) rfl rfl ?_
  refine T_ld 41 (.int (i32 0)) rfl (fun _ => rfl) ?_
  refine T_sto 43 [(4, .int (i32 0)), (0, .ref 189), (1, .int (i32 k)), (2, .int (i32 p)), (3, .int (i32 s))] rfl (fun _ => rfl) ?_
  refine T_fl (Ty_mO hT rfl rfl trivial ⟨G1, G2, G3, G4, trivial⟩) (fun m5 Tm5 Fm5 => ?_)
  have L43_8 : ∀ (n : Nat) (v6 : Int) (m7 : mR), (R32 v6) → Ty m7 → fr [] [80] (mO m5 [] []) m7 → (0 ≤ v6) → (v6 ≤ 9) → (∀ j, j < 9 * (m.1 73) → (m7.2 80) j = (m.2 80) j) → (∀ j, 9 * (m.1 73) ≤ j → j < 9 * (m.1 73) + v6 → (m7.2 80) j = -1) → 9 - v6 < (n : Int) → TT w D pm_246 (43, [(0, .ref 189), (1, .int (i32 k)), (2, .int (i32 p)), (3, .int (i32 s)), (4, .int (i32 v6))], [], (mhp (mO m7 [] []) c, N), 0, 0) (Q_open m c N k p s) := by
    intro n
    induction n with
    | zero =>
      intro v6 m7 q13 Tm7 Fm7 ic9 ic10 ic11 ic12 hmu
      obtain ⟨q13a, q13b⟩ := id q13
      have hW1 := ic11
      have hW2 := ic12
      exfalso
      omega
    | succ n ih =>
      intro v6 m7 q13 Tm7 Fm7 ic9 ic10 ic11 ic12 hmu
      obtain ⟨q13a, q13b⟩ := id q13
      have hW1 := ic11
      have hW2 := ic12
      have ih16 := ih
      refine T_ld 45 (.int (i32 v6)) rfl (fun _ => rfl) ?_
      refine T_ld 47 (.int (i32 9)) rfl (fun _ => rfl) ?_
      refine T_icmp 72 50 rfl rfl rfl (r32 (by omega) (by omega)) ⟨by decide, by decide⟩ (fun (h17 : (9 : Int) ≤ v6) => ?_) (fun (h17 : ¬ ((9 : Int) ≤ v6)) => ?_)
      · skip
        refine T_ld 73 (.ref 189) rfl (fun _ => rfl) ?_
        refine T_ld 74 (.ref 189) rfl (fun _ => rfl) ?_
        refine T_gf1 77 (.int (i32 (m.1 73))) rfl rfl (mfv_c (F := fun x => .int (i32 x)) rfl (show (m7.1 73) = (m.1 73) from ((fr1 Fm7 73 rfl).trans (fr1 Fm5 73 rfl)))) rfl ?_
        refine T_ld 78 (.int (i32 1)) rfl (fun _ => rfl) ?_
        refine T_iadd 79 rfl rfl ?_
        refine T_pf (l' := [(73, (m.1 73) + 1)]) 82 ((m.1 73) + 1) rfl rfl rfl rfl rfl rfl ?_
        have g18 : 0 ≤ (m.1 73) + 1 ∧ (m.1 73) + 1 ≤ 60 := ⟨by omega, by omega⟩
        refine T_ret rfl (fun _ => rfl) ?_
        exact ⟨(mO m7 [(73, (m.1 73) + 1)] []), (Ty_mO Tm7 rfl rfl ⟨g18, trivial⟩ trivial), (fr_m (fr_s Fm7 (fr_m (fr_s Fm5 (fr_m fr_0 rfl rfl) rfl rfl) rfl rfl) rfl rfl) rfl rfl), (show ((m.1 73) + 1) = (m.1 73) + 1 by omega), (show (m7.2 76) = upI (m.2 76) (m.1 73) k by rewrite [(show (m7.2 76) = (upI (m.2 76) (m.1 73) k) from ((fr2 Fm7 76 rfl).trans (fr2 Fm5 76 rfl)))]; rfl), (show (m7.2 78) = upI (m.2 78) (m.1 73) s by rewrite [(show (m7.2 78) = (upI (m.2 78) (m.1 73) s) from ((fr2 Fm7 78 rfl).trans (fr2 Fm5 78 rfl)))]; rfl), (show (m7.2 79) = upI (m.2 79) (m.1 73) 0 by rewrite [(show (m7.2 79) = (upI (m.2 79) (m.1 73) 0) from ((fr2 Fm7 79 rfl).trans (fr2 Fm5 79 rfl)))]; rfl), (show ∀ j, j < 9 * (m.1 73) → (m7.2 80) j = (m.2 80) j by first | (exact hW1) | (exfalso; omega)), (show ∀ j, 9 * (m.1 73) ≤ j → j < 9 * (m.1 73) + 9 → (m7.2 80) j = -1 by first | (exact fun j h1 h2 => hW2 j h1 (by omega)) | (exfalso; omega)), rfl⟩
      · skip
        refine T_gf 54 (.ref 242) rfl rfl rfl rfl rfl rfl ?_
        refine T_ld 56 (.int (i32 9)) rfl (fun _ => rfl) ?_
        refine T_gf 60 (.int (i32 (m.1 73))) rfl rfl rfl rfl (mfv_c (F := fun x => .int (i32 x)) rfl (show (m7.1 73) = (m.1 73) from ((fr1 Fm7 73 rfl).trans (fr1 Fm5 73 rfl)))) rfl ?_
        refine T_imul 61 rfl rfl ?_
        refine T_ld 63 (.int (i32 v6)) rfl (fun _ => rfl) ?_
        refine T_iadd 64 rfl rfl ?_
        refine T_ld 65 (.int (i32 (-1))) rfl (fun _ => rfl) ?_
        have G19 : ∀ j, (-1) ≤ (upI (m7.2 80) ((9 * (m.1 73)) + v6) (-1)) j ∧ (upI (m7.2 80) ((9 * (m.1 73)) + v6) (-1)) j ≤ 330 := upI_rg (Tm7.2.1 80) ⟨by omega, by omega⟩
        refine T_iast (a' := [(80, upI (m7.2 80) ((9 * (m.1 73)) + v6) (-1))]) 66 80 (m7.2 80) rfl rfl rfl (by omega) (show ((9 * (m.1 73)) + v6) < (540 : Int) by omega) rfl rfl ?_
        refine T_iinc 69 [(4, .int (i32 (v6 + 1))), (0, .ref 189), (1, .int (i32 k)), (2, .int (i32 p)), (3, .int (i32 s))] rfl rfl (by decide) rfl rfl ?_
        refine T_goto 43 rfl (fun _ => rfl) ?_
        refine Tm_lv (a := [(0, .ref 189), (1, .int (i32 k)), (2, .int (i32 p)), (3, .int (i32 s)), (4, .int (i32 (v6 + 1)))]) rfl rfl ⟨rfl, rfl, rfl, rfl, rfl, trivial⟩ ?_
        exact ih16 (v6 + 1) (mO m7 [] [(80, upI (m7.2 80) ((9 * (m.1 73)) + v6) (-1))]) (r32 (by omega) (by omega)) (Ty_mO Tm7 rfl rfl trivial ⟨G19, trivial⟩) (fr_m (fr_s Fm7 (fr_m fr_0 rfl rfl) rfl rfl) rfl rfl) (show 0 ≤ (v6 + 1) by omega) (show (v6 + 1) ≤ 9 by omega) (show ∀ j, j < 9 * (m.1 73) → (upI (m7.2 80) ((9 * (m.1 73)) + v6) (-1)) j = (m.2 80) j by first | exact fun j _ => rfl | exact fun j h1 => (upI_n (by omega)).trans (hW1 j h1)) (show ∀ j, 9 * (m.1 73) ≤ j → j < 9 * (m.1 73) + (v6 + 1) → (upI (m7.2 80) ((9 * (m.1 73)) + v6) (-1)) j = -1 by first | (intro j h1 h2; omega) | (intro j h1 h2; by_cases e : j = 9 * (m.1 73) + v6; (rw [e, upI_s]); (rw [upI_n e]; exact hW2 j h1 (by omega)))) (show 9 - (v6 + 1) < (n : Int) by omega)
  refine Tm_lv (a := [(0, .ref 189), (1, .int (i32 k)), (2, .int (i32 p)), (3, .int (i32 s)), (4, .int (i32 0))]) rfl rfl ⟨rfl, rfl, rfl, rfl, rfl, trivial⟩ ?_
  exact L43_8 ((9 - (0 : Int) : Int) + 1).toNat 0 (mO m5 [] []) ⟨by decide, by decide⟩ Tm5 (fr_m fr_0 rfl rfl) (show 0 ≤ (0 : Int) by omega) (show (0 : Int) ≤ 9 by omega) (show ∀ j, j < 9 * (m.1 73) → (m5.2 80) j = (m.2 80) j by rewrite [(show (m5.2 80) = (m.2 80) from (fr2 Fm5 80 rfl))]; first | exact fun j _ => rfl | exact fun j h1 => (upI_n (by omega)).trans (hW1 j h1)) (show ∀ j, 9 * (m.1 73) ≤ j → j < 9 * (m.1 73) + (0 : Int) → (m5.2 80) j = -1 by rewrite [(show (m5.2 80) = (m.2 80) from (fr2 Fm5 80 rfl))]; first | (intro j h1 h2; omega) | (intro j h1 h2; by_cases e : j = 9 * (m.1 73) + v6; (rw [e, upI_s]); (rw [upI_n e]; exact hW2 j h1 (by omega)))) (show 9 - (0 : Int) < ((((9 - (0 : Int) : Int) + 1).toNat : Nat) : Int) by omega)
def fF_beginChoice : List Nat := [10, 11, 73, 74, 75]
def fA_beginChoice : List Nat := [76, 77, 78, 79, 80]
def Q_beginChoice (m : mR) (c : Nat → Option am_C) (N : Nat) (B : Int) (U : Int) : ag_Re af_T → Prop := fun R => ∃ (M : mR), Ty M ∧ fr fF_beginChoice fA_beginChoice m M ∧ ((M.1 10) = 0 → (m.1 10) = 0) ∧ (M.1 10 = 0 → (XS (m.2 65) (m.2 67) (M.2 76) (M.2 78) (M.2 79) (M.2 80) B (m.1 28) (M.1 73) (M.1 74) U) ∧ ((M.1 73) = (m.1 73) + 1) ∧ ((M.1 75) = 0)) ∧ R = (.inl (none), (mhp M c, N), 0, 0)
set_option maxHeartbeats 3000000 in
theorem c_beginChoice (w : wX) (m : mR) (c : Nat → Option am_C) (N D : Nat) (hD : 2 ≤ D) (hT : Ty m) (B : Int) (U : Int) (hC : m.1 10 = 0 → (XT (m.2 65) (m.2 67) (m.2 76) (m.2 78) (m.2 79) (m.2 80) B (m.1 28) (m.1 73) (m.1 74) U) ∧ ((m.1 73) = 0 ∨ (m.2 76) ((m.1 73) - 1) = 2 ∨ ((m.2 76) ((m.1 73) - 1) = 0 ∧ (m.2 79) ((m.1 73) - 1) = 2))) : TC w D 245 [.ref 189] (mhp m c, N) (Q_beginChoice m c N B U) := by
  obtain ⟨D, rfl⟩ : ∃ k, D = k + 1 := ⟨D - 1, by omega⟩
  have f10 : 0 ≤ m.1 10 ∧ m.1 10 ≤ 8 := hT.1 10
  have f11 : (-1) ≤ m.1 11 ∧ m.1 11 ≤ 4000 := hT.1 11
  have f73 : 0 ≤ m.1 73 ∧ m.1 73 ≤ 60 := hT.1 73
  have f74 : 0 ≤ m.1 74 ∧ m.1 74 ≤ 24 := hT.1 74
  have f75 : 0 ≤ m.1 75 ∧ m.1 75 ≤ 3 := hT.1 75
  have f28 : 0 ≤ m.1 28 ∧ m.1 28 ≤ 800 := hT.1 28
  refine Tc_of rfl ?_
  show TT w D pm_245 (0, [(0, .ref 189)], [], (mhp (mO m [] []) c, N), 0, 0) (Q_beginChoice m c N B U)
  by_cases hf0 : m.1 10 = 0
  · skip
    obtain ⟨hXT, hTop⟩ := hC hf0
    have hb := OS_hi hXT.2
    refine T_gf 4 (.int (i32 (m.1 10))) rfl rfl rfl rfl rfl rfl ?_
    refine T_if 8 7 rfl rfl rfl (r32 (by omega) (by omega)) (fun (h2 : (m.1 10) ≤ 0) => ?_) (fun (h2 : ¬ ((m.1 10) ≤ 0)) => by exfalso; omega)
    refine T_gf 12 (.int (i32 (m.1 74))) rfl rfl rfl rfl rfl rfl ?_
    refine T_ld 14 (.int (i32 24)) rfl (fun _ => rfl) ?_
    refine T_icmp 26 17 rfl rfl rfl (r32 (by omega) (by omega)) ⟨by decide, by decide⟩ (fun (h3 : (m.1 74) ≠ 24) => ?_) (fun (h3 : ¬ ((m.1 74) ≠ 24)) => ?_)
    · skip
      refine T_gf 30 (.int (i32 (m.1 10))) rfl rfl rfl rfl rfl rfl ?_
      refine T_if 34 33 rfl rfl rfl (r32 (by omega) (by omega)) (fun (h4 : (m.1 10) ≤ 0) => ?_) (fun (h4 : ¬ ((m.1 10) ≤ 0)) => by exfalso; omega)
      refine T_ld 35 (.ref 189) rfl (fun _ => rfl) ?_
      refine T_ld 36 (.ref 189) rfl (fun _ => rfl) ?_
      refine T_gf1 39 (.int (i32 (m.1 74))) rfl rfl rfl rfl ?_
      refine T_ld 40 (.int (i32 1)) rfl (fun _ => rfl) ?_
      refine T_iadd 41 rfl rfl ?_
      refine T_pf (l' := [(74, (m.1 74) + 1)]) 44 ((m.1 74) + 1) rfl rfl rfl rfl rfl rfl ?_
      have g5 : 0 ≤ (m.1 74) + 1 ∧ (m.1 74) + 1 ≤ 24 := ⟨by omega, by omega⟩
      refine T_ld 45 (.ref 189) rfl (fun _ => rfl) ?_
      refine T_ld 46 (.int (i32 0)) rfl (fun _ => rfl) ?_
      have f8 : 0 ≤ m.1 8 ∧ m.1 8 ≤ 4000 := hT.1 8
      refine T_gf 50 (.int (i32 (m.1 8))) rfl rfl rfl rfl rfl rfl ?_
      refine T_ld 51 (.int (i32 0)) rfl (fun _ => rfl) ?_
      refine T_call 54 246 [.ref 189, .int (i32 0), .int (i32 (m.1 8)), .int (i32 0)] [] rfl (fun _ => rfl) rfl (c_open w (mO m [(74, (m.1 74) + 1)] []) c N D (by omega) (Ty_mO hT rfl rfl ⟨g5, trivial⟩ trivial) 0 (m.1 8) 0 ⟨by decide, by decide⟩ (r32 (by omega) (by omega)) ⟨by decide, by decide⟩ (show (m.1 73) ≤ 59 by omega) (show 0 ≤ (0 : Int) ∧ (0 : Int) ≤ 2 by omega) (show 0 ≤ (m.1 8) ∧ (m.1 8) ≤ 4000 by omega) (show 0 ≤ (0 : Int) ∧ (0 : Int) ≤ 330 by omega)) (fun rr6 k7 => ?_)
      obtain ⟨m8, Tm8, Fm8, h9, h10, h11, h12, h13, h14, rfl⟩ := k7
      refine ⟨_, _, rfl, ?_⟩
      refine T_nb (st' := []) rfl ?_
      have g15 : 0 ≤ m8.1 73 ∧ m8.1 73 ≤ 60 := Tm8.1 73
      replace h9 : (m8.1 73) = (m.1 73) + 1 := h9
      have hO0 := h9
      replace h10 : (m8.2 76) = upI (m.2 76) (m.1 73) (0 : Int) := h10
      have hO1 := h10
      replace h11 : (m8.2 78) = upI (m.2 78) (m.1 73) (0 : Int) := h11
      have hO2 := h11
      replace h12 : (m8.2 79) = upI (m.2 79) (m.1 73) 0 := h12
      have hO3 := h12
      replace h13 : ∀ j, j < 9 * (m.1 73) → (m8.2 80) j = (m.2 80) j := h13
      have hW1 := h13
      replace h14 : ∀ j, 9 * (m.1 73) ≤ j → j < 9 * (m.1 73) + 9 → (m8.2 80) j = -1 := h14
      have hW2 := h14
      refine T_ld 55 (.ref 189) rfl (fun _ => rfl) ?_
      refine T_ld 56 (.int (i32 0)) rfl (fun _ => rfl) ?_
      refine T_pf (l' := [(75, 0)]) 59 0 rfl rfl rfl rfl rfl rfl ?_
      refine T_ret rfl (fun _ => rfl) ?_
      exact ⟨(mO m8 [(75, 0)] []), (Ty_mO Tm8 rfl rfl ⟨⟨(by omega : (0 : Int) ≤ 0), (by omega : (0 : Int) ≤ 3)⟩, trivial⟩ trivial), (fr_m (fr_s Fm8 (fr_m fr_0 rfl rfl) rfl rfl) rfl rfl), (show (m8.1 10) = 0 → (m.1 10) = 0 by rewrite [(show (m8.1 10) = (m.1 10) from (fr1 Fm8 10 rfl))]; omega), (fun _ => ⟨(show XS (m.2 65) (m.2 67) (m8.2 76) (m8.2 78) (m8.2 79) (m8.2 80) B (m.1 28) (m8.1 73) (m8.1 74) U by rewrite [(show (m8.1 74) = ((m.1 74) + 1) from (fr1 Fm8 74 rfl))]; first | (rw [hO0, hO1, hO2, hO3]; exact XS_cho hXT hTop hW1 hW2) | (exfalso; omega)), (show (m8.1 73) = (m.1 73) + 1 by omega), (show (0 : Int) = 0 by omega)⟩), rfl⟩
    · skip
      refine T_ld 18 (.ref 189) rfl (fun _ => rfl) ?_
      refine T_ld 19 (.int (i32 4)) rfl (fun _ => rfl) ?_
      have f8 : 0 ≤ m.1 8 ∧ m.1 8 ≤ 4000 := hT.1 8
      refine T_gf 23 (.int (i32 (m.1 8))) rfl rfl rfl rfl rfl rfl ?_
      refine T_call 26 222 [.ref 189, .int (i32 4), .int (i32 (m.1 8))] [] rfl (fun _ => rfl) rfl (d_wrong w (mO m [] []) c N D (by omega) hT 4 (m.1 8) ⟨by decide, by decide⟩ (r32 (by omega) (by omega)) (show 1 ≤ (4 : Int) ∧ (4 : Int) ≤ 8 by omega) (show 0 ≤ (m.1 8) ∧ (m.1 8) ≤ 4000 by omega)) (fun rr16 k17 => ?_)
      obtain ⟨m18, Tm18, Fm18, h19, rfl⟩ := k17
      refine ⟨_, _, rfl, ?_⟩
      refine T_nb (st' := []) rfl ?_
      have g20 : 0 ≤ m18.1 10 ∧ m18.1 10 ≤ 8 := Tm18.1 10
      have g21 : (-1) ≤ m18.1 11 ∧ m18.1 11 ≤ 4000 := Tm18.1 11
      replace h19 : (0 < (m.1 10) → (m18.1 10) = (m.1 10) ∧ (m18.1 11) = (m.1 11)) ∧ ((m.1 10) ≤ 0 → (m18.1 10) = (4 : Int) ∧ (m18.1 11) = (m.1 8)) := h19
      have hf22 : 1 ≤ (m18.1 10) := by omega
      refine T_gf 30 (.int (i32 (m18.1 10))) rfl rfl rfl rfl rfl rfl ?_
      refine T_if 34 33 rfl rfl rfl (r32 (by omega) (by omega)) (fun (h23 : (m18.1 10) ≤ 0) => by exfalso; omega) (fun (h23 : ¬ ((m18.1 10) ≤ 0)) => ?_)
      refine T_ret rfl (fun _ => rfl) ?_
      exact ⟨(mO m18 [] []), Tm18, (fr_m (fr_s Fm18 (fr_m fr_0 rfl rfl) rfl rfl) rfl rfl), (show (m18.1 10) = 0 → (m.1 10) = 0 by omega), (fun (h : (m18.1 10) = 0) => absurd h (by omega)), rfl⟩
  · skip
    clear hC
    refine T_gf 4 (.int (i32 (m.1 10))) rfl rfl rfl rfl rfl rfl ?_
    refine T_if 8 7 rfl rfl rfl (r32 (by omega) (by omega)) (fun (h24 : (m.1 10) ≤ 0) => by exfalso; omega) (fun (h24 : ¬ ((m.1 10) ≤ 0)) => ?_)
    refine T_ret rfl (fun _ => rfl) ?_
    exact ⟨(mO m [] []), hT, (fr_m fr_0 rfl rfl), (show (m.1 10) = 0 → (m.1 10) = 0 by omega), (fun (h : (m.1 10) = 0) => absurd h (by omega)), rfl⟩
def Q_parameterHere (m : mR) (c : Nat → Option am_C) (N : Nat) : ag_Re af_T → Prop := fun R => ∃ (r : Int), ((-2147483648) ≤ r ∧ r ≤ 2147483647) ∧ (-1 ≤ r ∧ r ≤ 63) ∧ R = (.inl (some (.int (i32 r))), (mhp m c, N), 0, 0)
set_option maxHeartbeats 3000000 in
theorem c_parameterHere (w : wX) (m : mR) (c : Nat → Option am_C) (N D : Nat) (hD : 2 ≤ D) (hT : Ty m) (p0 : 1 ≤ (m.1 9) ∧ (m.1 8) + (m.1 9) ≤ (m.1 6)) (p1 : ∀ k, (m.2 47) k + (m.2 48) k ≤ 4000) : TC w D 252 [.ref 189] (mhp m c, N) (Q_parameterHere m c N) := by
  obtain ⟨D, rfl⟩ : ∃ k, D = k + 1 := ⟨D - 1, by omega⟩
  have f8 : 0 ≤ m.1 8 ∧ m.1 8 ≤ 4000 := hT.1 8
  have f6 : 0 ≤ m.1 6 ∧ m.1 6 ≤ 4000 := hT.1 6
  have f9 : 0 ≤ m.1 9 ∧ m.1 9 ≤ 4000 := hT.1 9
  refine Tc_of rfl ?_
  show TT w D pm_252 (0, [(0, .ref 189)], [], (mhp (mO m [] []) c, N), 0, 0) (Q_parameterHere m c N)
  refine T_ld 1 (.int (i32 (-1))) rfl (fun _ => rfl) ?_
  refine T_sto 2 [(1, .int (i32 (-1))), (0, .ref 189)] rfl (fun _ => rfl) ?_
  have f64 : (-1) ≤ m.1 64 ∧ m.1 64 ≤ 15 := hT.1 64
  refine T_gf 6 (.int (i32 (m.1 64))) rfl rfl rfl rfl rfl rfl ?_
  refine T_if 63 9 rfl rfl rfl (r32 (by omega) (by omega)) (fun (h1 : (m.1 64) < 0) => ?_) (fun (h1 : ¬ ((m.1 64) < 0)) => ?_)
  · skip
    refine T_ld 64 (.int (i32 (-1))) rfl (fun _ => rfl) ?_
    refine T_ret rfl (fun _ => rfl) ?_
    exact ⟨(-1), ⟨by omega, by omega⟩, (show -1 ≤ (-1 : Int) ∧ (-1 : Int) ≤ 63 by omega), rfl⟩
  · skip
    refine T_ld 10 (.int (i32 4)) rfl (fun _ => rfl) ?_
    refine T_gf 14 (.int (i32 (m.1 64))) rfl rfl rfl rfl rfl rfl ?_
    refine T_imul 15 rfl rfl ?_
    refine T_sto 16 [(2, .int (i32 (4 * (m.1 64)))), (1, .int (i32 (-1))), (0, .ref 189)] rfl (fun _ => rfl) ?_
    have e12 : 0 ≤ m.2 46 (m.1 64) ∧ m.2 46 (m.1 64) ≤ 4 := hT.2.1 46 (m.1 64)
    have L16_4 : ∀ (n : Nat) (v2 : Int) (v3 : Int), (R32 v2) → (R32 v3) → ((-1) ≤ v2) → (0 ≤ v3) → (v3 ≤ (4 * (m.1 64)) + ((m.2 46) (m.1 64))) → (v2 ≤ 63) → ((4 * (m.1 64)) + ((m.2 46) (m.1 64))) - v3 < (n : Int) → TT w D pm_252 (16, [(0, .ref 189), (1, .int (i32 v2)), (2, .int (i32 v3))], [], (mhp (mO m [] []) c, N), 0, 0) (Q_parameterHere m c N) := by
      intro n
      induction n with
      | zero =>
        intro v2 v3 q9 q10 ic5 ic6 ic7 ic8 hmu
        obtain ⟨q9a, q9b⟩ := id q9
        obtain ⟨q10a, q10b⟩ := id q10
        exfalso
        omega
      | succ n ih =>
        intro v2 v3 q9 q10 ic5 ic6 ic7 ic8 hmu
        obtain ⟨q9a, q9b⟩ := id q9
        obtain ⟨q10a, q10b⟩ := id q10
        have ih13 := ih
        refine T_ld 17 (.int (i32 v3)) rfl (fun _ => rfl) ?_
        refine T_ld 18 (.int (i32 4)) rfl (fun _ => rfl) ?_
        refine T_gf 22 (.int (i32 (m.1 64))) rfl rfl rfl rfl rfl rfl ?_
        refine T_imul 23 rfl rfl ?_
        refine T_gf 27 (.ref 216) rfl rfl rfl rfl rfl rfl ?_
        refine T_gf 31 (.int (i32 (m.1 64))) rfl rfl rfl rfl rfl rfl ?_
        refine T_iald 32 46 (m.2 46) rfl rfl rfl (by omega) (show (m.1 64) < (16 : Int) by omega) rfl ?_
        have e14 : 0 ≤ m.2 46 (m.1 64) ∧ m.2 46 (m.1 64) ≤ 4 := hT.2.1 46 (m.1 64)
        refine T_iadd 33 rfl rfl ?_
        refine T_icmp 63 36 rfl rfl rfl (r32 (by omega) (by omega)) (r32 (by omega) (by omega)) (fun (h15 : (4 * (m.1 64)) + ((m.2 46) (m.1 64)) ≤ v3) => ?_) (fun (h15 : ¬ ((4 * (m.1 64)) + ((m.2 46) (m.1 64)) ≤ v3)) => ?_)
        · skip
          refine T_ld 64 (.int (i32 v2)) rfl (fun _ => rfl) ?_
          refine T_ret rfl (fun _ => rfl) ?_
          exact ⟨v2, ⟨by omega, by omega⟩, (show -1 ≤ v2 ∧ v2 ≤ 63 by omega), rfl⟩
        · skip
          have hp2 := p1 v3
          refine T_ld 37 (.ref 189) rfl (fun _ => rfl) ?_
          refine T_gf 41 (.ref 217) rfl rfl rfl rfl rfl rfl ?_
          refine T_ld 42 (.int (i32 v3)) rfl (fun _ => rfl) ?_
          refine T_iald 43 47 (m.2 47) rfl rfl rfl (by omega) (show v3 < (64 : Int) by omega) rfl ?_
          have e16 : 0 ≤ m.2 47 v3 ∧ m.2 47 v3 ≤ 4000 := hT.2.1 47 v3
          refine T_gf 47 (.ref 218) rfl rfl rfl rfl rfl rfl ?_
          refine T_ld 48 (.int (i32 v3)) rfl (fun _ => rfl) ?_
          refine T_iald 49 48 (m.2 48) rfl rfl rfl (by omega) (show v3 < (64 : Int) by omega) rfl ?_
          have e17 : 0 ≤ m.2 48 v3 ∧ m.2 48 v3 ≤ 4000 := hT.2.1 48 v3
          refine T_call 52 230 [.ref 189, .int (i32 ((m.2 47) v3)), .int (i32 ((m.2 48) v3))] [] rfl (fun _ => rfl) rfl (d_isHere w (mO m [] []) c N D (by omega) hT ((m.2 47) v3) ((m.2 48) v3) (r32 (by omega) (by omega)) (r32 (by omega) (by omega)) (show 0 ≤ ((m.2 47) v3) by omega) (show 0 ≤ ((m.2 48) v3) by omega) (show ((m.2 47) v3) + ((m.2 48) v3) ≤ 4000 by omega) (show 1 ≤ (m.1 9) ∧ (m.1 8) + (m.1 9) ≤ (m.1 6) by first | omega | (have h8 := hLx (by omega); omega))) (fun rr18 k19 => ?_)
          obtain ⟨x20, g21, h22, rfl⟩ := k19
          refine ⟨_, _, rfl, ?_⟩
          refine T_ns (st' := [.int (i32 x20)]) rfl ?_
          obtain ⟨g21a, g21b⟩ := g21
          replace h22 : (x20 = 1 ∧ sameN (m.2 4) (m.1 8) (m.1 9) ((m.2 47) v3) ((m.2 48) v3)) ∨ (x20 = 0 ∧ ¬ sameN (m.2 4) (m.1 8) (m.1 9) ((m.2 47) v3) ((m.2 48) v3)) := h22
          have hh := h22
          refine T_if 57 55 rfl rfl rfl (r32 (by omega) (by omega)) (fun (h23 : x20 = 0) => ?_) (fun (h23 : ¬ (x20 = 0)) => ?_)
          · skip
            refine T_iinc 60 [(2, .int (i32 (v3 + 1))), (0, .ref 189), (1, .int (i32 v2))] rfl rfl (by decide) rfl rfl ?_
            refine T_goto 16 rfl (fun _ => rfl) ?_
            refine Tm_lv (a := [(0, .ref 189), (1, .int (i32 v2)), (2, .int (i32 (v3 + 1)))]) rfl rfl ⟨rfl, rfl, rfl, trivial⟩ ?_
            exact ih13 v2 (v3 + 1) (r32 (by omega) (by omega)) (r32 (by omega) (by omega)) (show (-1) ≤ v2 by omega) (show 0 ≤ (v3 + 1) by omega) (show (v3 + 1) ≤ (4 * (m.1 64)) + ((m.2 46) (m.1 64)) by omega) (show v2 ≤ 63 by omega) (show ((4 * (m.1 64)) + ((m.2 46) (m.1 64))) - (v3 + 1) < (n : Int) by omega)
          · skip
            refine T_ld 56 (.int (i32 v3)) rfl (fun _ => rfl) ?_
            refine T_sto 57 [(1, .int (i32 v3)), (0, .ref 189), (2, .int (i32 v3))] rfl (fun _ => rfl) ?_
            refine T_iinc 60 [(2, .int (i32 (v3 + 1))), (1, .int (i32 v3)), (0, .ref 189)] rfl rfl (by decide) rfl rfl ?_
            refine T_goto 16 rfl (fun _ => rfl) ?_
            refine Tm_lv (a := [(0, .ref 189), (1, .int (i32 v3)), (2, .int (i32 (v3 + 1)))]) rfl rfl ⟨rfl, rfl, rfl, trivial⟩ ?_
            exact ih13 v3 (v3 + 1) (r32 (by omega) (by omega)) (r32 (by omega) (by omega)) (show (-1) ≤ v3 by omega) (show 0 ≤ (v3 + 1) by omega) (show (v3 + 1) ≤ (4 * (m.1 64)) + ((m.2 46) (m.1 64)) by omega) (show v3 ≤ 63 by omega) (show ((4 * (m.1 64)) + ((m.2 46) (m.1 64))) - (v3 + 1) < (n : Int) by omega)
    refine Tm_lv (a := [(0, .ref 189), (1, .int (i32 (-1))), (2, .int (i32 (4 * (m.1 64))))]) rfl rfl ⟨rfl, rfl, rfl, trivial⟩ ?_
    exact L16_4 ((((4 * (m.1 64)) + ((m.2 46) (m.1 64))) - (4 * (m.1 64)) : Int) + 1).toNat (-1) (4 * (m.1 64)) ⟨by decide, by decide⟩ (r32 (by omega) (by omega)) (show (-1) ≤ (-1 : Int) by omega) (show 0 ≤ (4 * (m.1 64)) by omega) (show (4 * (m.1 64)) ≤ (4 * (m.1 64)) + ((m.2 46) (m.1 64)) by omega) (show (-1 : Int) ≤ 63 by omega) (show ((4 * (m.1 64)) + ((m.2 46) (m.1 64))) - (4 * (m.1 64)) < ((((((4 * (m.1 64)) + ((m.2 46) (m.1 64))) - (4 * (m.1 64)) : Int) + 1).toNat : Nat) : Int) by omega)
def Q_bitsOfField (m : mR) (c : Nat → Option am_C) (N : Nat) (f : Int) : ag_Re af_T → Prop := fun R => ∃ (r : Int), (0 ≤ r ∧ r ≤ 64) ∧ R = (.inl (some (.int (i32 r))), (mhp m c, N), 0, 0)
set_option maxHeartbeats 3000000 in
theorem c_bitsOfField (w : wX) (m : mR) (c : Nat → Option am_C) (N D : Nat) (hD : 1 ≤ D) (hT : Ty m) (f : Int) (qf : R32 f) (p0 : 0 ≤ f ∧ f ≤ 191) : TC w D 254 [.ref 189, .int (i32 f)] (mhp m c, N) (Q_bitsOfField m c N f) := by
  obtain ⟨D, rfl⟩ : ∃ k, D = k + 1 := ⟨D - 1, by omega⟩
  obtain ⟨qfa, qfb⟩ := id qf
  refine Tc_of rfl ?_
  show TT w D pm_254 (0, [(0, .ref 189), (1, .int (i32 f))], [], (mhp (mO m [] []) c, N), 0, 0) (Q_bitsOfField m c N f)
  refine T_gf 4 (.ref 203) rfl rfl rfl rfl rfl rfl ?_
  refine T_ld 6 (.int (i32 16)) rfl (fun _ => rfl) ?_
  refine T_gf 10 (.ref 204) rfl rfl rfl rfl rfl rfl ?_
  refine T_ld 11 (.int (i32 f)) rfl (fun _ => rfl) ?_
  refine T_ld 13 (.int (i32 16)) rfl (fun _ => rfl) ?_
  refine T_idiv 14 rfl rfl (by omega) (by omega) (by omega) (by omega) ?_
  refine T_iald 15 34 (m.2 34) rfl rfl rfl (by omega) (show (f / 16) < (12 : Int) by omega) rfl ?_
  have e1 : 0 ≤ m.2 34 (f / 16) ∧ m.2 34 (f / 16) ≤ 11 := hT.2.1 34 (f / 16)
  refine T_imul 16 rfl rfl ?_
  refine T_ld 17 (.int (i32 f)) rfl (fun _ => rfl) ?_
  refine T_ld 19 (.int (i32 16)) rfl (fun _ => rfl) ?_
  refine T_irem 20 rfl rfl (by omega) (by omega) (by omega) (by omega) ?_
  refine T_iadd 21 rfl rfl ?_
  refine T_iald 22 33 (m.2 33) rfl rfl rfl (by omega) (show ((16 * ((m.2 34) (f / 16))) + (f % 16)) < (192 : Int) by omega) rfl ?_
  have e2 : 0 ≤ m.2 33 ((16 * ((m.2 34) (f / 16))) + (f % 16)) ∧ m.2 33 ((16 * ((m.2 34) (f / 16))) + (f % 16)) ≤ 64 := hT.2.1 33 ((16 * ((m.2 34) (f / 16))) + (f % 16))
  refine T_ret rfl (fun _ => rfl) ?_
  exact ⟨(m.2 33) ((16 * ((m.2 34) (f / 16))) + (f % 16)), ⟨by omega, by omega⟩, rfl⟩
def fF_takeField : List Nat := [7, 8, 9, 10, 11, 12]
def fA_takeField : List Nat := []
def Q_takeField (m : mR) (c : Nat → Option am_C) (N : Nat) (i : Int) : ag_Re af_T → Prop := fun R => ∃ (M : mR) (r : Int), Ty M ∧ fr fF_takeField fA_takeField m M ∧ (0 ≤ r ∧ r ≤ 191) ∧ ((M.1 10) = 0 → (m.1 10) = 0) ∧ (LxP (M.1 7) (M.1 8) (M.1 9) (m.1 6) (M.1 10)) ∧ (M.1 10 = 0 → ((m.1 8) + 1 ≤ (M.1 8)) ∧ ((m.1 7) = 1)) ∧ R = (.inl (some (.int (i32 r))), (mhp M c, N), 0, 0)
set_option maxHeartbeats 3000000 in
theorem c_takeField (w : wX) (m : mR) (c : Nat → Option am_C) (N D : Nat) (hD : 6 ≤ D) (hT : Ty m) (i : Int) (qi : R32 i) (hLx0 : LxP (m.1 7) (m.1 8) (m.1 9) (m.1 6) (m.1 10)) (hFA0 : ∀ k, (m.2 31) k + (m.2 32) k ≤ 4000) (p2 : 0 ≤ i ∧ i ≤ 11) (hC : m.1 10 = 0 → True) : TC w D 253 [.ref 189, .int (i32 i)] (mhp m c, N) (Q_takeField m c N i) := by
  obtain ⟨D, rfl⟩ : ∃ k, D = k + 1 := ⟨D - 1, by omega⟩
  obtain ⟨qia, qib⟩ := id qi
  have hLx := hLx0
  have hFA := hFA0
  have f7 : 0 ≤ m.1 7 ∧ m.1 7 ≤ 330 := hT.1 7
  have f8 : 0 ≤ m.1 8 ∧ m.1 8 ≤ 4000 := hT.1 8
  have f9 : 0 ≤ m.1 9 ∧ m.1 9 ≤ 4000 := hT.1 9
  have f10 : 0 ≤ m.1 10 ∧ m.1 10 ≤ 8 := hT.1 10
  have f11 : (-1) ≤ m.1 11 ∧ m.1 11 ≤ 4000 := hT.1 11
  have f6 : 0 ≤ m.1 6 ∧ m.1 6 ≤ 4000 := hT.1 6
  refine Tc_of rfl ?_
  show TT w D pm_253 (0, [(0, .ref 189), (1, .int (i32 i))], [], (mhp (mO m [] []) c, N), 0, 0) (Q_takeField m c N i)
  by_cases hf0 : m.1 10 = 0
  · skip
    have h7 := hLx (by omega)
    have J115_11 : ∀ (v8 : Int) (v9 : Int) (m10 : mR), (R32 v8) → (R32 v9) → Ty m10 → fr [7, 8, 9, 10, 11, 12] [] (mO m [] []) m10 → (0 ≤ v8) → (0 ≤ v9) → (0 ≤ v8 - 16 * ((m.2 34) i) ∧ v8 - 16 * ((m.2 34) i) ≤ 15) → (0 ≤ ((m.2 34) i) ∧ ((m.2 34) i) ≤ 11) → (1 ≤ (m10.1 10)) → TT w D pm_253 (115, [(0, .ref 189), (1, .int (i32 i)), (2, .int (i32 ((m.2 34) i))), (3, .int (i32 v8)), (4, .int (i32 v9))], [], (mhp (mO m10 [] []) c, N), 0, 0) (Q_takeField m c N i) := by
      intro v8 v9 m10 q17 q18 Tm10 Fm10 ic12 ic13 ic14 ic15 ic16
      obtain ⟨q17a, q17b⟩ := id q17
      obtain ⟨q18a, q18b⟩ := id q18
      have q19_7 : 0 ≤ m10.1 7 ∧ m10.1 7 ≤ 330 := Tm10.1 7
      have q19_8 : 0 ≤ m10.1 8 ∧ m10.1 8 ≤ 4000 := Tm10.1 8
      have q19_9 : 0 ≤ m10.1 9 ∧ m10.1 9 ≤ 4000 := Tm10.1 9
      have q19_10 : 0 ≤ m10.1 10 ∧ m10.1 10 ≤ 8 := Tm10.1 10
      have q19_11 : (-1) ≤ m10.1 11 ∧ m10.1 11 ≤ 4000 := Tm10.1 11
      refine T_ld 117 (.int (i32 16)) rfl (fun _ => rfl) ?_
      refine T_ld 118 (.int (i32 i)) rfl (fun _ => rfl) ?_
      refine T_imul 119 rfl rfl ?_
      refine T_ld 120 (.int (i32 v8)) rfl (fun _ => rfl) ?_
      refine T_iadd 121 rfl rfl ?_
      refine T_ld 123 (.int (i32 16)) rfl (fun _ => rfl) ?_
      refine T_ld 124 (.int (i32 ((m.2 34) i))) rfl (fun _ => rfl) ?_
      refine T_imul 125 rfl rfl ?_
      refine T_isub 126 rfl rfl ?_
      refine T_ret rfl (fun _ => rfl) ?_
      exact ⟨(mO m10 [] []), ((16 * i) + v8) - (16 * ((m.2 34) i)), Tm10, (fr_m (fr_s Fm10 (fr_m fr_0 rfl rfl) rfl rfl) rfl rfl), ⟨by omega, by omega⟩, (show (m10.1 10) = 0 → (m.1 10) = 0 by omega), (show LxP (m10.1 7) (m10.1 8) (m10.1 9) (m.1 6) (m10.1 10) by first | (first | exact hLx | exact (fun _ => hLx (by omega)) | (intro h9; exfalso; omega)) | (exfalso; omega)), (fun (h : (m10.1 10) = 0) => absurd h (by omega)), rfl⟩
    have J102_24 : ∀ (v21 : Int) (v22 : Int) (m23 : mR), (R32 v21) → (R32 v22) → Ty m23 → fr [10, 11] [] (mO m [] []) m23 → ((-1) ≤ v21) → (v21 ≤ (-1)) → (0 ≤ v22) → (0 ≤ ((m.2 34) i) ∧ ((m.2 34) i) ≤ 11) → (1 ≤ (m23.1 10)) → TT w D pm_253 (102, [(0, .ref 189), (1, .int (i32 i)), (2, .int (i32 ((m.2 34) i))), (3, .int (i32 v21)), (4, .int (i32 v22))], [], (mhp (mO m23 [] []) c, N), 0, 0) (Q_takeField m c N i) := by
      intro v21 v22 m23 q30 q31 Tm23 Fm23 ic25 ic26 ic27 ic28 ic29
      obtain ⟨q30a, q30b⟩ := id q30
      obtain ⟨q31a, q31b⟩ := id q31
      have q32_10 : 0 ≤ m23.1 10 ∧ m23.1 10 ≤ 8 := Tm23.1 10
      have q32_11 : (-1) ≤ m23.1 11 ∧ m23.1 11 ≤ 4000 := Tm23.1 11
      refine T_gf 106 (.int (i32 (m23.1 10))) rfl rfl rfl rfl rfl rfl ?_
      refine T_if 111 109 rfl rfl rfl (r32 (by omega) (by omega)) (fun (h34 : (m23.1 10) ≤ 0) => by exfalso; omega) (fun (h34 : ¬ ((m23.1 10) ≤ 0)) => ?_)
      refine T_ld 110 (.int (i32 0)) rfl (fun _ => rfl) ?_
      refine T_ret rfl (fun _ => rfl) ?_
      exact ⟨(mO m23 [] []), 0, Tm23, (fr_m (fr_s Fm23 (fr_m fr_0 rfl rfl) rfl rfl) rfl rfl), ⟨by omega, by omega⟩, (show (m23.1 10) = 0 → (m.1 10) = 0 by omega), (show LxP (m23.1 7) (m23.1 8) (m23.1 9) (m.1 6) (m23.1 10) by rewrite [(show (m23.1 7) = (m.1 7) from (fr1 Fm23 7 rfl)), (show (m23.1 8) = (m.1 8) from (fr1 Fm23 8 rfl)), (show (m23.1 9) = (m.1 9) from (fr1 Fm23 9 rfl))]; first | (first | exact hLx | exact (fun _ => hLx (by omega)) | (intro h9; exfalso; omega)) | (exfalso; omega)), (fun (h : (m23.1 10) = 0) => absurd h (by omega)), rfl⟩
    refine T_gf 4 (.int (i32 (m.1 10))) rfl rfl rfl rfl rfl rfl ?_
    refine T_if 9 7 rfl rfl rfl (r32 (by omega) (by omega)) (fun (h35 : (m.1 10) ≤ 0) => ?_) (fun (h35 : ¬ ((m.1 10) ≤ 0)) => by exfalso; omega)
    refine T_gf 13 (.ref 204) rfl rfl rfl rfl rfl rfl ?_
    refine T_ld 14 (.int (i32 i)) rfl (fun _ => rfl) ?_
    refine T_iald 15 34 (m.2 34) rfl rfl rfl (by omega) (show i < (12 : Int) by omega) rfl ?_
    have e36 : 0 ≤ m.2 34 i ∧ m.2 34 i ≤ 11 := hT.2.1 34 i
    refine T_sto 16 [(2, .int (i32 ((m.2 34) i))), (0, .ref 189), (1, .int (i32 i))] rfl (fun _ => rfl) ?_
    refine T_ld 17 (.int (i32 (-1))) rfl (fun _ => rfl) ?_
    refine T_sto 18 [(3, .int (i32 (-1))), (2, .int (i32 ((m.2 34) i))), (0, .ref 189), (1, .int (i32 i))] rfl (fun _ => rfl) ?_
    refine T_gf 22 (.int (i32 (m.1 7))) rfl rfl rfl rfl rfl rfl ?_
    refine T_ld 23 (.int (i32 1)) rfl (fun _ => rfl) ?_
    refine T_icmp 32 26 rfl rfl rfl (r32 (by omega) (by omega)) ⟨by decide, by decide⟩ (fun (h37 : (m.1 7) = 1) => ?_) (fun (h37 : ¬ ((m.1 7) = 1)) => ?_)
    · skip
      refine T_ld 34 (.int (i32 16)) rfl (fun _ => rfl) ?_
      refine T_ld 35 (.int (i32 ((m.2 34) i))) rfl (fun _ => rfl) ?_
      refine T_imul 36 rfl rfl ?_
      refine T_sto 38 [(4, .int (i32 (16 * ((m.2 34) i)))), (3, .int (i32 (-1))), (2, .int (i32 ((m.2 34) i))), (0, .ref 189), (1, .int (i32 i))] rfl (fun _ => rfl) ?_
      have e51 : 0 ≤ m.2 29 ((m.2 34) i) ∧ m.2 29 ((m.2 34) i) ≤ 16 := hT.2.1 29 ((m.2 34) i)
      have L38_40 : ∀ (n : Nat) (v38 : Int) (v39 : Int), (R32 v38) → (R32 v39) → ((-1) ≤ v38) → (0 ≤ v39) → (v39 ≤ (16 * ((m.2 34) i)) + ((m.2 29) ((m.2 34) i))) → ((-1) ≤ v38) → (v38 < v39) → (16 * ((m.2 34) i) ≤ v39) → (v38 = -1 ∨ 16 * ((m.2 34) i) ≤ v38) → ((16 * ((m.2 34) i)) + ((m.2 29) ((m.2 34) i))) - v39 < (n : Int) → TT w D pm_253 (38, [(0, .ref 189), (1, .int (i32 i)), (2, .int (i32 ((m.2 34) i))), (3, .int (i32 v38)), (4, .int (i32 v39))], [], (mhp (mO m [] []) c, N), 0, 0) (Q_takeField m c N i) := by
        intro n
        induction n with
        | zero =>
          intro v38 v39 q48 q49 ic41 ic42 ic43 ic44 ic45 ic46 ic47 hmu
          obtain ⟨q48a, q48b⟩ := id q48
          obtain ⟨q49a, q49b⟩ := id q49
          exfalso
          omega
        | succ n ih =>
          intro v38 v39 q48 q49 ic41 ic42 ic43 ic44 ic45 ic46 ic47 hmu
          obtain ⟨q48a, q48b⟩ := id q48
          obtain ⟨q49a, q49b⟩ := id q49
          have ih52 := ih
          refine T_ld 40 (.int (i32 v39)) rfl (fun _ => rfl) ?_
          refine T_ld 42 (.int (i32 16)) rfl (fun _ => rfl) ?_
          refine T_ld 43 (.int (i32 ((m.2 34) i))) rfl (fun _ => rfl) ?_
          refine T_imul 44 rfl rfl ?_
          refine T_gf 48 (.ref 199) rfl rfl rfl rfl rfl rfl ?_
          refine T_ld 49 (.int (i32 ((m.2 34) i))) rfl (fun _ => rfl) ?_
          refine T_iald 50 29 (m.2 29) rfl rfl rfl (by omega) (show ((m.2 34) i) < (12 : Int) by omega) rfl ?_
          have e53 : 0 ≤ m.2 29 ((m.2 34) i) ∧ m.2 29 ((m.2 34) i) ≤ 16 := hT.2.1 29 ((m.2 34) i)
          refine T_iadd 51 rfl rfl ?_
          refine T_icmp 88 54 rfl rfl rfl (r32 (by omega) (by omega)) (r32 (by omega) (by omega)) (fun (h54 : (16 * ((m.2 34) i)) + ((m.2 29) ((m.2 34) i)) ≤ v39) => ?_) (fun (h54 : ¬ ((16 * ((m.2 34) i)) + ((m.2 29) ((m.2 34) i)) ≤ v39)) => ?_)
          · skip
            refine T_ld 89 (.int (i32 v38)) rfl (fun _ => rfl) ?_
            refine T_if 102 92 rfl rfl rfl (r32 (by omega) (by omega)) (fun (h55 : (0 : Int) ≤ v38) => ?_) (fun (h55 : ¬ ((0 : Int) ≤ v38)) => ?_)
            · skip
              refine T_gf 106 (.int (i32 (m.1 10))) rfl rfl rfl rfl rfl rfl ?_
              refine T_if 111 109 rfl rfl rfl (r32 (by omega) (by omega)) (fun (h56 : (m.1 10) ≤ 0) => ?_) (fun (h56 : ¬ ((m.1 10) ≤ 0)) => by exfalso; omega)
              refine T_ld 112 (.ref 189) rfl (fun _ => rfl) ?_
              refine T_call 115 212 [.ref 189] [] rfl (fun _ => rfl) rfl (d_next w (mO m [] []) c N D (by omega) hT (show (m.1 10) = 0 → (m.1 8) + (m.1 9) ≤ (m.1 6) by first | omega | (intro h9; have h8 := hLx h9; omega))) (fun rr57 k58 => ?_)
              obtain ⟨m59, Tm59, Fm59, h60, h61, h62, h63, rfl⟩ := k58
              refine ⟨_, _, rfl, ?_⟩
              refine T_nb (st' := []) rfl ?_
              have g64 : 0 ≤ m59.1 7 ∧ m59.1 7 ≤ 330 := Tm59.1 7
              have g65 : 0 ≤ m59.1 8 ∧ m59.1 8 ≤ 4000 := Tm59.1 8
              have g66 : 0 ≤ m59.1 9 ∧ m59.1 9 ≤ 4000 := Tm59.1 9
              have g67 : 0 ≤ m59.1 10 ∧ m59.1 10 ≤ 8 := Tm59.1 10
              have g68 : (-1) ≤ m59.1 11 ∧ m59.1 11 ≤ 4000 := Tm59.1 11
              by_cases hf69 : (m59.1 10) = 0
              · skip
                replace h60 : LxP (m59.1 7) (m59.1 8) (m59.1 9) (m.1 6) (m59.1 10) := h60
                have hLx := h60
                replace h61 : (m.1 10) = 0 := h61 hf69
                replace h62 : (m.1 8) ≤ (m59.1 8) := h62
                replace h63 : (m.1 8) + (m.1 9) ≤ (m59.1 8) := h63 hf69
                have u70 : (m.1 8) + 1 ≤ (m59.1 8) := by omega
                refine T_ld 117 (.int (i32 16)) rfl (fun _ => rfl) ?_
                refine T_ld 118 (.int (i32 i)) rfl (fun _ => rfl) ?_
                refine T_imul 119 rfl rfl ?_
                refine T_ld 120 (.int (i32 v38)) rfl (fun _ => rfl) ?_
                refine T_iadd 121 rfl rfl ?_
                refine T_ld 123 (.int (i32 16)) rfl (fun _ => rfl) ?_
                refine T_ld 124 (.int (i32 ((m.2 34) i))) rfl (fun _ => rfl) ?_
                refine T_imul 125 rfl rfl ?_
                refine T_isub 126 rfl rfl ?_
                refine T_ret rfl (fun _ => rfl) ?_
                exact ⟨(mO m59 [] []), ((16 * i) + v38) - (16 * ((m.2 34) i)), Tm59, (fr_m (fr_s Fm59 (fr_m fr_0 rfl rfl) rfl rfl) rfl rfl), ⟨by omega, by omega⟩, (show (m59.1 10) = 0 → (m.1 10) = 0 by omega), (show LxP (m59.1 7) (m59.1 8) (m59.1 9) (m.1 6) (m59.1 10) by first | (first | exact hLx | exact (fun _ => hLx (by omega)) | (intro h9; exfalso; omega)) | (exfalso; omega)), (fun _ => ⟨(show (m.1 8) + 1 ≤ (m59.1 8) by omega), (show (m.1 7) = 1 by omega)⟩), rfl⟩
              · skip
                replace h60 : LxP (m59.1 7) (m59.1 8) (m59.1 9) (m.1 6) (m59.1 10) := h60
                have hLx := h60
                clear h61
                replace h62 : (m.1 8) ≤ (m59.1 8) := h62
                clear h63
                have hf71 : 1 ≤ (m59.1 10) := by omega
                exact J115_11 v38 v39 (mO m59 [] []) (r32 (by omega) (by omega)) (r32 (by omega) (by omega)) Tm59 (fr_m (fr_s Fm59 (fr_m fr_0 rfl rfl) rfl rfl) rfl rfl) (show 0 ≤ v38 by omega) (show 0 ≤ v39 by omega) (show 0 ≤ v38 - 16 * ((m.2 34) i) ∧ v38 - 16 * ((m.2 34) i) ≤ 15 by omega) (show 0 ≤ ((m.2 34) i) ∧ ((m.2 34) i) ≤ 11 by omega) (show 1 ≤ (m59.1 10) by omega)
            · skip
              refine T_ld 93 (.ref 189) rfl (fun _ => rfl) ?_
              refine T_ld 95 (.int (i32 6)) rfl (fun _ => rfl) ?_
              refine T_gf 99 (.int (i32 (m.1 8))) rfl rfl rfl rfl rfl rfl ?_
              refine T_call 102 222 [.ref 189, .int (i32 6), .int (i32 (m.1 8))] [] rfl (fun _ => rfl) rfl (d_wrong w (mO m [] []) c N D (by omega) hT 6 (m.1 8) ⟨by decide, by decide⟩ (r32 (by omega) (by omega)) (show 1 ≤ (6 : Int) ∧ (6 : Int) ≤ 8 by omega) (show 0 ≤ (m.1 8) ∧ (m.1 8) ≤ 4000 by omega)) (fun rr72 k73 => ?_)
              obtain ⟨m74, Tm74, Fm74, h75, rfl⟩ := k73
              refine ⟨_, _, rfl, ?_⟩
              refine T_nb (st' := []) rfl ?_
              have g76 : 0 ≤ m74.1 10 ∧ m74.1 10 ≤ 8 := Tm74.1 10
              have g77 : (-1) ≤ m74.1 11 ∧ m74.1 11 ≤ 4000 := Tm74.1 11
              replace h75 : (0 < (m.1 10) → (m74.1 10) = (m.1 10) ∧ (m74.1 11) = (m.1 11)) ∧ ((m.1 10) ≤ 0 → (m74.1 10) = (6 : Int) ∧ (m74.1 11) = (m.1 8)) := h75
              have hf78 : 1 ≤ (m74.1 10) := by omega
              exact J102_24 v38 v39 (mO m74 [] []) (r32 (by omega) (by omega)) (r32 (by omega) (by omega)) Tm74 (fr_m (fr_s Fm74 (fr_m fr_0 rfl rfl) rfl rfl) rfl rfl) (show (-1) ≤ v38 by omega) (show v38 ≤ (-1) by omega) (show 0 ≤ v39 by omega) (show 0 ≤ ((m.2 34) i) ∧ ((m.2 34) i) ≤ 11 by omega) (show 1 ≤ (m74.1 10) by omega)
          · skip
            have hp3 := hFA v39
            have h7 := hLx (by omega)
            refine T_ld 55 (.ref 189) rfl (fun _ => rfl) ?_
            refine T_gf 59 (.ref 201) rfl rfl rfl rfl rfl rfl ?_
            refine T_ld 61 (.int (i32 v39)) rfl (fun _ => rfl) ?_
            refine T_iald 62 31 (m.2 31) rfl rfl rfl (by omega) (show v39 < (192 : Int) by omega) rfl ?_
            have e79 : 0 ≤ m.2 31 v39 ∧ m.2 31 v39 ≤ 4000 := hT.2.1 31 v39
            refine T_gf 66 (.ref 202) rfl rfl rfl rfl rfl rfl ?_
            refine T_ld 68 (.int (i32 v39)) rfl (fun _ => rfl) ?_
            refine T_iald 69 32 (m.2 32) rfl rfl rfl (by omega) (show v39 < (192 : Int) by omega) rfl ?_
            have e80 : 0 ≤ m.2 32 v39 ∧ m.2 32 v39 ≤ 4000 := hT.2.1 32 v39
            refine T_call 72 230 [.ref 189, .int (i32 ((m.2 31) v39)), .int (i32 ((m.2 32) v39))] [] rfl (fun _ => rfl) rfl (d_isHere w (mO m [] []) c N D (by omega) hT ((m.2 31) v39) ((m.2 32) v39) (r32 (by omega) (by omega)) (r32 (by omega) (by omega)) (show 0 ≤ ((m.2 31) v39) by omega) (show 0 ≤ ((m.2 32) v39) by omega) (show ((m.2 31) v39) + ((m.2 32) v39) ≤ 4000 by omega) (show 1 ≤ (m.1 9) ∧ (m.1 8) + (m.1 9) ≤ (m.1 6) by first | omega | (have h8 := hLx (by omega); omega))) (fun rr81 k82 => ?_)
            obtain ⟨x83, g84, h85, rfl⟩ := k82
            refine ⟨_, _, rfl, ?_⟩
            refine T_ns (st' := [.int (i32 x83)]) rfl ?_
            obtain ⟨g84a, g84b⟩ := g84
            replace h85 : (x83 = 1 ∧ sameN (m.2 4) (m.1 8) (m.1 9) ((m.2 31) v39) ((m.2 32) v39)) ∨ (x83 = 0 ∧ ¬ sameN (m.2 4) (m.1 8) (m.1 9) ((m.2 31) v39) ((m.2 32) v39)) := h85
            have hh := h85
            have u86 : (m.1 8) ≤ (m.1 8) := by omega
            refine T_if 80 75 rfl rfl rfl (r32 (by omega) (by omega)) (fun (h87 : x83 = 0) => ?_) (fun (h87 : ¬ (x83 = 0)) => ?_)
            · skip
              refine T_ld 81 (.int (i32 v38)) rfl (fun _ => rfl) ?_
              refine T_sto 82 [(3, .int (i32 v38)), (0, .ref 189), (1, .int (i32 i)), (2, .int (i32 ((m.2 34) i))), (4, .int (i32 v39))] rfl (fun _ => rfl) ?_
              refine T_iinc 85 [(4, .int (i32 (v39 + 1))), (3, .int (i32 v38)), (0, .ref 189), (1, .int (i32 i)), (2, .int (i32 ((m.2 34) i)))] rfl rfl (by decide) rfl rfl ?_
              refine T_goto 38 rfl (fun _ => rfl) ?_
              refine Tm_lv (a := [(0, .ref 189), (1, .int (i32 i)), (2, .int (i32 ((m.2 34) i))), (3, .int (i32 v38)), (4, .int (i32 (v39 + 1)))]) rfl rfl ⟨rfl, rfl, rfl, rfl, rfl, trivial⟩ ?_
              exact ih52 v38 (v39 + 1) (r32 (by omega) (by omega)) (r32 (by omega) (by omega)) (show (-1) ≤ v38 by omega) (show 0 ≤ (v39 + 1) by omega) (show (v39 + 1) ≤ (16 * ((m.2 34) i)) + ((m.2 29) ((m.2 34) i)) by omega) (show (-1) ≤ v38 by omega) (show v38 < (v39 + 1) by omega) (show 16 * ((m.2 34) i) ≤ (v39 + 1) by omega) (show v38 = -1 ∨ 16 * ((m.2 34) i) ≤ v38 by omega) (show ((16 * ((m.2 34) i)) + ((m.2 29) ((m.2 34) i))) - (v39 + 1) < (n : Int) by omega)
            · skip
              refine T_ld 77 (.int (i32 v39)) rfl (fun _ => rfl) ?_
              refine T_goto 81 rfl (fun _ => rfl) ?_
              refine T_sto 82 [(3, .int (i32 v39)), (0, .ref 189), (1, .int (i32 i)), (2, .int (i32 ((m.2 34) i))), (4, .int (i32 v39))] rfl (fun _ => rfl) ?_
              refine T_iinc 85 [(4, .int (i32 (v39 + 1))), (3, .int (i32 v39)), (0, .ref 189), (1, .int (i32 i)), (2, .int (i32 ((m.2 34) i)))] rfl rfl (by decide) rfl rfl ?_
              refine T_goto 38 rfl (fun _ => rfl) ?_
              refine Tm_lv (a := [(0, .ref 189), (1, .int (i32 i)), (2, .int (i32 ((m.2 34) i))), (3, .int (i32 v39)), (4, .int (i32 (v39 + 1)))]) rfl rfl ⟨rfl, rfl, rfl, rfl, rfl, trivial⟩ ?_
              exact ih52 v39 (v39 + 1) (r32 (by omega) (by omega)) (r32 (by omega) (by omega)) (show (-1) ≤ v39 by omega) (show 0 ≤ (v39 + 1) by omega) (show (v39 + 1) ≤ (16 * ((m.2 34) i)) + ((m.2 29) ((m.2 34) i)) by omega) (show (-1) ≤ v39 by omega) (show v39 < (v39 + 1) by omega) (show 16 * ((m.2 34) i) ≤ (v39 + 1) by omega) (show v39 = -1 ∨ 16 * ((m.2 34) i) ≤ v39 by omega) (show ((16 * ((m.2 34) i)) + ((m.2 29) ((m.2 34) i))) - (v39 + 1) < (n : Int) by omega)
      refine Tm_lv (a := [(0, .ref 189), (1, .int (i32 i)), (2, .int (i32 ((m.2 34) i))), (3, .int (i32 (-1))), (4, .int (i32 (16 * ((m.2 34) i))))]) rfl rfl ⟨rfl, rfl, rfl, rfl, rfl, trivial⟩ ?_
      exact L38_40 ((((16 * ((m.2 34) i)) + ((m.2 29) ((m.2 34) i))) - (16 * ((m.2 34) i)) : Int) + 1).toNat (-1) (16 * ((m.2 34) i)) ⟨by decide, by decide⟩ (r32 (by omega) (by omega)) (show (-1) ≤ (-1 : Int) by omega) (show 0 ≤ (16 * ((m.2 34) i)) by omega) (show (16 * ((m.2 34) i)) ≤ (16 * ((m.2 34) i)) + ((m.2 29) ((m.2 34) i)) by omega) (show (-1) ≤ (-1 : Int) by omega) (show (-1 : Int) < (16 * ((m.2 34) i)) by omega) (show 16 * ((m.2 34) i) ≤ (16 * ((m.2 34) i)) by omega) (show (-1 : Int) = -1 ∨ 16 * ((m.2 34) i) ≤ (-1 : Int) by omega) (show ((16 * ((m.2 34) i)) + ((m.2 29) ((m.2 34) i))) - (16 * ((m.2 34) i)) < ((((((16 * ((m.2 34) i)) + ((m.2 29) ((m.2 34) i))) - (16 * ((m.2 34) i)) : Int) + 1).toNat : Nat) : Int) by omega)
    · skip
      refine T_ld 27 (.ref 189) rfl (fun _ => rfl) ?_
      refine T_call 30 226 [.ref 189] [] rfl (fun _ => rfl) rfl (d_bad w (mO m [] []) c N D (by omega) hT ) (fun rr88 k89 => ?_)
      obtain ⟨m90, Tm90, Fm90, h91, rfl⟩ := k89
      refine ⟨_, _, rfl, ?_⟩
      refine T_nb (st' := []) rfl ?_
      have g92 : 0 ≤ m90.1 10 ∧ m90.1 10 ≤ 8 := Tm90.1 10
      have g93 : (-1) ≤ m90.1 11 ∧ m90.1 11 ≤ 4000 := Tm90.1 11
      replace h91 : (0 < (m.1 10) → (m90.1 10) = (m.1 10) ∧ (m90.1 11) = (m.1 11)) ∧ ((m.1 10) ≤ 0 → (m90.1 10) = 1 ∧ (m90.1 11) = (m.1 8)) := h91
      have hf94 : 1 ≤ (m90.1 10) := by omega
      refine T_ld 31 (.int (i32 0)) rfl (fun _ => rfl) ?_
      refine T_ret rfl (fun _ => rfl) ?_
      exact ⟨(mO m90 [] []), 0, Tm90, (fr_m (fr_s Fm90 (fr_m fr_0 rfl rfl) rfl rfl) rfl rfl), ⟨by omega, by omega⟩, (show (m90.1 10) = 0 → (m.1 10) = 0 by omega), (show LxP (m90.1 7) (m90.1 8) (m90.1 9) (m.1 6) (m90.1 10) by rewrite [(show (m90.1 7) = (m.1 7) from (fr1 Fm90 7 rfl)), (show (m90.1 8) = (m.1 8) from (fr1 Fm90 8 rfl)), (show (m90.1 9) = (m.1 9) from (fr1 Fm90 9 rfl))]; first | (first | exact hLx | exact (fun _ => hLx (by omega)) | (intro h9; exfalso; omega)) | (exfalso; omega)), (fun (h : (m90.1 10) = 0) => absurd h (by omega)), rfl⟩
  · skip
    clear hC
    refine T_gf 4 (.int (i32 (m.1 10))) rfl rfl rfl rfl rfl rfl ?_
    refine T_if 9 7 rfl rfl rfl (r32 (by omega) (by omega)) (fun (h95 : (m.1 10) ≤ 0) => by exfalso; omega) (fun (h95 : ¬ ((m.1 10) ≤ 0)) => ?_)
    refine T_ld 8 (.int (i32 0)) rfl (fun _ => rfl) ?_
    refine T_ret rfl (fun _ => rfl) ?_
    exact ⟨(mO m [] []), 0, hT, (fr_m fr_0 rfl rfl), ⟨by omega, by omega⟩, (show (m.1 10) = 0 → (m.1 10) = 0 by omega), (show LxP (m.1 7) (m.1 8) (m.1 9) (m.1 6) (m.1 10) by first | (first | exact hLx | exact (fun _ => hLx (by omega)) | (intro h9; exfalso; omega)) | (exfalso; omega)), (fun (h : (m.1 10) = 0) => absurd h (by omega)), rfl⟩
def fF_atom : List Nat := [69, 70, 71, 72, 75]
def fA_atom : List Nat := []
def Q_atom (m : mR) (c : Nat → Option am_C) (N : Nat) (b : Int) (p : Int) : ag_Re af_T → Prop := fun R => ∃ (M : mR), Ty M ∧ fr fF_atom fA_atom m M ∧ ((m.1 10) = 0 → (M.1 75) = 1 ∧ (M.1 69) = b) ∧ R = (.inl (none), (mhp M c, N), 0, 0)
set_option maxHeartbeats 3000000 in
theorem c_atom (w : wX) (m : mR) (c : Nat → Option am_C) (N D : Nat) (hD : 2 ≤ D) (hT : Ty m) (b : Int) (p : Int) (qb : R32 b) (qp : R32 p) (p0 : 0 ≤ b ∧ b ≤ 64) (p1 : 0 ≤ p ∧ p ≤ 4000) : TC w D 249 [.ref 189, .int (i32 b), .int (i32 p)] (mhp m c, N) (Q_atom m c N b p) := by
  obtain ⟨D, rfl⟩ : ∃ k, D = k + 1 := ⟨D - 1, by omega⟩
  obtain ⟨qba, qbb⟩ := id qb
  obtain ⟨qpa, qpb⟩ := id qp
  have f69 : 0 ≤ m.1 69 ∧ m.1 69 ≤ 1024 := hT.1 69
  have f75 : 0 ≤ m.1 75 ∧ m.1 75 ≤ 3 := hT.1 75
  have f10 : 0 ≤ m.1 10 ∧ m.1 10 ≤ 8 := hT.1 10
  refine Tc_of rfl ?_
  show TT w D pm_249 (0, [(0, .ref 189), (1, .int (i32 b)), (2, .int (i32 p))], [], (mhp (mO m [] []) c, N), 0, 0) (Q_atom m c N b p)
  refine T_gf 4 (.int (i32 (m.1 10))) rfl rfl rfl rfl rfl rfl ?_
  refine T_if 8 7 rfl rfl rfl (r32 (by omega) (by omega)) (fun (h1 : (m.1 10) ≤ 0) => ?_) (fun (h1 : ¬ ((m.1 10) ≤ 0)) => ?_)
  · skip
    refine T_ld 9 (.ref 189) rfl (fun _ => rfl) ?_
    refine T_ld 10 (.int (i32 b)) rfl (fun _ => rfl) ?_
    refine T_ld 11 (.int (i32 p)) rfl (fun _ => rfl) ?_
    refine T_call 14 250 [.ref 189, .int (i32 b), .int (i32 p)] [] rfl (fun _ => rfl) rfl (c_unit w (mO m [] []) c N D (by omega) hT b p (r32 (by omega) (by omega)) (r32 (by omega) (by omega)) (show 0 ≤ b ∧ b ≤ 1024 by omega) (show 0 ≤ p ∧ p ≤ 4000 by omega)) (fun rr2 k3 => ?_)
    obtain ⟨m4, Tm4, Fm4, h5, rfl⟩ := k3
    refine ⟨_, _, rfl, ?_⟩
    refine T_nb (st' := []) rfl ?_
    have g6 : 0 ≤ m4.1 69 ∧ m4.1 69 ≤ 1024 := Tm4.1 69
    replace h5 : (m4.1 69) = b := h5
    refine T_ld 15 (.ref 189) rfl (fun _ => rfl) ?_
    refine T_ld 16 (.int (i32 1)) rfl (fun _ => rfl) ?_
    refine T_pf (l' := [(75, 1)]) 19 1 rfl rfl rfl rfl rfl rfl ?_
    refine T_ret rfl (fun _ => rfl) ?_
    exact ⟨(mO m4 [(75, 1)] []), (Ty_mO Tm4 rfl rfl ⟨⟨(by omega : (0 : Int) ≤ 1), (by omega : (1 : Int) ≤ 3)⟩, trivial⟩ trivial), (fr_m (fr_s Fm4 (fr_m fr_0 rfl rfl) rfl rfl) rfl rfl), (show (m.1 10) = 0 → (1 : Int) = 1 ∧ (m4.1 69) = b by omega), rfl⟩
  · skip
    refine T_ret rfl (fun _ => rfl) ?_
    exact ⟨(mO m [] []), hT, (fr_m fr_0 rfl rfl), (show (m.1 10) = 0 → (m.1 75) = 1 ∧ (m.1 69) = b by omega), rfl⟩
